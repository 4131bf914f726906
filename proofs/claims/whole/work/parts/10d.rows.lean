def prL (d : Nat) (lim : Nat × Nat) (Q : px_Q) : px_K := px_run (pcal d) (px_look klL_law) Q lim
theorem prL_of {d : Nat} {lim : Nat × Nat} {Q : px_Q} {pc : Nat} {i : px_I} (hl : px_look klL_law pc = i) (ls : px_L) (st : List Value) (G : px_H) : prL d lim Q pc ls st G ↔ i (pcal d) Q lim (prL d lim Q) ls st G := by
  subst hl
  exact px_run_iff (pcal_mono d) (px_look_of (P := fun _ i => px_M i) (fun _ => pm_stuck) _ kmL_law)
set_option maxRecDepth 100000 in
theorem eL_law_0 {d : Nat} {lim : Nat × Nat} {Q : px_Q} {ls : px_L} {st : List Value} {G : px_H} : prL d lim Q 0 ls st G ↔ (pi_new 6 16 [.null, .int 0, .null, .null, .null, .null, .null, .null, .null, .null, .int 0, .long 0, .null, .null, .null, .null] 3) (pcal d) Q lim (prL d lim Q) ls st G := prL_of rfl ls st G
set_option maxRecDepth 100000 in
theorem eL_law_3 {d : Nat} {lim : Nat × Nat} {Q : px_Q} {ls : px_L} {st : List Value} {G : px_H} : prL d lim Q 3 ls st G ↔ (pi_dup 4) (pcal d) Q lim (prL d lim Q) ls st G := prL_of rfl ls st G
set_option maxRecDepth 100000 in
theorem eL_law_4 {d : Nat} {lim : Nat × Nat} {Q : px_Q} {ls : px_L} {st : List Value} {G : px_H} : prL d lim Q 4 ls st G ↔ (pi_callI 41 0 121 739 7) (pcal d) Q lim (prL d lim Q) ls st G := prL_of rfl ls st G
set_option maxRecDepth 100000 in
theorem eL_law_7 {d : Nat} {lim : Nat × Nat} {Q : px_Q} {ls : px_L} {st : List Value} {G : px_H} : prL d lim Q 7 ls st G ↔ (pi_astore 1 8) (pcal d) Q lim (prL d lim Q) ls st G := prL_of rfl ls st G
set_option maxRecDepth 100000 in
theorem eL_law_8 {d : Nat} {lim : Nat × Nat} {Q : px_Q} {ls : px_L} {st : List Value} {G : px_H} : prL d lim Q 8 ls st G ↔ (pi_new 7 34 [.null, .null, .null, .null, .null, .null, .int 0, .int 0, .int 0, .null, .null, .null, .null, .int 0, .int 0, .null, .null, .int 0, .int 0, .int 0, .null, .int 0, .int 0, .null, .int 0, .null, .null, .null, .null, .null, .null, .long 0, .null, .null] 11) (pcal d) Q lim (prL d lim Q) ls st G := prL_of rfl ls st G
set_option maxRecDepth 100000 in
theorem eL_law_11 {d : Nat} {lim : Nat × Nat} {Q : px_Q} {ls : px_L} {st : List Value} {G : px_H} : prL d lim Q 11 ls st G ↔ (pi_dup 12) (pcal d) Q lim (prL d lim Q) ls st G := prL_of rfl ls st G
set_option maxRecDepth 100000 in
theorem eL_law_12 {d : Nat} {lim : Nat × Nat} {Q : px_Q} {ls : px_L} {st : List Value} {G : px_H} : prL d lim Q 12 ls st G ↔ (pi_callI 90 0 22 632 15) (pcal d) Q lim (prL d lim Q) ls st G := prL_of rfl ls st G
set_option maxRecDepth 100000 in
theorem eL_law_15 {d : Nat} {lim : Nat × Nat} {Q : px_Q} {ls : px_L} {st : List Value} {G : px_H} : prL d lim Q 15 ls st G ↔ (pi_astore 2 16) (pcal d) Q lim (prL d lim Q) ls st G := prL_of rfl ls st G
set_option maxRecDepth 100000 in
theorem eL_law_16 {d : Nat} {lim : Nat × Nat} {Q : px_Q} {ls : px_L} {st : List Value} {G : px_H} : prL d lim Q 16 ls st G ↔ (pi_const (.int (0)) 17) (pcal d) Q lim (prL d lim Q) ls st G := prL_of rfl ls st G
set_option maxRecDepth 100000 in
theorem eL_law_17 {d : Nat} {lim : Nat × Nat} {Q : px_Q} {ls : px_L} {st : List Value} {G : px_H} : prL d lim Q 17 ls st G ↔ (pi_istore 3 18) (pcal d) Q lim (prL d lim Q) ls st G := prL_of rfl ls st G
set_option maxRecDepth 100000 in
theorem eL_law_18 {d : Nat} {lim : Nat × Nat} {Q : px_Q} {ls : px_L} {st : List Value} {G : px_H} : prL d lim Q 18 ls st G ↔ (pi_iload 3 19) (pcal d) Q lim (prL d lim Q) ls st G := prL_of rfl ls st G
set_option maxRecDepth 100000 in
theorem eL_law_19 {d : Nat} {lim : Nat × Nat} {Q : px_Q} {ls : px_L} {st : List Value} {G : px_H} : prL d lim Q 19 ls st G ↔ (pi_aload 0 20) (pcal d) Q lim (prL d lim Q) ls st G := prL_of rfl ls st G
set_option maxRecDepth 100000 in
theorem eL_law_20 {d : Nat} {lim : Nat × Nat} {Q : px_Q} {ls : px_L} {st : List Value} {G : px_H} : prL d lim Q 20 ls st G ↔ (pi_alen 21) (pcal d) Q lim (prL d lim Q) ls st G := prL_of rfl ls st G
set_option maxRecDepth 100000 in
theorem eL_law_21 {d : Nat} {lim : Nat × Nat} {Q : px_Q} {ls : px_L} {st : List Value} {G : px_H} : prL d lim Q 21 ls st G ↔ (pi_const (.int (4)) 22) (pcal d) Q lim (prL d lim Q) ls st G := prL_of rfl ls st G
set_option maxRecDepth 100000 in
theorem eL_law_22 {d : Nat} {lim : Nat × Nat} {Q : px_Q} {ls : px_L} {st : List Value} {G : px_H} : prL d lim Q 22 ls st G ↔ (pi_bin (fun x y => x - y) 23) (pcal d) Q lim (prL d lim Q) ls st G := prL_of rfl ls st G
set_option maxRecDepth 100000 in
theorem eL_law_23 {d : Nat} {lim : Nat × Nat} {Q : px_Q} {ls : px_L} {st : List Value} {G : px_H} : prL d lim Q 23 ls st G ↔ (pi_icgt 1162 26) (pcal d) Q lim (prL d lim Q) ls st G := prL_of rfl ls st G
set_option maxRecDepth 100000 in
theorem eL_law_26 {d : Nat} {lim : Nat × Nat} {Q : px_Q} {ls : px_L} {st : List Value} {G : px_H} : prL d lim Q 26 ls st G ↔ (pi_aload 0 27) (pcal d) Q lim (prL d lim Q) ls st G := prL_of rfl ls st G
set_option maxRecDepth 100000 in
theorem eL_law_27 {d : Nat} {lim : Nat × Nat} {Q : px_Q} {ls : px_L} {st : List Value} {G : px_H} : prL d lim Q 27 ls st G ↔ (pi_iload 3 28) (pcal d) Q lim (prL d lim Q) ls st G := prL_of rfl ls st G
set_option maxRecDepth 100000 in
theorem eL_law_28 {d : Nat} {lim : Nat × Nat} {Q : px_Q} {ls : px_L} {st : List Value} {G : px_H} : prL d lim Q 28 ls st G ↔ (pi_iald 29) (pcal d) Q lim (prL d lim Q) ls st G := prL_of rfl ls st G
set_option maxRecDepth 100000 in
theorem eL_law_29 {d : Nat} {lim : Nat × Nat} {Q : px_Q} {ls : px_L} {st : List Value} {G : px_H} : prL d lim Q 29 ls st G ↔ (pi_const (.int (31)) 31) (pcal d) Q lim (prL d lim Q) ls st G := prL_of rfl ls st G
set_option maxRecDepth 100000 in
theorem eL_law_31 {d : Nat} {lim : Nat × Nat} {Q : px_Q} {ls : px_L} {st : List Value} {G : px_H} : prL d lim Q 31 ls st G ↔ (pi_bin (fun x y => x &&& y) 32) (pcal d) Q lim (prL d lim Q) ls st G := prL_of rfl ls st G
set_option maxRecDepth 100000 in
theorem eL_law_32 {d : Nat} {lim : Nat × Nat} {Q : px_Q} {ls : px_L} {st : List Value} {G : px_H} : prL d lim Q 32 ls st G ↔ (pi_switch [(0, 172), (1, 195), (2, 208), (3, 221), (4, 234), (5, 267), (6, 300), (7, 313), (8, 336), (9, 369), (10, 382), (11, 415), (12, 458), (13, 501), (14, 550), (15, 583), (16, 606), (17, 629), (18, 662), (19, 695), (20, 754), (21, 813), (22, 872), (23, 915), (24, 928), (25, 951), (26, 1010), (27, 1064), (28, 1087), (29, 1110), (30, 1133)] 1156) (pcal d) Q lim (prL d lim Q) ls st G := prL_of rfl ls st G
set_option maxRecDepth 100000 in
theorem eL_law_172 {d : Nat} {lim : Nat × Nat} {Q : px_Q} {ls : px_L} {st : List Value} {G : px_H} : prL d lim Q 172 ls st G ↔ (pi_aload 1 173) (pcal d) Q lim (prL d lim Q) ls st G := prL_of rfl ls st G
set_option maxRecDepth 100000 in
theorem eL_law_173 {d : Nat} {lim : Nat × Nat} {Q : px_Q} {ls : px_L} {st : List Value} {G : px_H} : prL d lim Q 173 ls st G ↔ (pi_aload 0 174) (pcal d) Q lim (prL d lim Q) ls st G := prL_of rfl ls st G
set_option maxRecDepth 100000 in
theorem eL_law_174 {d : Nat} {lim : Nat × Nat} {Q : px_Q} {ls : px_L} {st : List Value} {G : px_H} : prL d lim Q 174 ls st G ↔ (pi_iload 3 175) (pcal d) Q lim (prL d lim Q) ls st G := prL_of rfl ls st G
set_option maxRecDepth 100000 in
theorem eL_law_175 {d : Nat} {lim : Nat × Nat} {Q : px_Q} {ls : px_L} {st : List Value} {G : px_H} : prL d lim Q 175 ls st G ↔ (pi_const (.int (1)) 176) (pcal d) Q lim (prL d lim Q) ls st G := prL_of rfl ls st G
set_option maxRecDepth 100000 in
theorem eL_law_176 {d : Nat} {lim : Nat × Nat} {Q : px_Q} {ls : px_L} {st : List Value} {G : px_H} : prL d lim Q 176 ls st G ↔ (pi_bin (fun x y => x + y) 177) (pcal d) Q lim (prL d lim Q) ls st G := prL_of rfl ls st G
set_option maxRecDepth 100000 in
theorem eL_law_177 {d : Nat} {lim : Nat × Nat} {Q : px_Q} {ls : px_L} {st : List Value} {G : px_H} : prL d lim Q 177 ls st G ↔ (pi_iald 178) (pcal d) Q lim (prL d lim Q) ls st G := prL_of rfl ls st G
set_option maxRecDepth 100000 in
theorem eL_law_178 {d : Nat} {lim : Nat × Nat} {Q : px_Q} {ls : px_L} {st : List Value} {G : px_H} : prL d lim Q 178 ls st G ↔ (pi_callV 42 1 6 181) (pcal d) Q lim (prL d lim Q) ls st G := prL_of rfl ls st G
set_option maxRecDepth 100000 in
theorem eL_law_181 {d : Nat} {lim : Nat × Nat} {Q : px_Q} {ls : px_L} {st : List Value} {G : px_H} : prL d lim Q 181 ls st G ↔ (pi_aload 2 182) (pcal d) Q lim (prL d lim Q) ls st G := prL_of rfl ls st G
set_option maxRecDepth 100000 in
theorem eL_law_182 {d : Nat} {lim : Nat × Nat} {Q : px_Q} {ls : px_L} {st : List Value} {G : px_H} : prL d lim Q 182 ls st G ↔ (pi_aload 0 183) (pcal d) Q lim (prL d lim Q) ls st G := prL_of rfl ls st G
set_option maxRecDepth 100000 in
theorem eL_law_183 {d : Nat} {lim : Nat × Nat} {Q : px_Q} {ls : px_L} {st : List Value} {G : px_H} : prL d lim Q 183 ls st G ↔ (pi_iload 3 184) (pcal d) Q lim (prL d lim Q) ls st G := prL_of rfl ls st G
set_option maxRecDepth 100000 in
theorem eL_law_184 {d : Nat} {lim : Nat × Nat} {Q : px_Q} {ls : px_L} {st : List Value} {G : px_H} : prL d lim Q 184 ls st G ↔ (pi_const (.int (1)) 185) (pcal d) Q lim (prL d lim Q) ls st G := prL_of rfl ls st G
set_option maxRecDepth 100000 in
theorem eL_law_185 {d : Nat} {lim : Nat × Nat} {Q : px_Q} {ls : px_L} {st : List Value} {G : px_H} : prL d lim Q 185 ls st G ↔ (pi_bin (fun x y => x + y) 186) (pcal d) Q lim (prL d lim Q) ls st G := prL_of rfl ls st G
set_option maxRecDepth 100000 in
theorem eL_law_186 {d : Nat} {lim : Nat × Nat} {Q : px_Q} {ls : px_L} {st : List Value} {G : px_H} : prL d lim Q 186 ls st G ↔ (pi_iald 187) (pcal d) Q lim (prL d lim Q) ls st G := prL_of rfl ls st G
set_option maxRecDepth 100000 in
theorem eL_law_187 {d : Nat} {lim : Nat × Nat} {Q : px_Q} {ls : px_L} {st : List Value} {G : px_H} : prL d lim Q 187 ls st G ↔ (pi_callV 94 1 7 190) (pcal d) Q lim (prL d lim Q) ls st G := prL_of rfl ls st G
set_option maxRecDepth 100000 in
theorem eL_law_190 {d : Nat} {lim : Nat × Nat} {Q : px_Q} {ls : px_L} {st : List Value} {G : px_H} : prL d lim Q 190 ls st G ↔ (pi_iceq 1156 193) (pcal d) Q lim (prL d lim Q) ls st G := prL_of rfl ls st G
set_option maxRecDepth 100000 in
theorem eL_law_193 {d : Nat} {lim : Nat × Nat} {Q : px_Q} {ls : px_L} {st : List Value} {G : px_H} : prL d lim Q 193 ls st G ↔ (pi_const (.int (0)) 194) (pcal d) Q lim (prL d lim Q) ls st G := prL_of rfl ls st G
set_option maxRecDepth 100000 in
theorem eL_law_194 {d : Nat} {lim : Nat × Nat} {Q : px_Q} {ls : px_L} {st : List Value} {G : px_H} : prL d lim Q 194 ls st G ↔ (pi_zret) (pcal d) Q lim (prL d lim Q) ls st G := prL_of rfl ls st G
set_option maxRecDepth 100000 in
theorem eL_law_195 {d : Nat} {lim : Nat × Nat} {Q : px_Q} {ls : px_L} {st : List Value} {G : px_H} : prL d lim Q 195 ls st G ↔ (pi_aload 1 196) (pcal d) Q lim (prL d lim Q) ls st G := prL_of rfl ls st G
set_option maxRecDepth 100000 in
theorem eL_law_196 {d : Nat} {lim : Nat × Nat} {Q : px_Q} {ls : px_L} {st : List Value} {G : px_H} : prL d lim Q 196 ls st G ↔ (pi_callV 43 0 6 199) (pcal d) Q lim (prL d lim Q) ls st G := prL_of rfl ls st G
set_option maxRecDepth 100000 in
theorem eL_law_199 {d : Nat} {lim : Nat × Nat} {Q : px_Q} {ls : px_L} {st : List Value} {G : px_H} : prL d lim Q 199 ls st G ↔ (pi_aload 2 200) (pcal d) Q lim (prL d lim Q) ls st G := prL_of rfl ls st G
set_option maxRecDepth 100000 in
theorem eL_law_200 {d : Nat} {lim : Nat × Nat} {Q : px_Q} {ls : px_L} {st : List Value} {G : px_H} : prL d lim Q 200 ls st G ↔ (pi_callV 95 0 7 203) (pcal d) Q lim (prL d lim Q) ls st G := prL_of rfl ls st G
set_option maxRecDepth 100000 in
theorem eL_law_203 {d : Nat} {lim : Nat × Nat} {Q : px_Q} {ls : px_L} {st : List Value} {G : px_H} : prL d lim Q 203 ls st G ↔ (pi_iceq 1156 206) (pcal d) Q lim (prL d lim Q) ls st G := prL_of rfl ls st G
set_option maxRecDepth 100000 in
theorem eL_law_206 {d : Nat} {lim : Nat × Nat} {Q : px_Q} {ls : px_L} {st : List Value} {G : px_H} : prL d lim Q 206 ls st G ↔ (pi_const (.int (0)) 207) (pcal d) Q lim (prL d lim Q) ls st G := prL_of rfl ls st G
set_option maxRecDepth 100000 in
theorem eL_law_207 {d : Nat} {lim : Nat × Nat} {Q : px_Q} {ls : px_L} {st : List Value} {G : px_H} : prL d lim Q 207 ls st G ↔ (pi_zret) (pcal d) Q lim (prL d lim Q) ls st G := prL_of rfl ls st G
set_option maxRecDepth 100000 in
theorem eL_law_208 {d : Nat} {lim : Nat × Nat} {Q : px_Q} {ls : px_L} {st : List Value} {G : px_H} : prL d lim Q 208 ls st G ↔ (pi_aload 1 209) (pcal d) Q lim (prL d lim Q) ls st G := prL_of rfl ls st G
set_option maxRecDepth 100000 in
theorem eL_law_209 {d : Nat} {lim : Nat × Nat} {Q : px_Q} {ls : px_L} {st : List Value} {G : px_H} : prL d lim Q 209 ls st G ↔ (pi_callV 44 0 6 212) (pcal d) Q lim (prL d lim Q) ls st G := prL_of rfl ls st G
set_option maxRecDepth 100000 in
theorem eL_law_212 {d : Nat} {lim : Nat × Nat} {Q : px_Q} {ls : px_L} {st : List Value} {G : px_H} : prL d lim Q 212 ls st G ↔ (pi_aload 2 213) (pcal d) Q lim (prL d lim Q) ls st G := prL_of rfl ls st G
set_option maxRecDepth 100000 in
theorem eL_law_213 {d : Nat} {lim : Nat × Nat} {Q : px_Q} {ls : px_L} {st : List Value} {G : px_H} : prL d lim Q 213 ls st G ↔ (pi_callV 101 0 7 216) (pcal d) Q lim (prL d lim Q) ls st G := prL_of rfl ls st G
set_option maxRecDepth 100000 in
theorem eL_law_216 {d : Nat} {lim : Nat × Nat} {Q : px_Q} {ls : px_L} {st : List Value} {G : px_H} : prL d lim Q 216 ls st G ↔ (pi_iceq 1156 219) (pcal d) Q lim (prL d lim Q) ls st G := prL_of rfl ls st G
set_option maxRecDepth 100000 in
theorem eL_law_219 {d : Nat} {lim : Nat × Nat} {Q : px_Q} {ls : px_L} {st : List Value} {G : px_H} : prL d lim Q 219 ls st G ↔ (pi_const (.int (0)) 220) (pcal d) Q lim (prL d lim Q) ls st G := prL_of rfl ls st G
set_option maxRecDepth 100000 in
theorem eL_law_220 {d : Nat} {lim : Nat × Nat} {Q : px_Q} {ls : px_L} {st : List Value} {G : px_H} : prL d lim Q 220 ls st G ↔ (pi_zret) (pcal d) Q lim (prL d lim Q) ls st G := prL_of rfl ls st G
set_option maxRecDepth 100000 in
theorem eL_law_221 {d : Nat} {lim : Nat × Nat} {Q : px_Q} {ls : px_L} {st : List Value} {G : px_H} : prL d lim Q 221 ls st G ↔ (pi_aload 1 222) (pcal d) Q lim (prL d lim Q) ls st G := prL_of rfl ls st G
set_option maxRecDepth 100000 in
theorem eL_law_222 {d : Nat} {lim : Nat × Nat} {Q : px_Q} {ls : px_L} {st : List Value} {G : px_H} : prL d lim Q 222 ls st G ↔ (pi_callV 45 0 6 225) (pcal d) Q lim (prL d lim Q) ls st G := prL_of rfl ls st G
set_option maxRecDepth 100000 in
theorem eL_law_225 {d : Nat} {lim : Nat × Nat} {Q : px_Q} {ls : px_L} {st : List Value} {G : px_H} : prL d lim Q 225 ls st G ↔ (pi_aload 2 226) (pcal d) Q lim (prL d lim Q) ls st G := prL_of rfl ls st G
set_option maxRecDepth 100000 in
theorem eL_law_226 {d : Nat} {lim : Nat × Nat} {Q : px_Q} {ls : px_L} {st : List Value} {G : px_H} : prL d lim Q 226 ls st G ↔ (pi_callV 102 0 7 229) (pcal d) Q lim (prL d lim Q) ls st G := prL_of rfl ls st G
set_option maxRecDepth 100000 in
theorem eL_law_229 {d : Nat} {lim : Nat × Nat} {Q : px_Q} {ls : px_L} {st : List Value} {G : px_H} : prL d lim Q 229 ls st G ↔ (pi_iceq 1156 232) (pcal d) Q lim (prL d lim Q) ls st G := prL_of rfl ls st G
set_option maxRecDepth 100000 in
theorem eL_law_232 {d : Nat} {lim : Nat × Nat} {Q : px_Q} {ls : px_L} {st : List Value} {G : px_H} : prL d lim Q 232 ls st G ↔ (pi_const (.int (0)) 233) (pcal d) Q lim (prL d lim Q) ls st G := prL_of rfl ls st G
set_option maxRecDepth 100000 in
theorem eL_law_233 {d : Nat} {lim : Nat × Nat} {Q : px_Q} {ls : px_L} {st : List Value} {G : px_H} : prL d lim Q 233 ls st G ↔ (pi_zret) (pcal d) Q lim (prL d lim Q) ls st G := prL_of rfl ls st G
set_option maxRecDepth 100000 in
theorem eL_law_234 {d : Nat} {lim : Nat × Nat} {Q : px_Q} {ls : px_L} {st : List Value} {G : px_H} : prL d lim Q 234 ls st G ↔ (pi_aload 1 235) (pcal d) Q lim (prL d lim Q) ls st G := prL_of rfl ls st G
set_option maxRecDepth 100000 in
theorem eL_law_235 {d : Nat} {lim : Nat × Nat} {Q : px_Q} {ls : px_L} {st : List Value} {G : px_H} : prL d lim Q 235 ls st G ↔ (pi_aload 0 236) (pcal d) Q lim (prL d lim Q) ls st G := prL_of rfl ls st G
set_option maxRecDepth 100000 in
theorem eL_law_236 {d : Nat} {lim : Nat × Nat} {Q : px_Q} {ls : px_L} {st : List Value} {G : px_H} : prL d lim Q 236 ls st G ↔ (pi_iload 3 237) (pcal d) Q lim (prL d lim Q) ls st G := prL_of rfl ls st G
set_option maxRecDepth 100000 in
theorem eL_law_237 {d : Nat} {lim : Nat × Nat} {Q : px_Q} {ls : px_L} {st : List Value} {G : px_H} : prL d lim Q 237 ls st G ↔ (pi_const (.int (1)) 238) (pcal d) Q lim (prL d lim Q) ls st G := prL_of rfl ls st G
set_option maxRecDepth 100000 in
theorem eL_law_238 {d : Nat} {lim : Nat × Nat} {Q : px_Q} {ls : px_L} {st : List Value} {G : px_H} : prL d lim Q 238 ls st G ↔ (pi_bin (fun x y => x + y) 239) (pcal d) Q lim (prL d lim Q) ls st G := prL_of rfl ls st G
set_option maxRecDepth 100000 in
theorem eL_law_239 {d : Nat} {lim : Nat × Nat} {Q : px_Q} {ls : px_L} {st : List Value} {G : px_H} : prL d lim Q 239 ls st G ↔ (pi_iald 240) (pcal d) Q lim (prL d lim Q) ls st G := prL_of rfl ls st G
set_option maxRecDepth 100000 in
theorem eL_law_240 {d : Nat} {lim : Nat × Nat} {Q : px_Q} {ls : px_L} {st : List Value} {G : px_H} : prL d lim Q 240 ls st G ↔ (pi_aload 0 241) (pcal d) Q lim (prL d lim Q) ls st G := prL_of rfl ls st G
set_option maxRecDepth 100000 in
theorem eL_law_241 {d : Nat} {lim : Nat × Nat} {Q : px_Q} {ls : px_L} {st : List Value} {G : px_H} : prL d lim Q 241 ls st G ↔ (pi_iload 3 242) (pcal d) Q lim (prL d lim Q) ls st G := prL_of rfl ls st G
set_option maxRecDepth 100000 in
theorem eL_law_242 {d : Nat} {lim : Nat × Nat} {Q : px_Q} {ls : px_L} {st : List Value} {G : px_H} : prL d lim Q 242 ls st G ↔ (pi_const (.int (2)) 243) (pcal d) Q lim (prL d lim Q) ls st G := prL_of rfl ls st G
set_option maxRecDepth 100000 in
theorem eL_law_243 {d : Nat} {lim : Nat × Nat} {Q : px_Q} {ls : px_L} {st : List Value} {G : px_H} : prL d lim Q 243 ls st G ↔ (pi_bin (fun x y => x + y) 244) (pcal d) Q lim (prL d lim Q) ls st G := prL_of rfl ls st G
set_option maxRecDepth 100000 in
theorem eL_law_244 {d : Nat} {lim : Nat × Nat} {Q : px_Q} {ls : px_L} {st : List Value} {G : px_H} : prL d lim Q 244 ls st G ↔ (pi_iald 245) (pcal d) Q lim (prL d lim Q) ls st G := prL_of rfl ls st G
set_option maxRecDepth 100000 in
theorem eL_law_245 {d : Nat} {lim : Nat × Nat} {Q : px_Q} {ls : px_L} {st : List Value} {G : px_H} : prL d lim Q 245 ls st G ↔ (pi_callV 46 2 6 248) (pcal d) Q lim (prL d lim Q) ls st G := prL_of rfl ls st G
set_option maxRecDepth 100000 in
theorem eL_law_248 {d : Nat} {lim : Nat × Nat} {Q : px_Q} {ls : px_L} {st : List Value} {G : px_H} : prL d lim Q 248 ls st G ↔ (pi_aload 2 249) (pcal d) Q lim (prL d lim Q) ls st G := prL_of rfl ls st G
set_option maxRecDepth 100000 in
theorem eL_law_249 {d : Nat} {lim : Nat × Nat} {Q : px_Q} {ls : px_L} {st : List Value} {G : px_H} : prL d lim Q 249 ls st G ↔ (pi_aload 0 250) (pcal d) Q lim (prL d lim Q) ls st G := prL_of rfl ls st G
set_option maxRecDepth 100000 in
theorem eL_law_250 {d : Nat} {lim : Nat × Nat} {Q : px_Q} {ls : px_L} {st : List Value} {G : px_H} : prL d lim Q 250 ls st G ↔ (pi_iload 3 251) (pcal d) Q lim (prL d lim Q) ls st G := prL_of rfl ls st G
set_option maxRecDepth 100000 in
theorem eL_law_251 {d : Nat} {lim : Nat × Nat} {Q : px_Q} {ls : px_L} {st : List Value} {G : px_H} : prL d lim Q 251 ls st G ↔ (pi_const (.int (1)) 252) (pcal d) Q lim (prL d lim Q) ls st G := prL_of rfl ls st G
set_option maxRecDepth 100000 in
theorem eL_law_252 {d : Nat} {lim : Nat × Nat} {Q : px_Q} {ls : px_L} {st : List Value} {G : px_H} : prL d lim Q 252 ls st G ↔ (pi_bin (fun x y => x + y) 253) (pcal d) Q lim (prL d lim Q) ls st G := prL_of rfl ls st G
set_option maxRecDepth 100000 in
theorem eL_law_253 {d : Nat} {lim : Nat × Nat} {Q : px_Q} {ls : px_L} {st : List Value} {G : px_H} : prL d lim Q 253 ls st G ↔ (pi_iald 254) (pcal d) Q lim (prL d lim Q) ls st G := prL_of rfl ls st G
set_option maxRecDepth 100000 in
theorem eL_law_254 {d : Nat} {lim : Nat × Nat} {Q : px_Q} {ls : px_L} {st : List Value} {G : px_H} : prL d lim Q 254 ls st G ↔ (pi_aload 0 255) (pcal d) Q lim (prL d lim Q) ls st G := prL_of rfl ls st G
set_option maxRecDepth 100000 in
theorem eL_law_255 {d : Nat} {lim : Nat × Nat} {Q : px_Q} {ls : px_L} {st : List Value} {G : px_H} : prL d lim Q 255 ls st G ↔ (pi_iload 3 256) (pcal d) Q lim (prL d lim Q) ls st G := prL_of rfl ls st G
set_option maxRecDepth 100000 in
theorem eL_law_256 {d : Nat} {lim : Nat × Nat} {Q : px_Q} {ls : px_L} {st : List Value} {G : px_H} : prL d lim Q 256 ls st G ↔ (pi_const (.int (2)) 257) (pcal d) Q lim (prL d lim Q) ls st G := prL_of rfl ls st G
set_option maxRecDepth 100000 in
theorem eL_law_257 {d : Nat} {lim : Nat × Nat} {Q : px_Q} {ls : px_L} {st : List Value} {G : px_H} : prL d lim Q 257 ls st G ↔ (pi_bin (fun x y => x + y) 258) (pcal d) Q lim (prL d lim Q) ls st G := prL_of rfl ls st G
set_option maxRecDepth 100000 in
theorem eL_law_258 {d : Nat} {lim : Nat × Nat} {Q : px_Q} {ls : px_L} {st : List Value} {G : px_H} : prL d lim Q 258 ls st G ↔ (pi_iald 259) (pcal d) Q lim (prL d lim Q) ls st G := prL_of rfl ls st G
set_option maxRecDepth 100000 in
theorem eL_law_259 {d : Nat} {lim : Nat × Nat} {Q : px_Q} {ls : px_L} {st : List Value} {G : px_H} : prL d lim Q 259 ls st G ↔ (pi_callV 106 2 7 262) (pcal d) Q lim (prL d lim Q) ls st G := prL_of rfl ls st G
set_option maxRecDepth 100000 in
theorem eL_law_262 {d : Nat} {lim : Nat × Nat} {Q : px_Q} {ls : px_L} {st : List Value} {G : px_H} : prL d lim Q 262 ls st G ↔ (pi_iceq 1156 265) (pcal d) Q lim (prL d lim Q) ls st G := prL_of rfl ls st G
set_option maxRecDepth 100000 in
theorem eL_law_265 {d : Nat} {lim : Nat × Nat} {Q : px_Q} {ls : px_L} {st : List Value} {G : px_H} : prL d lim Q 265 ls st G ↔ (pi_const (.int (0)) 266) (pcal d) Q lim (prL d lim Q) ls st G := prL_of rfl ls st G
set_option maxRecDepth 100000 in
theorem eL_law_266 {d : Nat} {lim : Nat × Nat} {Q : px_Q} {ls : px_L} {st : List Value} {G : px_H} : prL d lim Q 266 ls st G ↔ (pi_zret) (pcal d) Q lim (prL d lim Q) ls st G := prL_of rfl ls st G
set_option maxRecDepth 100000 in
theorem eL_law_267 {d : Nat} {lim : Nat × Nat} {Q : px_Q} {ls : px_L} {st : List Value} {G : px_H} : prL d lim Q 267 ls st G ↔ (pi_aload 1 268) (pcal d) Q lim (prL d lim Q) ls st G := prL_of rfl ls st G
set_option maxRecDepth 100000 in
theorem eL_law_268 {d : Nat} {lim : Nat × Nat} {Q : px_Q} {ls : px_L} {st : List Value} {G : px_H} : prL d lim Q 268 ls st G ↔ (pi_aload 0 269) (pcal d) Q lim (prL d lim Q) ls st G := prL_of rfl ls st G
set_option maxRecDepth 100000 in
theorem eL_law_269 {d : Nat} {lim : Nat × Nat} {Q : px_Q} {ls : px_L} {st : List Value} {G : px_H} : prL d lim Q 269 ls st G ↔ (pi_iload 3 270) (pcal d) Q lim (prL d lim Q) ls st G := prL_of rfl ls st G
set_option maxRecDepth 100000 in
theorem eL_law_270 {d : Nat} {lim : Nat × Nat} {Q : px_Q} {ls : px_L} {st : List Value} {G : px_H} : prL d lim Q 270 ls st G ↔ (pi_const (.int (1)) 271) (pcal d) Q lim (prL d lim Q) ls st G := prL_of rfl ls st G
set_option maxRecDepth 100000 in
theorem eL_law_271 {d : Nat} {lim : Nat × Nat} {Q : px_Q} {ls : px_L} {st : List Value} {G : px_H} : prL d lim Q 271 ls st G ↔ (pi_bin (fun x y => x + y) 272) (pcal d) Q lim (prL d lim Q) ls st G := prL_of rfl ls st G
set_option maxRecDepth 100000 in
theorem eL_law_272 {d : Nat} {lim : Nat × Nat} {Q : px_Q} {ls : px_L} {st : List Value} {G : px_H} : prL d lim Q 272 ls st G ↔ (pi_iald 273) (pcal d) Q lim (prL d lim Q) ls st G := prL_of rfl ls st G
set_option maxRecDepth 100000 in
theorem eL_law_273 {d : Nat} {lim : Nat × Nat} {Q : px_Q} {ls : px_L} {st : List Value} {G : px_H} : prL d lim Q 273 ls st G ↔ (pi_aload 0 274) (pcal d) Q lim (prL d lim Q) ls st G := prL_of rfl ls st G
set_option maxRecDepth 100000 in
theorem eL_law_274 {d : Nat} {lim : Nat × Nat} {Q : px_Q} {ls : px_L} {st : List Value} {G : px_H} : prL d lim Q 274 ls st G ↔ (pi_iload 3 275) (pcal d) Q lim (prL d lim Q) ls st G := prL_of rfl ls st G
set_option maxRecDepth 100000 in
theorem eL_law_275 {d : Nat} {lim : Nat × Nat} {Q : px_Q} {ls : px_L} {st : List Value} {G : px_H} : prL d lim Q 275 ls st G ↔ (pi_const (.int (2)) 276) (pcal d) Q lim (prL d lim Q) ls st G := prL_of rfl ls st G
set_option maxRecDepth 100000 in
theorem eL_law_276 {d : Nat} {lim : Nat × Nat} {Q : px_Q} {ls : px_L} {st : List Value} {G : px_H} : prL d lim Q 276 ls st G ↔ (pi_bin (fun x y => x + y) 277) (pcal d) Q lim (prL d lim Q) ls st G := prL_of rfl ls st G
set_option maxRecDepth 100000 in
theorem eL_law_277 {d : Nat} {lim : Nat × Nat} {Q : px_Q} {ls : px_L} {st : List Value} {G : px_H} : prL d lim Q 277 ls st G ↔ (pi_iald 278) (pcal d) Q lim (prL d lim Q) ls st G := prL_of rfl ls st G
set_option maxRecDepth 100000 in
theorem eL_law_278 {d : Nat} {lim : Nat × Nat} {Q : px_Q} {ls : px_L} {st : List Value} {G : px_H} : prL d lim Q 278 ls st G ↔ (pi_callV 47 2 6 281) (pcal d) Q lim (prL d lim Q) ls st G := prL_of rfl ls st G
set_option maxRecDepth 100000 in
theorem eL_law_281 {d : Nat} {lim : Nat × Nat} {Q : px_Q} {ls : px_L} {st : List Value} {G : px_H} : prL d lim Q 281 ls st G ↔ (pi_aload 2 282) (pcal d) Q lim (prL d lim Q) ls st G := prL_of rfl ls st G
set_option maxRecDepth 100000 in
theorem eL_law_282 {d : Nat} {lim : Nat × Nat} {Q : px_Q} {ls : px_L} {st : List Value} {G : px_H} : prL d lim Q 282 ls st G ↔ (pi_aload 0 283) (pcal d) Q lim (prL d lim Q) ls st G := prL_of rfl ls st G
set_option maxRecDepth 100000 in
theorem eL_law_283 {d : Nat} {lim : Nat × Nat} {Q : px_Q} {ls : px_L} {st : List Value} {G : px_H} : prL d lim Q 283 ls st G ↔ (pi_iload 3 284) (pcal d) Q lim (prL d lim Q) ls st G := prL_of rfl ls st G
set_option maxRecDepth 100000 in
theorem eL_law_284 {d : Nat} {lim : Nat × Nat} {Q : px_Q} {ls : px_L} {st : List Value} {G : px_H} : prL d lim Q 284 ls st G ↔ (pi_const (.int (1)) 285) (pcal d) Q lim (prL d lim Q) ls st G := prL_of rfl ls st G
set_option maxRecDepth 100000 in
theorem eL_law_285 {d : Nat} {lim : Nat × Nat} {Q : px_Q} {ls : px_L} {st : List Value} {G : px_H} : prL d lim Q 285 ls st G ↔ (pi_bin (fun x y => x + y) 286) (pcal d) Q lim (prL d lim Q) ls st G := prL_of rfl ls st G
set_option maxRecDepth 100000 in
theorem eL_law_286 {d : Nat} {lim : Nat × Nat} {Q : px_Q} {ls : px_L} {st : List Value} {G : px_H} : prL d lim Q 286 ls st G ↔ (pi_iald 287) (pcal d) Q lim (prL d lim Q) ls st G := prL_of rfl ls st G
set_option maxRecDepth 100000 in
theorem eL_law_287 {d : Nat} {lim : Nat × Nat} {Q : px_Q} {ls : px_L} {st : List Value} {G : px_H} : prL d lim Q 287 ls st G ↔ (pi_aload 0 288) (pcal d) Q lim (prL d lim Q) ls st G := prL_of rfl ls st G
set_option maxRecDepth 100000 in
theorem eL_law_288 {d : Nat} {lim : Nat × Nat} {Q : px_Q} {ls : px_L} {st : List Value} {G : px_H} : prL d lim Q 288 ls st G ↔ (pi_iload 3 289) (pcal d) Q lim (prL d lim Q) ls st G := prL_of rfl ls st G
set_option maxRecDepth 100000 in
theorem eL_law_289 {d : Nat} {lim : Nat × Nat} {Q : px_Q} {ls : px_L} {st : List Value} {G : px_H} : prL d lim Q 289 ls st G ↔ (pi_const (.int (2)) 290) (pcal d) Q lim (prL d lim Q) ls st G := prL_of rfl ls st G
set_option maxRecDepth 100000 in
theorem eL_law_290 {d : Nat} {lim : Nat × Nat} {Q : px_Q} {ls : px_L} {st : List Value} {G : px_H} : prL d lim Q 290 ls st G ↔ (pi_bin (fun x y => x + y) 291) (pcal d) Q lim (prL d lim Q) ls st G := prL_of rfl ls st G
set_option maxRecDepth 100000 in
theorem eL_law_291 {d : Nat} {lim : Nat × Nat} {Q : px_Q} {ls : px_L} {st : List Value} {G : px_H} : prL d lim Q 291 ls st G ↔ (pi_iald 292) (pcal d) Q lim (prL d lim Q) ls st G := prL_of rfl ls st G
set_option maxRecDepth 100000 in
theorem eL_law_292 {d : Nat} {lim : Nat × Nat} {Q : px_Q} {ls : px_L} {st : List Value} {G : px_H} : prL d lim Q 292 ls st G ↔ (pi_callV 107 2 7 295) (pcal d) Q lim (prL d lim Q) ls st G := prL_of rfl ls st G
set_option maxRecDepth 100000 in
theorem eL_law_295 {d : Nat} {lim : Nat × Nat} {Q : px_Q} {ls : px_L} {st : List Value} {G : px_H} : prL d lim Q 295 ls st G ↔ (pi_iceq 1156 298) (pcal d) Q lim (prL d lim Q) ls st G := prL_of rfl ls st G
set_option maxRecDepth 100000 in
theorem eL_law_298 {d : Nat} {lim : Nat × Nat} {Q : px_Q} {ls : px_L} {st : List Value} {G : px_H} : prL d lim Q 298 ls st G ↔ (pi_const (.int (0)) 299) (pcal d) Q lim (prL d lim Q) ls st G := prL_of rfl ls st G
set_option maxRecDepth 100000 in
theorem eL_law_299 {d : Nat} {lim : Nat × Nat} {Q : px_Q} {ls : px_L} {st : List Value} {G : px_H} : prL d lim Q 299 ls st G ↔ (pi_zret) (pcal d) Q lim (prL d lim Q) ls st G := prL_of rfl ls st G
set_option maxRecDepth 100000 in
theorem eL_law_300 {d : Nat} {lim : Nat × Nat} {Q : px_Q} {ls : px_L} {st : List Value} {G : px_H} : prL d lim Q 300 ls st G ↔ (pi_aload 1 301) (pcal d) Q lim (prL d lim Q) ls st G := prL_of rfl ls st G
set_option maxRecDepth 100000 in
theorem eL_law_301 {d : Nat} {lim : Nat × Nat} {Q : px_Q} {ls : px_L} {st : List Value} {G : px_H} : prL d lim Q 301 ls st G ↔ (pi_callV 48 0 6 304) (pcal d) Q lim (prL d lim Q) ls st G := prL_of rfl ls st G
set_option maxRecDepth 100000 in
theorem eL_law_304 {d : Nat} {lim : Nat × Nat} {Q : px_Q} {ls : px_L} {st : List Value} {G : px_H} : prL d lim Q 304 ls st G ↔ (pi_aload 2 305) (pcal d) Q lim (prL d lim Q) ls st G := prL_of rfl ls st G
set_option maxRecDepth 100000 in
theorem eL_law_305 {d : Nat} {lim : Nat × Nat} {Q : px_Q} {ls : px_L} {st : List Value} {G : px_H} : prL d lim Q 305 ls st G ↔ (pi_callV 116 0 7 308) (pcal d) Q lim (prL d lim Q) ls st G := prL_of rfl ls st G
set_option maxRecDepth 100000 in
theorem eL_law_308 {d : Nat} {lim : Nat × Nat} {Q : px_Q} {ls : px_L} {st : List Value} {G : px_H} : prL d lim Q 308 ls st G ↔ (pi_iceq 1156 311) (pcal d) Q lim (prL d lim Q) ls st G := prL_of rfl ls st G
set_option maxRecDepth 100000 in
theorem eL_law_311 {d : Nat} {lim : Nat × Nat} {Q : px_Q} {ls : px_L} {st : List Value} {G : px_H} : prL d lim Q 311 ls st G ↔ (pi_const (.int (0)) 312) (pcal d) Q lim (prL d lim Q) ls st G := prL_of rfl ls st G
set_option maxRecDepth 100000 in
theorem eL_law_312 {d : Nat} {lim : Nat × Nat} {Q : px_Q} {ls : px_L} {st : List Value} {G : px_H} : prL d lim Q 312 ls st G ↔ (pi_zret) (pcal d) Q lim (prL d lim Q) ls st G := prL_of rfl ls st G
set_option maxRecDepth 100000 in
theorem eL_law_313 {d : Nat} {lim : Nat × Nat} {Q : px_Q} {ls : px_L} {st : List Value} {G : px_H} : prL d lim Q 313 ls st G ↔ (pi_aload 1 314) (pcal d) Q lim (prL d lim Q) ls st G := prL_of rfl ls st G
set_option maxRecDepth 100000 in
theorem eL_law_314 {d : Nat} {lim : Nat × Nat} {Q : px_Q} {ls : px_L} {st : List Value} {G : px_H} : prL d lim Q 314 ls st G ↔ (pi_aload 0 315) (pcal d) Q lim (prL d lim Q) ls st G := prL_of rfl ls st G
set_option maxRecDepth 100000 in
theorem eL_law_315 {d : Nat} {lim : Nat × Nat} {Q : px_Q} {ls : px_L} {st : List Value} {G : px_H} : prL d lim Q 315 ls st G ↔ (pi_iload 3 316) (pcal d) Q lim (prL d lim Q) ls st G := prL_of rfl ls st G
set_option maxRecDepth 100000 in
theorem eL_law_316 {d : Nat} {lim : Nat × Nat} {Q : px_Q} {ls : px_L} {st : List Value} {G : px_H} : prL d lim Q 316 ls st G ↔ (pi_const (.int (1)) 317) (pcal d) Q lim (prL d lim Q) ls st G := prL_of rfl ls st G
set_option maxRecDepth 100000 in
theorem eL_law_317 {d : Nat} {lim : Nat × Nat} {Q : px_Q} {ls : px_L} {st : List Value} {G : px_H} : prL d lim Q 317 ls st G ↔ (pi_bin (fun x y => x + y) 318) (pcal d) Q lim (prL d lim Q) ls st G := prL_of rfl ls st G
set_option maxRecDepth 100000 in
theorem eL_law_318 {d : Nat} {lim : Nat × Nat} {Q : px_Q} {ls : px_L} {st : List Value} {G : px_H} : prL d lim Q 318 ls st G ↔ (pi_iald 319) (pcal d) Q lim (prL d lim Q) ls st G := prL_of rfl ls st G
set_option maxRecDepth 100000 in
theorem eL_law_319 {d : Nat} {lim : Nat × Nat} {Q : px_Q} {ls : px_L} {st : List Value} {G : px_H} : prL d lim Q 319 ls st G ↔ (pi_callV 49 1 6 322) (pcal d) Q lim (prL d lim Q) ls st G := prL_of rfl ls st G
set_option maxRecDepth 100000 in
theorem eL_law_322 {d : Nat} {lim : Nat × Nat} {Q : px_Q} {ls : px_L} {st : List Value} {G : px_H} : prL d lim Q 322 ls st G ↔ (pi_aload 2 323) (pcal d) Q lim (prL d lim Q) ls st G := prL_of rfl ls st G
set_option maxRecDepth 100000 in
theorem eL_law_323 {d : Nat} {lim : Nat × Nat} {Q : px_Q} {ls : px_L} {st : List Value} {G : px_H} : prL d lim Q 323 ls st G ↔ (pi_aload 0 324) (pcal d) Q lim (prL d lim Q) ls st G := prL_of rfl ls st G
set_option maxRecDepth 100000 in
theorem eL_law_324 {d : Nat} {lim : Nat × Nat} {Q : px_Q} {ls : px_L} {st : List Value} {G : px_H} : prL d lim Q 324 ls st G ↔ (pi_iload 3 325) (pcal d) Q lim (prL d lim Q) ls st G := prL_of rfl ls st G
set_option maxRecDepth 100000 in
theorem eL_law_325 {d : Nat} {lim : Nat × Nat} {Q : px_Q} {ls : px_L} {st : List Value} {G : px_H} : prL d lim Q 325 ls st G ↔ (pi_const (.int (1)) 326) (pcal d) Q lim (prL d lim Q) ls st G := prL_of rfl ls st G
set_option maxRecDepth 100000 in
theorem eL_law_326 {d : Nat} {lim : Nat × Nat} {Q : px_Q} {ls : px_L} {st : List Value} {G : px_H} : prL d lim Q 326 ls st G ↔ (pi_bin (fun x y => x + y) 327) (pcal d) Q lim (prL d lim Q) ls st G := prL_of rfl ls st G
set_option maxRecDepth 100000 in
theorem eL_law_327 {d : Nat} {lim : Nat × Nat} {Q : px_Q} {ls : px_L} {st : List Value} {G : px_H} : prL d lim Q 327 ls st G ↔ (pi_iald 328) (pcal d) Q lim (prL d lim Q) ls st G := prL_of rfl ls st G
set_option maxRecDepth 100000 in
theorem eL_law_328 {d : Nat} {lim : Nat × Nat} {Q : px_Q} {ls : px_L} {st : List Value} {G : px_H} : prL d lim Q 328 ls st G ↔ (pi_callV 117 1 7 331) (pcal d) Q lim (prL d lim Q) ls st G := prL_of rfl ls st G
set_option maxRecDepth 100000 in
theorem eL_law_331 {d : Nat} {lim : Nat × Nat} {Q : px_Q} {ls : px_L} {st : List Value} {G : px_H} : prL d lim Q 331 ls st G ↔ (pi_iceq 1156 334) (pcal d) Q lim (prL d lim Q) ls st G := prL_of rfl ls st G
set_option maxRecDepth 100000 in
theorem eL_law_334 {d : Nat} {lim : Nat × Nat} {Q : px_Q} {ls : px_L} {st : List Value} {G : px_H} : prL d lim Q 334 ls st G ↔ (pi_const (.int (0)) 335) (pcal d) Q lim (prL d lim Q) ls st G := prL_of rfl ls st G
set_option maxRecDepth 100000 in
theorem eL_law_335 {d : Nat} {lim : Nat × Nat} {Q : px_Q} {ls : px_L} {st : List Value} {G : px_H} : prL d lim Q 335 ls st G ↔ (pi_zret) (pcal d) Q lim (prL d lim Q) ls st G := prL_of rfl ls st G
set_option maxRecDepth 100000 in
theorem eL_law_336 {d : Nat} {lim : Nat × Nat} {Q : px_Q} {ls : px_L} {st : List Value} {G : px_H} : prL d lim Q 336 ls st G ↔ (pi_aload 1 337) (pcal d) Q lim (prL d lim Q) ls st G := prL_of rfl ls st G
set_option maxRecDepth 100000 in
theorem eL_law_337 {d : Nat} {lim : Nat × Nat} {Q : px_Q} {ls : px_L} {st : List Value} {G : px_H} : prL d lim Q 337 ls st G ↔ (pi_aload 0 338) (pcal d) Q lim (prL d lim Q) ls st G := prL_of rfl ls st G
set_option maxRecDepth 100000 in
theorem eL_law_338 {d : Nat} {lim : Nat × Nat} {Q : px_Q} {ls : px_L} {st : List Value} {G : px_H} : prL d lim Q 338 ls st G ↔ (pi_iload 3 339) (pcal d) Q lim (prL d lim Q) ls st G := prL_of rfl ls st G
set_option maxRecDepth 100000 in
theorem eL_law_339 {d : Nat} {lim : Nat × Nat} {Q : px_Q} {ls : px_L} {st : List Value} {G : px_H} : prL d lim Q 339 ls st G ↔ (pi_const (.int (1)) 340) (pcal d) Q lim (prL d lim Q) ls st G := prL_of rfl ls st G
set_option maxRecDepth 100000 in
theorem eL_law_340 {d : Nat} {lim : Nat × Nat} {Q : px_Q} {ls : px_L} {st : List Value} {G : px_H} : prL d lim Q 340 ls st G ↔ (pi_bin (fun x y => x + y) 341) (pcal d) Q lim (prL d lim Q) ls st G := prL_of rfl ls st G
set_option maxRecDepth 100000 in
theorem eL_law_341 {d : Nat} {lim : Nat × Nat} {Q : px_Q} {ls : px_L} {st : List Value} {G : px_H} : prL d lim Q 341 ls st G ↔ (pi_iald 342) (pcal d) Q lim (prL d lim Q) ls st G := prL_of rfl ls st G
set_option maxRecDepth 100000 in
theorem eL_law_342 {d : Nat} {lim : Nat × Nat} {Q : px_Q} {ls : px_L} {st : List Value} {G : px_H} : prL d lim Q 342 ls st G ↔ (pi_aload 0 343) (pcal d) Q lim (prL d lim Q) ls st G := prL_of rfl ls st G
set_option maxRecDepth 100000 in
theorem eL_law_343 {d : Nat} {lim : Nat × Nat} {Q : px_Q} {ls : px_L} {st : List Value} {G : px_H} : prL d lim Q 343 ls st G ↔ (pi_iload 3 344) (pcal d) Q lim (prL d lim Q) ls st G := prL_of rfl ls st G
set_option maxRecDepth 100000 in
theorem eL_law_344 {d : Nat} {lim : Nat × Nat} {Q : px_Q} {ls : px_L} {st : List Value} {G : px_H} : prL d lim Q 344 ls st G ↔ (pi_const (.int (2)) 345) (pcal d) Q lim (prL d lim Q) ls st G := prL_of rfl ls st G
set_option maxRecDepth 100000 in
theorem eL_law_345 {d : Nat} {lim : Nat × Nat} {Q : px_Q} {ls : px_L} {st : List Value} {G : px_H} : prL d lim Q 345 ls st G ↔ (pi_bin (fun x y => x + y) 346) (pcal d) Q lim (prL d lim Q) ls st G := prL_of rfl ls st G
set_option maxRecDepth 100000 in
theorem eL_law_346 {d : Nat} {lim : Nat × Nat} {Q : px_Q} {ls : px_L} {st : List Value} {G : px_H} : prL d lim Q 346 ls st G ↔ (pi_iald 347) (pcal d) Q lim (prL d lim Q) ls st G := prL_of rfl ls st G
set_option maxRecDepth 100000 in
theorem eL_law_347 {d : Nat} {lim : Nat × Nat} {Q : px_Q} {ls : px_L} {st : List Value} {G : px_H} : prL d lim Q 347 ls st G ↔ (pi_callV 50 2 6 350) (pcal d) Q lim (prL d lim Q) ls st G := prL_of rfl ls st G
set_option maxRecDepth 100000 in
theorem eL_law_350 {d : Nat} {lim : Nat × Nat} {Q : px_Q} {ls : px_L} {st : List Value} {G : px_H} : prL d lim Q 350 ls st G ↔ (pi_aload 2 351) (pcal d) Q lim (prL d lim Q) ls st G := prL_of rfl ls st G
set_option maxRecDepth 100000 in
theorem eL_law_351 {d : Nat} {lim : Nat × Nat} {Q : px_Q} {ls : px_L} {st : List Value} {G : px_H} : prL d lim Q 351 ls st G ↔ (pi_aload 0 352) (pcal d) Q lim (prL d lim Q) ls st G := prL_of rfl ls st G
set_option maxRecDepth 100000 in
theorem eL_law_352 {d : Nat} {lim : Nat × Nat} {Q : px_Q} {ls : px_L} {st : List Value} {G : px_H} : prL d lim Q 352 ls st G ↔ (pi_iload 3 353) (pcal d) Q lim (prL d lim Q) ls st G := prL_of rfl ls st G
set_option maxRecDepth 100000 in
theorem eL_law_353 {d : Nat} {lim : Nat × Nat} {Q : px_Q} {ls : px_L} {st : List Value} {G : px_H} : prL d lim Q 353 ls st G ↔ (pi_const (.int (1)) 354) (pcal d) Q lim (prL d lim Q) ls st G := prL_of rfl ls st G
set_option maxRecDepth 100000 in
theorem eL_law_354 {d : Nat} {lim : Nat × Nat} {Q : px_Q} {ls : px_L} {st : List Value} {G : px_H} : prL d lim Q 354 ls st G ↔ (pi_bin (fun x y => x + y) 355) (pcal d) Q lim (prL d lim Q) ls st G := prL_of rfl ls st G
set_option maxRecDepth 100000 in
theorem eL_law_355 {d : Nat} {lim : Nat × Nat} {Q : px_Q} {ls : px_L} {st : List Value} {G : px_H} : prL d lim Q 355 ls st G ↔ (pi_iald 356) (pcal d) Q lim (prL d lim Q) ls st G := prL_of rfl ls st G
set_option maxRecDepth 100000 in
theorem eL_law_356 {d : Nat} {lim : Nat × Nat} {Q : px_Q} {ls : px_L} {st : List Value} {G : px_H} : prL d lim Q 356 ls st G ↔ (pi_aload 0 357) (pcal d) Q lim (prL d lim Q) ls st G := prL_of rfl ls st G
set_option maxRecDepth 100000 in
theorem eL_law_357 {d : Nat} {lim : Nat × Nat} {Q : px_Q} {ls : px_L} {st : List Value} {G : px_H} : prL d lim Q 357 ls st G ↔ (pi_iload 3 358) (pcal d) Q lim (prL d lim Q) ls st G := prL_of rfl ls st G
set_option maxRecDepth 100000 in
theorem eL_law_358 {d : Nat} {lim : Nat × Nat} {Q : px_Q} {ls : px_L} {st : List Value} {G : px_H} : prL d lim Q 358 ls st G ↔ (pi_const (.int (2)) 359) (pcal d) Q lim (prL d lim Q) ls st G := prL_of rfl ls st G
set_option maxRecDepth 100000 in
theorem eL_law_359 {d : Nat} {lim : Nat × Nat} {Q : px_Q} {ls : px_L} {st : List Value} {G : px_H} : prL d lim Q 359 ls st G ↔ (pi_bin (fun x y => x + y) 360) (pcal d) Q lim (prL d lim Q) ls st G := prL_of rfl ls st G
set_option maxRecDepth 100000 in
theorem eL_law_360 {d : Nat} {lim : Nat × Nat} {Q : px_Q} {ls : px_L} {st : List Value} {G : px_H} : prL d lim Q 360 ls st G ↔ (pi_iald 361) (pcal d) Q lim (prL d lim Q) ls st G := prL_of rfl ls st G
set_option maxRecDepth 100000 in
theorem eL_law_361 {d : Nat} {lim : Nat × Nat} {Q : px_Q} {ls : px_L} {st : List Value} {G : px_H} : prL d lim Q 361 ls st G ↔ (pi_callV 118 2 7 364) (pcal d) Q lim (prL d lim Q) ls st G := prL_of rfl ls st G
set_option maxRecDepth 100000 in
theorem eL_law_364 {d : Nat} {lim : Nat × Nat} {Q : px_Q} {ls : px_L} {st : List Value} {G : px_H} : prL d lim Q 364 ls st G ↔ (pi_iceq 1156 367) (pcal d) Q lim (prL d lim Q) ls st G := prL_of rfl ls st G
set_option maxRecDepth 100000 in
theorem eL_law_367 {d : Nat} {lim : Nat × Nat} {Q : px_Q} {ls : px_L} {st : List Value} {G : px_H} : prL d lim Q 367 ls st G ↔ (pi_const (.int (0)) 368) (pcal d) Q lim (prL d lim Q) ls st G := prL_of rfl ls st G
set_option maxRecDepth 100000 in
theorem eL_law_368 {d : Nat} {lim : Nat × Nat} {Q : px_Q} {ls : px_L} {st : List Value} {G : px_H} : prL d lim Q 368 ls st G ↔ (pi_zret) (pcal d) Q lim (prL d lim Q) ls st G := prL_of rfl ls st G
set_option maxRecDepth 100000 in
theorem eL_law_369 {d : Nat} {lim : Nat × Nat} {Q : px_Q} {ls : px_L} {st : List Value} {G : px_H} : prL d lim Q 369 ls st G ↔ (pi_aload 1 370) (pcal d) Q lim (prL d lim Q) ls st G := prL_of rfl ls st G
set_option maxRecDepth 100000 in
theorem eL_law_370 {d : Nat} {lim : Nat × Nat} {Q : px_Q} {ls : px_L} {st : List Value} {G : px_H} : prL d lim Q 370 ls st G ↔ (pi_callV 51 0 6 373) (pcal d) Q lim (prL d lim Q) ls st G := prL_of rfl ls st G
set_option maxRecDepth 100000 in
theorem eL_law_373 {d : Nat} {lim : Nat × Nat} {Q : px_Q} {ls : px_L} {st : List Value} {G : px_H} : prL d lim Q 373 ls st G ↔ (pi_aload 2 374) (pcal d) Q lim (prL d lim Q) ls st G := prL_of rfl ls st G
set_option maxRecDepth 100000 in
theorem eL_law_374 {d : Nat} {lim : Nat × Nat} {Q : px_Q} {ls : px_L} {st : List Value} {G : px_H} : prL d lim Q 374 ls st G ↔ (pi_callV 119 0 7 377) (pcal d) Q lim (prL d lim Q) ls st G := prL_of rfl ls st G
set_option maxRecDepth 100000 in
theorem eL_law_377 {d : Nat} {lim : Nat × Nat} {Q : px_Q} {ls : px_L} {st : List Value} {G : px_H} : prL d lim Q 377 ls st G ↔ (pi_iceq 1156 380) (pcal d) Q lim (prL d lim Q) ls st G := prL_of rfl ls st G
set_option maxRecDepth 100000 in
theorem eL_law_380 {d : Nat} {lim : Nat × Nat} {Q : px_Q} {ls : px_L} {st : List Value} {G : px_H} : prL d lim Q 380 ls st G ↔ (pi_const (.int (0)) 381) (pcal d) Q lim (prL d lim Q) ls st G := prL_of rfl ls st G
set_option maxRecDepth 100000 in
theorem eL_law_381 {d : Nat} {lim : Nat × Nat} {Q : px_Q} {ls : px_L} {st : List Value} {G : px_H} : prL d lim Q 381 ls st G ↔ (pi_zret) (pcal d) Q lim (prL d lim Q) ls st G := prL_of rfl ls st G
set_option maxRecDepth 100000 in
theorem eL_law_382 {d : Nat} {lim : Nat × Nat} {Q : px_Q} {ls : px_L} {st : List Value} {G : px_H} : prL d lim Q 382 ls st G ↔ (pi_aload 1 383) (pcal d) Q lim (prL d lim Q) ls st G := prL_of rfl ls st G
set_option maxRecDepth 100000 in
theorem eL_law_383 {d : Nat} {lim : Nat × Nat} {Q : px_Q} {ls : px_L} {st : List Value} {G : px_H} : prL d lim Q 383 ls st G ↔ (pi_aload 0 384) (pcal d) Q lim (prL d lim Q) ls st G := prL_of rfl ls st G
set_option maxRecDepth 100000 in
theorem eL_law_384 {d : Nat} {lim : Nat × Nat} {Q : px_Q} {ls : px_L} {st : List Value} {G : px_H} : prL d lim Q 384 ls st G ↔ (pi_iload 3 385) (pcal d) Q lim (prL d lim Q) ls st G := prL_of rfl ls st G
set_option maxRecDepth 100000 in
theorem eL_law_385 {d : Nat} {lim : Nat × Nat} {Q : px_Q} {ls : px_L} {st : List Value} {G : px_H} : prL d lim Q 385 ls st G ↔ (pi_const (.int (1)) 386) (pcal d) Q lim (prL d lim Q) ls st G := prL_of rfl ls st G
set_option maxRecDepth 100000 in
theorem eL_law_386 {d : Nat} {lim : Nat × Nat} {Q : px_Q} {ls : px_L} {st : List Value} {G : px_H} : prL d lim Q 386 ls st G ↔ (pi_bin (fun x y => x + y) 387) (pcal d) Q lim (prL d lim Q) ls st G := prL_of rfl ls st G
set_option maxRecDepth 100000 in
theorem eL_law_387 {d : Nat} {lim : Nat × Nat} {Q : px_Q} {ls : px_L} {st : List Value} {G : px_H} : prL d lim Q 387 ls st G ↔ (pi_iald 388) (pcal d) Q lim (prL d lim Q) ls st G := prL_of rfl ls st G
set_option maxRecDepth 100000 in
theorem eL_law_388 {d : Nat} {lim : Nat × Nat} {Q : px_Q} {ls : px_L} {st : List Value} {G : px_H} : prL d lim Q 388 ls st G ↔ (pi_aload 0 389) (pcal d) Q lim (prL d lim Q) ls st G := prL_of rfl ls st G
set_option maxRecDepth 100000 in
theorem eL_law_389 {d : Nat} {lim : Nat × Nat} {Q : px_Q} {ls : px_L} {st : List Value} {G : px_H} : prL d lim Q 389 ls st G ↔ (pi_iload 3 390) (pcal d) Q lim (prL d lim Q) ls st G := prL_of rfl ls st G
set_option maxRecDepth 100000 in
theorem eL_law_390 {d : Nat} {lim : Nat × Nat} {Q : px_Q} {ls : px_L} {st : List Value} {G : px_H} : prL d lim Q 390 ls st G ↔ (pi_const (.int (2)) 391) (pcal d) Q lim (prL d lim Q) ls st G := prL_of rfl ls st G
set_option maxRecDepth 100000 in
theorem eL_law_391 {d : Nat} {lim : Nat × Nat} {Q : px_Q} {ls : px_L} {st : List Value} {G : px_H} : prL d lim Q 391 ls st G ↔ (pi_bin (fun x y => x + y) 392) (pcal d) Q lim (prL d lim Q) ls st G := prL_of rfl ls st G
set_option maxRecDepth 100000 in
theorem eL_law_392 {d : Nat} {lim : Nat × Nat} {Q : px_Q} {ls : px_L} {st : List Value} {G : px_H} : prL d lim Q 392 ls st G ↔ (pi_iald 393) (pcal d) Q lim (prL d lim Q) ls st G := prL_of rfl ls st G
set_option maxRecDepth 100000 in
theorem eL_law_393 {d : Nat} {lim : Nat × Nat} {Q : px_Q} {ls : px_L} {st : List Value} {G : px_H} : prL d lim Q 393 ls st G ↔ (pi_callV 52 2 6 396) (pcal d) Q lim (prL d lim Q) ls st G := prL_of rfl ls st G
set_option maxRecDepth 100000 in
theorem eL_law_396 {d : Nat} {lim : Nat × Nat} {Q : px_Q} {ls : px_L} {st : List Value} {G : px_H} : prL d lim Q 396 ls st G ↔ (pi_aload 2 397) (pcal d) Q lim (prL d lim Q) ls st G := prL_of rfl ls st G
set_option maxRecDepth 100000 in
theorem eL_law_397 {d : Nat} {lim : Nat × Nat} {Q : px_Q} {ls : px_L} {st : List Value} {G : px_H} : prL d lim Q 397 ls st G ↔ (pi_aload 0 398) (pcal d) Q lim (prL d lim Q) ls st G := prL_of rfl ls st G
set_option maxRecDepth 100000 in
theorem eL_law_398 {d : Nat} {lim : Nat × Nat} {Q : px_Q} {ls : px_L} {st : List Value} {G : px_H} : prL d lim Q 398 ls st G ↔ (pi_iload 3 399) (pcal d) Q lim (prL d lim Q) ls st G := prL_of rfl ls st G
set_option maxRecDepth 100000 in
theorem eL_law_399 {d : Nat} {lim : Nat × Nat} {Q : px_Q} {ls : px_L} {st : List Value} {G : px_H} : prL d lim Q 399 ls st G ↔ (pi_const (.int (1)) 400) (pcal d) Q lim (prL d lim Q) ls st G := prL_of rfl ls st G
set_option maxRecDepth 100000 in
theorem eL_law_400 {d : Nat} {lim : Nat × Nat} {Q : px_Q} {ls : px_L} {st : List Value} {G : px_H} : prL d lim Q 400 ls st G ↔ (pi_bin (fun x y => x + y) 401) (pcal d) Q lim (prL d lim Q) ls st G := prL_of rfl ls st G
set_option maxRecDepth 100000 in
theorem eL_law_401 {d : Nat} {lim : Nat × Nat} {Q : px_Q} {ls : px_L} {st : List Value} {G : px_H} : prL d lim Q 401 ls st G ↔ (pi_iald 402) (pcal d) Q lim (prL d lim Q) ls st G := prL_of rfl ls st G
set_option maxRecDepth 100000 in
theorem eL_law_402 {d : Nat} {lim : Nat × Nat} {Q : px_Q} {ls : px_L} {st : List Value} {G : px_H} : prL d lim Q 402 ls st G ↔ (pi_aload 0 403) (pcal d) Q lim (prL d lim Q) ls st G := prL_of rfl ls st G
set_option maxRecDepth 100000 in
theorem eL_law_403 {d : Nat} {lim : Nat × Nat} {Q : px_Q} {ls : px_L} {st : List Value} {G : px_H} : prL d lim Q 403 ls st G ↔ (pi_iload 3 404) (pcal d) Q lim (prL d lim Q) ls st G := prL_of rfl ls st G
set_option maxRecDepth 100000 in
theorem eL_law_404 {d : Nat} {lim : Nat × Nat} {Q : px_Q} {ls : px_L} {st : List Value} {G : px_H} : prL d lim Q 404 ls st G ↔ (pi_const (.int (2)) 405) (pcal d) Q lim (prL d lim Q) ls st G := prL_of rfl ls st G
set_option maxRecDepth 100000 in
theorem eL_law_405 {d : Nat} {lim : Nat × Nat} {Q : px_Q} {ls : px_L} {st : List Value} {G : px_H} : prL d lim Q 405 ls st G ↔ (pi_bin (fun x y => x + y) 406) (pcal d) Q lim (prL d lim Q) ls st G := prL_of rfl ls st G
set_option maxRecDepth 100000 in
theorem eL_law_406 {d : Nat} {lim : Nat × Nat} {Q : px_Q} {ls : px_L} {st : List Value} {G : px_H} : prL d lim Q 406 ls st G ↔ (pi_iald 407) (pcal d) Q lim (prL d lim Q) ls st G := prL_of rfl ls st G
set_option maxRecDepth 100000 in
theorem eL_law_407 {d : Nat} {lim : Nat × Nat} {Q : px_Q} {ls : px_L} {st : List Value} {G : px_H} : prL d lim Q 407 ls st G ↔ (pi_callV 121 2 7 410) (pcal d) Q lim (prL d lim Q) ls st G := prL_of rfl ls st G
set_option maxRecDepth 100000 in
theorem eL_law_410 {d : Nat} {lim : Nat × Nat} {Q : px_Q} {ls : px_L} {st : List Value} {G : px_H} : prL d lim Q 410 ls st G ↔ (pi_iceq 1156 413) (pcal d) Q lim (prL d lim Q) ls st G := prL_of rfl ls st G
set_option maxRecDepth 100000 in
theorem eL_law_413 {d : Nat} {lim : Nat × Nat} {Q : px_Q} {ls : px_L} {st : List Value} {G : px_H} : prL d lim Q 413 ls st G ↔ (pi_const (.int (0)) 414) (pcal d) Q lim (prL d lim Q) ls st G := prL_of rfl ls st G
set_option maxRecDepth 100000 in
theorem eL_law_414 {d : Nat} {lim : Nat × Nat} {Q : px_Q} {ls : px_L} {st : List Value} {G : px_H} : prL d lim Q 414 ls st G ↔ (pi_zret) (pcal d) Q lim (prL d lim Q) ls st G := prL_of rfl ls st G
set_option maxRecDepth 100000 in
theorem eL_law_415 {d : Nat} {lim : Nat × Nat} {Q : px_Q} {ls : px_L} {st : List Value} {G : px_H} : prL d lim Q 415 ls st G ↔ (pi_aload 1 416) (pcal d) Q lim (prL d lim Q) ls st G := prL_of rfl ls st G
set_option maxRecDepth 100000 in
theorem eL_law_416 {d : Nat} {lim : Nat × Nat} {Q : px_Q} {ls : px_L} {st : List Value} {G : px_H} : prL d lim Q 416 ls st G ↔ (pi_aload 0 417) (pcal d) Q lim (prL d lim Q) ls st G := prL_of rfl ls st G
set_option maxRecDepth 100000 in
theorem eL_law_417 {d : Nat} {lim : Nat × Nat} {Q : px_Q} {ls : px_L} {st : List Value} {G : px_H} : prL d lim Q 417 ls st G ↔ (pi_iload 3 418) (pcal d) Q lim (prL d lim Q) ls st G := prL_of rfl ls st G
set_option maxRecDepth 100000 in
theorem eL_law_418 {d : Nat} {lim : Nat × Nat} {Q : px_Q} {ls : px_L} {st : List Value} {G : px_H} : prL d lim Q 418 ls st G ↔ (pi_const (.int (1)) 419) (pcal d) Q lim (prL d lim Q) ls st G := prL_of rfl ls st G
set_option maxRecDepth 100000 in
theorem eL_law_419 {d : Nat} {lim : Nat × Nat} {Q : px_Q} {ls : px_L} {st : List Value} {G : px_H} : prL d lim Q 419 ls st G ↔ (pi_bin (fun x y => x + y) 420) (pcal d) Q lim (prL d lim Q) ls st G := prL_of rfl ls st G
set_option maxRecDepth 100000 in
theorem eL_law_420 {d : Nat} {lim : Nat × Nat} {Q : px_Q} {ls : px_L} {st : List Value} {G : px_H} : prL d lim Q 420 ls st G ↔ (pi_iald 421) (pcal d) Q lim (prL d lim Q) ls st G := prL_of rfl ls st G
set_option maxRecDepth 100000 in
theorem eL_law_421 {d : Nat} {lim : Nat × Nat} {Q : px_Q} {ls : px_L} {st : List Value} {G : px_H} : prL d lim Q 421 ls st G ↔ (pi_aload 0 422) (pcal d) Q lim (prL d lim Q) ls st G := prL_of rfl ls st G
set_option maxRecDepth 100000 in
theorem eL_law_422 {d : Nat} {lim : Nat × Nat} {Q : px_Q} {ls : px_L} {st : List Value} {G : px_H} : prL d lim Q 422 ls st G ↔ (pi_iload 3 423) (pcal d) Q lim (prL d lim Q) ls st G := prL_of rfl ls st G
set_option maxRecDepth 100000 in
theorem eL_law_423 {d : Nat} {lim : Nat × Nat} {Q : px_Q} {ls : px_L} {st : List Value} {G : px_H} : prL d lim Q 423 ls st G ↔ (pi_const (.int (2)) 424) (pcal d) Q lim (prL d lim Q) ls st G := prL_of rfl ls st G
set_option maxRecDepth 100000 in
theorem eL_law_424 {d : Nat} {lim : Nat × Nat} {Q : px_Q} {ls : px_L} {st : List Value} {G : px_H} : prL d lim Q 424 ls st G ↔ (pi_bin (fun x y => x + y) 425) (pcal d) Q lim (prL d lim Q) ls st G := prL_of rfl ls st G
set_option maxRecDepth 100000 in
theorem eL_law_425 {d : Nat} {lim : Nat × Nat} {Q : px_Q} {ls : px_L} {st : List Value} {G : px_H} : prL d lim Q 425 ls st G ↔ (pi_iald 426) (pcal d) Q lim (prL d lim Q) ls st G := prL_of rfl ls st G
set_option maxRecDepth 100000 in
theorem eL_law_426 {d : Nat} {lim : Nat × Nat} {Q : px_Q} {ls : px_L} {st : List Value} {G : px_H} : prL d lim Q 426 ls st G ↔ (pi_aload 0 427) (pcal d) Q lim (prL d lim Q) ls st G := prL_of rfl ls st G
set_option maxRecDepth 100000 in
theorem eL_law_427 {d : Nat} {lim : Nat × Nat} {Q : px_Q} {ls : px_L} {st : List Value} {G : px_H} : prL d lim Q 427 ls st G ↔ (pi_iload 3 428) (pcal d) Q lim (prL d lim Q) ls st G := prL_of rfl ls st G
set_option maxRecDepth 100000 in
theorem eL_law_428 {d : Nat} {lim : Nat × Nat} {Q : px_Q} {ls : px_L} {st : List Value} {G : px_H} : prL d lim Q 428 ls st G ↔ (pi_const (.int (3)) 429) (pcal d) Q lim (prL d lim Q) ls st G := prL_of rfl ls st G
set_option maxRecDepth 100000 in
theorem eL_law_429 {d : Nat} {lim : Nat × Nat} {Q : px_Q} {ls : px_L} {st : List Value} {G : px_H} : prL d lim Q 429 ls st G ↔ (pi_bin (fun x y => x + y) 430) (pcal d) Q lim (prL d lim Q) ls st G := prL_of rfl ls st G
set_option maxRecDepth 100000 in
theorem eL_law_430 {d : Nat} {lim : Nat × Nat} {Q : px_Q} {ls : px_L} {st : List Value} {G : px_H} : prL d lim Q 430 ls st G ↔ (pi_iald 431) (pcal d) Q lim (prL d lim Q) ls st G := prL_of rfl ls st G
set_option maxRecDepth 100000 in
theorem eL_law_431 {d : Nat} {lim : Nat × Nat} {Q : px_Q} {ls : px_L} {st : List Value} {G : px_H} : prL d lim Q 431 ls st G ↔ (pi_callV 55 3 6 434) (pcal d) Q lim (prL d lim Q) ls st G := prL_of rfl ls st G
set_option maxRecDepth 100000 in
theorem eL_law_434 {d : Nat} {lim : Nat × Nat} {Q : px_Q} {ls : px_L} {st : List Value} {G : px_H} : prL d lim Q 434 ls st G ↔ (pi_aload 2 435) (pcal d) Q lim (prL d lim Q) ls st G := prL_of rfl ls st G
set_option maxRecDepth 100000 in
theorem eL_law_435 {d : Nat} {lim : Nat × Nat} {Q : px_Q} {ls : px_L} {st : List Value} {G : px_H} : prL d lim Q 435 ls st G ↔ (pi_aload 0 436) (pcal d) Q lim (prL d lim Q) ls st G := prL_of rfl ls st G
set_option maxRecDepth 100000 in
theorem eL_law_436 {d : Nat} {lim : Nat × Nat} {Q : px_Q} {ls : px_L} {st : List Value} {G : px_H} : prL d lim Q 436 ls st G ↔ (pi_iload 3 437) (pcal d) Q lim (prL d lim Q) ls st G := prL_of rfl ls st G
set_option maxRecDepth 100000 in
theorem eL_law_437 {d : Nat} {lim : Nat × Nat} {Q : px_Q} {ls : px_L} {st : List Value} {G : px_H} : prL d lim Q 437 ls st G ↔ (pi_const (.int (1)) 438) (pcal d) Q lim (prL d lim Q) ls st G := prL_of rfl ls st G
set_option maxRecDepth 100000 in
theorem eL_law_438 {d : Nat} {lim : Nat × Nat} {Q : px_Q} {ls : px_L} {st : List Value} {G : px_H} : prL d lim Q 438 ls st G ↔ (pi_bin (fun x y => x + y) 439) (pcal d) Q lim (prL d lim Q) ls st G := prL_of rfl ls st G
set_option maxRecDepth 100000 in
theorem eL_law_439 {d : Nat} {lim : Nat × Nat} {Q : px_Q} {ls : px_L} {st : List Value} {G : px_H} : prL d lim Q 439 ls st G ↔ (pi_iald 440) (pcal d) Q lim (prL d lim Q) ls st G := prL_of rfl ls st G
set_option maxRecDepth 100000 in
theorem eL_law_440 {d : Nat} {lim : Nat × Nat} {Q : px_Q} {ls : px_L} {st : List Value} {G : px_H} : prL d lim Q 440 ls st G ↔ (pi_aload 0 441) (pcal d) Q lim (prL d lim Q) ls st G := prL_of rfl ls st G
set_option maxRecDepth 100000 in
theorem eL_law_441 {d : Nat} {lim : Nat × Nat} {Q : px_Q} {ls : px_L} {st : List Value} {G : px_H} : prL d lim Q 441 ls st G ↔ (pi_iload 3 442) (pcal d) Q lim (prL d lim Q) ls st G := prL_of rfl ls st G
set_option maxRecDepth 100000 in
theorem eL_law_442 {d : Nat} {lim : Nat × Nat} {Q : px_Q} {ls : px_L} {st : List Value} {G : px_H} : prL d lim Q 442 ls st G ↔ (pi_const (.int (2)) 443) (pcal d) Q lim (prL d lim Q) ls st G := prL_of rfl ls st G
set_option maxRecDepth 100000 in
theorem eL_law_443 {d : Nat} {lim : Nat × Nat} {Q : px_Q} {ls : px_L} {st : List Value} {G : px_H} : prL d lim Q 443 ls st G ↔ (pi_bin (fun x y => x + y) 444) (pcal d) Q lim (prL d lim Q) ls st G := prL_of rfl ls st G
set_option maxRecDepth 100000 in
theorem eL_law_444 {d : Nat} {lim : Nat × Nat} {Q : px_Q} {ls : px_L} {st : List Value} {G : px_H} : prL d lim Q 444 ls st G ↔ (pi_iald 445) (pcal d) Q lim (prL d lim Q) ls st G := prL_of rfl ls st G
set_option maxRecDepth 100000 in
theorem eL_law_445 {d : Nat} {lim : Nat × Nat} {Q : px_Q} {ls : px_L} {st : List Value} {G : px_H} : prL d lim Q 445 ls st G ↔ (pi_aload 0 446) (pcal d) Q lim (prL d lim Q) ls st G := prL_of rfl ls st G
set_option maxRecDepth 100000 in
theorem eL_law_446 {d : Nat} {lim : Nat × Nat} {Q : px_Q} {ls : px_L} {st : List Value} {G : px_H} : prL d lim Q 446 ls st G ↔ (pi_iload 3 447) (pcal d) Q lim (prL d lim Q) ls st G := prL_of rfl ls st G
set_option maxRecDepth 100000 in
theorem eL_law_447 {d : Nat} {lim : Nat × Nat} {Q : px_Q} {ls : px_L} {st : List Value} {G : px_H} : prL d lim Q 447 ls st G ↔ (pi_const (.int (3)) 448) (pcal d) Q lim (prL d lim Q) ls st G := prL_of rfl ls st G
set_option maxRecDepth 100000 in
theorem eL_law_448 {d : Nat} {lim : Nat × Nat} {Q : px_Q} {ls : px_L} {st : List Value} {G : px_H} : prL d lim Q 448 ls st G ↔ (pi_bin (fun x y => x + y) 449) (pcal d) Q lim (prL d lim Q) ls st G := prL_of rfl ls st G
set_option maxRecDepth 100000 in
theorem eL_law_449 {d : Nat} {lim : Nat × Nat} {Q : px_Q} {ls : px_L} {st : List Value} {G : px_H} : prL d lim Q 449 ls st G ↔ (pi_iald 450) (pcal d) Q lim (prL d lim Q) ls st G := prL_of rfl ls st G
set_option maxRecDepth 100000 in
theorem eL_law_450 {d : Nat} {lim : Nat × Nat} {Q : px_Q} {ls : px_L} {st : List Value} {G : px_H} : prL d lim Q 450 ls st G ↔ (pi_callV 122 3 7 453) (pcal d) Q lim (prL d lim Q) ls st G := prL_of rfl ls st G
set_option maxRecDepth 100000 in
theorem eL_law_453 {d : Nat} {lim : Nat × Nat} {Q : px_Q} {ls : px_L} {st : List Value} {G : px_H} : prL d lim Q 453 ls st G ↔ (pi_iceq 1156 456) (pcal d) Q lim (prL d lim Q) ls st G := prL_of rfl ls st G
set_option maxRecDepth 100000 in
theorem eL_law_456 {d : Nat} {lim : Nat × Nat} {Q : px_Q} {ls : px_L} {st : List Value} {G : px_H} : prL d lim Q 456 ls st G ↔ (pi_const (.int (0)) 457) (pcal d) Q lim (prL d lim Q) ls st G := prL_of rfl ls st G
set_option maxRecDepth 100000 in
theorem eL_law_457 {d : Nat} {lim : Nat × Nat} {Q : px_Q} {ls : px_L} {st : List Value} {G : px_H} : prL d lim Q 457 ls st G ↔ (pi_zret) (pcal d) Q lim (prL d lim Q) ls st G := prL_of rfl ls st G
set_option maxRecDepth 100000 in
theorem eL_law_458 {d : Nat} {lim : Nat × Nat} {Q : px_Q} {ls : px_L} {st : List Value} {G : px_H} : prL d lim Q 458 ls st G ↔ (pi_aload 1 459) (pcal d) Q lim (prL d lim Q) ls st G := prL_of rfl ls st G
set_option maxRecDepth 100000 in
theorem eL_law_459 {d : Nat} {lim : Nat × Nat} {Q : px_Q} {ls : px_L} {st : List Value} {G : px_H} : prL d lim Q 459 ls st G ↔ (pi_aload 0 460) (pcal d) Q lim (prL d lim Q) ls st G := prL_of rfl ls st G
set_option maxRecDepth 100000 in
theorem eL_law_460 {d : Nat} {lim : Nat × Nat} {Q : px_Q} {ls : px_L} {st : List Value} {G : px_H} : prL d lim Q 460 ls st G ↔ (pi_iload 3 461) (pcal d) Q lim (prL d lim Q) ls st G := prL_of rfl ls st G
set_option maxRecDepth 100000 in
theorem eL_law_461 {d : Nat} {lim : Nat × Nat} {Q : px_Q} {ls : px_L} {st : List Value} {G : px_H} : prL d lim Q 461 ls st G ↔ (pi_const (.int (1)) 462) (pcal d) Q lim (prL d lim Q) ls st G := prL_of rfl ls st G
set_option maxRecDepth 100000 in
theorem eL_law_462 {d : Nat} {lim : Nat × Nat} {Q : px_Q} {ls : px_L} {st : List Value} {G : px_H} : prL d lim Q 462 ls st G ↔ (pi_bin (fun x y => x + y) 463) (pcal d) Q lim (prL d lim Q) ls st G := prL_of rfl ls st G
set_option maxRecDepth 100000 in
theorem eL_law_463 {d : Nat} {lim : Nat × Nat} {Q : px_Q} {ls : px_L} {st : List Value} {G : px_H} : prL d lim Q 463 ls st G ↔ (pi_iald 464) (pcal d) Q lim (prL d lim Q) ls st G := prL_of rfl ls st G
set_option maxRecDepth 100000 in
theorem eL_law_464 {d : Nat} {lim : Nat × Nat} {Q : px_Q} {ls : px_L} {st : List Value} {G : px_H} : prL d lim Q 464 ls st G ↔ (pi_aload 0 465) (pcal d) Q lim (prL d lim Q) ls st G := prL_of rfl ls st G
set_option maxRecDepth 100000 in
theorem eL_law_465 {d : Nat} {lim : Nat × Nat} {Q : px_Q} {ls : px_L} {st : List Value} {G : px_H} : prL d lim Q 465 ls st G ↔ (pi_iload 3 466) (pcal d) Q lim (prL d lim Q) ls st G := prL_of rfl ls st G
set_option maxRecDepth 100000 in
theorem eL_law_466 {d : Nat} {lim : Nat × Nat} {Q : px_Q} {ls : px_L} {st : List Value} {G : px_H} : prL d lim Q 466 ls st G ↔ (pi_const (.int (2)) 467) (pcal d) Q lim (prL d lim Q) ls st G := prL_of rfl ls st G
set_option maxRecDepth 100000 in
theorem eL_law_467 {d : Nat} {lim : Nat × Nat} {Q : px_Q} {ls : px_L} {st : List Value} {G : px_H} : prL d lim Q 467 ls st G ↔ (pi_bin (fun x y => x + y) 468) (pcal d) Q lim (prL d lim Q) ls st G := prL_of rfl ls st G
set_option maxRecDepth 100000 in
theorem eL_law_468 {d : Nat} {lim : Nat × Nat} {Q : px_Q} {ls : px_L} {st : List Value} {G : px_H} : prL d lim Q 468 ls st G ↔ (pi_iald 469) (pcal d) Q lim (prL d lim Q) ls st G := prL_of rfl ls st G
set_option maxRecDepth 100000 in
theorem eL_law_469 {d : Nat} {lim : Nat × Nat} {Q : px_Q} {ls : px_L} {st : List Value} {G : px_H} : prL d lim Q 469 ls st G ↔ (pi_aload 0 470) (pcal d) Q lim (prL d lim Q) ls st G := prL_of rfl ls st G
set_option maxRecDepth 100000 in
theorem eL_law_470 {d : Nat} {lim : Nat × Nat} {Q : px_Q} {ls : px_L} {st : List Value} {G : px_H} : prL d lim Q 470 ls st G ↔ (pi_iload 3 471) (pcal d) Q lim (prL d lim Q) ls st G := prL_of rfl ls st G
set_option maxRecDepth 100000 in
theorem eL_law_471 {d : Nat} {lim : Nat × Nat} {Q : px_Q} {ls : px_L} {st : List Value} {G : px_H} : prL d lim Q 471 ls st G ↔ (pi_const (.int (3)) 472) (pcal d) Q lim (prL d lim Q) ls st G := prL_of rfl ls st G
set_option maxRecDepth 100000 in
theorem eL_law_472 {d : Nat} {lim : Nat × Nat} {Q : px_Q} {ls : px_L} {st : List Value} {G : px_H} : prL d lim Q 472 ls st G ↔ (pi_bin (fun x y => x + y) 473) (pcal d) Q lim (prL d lim Q) ls st G := prL_of rfl ls st G
set_option maxRecDepth 100000 in
theorem eL_law_473 {d : Nat} {lim : Nat × Nat} {Q : px_Q} {ls : px_L} {st : List Value} {G : px_H} : prL d lim Q 473 ls st G ↔ (pi_iald 474) (pcal d) Q lim (prL d lim Q) ls st G := prL_of rfl ls st G
set_option maxRecDepth 100000 in
theorem eL_law_474 {d : Nat} {lim : Nat × Nat} {Q : px_Q} {ls : px_L} {st : List Value} {G : px_H} : prL d lim Q 474 ls st G ↔ (pi_callV 56 3 6 477) (pcal d) Q lim (prL d lim Q) ls st G := prL_of rfl ls st G
set_option maxRecDepth 100000 in
theorem eL_law_477 {d : Nat} {lim : Nat × Nat} {Q : px_Q} {ls : px_L} {st : List Value} {G : px_H} : prL d lim Q 477 ls st G ↔ (pi_aload 2 478) (pcal d) Q lim (prL d lim Q) ls st G := prL_of rfl ls st G
set_option maxRecDepth 100000 in
theorem eL_law_478 {d : Nat} {lim : Nat × Nat} {Q : px_Q} {ls : px_L} {st : List Value} {G : px_H} : prL d lim Q 478 ls st G ↔ (pi_aload 0 479) (pcal d) Q lim (prL d lim Q) ls st G := prL_of rfl ls st G
set_option maxRecDepth 100000 in
theorem eL_law_479 {d : Nat} {lim : Nat × Nat} {Q : px_Q} {ls : px_L} {st : List Value} {G : px_H} : prL d lim Q 479 ls st G ↔ (pi_iload 3 480) (pcal d) Q lim (prL d lim Q) ls st G := prL_of rfl ls st G
set_option maxRecDepth 100000 in
theorem eL_law_480 {d : Nat} {lim : Nat × Nat} {Q : px_Q} {ls : px_L} {st : List Value} {G : px_H} : prL d lim Q 480 ls st G ↔ (pi_const (.int (1)) 481) (pcal d) Q lim (prL d lim Q) ls st G := prL_of rfl ls st G
set_option maxRecDepth 100000 in
theorem eL_law_481 {d : Nat} {lim : Nat × Nat} {Q : px_Q} {ls : px_L} {st : List Value} {G : px_H} : prL d lim Q 481 ls st G ↔ (pi_bin (fun x y => x + y) 482) (pcal d) Q lim (prL d lim Q) ls st G := prL_of rfl ls st G
set_option maxRecDepth 100000 in
theorem eL_law_482 {d : Nat} {lim : Nat × Nat} {Q : px_Q} {ls : px_L} {st : List Value} {G : px_H} : prL d lim Q 482 ls st G ↔ (pi_iald 483) (pcal d) Q lim (prL d lim Q) ls st G := prL_of rfl ls st G
set_option maxRecDepth 100000 in
theorem eL_law_483 {d : Nat} {lim : Nat × Nat} {Q : px_Q} {ls : px_L} {st : List Value} {G : px_H} : prL d lim Q 483 ls st G ↔ (pi_aload 0 484) (pcal d) Q lim (prL d lim Q) ls st G := prL_of rfl ls st G
set_option maxRecDepth 100000 in
theorem eL_law_484 {d : Nat} {lim : Nat × Nat} {Q : px_Q} {ls : px_L} {st : List Value} {G : px_H} : prL d lim Q 484 ls st G ↔ (pi_iload 3 485) (pcal d) Q lim (prL d lim Q) ls st G := prL_of rfl ls st G
set_option maxRecDepth 100000 in
theorem eL_law_485 {d : Nat} {lim : Nat × Nat} {Q : px_Q} {ls : px_L} {st : List Value} {G : px_H} : prL d lim Q 485 ls st G ↔ (pi_const (.int (2)) 486) (pcal d) Q lim (prL d lim Q) ls st G := prL_of rfl ls st G
set_option maxRecDepth 100000 in
theorem eL_law_486 {d : Nat} {lim : Nat × Nat} {Q : px_Q} {ls : px_L} {st : List Value} {G : px_H} : prL d lim Q 486 ls st G ↔ (pi_bin (fun x y => x + y) 487) (pcal d) Q lim (prL d lim Q) ls st G := prL_of rfl ls st G
set_option maxRecDepth 100000 in
theorem eL_law_487 {d : Nat} {lim : Nat × Nat} {Q : px_Q} {ls : px_L} {st : List Value} {G : px_H} : prL d lim Q 487 ls st G ↔ (pi_iald 488) (pcal d) Q lim (prL d lim Q) ls st G := prL_of rfl ls st G
set_option maxRecDepth 100000 in
theorem eL_law_488 {d : Nat} {lim : Nat × Nat} {Q : px_Q} {ls : px_L} {st : List Value} {G : px_H} : prL d lim Q 488 ls st G ↔ (pi_aload 0 489) (pcal d) Q lim (prL d lim Q) ls st G := prL_of rfl ls st G
set_option maxRecDepth 100000 in
theorem eL_law_489 {d : Nat} {lim : Nat × Nat} {Q : px_Q} {ls : px_L} {st : List Value} {G : px_H} : prL d lim Q 489 ls st G ↔ (pi_iload 3 490) (pcal d) Q lim (prL d lim Q) ls st G := prL_of rfl ls st G
set_option maxRecDepth 100000 in
theorem eL_law_490 {d : Nat} {lim : Nat × Nat} {Q : px_Q} {ls : px_L} {st : List Value} {G : px_H} : prL d lim Q 490 ls st G ↔ (pi_const (.int (3)) 491) (pcal d) Q lim (prL d lim Q) ls st G := prL_of rfl ls st G
set_option maxRecDepth 100000 in
theorem eL_law_491 {d : Nat} {lim : Nat × Nat} {Q : px_Q} {ls : px_L} {st : List Value} {G : px_H} : prL d lim Q 491 ls st G ↔ (pi_bin (fun x y => x + y) 492) (pcal d) Q lim (prL d lim Q) ls st G := prL_of rfl ls st G
set_option maxRecDepth 100000 in
theorem eL_law_492 {d : Nat} {lim : Nat × Nat} {Q : px_Q} {ls : px_L} {st : List Value} {G : px_H} : prL d lim Q 492 ls st G ↔ (pi_iald 493) (pcal d) Q lim (prL d lim Q) ls st G := prL_of rfl ls st G
set_option maxRecDepth 100000 in
theorem eL_law_493 {d : Nat} {lim : Nat × Nat} {Q : px_Q} {ls : px_L} {st : List Value} {G : px_H} : prL d lim Q 493 ls st G ↔ (pi_callV 124 3 7 496) (pcal d) Q lim (prL d lim Q) ls st G := prL_of rfl ls st G
set_option maxRecDepth 100000 in
theorem eL_law_496 {d : Nat} {lim : Nat × Nat} {Q : px_Q} {ls : px_L} {st : List Value} {G : px_H} : prL d lim Q 496 ls st G ↔ (pi_iceq 1156 499) (pcal d) Q lim (prL d lim Q) ls st G := prL_of rfl ls st G
set_option maxRecDepth 100000 in
theorem eL_law_499 {d : Nat} {lim : Nat × Nat} {Q : px_Q} {ls : px_L} {st : List Value} {G : px_H} : prL d lim Q 499 ls st G ↔ (pi_const (.int (0)) 500) (pcal d) Q lim (prL d lim Q) ls st G := prL_of rfl ls st G
set_option maxRecDepth 100000 in
theorem eL_law_500 {d : Nat} {lim : Nat × Nat} {Q : px_Q} {ls : px_L} {st : List Value} {G : px_H} : prL d lim Q 500 ls st G ↔ (pi_zret) (pcal d) Q lim (prL d lim Q) ls st G := prL_of rfl ls st G
set_option maxRecDepth 100000 in
theorem eL_law_501 {d : Nat} {lim : Nat × Nat} {Q : px_Q} {ls : px_L} {st : List Value} {G : px_H} : prL d lim Q 501 ls st G ↔ (pi_aload 1 502) (pcal d) Q lim (prL d lim Q) ls st G := prL_of rfl ls st G
set_option maxRecDepth 100000 in
theorem eL_law_502 {d : Nat} {lim : Nat × Nat} {Q : px_Q} {ls : px_L} {st : List Value} {G : px_H} : prL d lim Q 502 ls st G ↔ (pi_aload 0 503) (pcal d) Q lim (prL d lim Q) ls st G := prL_of rfl ls st G
set_option maxRecDepth 100000 in
theorem eL_law_503 {d : Nat} {lim : Nat × Nat} {Q : px_Q} {ls : px_L} {st : List Value} {G : px_H} : prL d lim Q 503 ls st G ↔ (pi_iload 3 504) (pcal d) Q lim (prL d lim Q) ls st G := prL_of rfl ls st G
set_option maxRecDepth 100000 in
theorem eL_law_504 {d : Nat} {lim : Nat × Nat} {Q : px_Q} {ls : px_L} {st : List Value} {G : px_H} : prL d lim Q 504 ls st G ↔ (pi_const (.int (1)) 505) (pcal d) Q lim (prL d lim Q) ls st G := prL_of rfl ls st G
set_option maxRecDepth 100000 in
theorem eL_law_505 {d : Nat} {lim : Nat × Nat} {Q : px_Q} {ls : px_L} {st : List Value} {G : px_H} : prL d lim Q 505 ls st G ↔ (pi_bin (fun x y => x + y) 506) (pcal d) Q lim (prL d lim Q) ls st G := prL_of rfl ls st G
set_option maxRecDepth 100000 in
theorem eL_law_506 {d : Nat} {lim : Nat × Nat} {Q : px_Q} {ls : px_L} {st : List Value} {G : px_H} : prL d lim Q 506 ls st G ↔ (pi_iald 507) (pcal d) Q lim (prL d lim Q) ls st G := prL_of rfl ls st G
set_option maxRecDepth 100000 in
theorem eL_law_507 {d : Nat} {lim : Nat × Nat} {Q : px_Q} {ls : px_L} {st : List Value} {G : px_H} : prL d lim Q 507 ls st G ↔ (pi_aload 0 508) (pcal d) Q lim (prL d lim Q) ls st G := prL_of rfl ls st G
set_option maxRecDepth 100000 in
theorem eL_law_508 {d : Nat} {lim : Nat × Nat} {Q : px_Q} {ls : px_L} {st : List Value} {G : px_H} : prL d lim Q 508 ls st G ↔ (pi_iload 3 509) (pcal d) Q lim (prL d lim Q) ls st G := prL_of rfl ls st G
set_option maxRecDepth 100000 in
theorem eL_law_509 {d : Nat} {lim : Nat × Nat} {Q : px_Q} {ls : px_L} {st : List Value} {G : px_H} : prL d lim Q 509 ls st G ↔ (pi_const (.int (2)) 510) (pcal d) Q lim (prL d lim Q) ls st G := prL_of rfl ls st G
set_option maxRecDepth 100000 in
theorem eL_law_510 {d : Nat} {lim : Nat × Nat} {Q : px_Q} {ls : px_L} {st : List Value} {G : px_H} : prL d lim Q 510 ls st G ↔ (pi_bin (fun x y => x + y) 511) (pcal d) Q lim (prL d lim Q) ls st G := prL_of rfl ls st G
set_option maxRecDepth 100000 in
theorem eL_law_511 {d : Nat} {lim : Nat × Nat} {Q : px_Q} {ls : px_L} {st : List Value} {G : px_H} : prL d lim Q 511 ls st G ↔ (pi_iald 512) (pcal d) Q lim (prL d lim Q) ls st G := prL_of rfl ls st G
set_option maxRecDepth 100000 in
theorem eL_law_512 {d : Nat} {lim : Nat × Nat} {Q : px_Q} {ls : px_L} {st : List Value} {G : px_H} : prL d lim Q 512 ls st G ↔ (pi_ifeq 519 515) (pcal d) Q lim (prL d lim Q) ls st G := prL_of rfl ls st G
set_option maxRecDepth 100000 in
theorem eL_law_515 {d : Nat} {lim : Nat × Nat} {Q : px_Q} {ls : px_L} {st : List Value} {G : px_H} : prL d lim Q 515 ls st G ↔ (pi_const (.int (1)) 516) (pcal d) Q lim (prL d lim Q) ls st G := prL_of rfl ls st G
set_option maxRecDepth 100000 in
theorem eL_law_516 {d : Nat} {lim : Nat × Nat} {Q : px_Q} {ls : px_L} {st : List Value} {G : px_H} : prL d lim Q 516 ls st G ↔ (pi_goto 520) (pcal d) Q lim (prL d lim Q) ls st G := prL_of rfl ls st G
set_option maxRecDepth 100000 in
theorem eL_law_519 {d : Nat} {lim : Nat × Nat} {Q : px_Q} {ls : px_L} {st : List Value} {G : px_H} : prL d lim Q 519 ls st G ↔ (pi_const (.int (0)) 520) (pcal d) Q lim (prL d lim Q) ls st G := prL_of rfl ls st G
set_option maxRecDepth 100000 in
theorem eL_law_520 {d : Nat} {lim : Nat × Nat} {Q : px_Q} {ls : px_L} {st : List Value} {G : px_H} : prL d lim Q 520 ls st G ↔ (pi_callV 57 2 6 523) (pcal d) Q lim (prL d lim Q) ls st G := prL_of rfl ls st G
set_option maxRecDepth 100000 in
theorem eL_law_523 {d : Nat} {lim : Nat × Nat} {Q : px_Q} {ls : px_L} {st : List Value} {G : px_H} : prL d lim Q 523 ls st G ↔ (pi_aload 2 524) (pcal d) Q lim (prL d lim Q) ls st G := prL_of rfl ls st G
set_option maxRecDepth 100000 in
theorem eL_law_524 {d : Nat} {lim : Nat × Nat} {Q : px_Q} {ls : px_L} {st : List Value} {G : px_H} : prL d lim Q 524 ls st G ↔ (pi_aload 0 525) (pcal d) Q lim (prL d lim Q) ls st G := prL_of rfl ls st G
set_option maxRecDepth 100000 in
theorem eL_law_525 {d : Nat} {lim : Nat × Nat} {Q : px_Q} {ls : px_L} {st : List Value} {G : px_H} : prL d lim Q 525 ls st G ↔ (pi_iload 3 526) (pcal d) Q lim (prL d lim Q) ls st G := prL_of rfl ls st G
set_option maxRecDepth 100000 in
theorem eL_law_526 {d : Nat} {lim : Nat × Nat} {Q : px_Q} {ls : px_L} {st : List Value} {G : px_H} : prL d lim Q 526 ls st G ↔ (pi_const (.int (1)) 527) (pcal d) Q lim (prL d lim Q) ls st G := prL_of rfl ls st G
set_option maxRecDepth 100000 in
theorem eL_law_527 {d : Nat} {lim : Nat × Nat} {Q : px_Q} {ls : px_L} {st : List Value} {G : px_H} : prL d lim Q 527 ls st G ↔ (pi_bin (fun x y => x + y) 528) (pcal d) Q lim (prL d lim Q) ls st G := prL_of rfl ls st G
set_option maxRecDepth 100000 in
theorem eL_law_528 {d : Nat} {lim : Nat × Nat} {Q : px_Q} {ls : px_L} {st : List Value} {G : px_H} : prL d lim Q 528 ls st G ↔ (pi_iald 529) (pcal d) Q lim (prL d lim Q) ls st G := prL_of rfl ls st G
set_option maxRecDepth 100000 in
theorem eL_law_529 {d : Nat} {lim : Nat × Nat} {Q : px_Q} {ls : px_L} {st : List Value} {G : px_H} : prL d lim Q 529 ls st G ↔ (pi_aload 0 530) (pcal d) Q lim (prL d lim Q) ls st G := prL_of rfl ls st G
set_option maxRecDepth 100000 in
theorem eL_law_530 {d : Nat} {lim : Nat × Nat} {Q : px_Q} {ls : px_L} {st : List Value} {G : px_H} : prL d lim Q 530 ls st G ↔ (pi_iload 3 531) (pcal d) Q lim (prL d lim Q) ls st G := prL_of rfl ls st G
set_option maxRecDepth 100000 in
theorem eL_law_531 {d : Nat} {lim : Nat × Nat} {Q : px_Q} {ls : px_L} {st : List Value} {G : px_H} : prL d lim Q 531 ls st G ↔ (pi_const (.int (2)) 532) (pcal d) Q lim (prL d lim Q) ls st G := prL_of rfl ls st G
set_option maxRecDepth 100000 in
theorem eL_law_532 {d : Nat} {lim : Nat × Nat} {Q : px_Q} {ls : px_L} {st : List Value} {G : px_H} : prL d lim Q 532 ls st G ↔ (pi_bin (fun x y => x + y) 533) (pcal d) Q lim (prL d lim Q) ls st G := prL_of rfl ls st G
set_option maxRecDepth 100000 in
theorem eL_law_533 {d : Nat} {lim : Nat × Nat} {Q : px_Q} {ls : px_L} {st : List Value} {G : px_H} : prL d lim Q 533 ls st G ↔ (pi_iald 534) (pcal d) Q lim (prL d lim Q) ls st G := prL_of rfl ls st G
set_option maxRecDepth 100000 in
theorem eL_law_534 {d : Nat} {lim : Nat × Nat} {Q : px_Q} {ls : px_L} {st : List Value} {G : px_H} : prL d lim Q 534 ls st G ↔ (pi_ifeq 541 537) (pcal d) Q lim (prL d lim Q) ls st G := prL_of rfl ls st G
set_option maxRecDepth 100000 in
theorem eL_law_537 {d : Nat} {lim : Nat × Nat} {Q : px_Q} {ls : px_L} {st : List Value} {G : px_H} : prL d lim Q 537 ls st G ↔ (pi_const (.int (1)) 538) (pcal d) Q lim (prL d lim Q) ls st G := prL_of rfl ls st G
set_option maxRecDepth 100000 in
theorem eL_law_538 {d : Nat} {lim : Nat × Nat} {Q : px_Q} {ls : px_L} {st : List Value} {G : px_H} : prL d lim Q 538 ls st G ↔ (pi_goto 542) (pcal d) Q lim (prL d lim Q) ls st G := prL_of rfl ls st G
set_option maxRecDepth 100000 in
theorem eL_law_541 {d : Nat} {lim : Nat × Nat} {Q : px_Q} {ls : px_L} {st : List Value} {G : px_H} : prL d lim Q 541 ls st G ↔ (pi_const (.int (0)) 542) (pcal d) Q lim (prL d lim Q) ls st G := prL_of rfl ls st G
set_option maxRecDepth 100000 in
theorem eL_law_542 {d : Nat} {lim : Nat × Nat} {Q : px_Q} {ls : px_L} {st : List Value} {G : px_H} : prL d lim Q 542 ls st G ↔ (pi_callV 127 2 7 545) (pcal d) Q lim (prL d lim Q) ls st G := prL_of rfl ls st G
set_option maxRecDepth 100000 in
theorem eL_law_545 {d : Nat} {lim : Nat × Nat} {Q : px_Q} {ls : px_L} {st : List Value} {G : px_H} : prL d lim Q 545 ls st G ↔ (pi_iceq 1156 548) (pcal d) Q lim (prL d lim Q) ls st G := prL_of rfl ls st G
set_option maxRecDepth 100000 in
theorem eL_law_548 {d : Nat} {lim : Nat × Nat} {Q : px_Q} {ls : px_L} {st : List Value} {G : px_H} : prL d lim Q 548 ls st G ↔ (pi_const (.int (0)) 549) (pcal d) Q lim (prL d lim Q) ls st G := prL_of rfl ls st G
set_option maxRecDepth 100000 in
theorem eL_law_549 {d : Nat} {lim : Nat × Nat} {Q : px_Q} {ls : px_L} {st : List Value} {G : px_H} : prL d lim Q 549 ls st G ↔ (pi_zret) (pcal d) Q lim (prL d lim Q) ls st G := prL_of rfl ls st G
set_option maxRecDepth 100000 in
theorem eL_law_550 {d : Nat} {lim : Nat × Nat} {Q : px_Q} {ls : px_L} {st : List Value} {G : px_H} : prL d lim Q 550 ls st G ↔ (pi_aload 1 551) (pcal d) Q lim (prL d lim Q) ls st G := prL_of rfl ls st G
set_option maxRecDepth 100000 in
theorem eL_law_551 {d : Nat} {lim : Nat × Nat} {Q : px_Q} {ls : px_L} {st : List Value} {G : px_H} : prL d lim Q 551 ls st G ↔ (pi_aload 0 552) (pcal d) Q lim (prL d lim Q) ls st G := prL_of rfl ls st G
set_option maxRecDepth 100000 in
theorem eL_law_552 {d : Nat} {lim : Nat × Nat} {Q : px_Q} {ls : px_L} {st : List Value} {G : px_H} : prL d lim Q 552 ls st G ↔ (pi_iload 3 553) (pcal d) Q lim (prL d lim Q) ls st G := prL_of rfl ls st G
set_option maxRecDepth 100000 in
theorem eL_law_553 {d : Nat} {lim : Nat × Nat} {Q : px_Q} {ls : px_L} {st : List Value} {G : px_H} : prL d lim Q 553 ls st G ↔ (pi_const (.int (1)) 554) (pcal d) Q lim (prL d lim Q) ls st G := prL_of rfl ls st G
set_option maxRecDepth 100000 in
theorem eL_law_554 {d : Nat} {lim : Nat × Nat} {Q : px_Q} {ls : px_L} {st : List Value} {G : px_H} : prL d lim Q 554 ls st G ↔ (pi_bin (fun x y => x + y) 555) (pcal d) Q lim (prL d lim Q) ls st G := prL_of rfl ls st G
set_option maxRecDepth 100000 in
theorem eL_law_555 {d : Nat} {lim : Nat × Nat} {Q : px_Q} {ls : px_L} {st : List Value} {G : px_H} : prL d lim Q 555 ls st G ↔ (pi_iald 556) (pcal d) Q lim (prL d lim Q) ls st G := prL_of rfl ls st G
set_option maxRecDepth 100000 in
theorem eL_law_556 {d : Nat} {lim : Nat × Nat} {Q : px_Q} {ls : px_L} {st : List Value} {G : px_H} : prL d lim Q 556 ls st G ↔ (pi_aload 0 557) (pcal d) Q lim (prL d lim Q) ls st G := prL_of rfl ls st G
set_option maxRecDepth 100000 in
theorem eL_law_557 {d : Nat} {lim : Nat × Nat} {Q : px_Q} {ls : px_L} {st : List Value} {G : px_H} : prL d lim Q 557 ls st G ↔ (pi_iload 3 558) (pcal d) Q lim (prL d lim Q) ls st G := prL_of rfl ls st G
set_option maxRecDepth 100000 in
theorem eL_law_558 {d : Nat} {lim : Nat × Nat} {Q : px_Q} {ls : px_L} {st : List Value} {G : px_H} : prL d lim Q 558 ls st G ↔ (pi_const (.int (2)) 559) (pcal d) Q lim (prL d lim Q) ls st G := prL_of rfl ls st G
set_option maxRecDepth 100000 in
theorem eL_law_559 {d : Nat} {lim : Nat × Nat} {Q : px_Q} {ls : px_L} {st : List Value} {G : px_H} : prL d lim Q 559 ls st G ↔ (pi_bin (fun x y => x + y) 560) (pcal d) Q lim (prL d lim Q) ls st G := prL_of rfl ls st G
set_option maxRecDepth 100000 in
theorem eL_law_560 {d : Nat} {lim : Nat × Nat} {Q : px_Q} {ls : px_L} {st : List Value} {G : px_H} : prL d lim Q 560 ls st G ↔ (pi_iald 561) (pcal d) Q lim (prL d lim Q) ls st G := prL_of rfl ls st G
set_option maxRecDepth 100000 in
theorem eL_law_561 {d : Nat} {lim : Nat × Nat} {Q : px_Q} {ls : px_L} {st : List Value} {G : px_H} : prL d lim Q 561 ls st G ↔ (pi_callV 58 2 6 564) (pcal d) Q lim (prL d lim Q) ls st G := prL_of rfl ls st G
set_option maxRecDepth 100000 in
theorem eL_law_564 {d : Nat} {lim : Nat × Nat} {Q : px_Q} {ls : px_L} {st : List Value} {G : px_H} : prL d lim Q 564 ls st G ↔ (pi_aload 2 565) (pcal d) Q lim (prL d lim Q) ls st G := prL_of rfl ls st G
set_option maxRecDepth 100000 in
theorem eL_law_565 {d : Nat} {lim : Nat × Nat} {Q : px_Q} {ls : px_L} {st : List Value} {G : px_H} : prL d lim Q 565 ls st G ↔ (pi_aload 0 566) (pcal d) Q lim (prL d lim Q) ls st G := prL_of rfl ls st G
set_option maxRecDepth 100000 in
theorem eL_law_566 {d : Nat} {lim : Nat × Nat} {Q : px_Q} {ls : px_L} {st : List Value} {G : px_H} : prL d lim Q 566 ls st G ↔ (pi_iload 3 567) (pcal d) Q lim (prL d lim Q) ls st G := prL_of rfl ls st G
set_option maxRecDepth 100000 in
theorem eL_law_567 {d : Nat} {lim : Nat × Nat} {Q : px_Q} {ls : px_L} {st : List Value} {G : px_H} : prL d lim Q 567 ls st G ↔ (pi_const (.int (1)) 568) (pcal d) Q lim (prL d lim Q) ls st G := prL_of rfl ls st G
set_option maxRecDepth 100000 in
theorem eL_law_568 {d : Nat} {lim : Nat × Nat} {Q : px_Q} {ls : px_L} {st : List Value} {G : px_H} : prL d lim Q 568 ls st G ↔ (pi_bin (fun x y => x + y) 569) (pcal d) Q lim (prL d lim Q) ls st G := prL_of rfl ls st G
set_option maxRecDepth 100000 in
theorem eL_law_569 {d : Nat} {lim : Nat × Nat} {Q : px_Q} {ls : px_L} {st : List Value} {G : px_H} : prL d lim Q 569 ls st G ↔ (pi_iald 570) (pcal d) Q lim (prL d lim Q) ls st G := prL_of rfl ls st G
set_option maxRecDepth 100000 in
theorem eL_law_570 {d : Nat} {lim : Nat × Nat} {Q : px_Q} {ls : px_L} {st : List Value} {G : px_H} : prL d lim Q 570 ls st G ↔ (pi_aload 0 571) (pcal d) Q lim (prL d lim Q) ls st G := prL_of rfl ls st G
set_option maxRecDepth 100000 in
theorem eL_law_571 {d : Nat} {lim : Nat × Nat} {Q : px_Q} {ls : px_L} {st : List Value} {G : px_H} : prL d lim Q 571 ls st G ↔ (pi_iload 3 572) (pcal d) Q lim (prL d lim Q) ls st G := prL_of rfl ls st G
set_option maxRecDepth 100000 in
theorem eL_law_572 {d : Nat} {lim : Nat × Nat} {Q : px_Q} {ls : px_L} {st : List Value} {G : px_H} : prL d lim Q 572 ls st G ↔ (pi_const (.int (2)) 573) (pcal d) Q lim (prL d lim Q) ls st G := prL_of rfl ls st G
set_option maxRecDepth 100000 in
theorem eL_law_573 {d : Nat} {lim : Nat × Nat} {Q : px_Q} {ls : px_L} {st : List Value} {G : px_H} : prL d lim Q 573 ls st G ↔ (pi_bin (fun x y => x + y) 574) (pcal d) Q lim (prL d lim Q) ls st G := prL_of rfl ls st G
set_option maxRecDepth 100000 in
theorem eL_law_574 {d : Nat} {lim : Nat × Nat} {Q : px_Q} {ls : px_L} {st : List Value} {G : px_H} : prL d lim Q 574 ls st G ↔ (pi_iald 575) (pcal d) Q lim (prL d lim Q) ls st G := prL_of rfl ls st G
set_option maxRecDepth 100000 in
theorem eL_law_575 {d : Nat} {lim : Nat × Nat} {Q : px_Q} {ls : px_L} {st : List Value} {G : px_H} : prL d lim Q 575 ls st G ↔ (pi_callV 128 2 7 578) (pcal d) Q lim (prL d lim Q) ls st G := prL_of rfl ls st G
set_option maxRecDepth 100000 in
theorem eL_law_578 {d : Nat} {lim : Nat × Nat} {Q : px_Q} {ls : px_L} {st : List Value} {G : px_H} : prL d lim Q 578 ls st G ↔ (pi_iceq 1156 581) (pcal d) Q lim (prL d lim Q) ls st G := prL_of rfl ls st G
set_option maxRecDepth 100000 in
theorem eL_law_581 {d : Nat} {lim : Nat × Nat} {Q : px_Q} {ls : px_L} {st : List Value} {G : px_H} : prL d lim Q 581 ls st G ↔ (pi_const (.int (0)) 582) (pcal d) Q lim (prL d lim Q) ls st G := prL_of rfl ls st G
set_option maxRecDepth 100000 in
theorem eL_law_582 {d : Nat} {lim : Nat × Nat} {Q : px_Q} {ls : px_L} {st : List Value} {G : px_H} : prL d lim Q 582 ls st G ↔ (pi_zret) (pcal d) Q lim (prL d lim Q) ls st G := prL_of rfl ls st G
set_option maxRecDepth 100000 in
theorem eL_law_583 {d : Nat} {lim : Nat × Nat} {Q : px_Q} {ls : px_L} {st : List Value} {G : px_H} : prL d lim Q 583 ls st G ↔ (pi_aload 1 584) (pcal d) Q lim (prL d lim Q) ls st G := prL_of rfl ls st G
set_option maxRecDepth 100000 in
theorem eL_law_584 {d : Nat} {lim : Nat × Nat} {Q : px_Q} {ls : px_L} {st : List Value} {G : px_H} : prL d lim Q 584 ls st G ↔ (pi_aload 0 585) (pcal d) Q lim (prL d lim Q) ls st G := prL_of rfl ls st G
set_option maxRecDepth 100000 in
theorem eL_law_585 {d : Nat} {lim : Nat × Nat} {Q : px_Q} {ls : px_L} {st : List Value} {G : px_H} : prL d lim Q 585 ls st G ↔ (pi_iload 3 586) (pcal d) Q lim (prL d lim Q) ls st G := prL_of rfl ls st G
set_option maxRecDepth 100000 in
theorem eL_law_586 {d : Nat} {lim : Nat × Nat} {Q : px_Q} {ls : px_L} {st : List Value} {G : px_H} : prL d lim Q 586 ls st G ↔ (pi_const (.int (1)) 587) (pcal d) Q lim (prL d lim Q) ls st G := prL_of rfl ls st G
set_option maxRecDepth 100000 in
theorem eL_law_587 {d : Nat} {lim : Nat × Nat} {Q : px_Q} {ls : px_L} {st : List Value} {G : px_H} : prL d lim Q 587 ls st G ↔ (pi_bin (fun x y => x + y) 588) (pcal d) Q lim (prL d lim Q) ls st G := prL_of rfl ls st G
set_option maxRecDepth 100000 in
theorem eL_law_588 {d : Nat} {lim : Nat × Nat} {Q : px_Q} {ls : px_L} {st : List Value} {G : px_H} : prL d lim Q 588 ls st G ↔ (pi_iald 589) (pcal d) Q lim (prL d lim Q) ls st G := prL_of rfl ls st G
set_option maxRecDepth 100000 in
theorem eL_law_589 {d : Nat} {lim : Nat × Nat} {Q : px_Q} {ls : px_L} {st : List Value} {G : px_H} : prL d lim Q 589 ls st G ↔ (pi_callV 59 1 6 592) (pcal d) Q lim (prL d lim Q) ls st G := prL_of rfl ls st G
set_option maxRecDepth 100000 in
theorem eL_law_592 {d : Nat} {lim : Nat × Nat} {Q : px_Q} {ls : px_L} {st : List Value} {G : px_H} : prL d lim Q 592 ls st G ↔ (pi_aload 2 593) (pcal d) Q lim (prL d lim Q) ls st G := prL_of rfl ls st G
set_option maxRecDepth 100000 in
theorem eL_law_593 {d : Nat} {lim : Nat × Nat} {Q : px_Q} {ls : px_L} {st : List Value} {G : px_H} : prL d lim Q 593 ls st G ↔ (pi_aload 0 594) (pcal d) Q lim (prL d lim Q) ls st G := prL_of rfl ls st G
set_option maxRecDepth 100000 in
theorem eL_law_594 {d : Nat} {lim : Nat × Nat} {Q : px_Q} {ls : px_L} {st : List Value} {G : px_H} : prL d lim Q 594 ls st G ↔ (pi_iload 3 595) (pcal d) Q lim (prL d lim Q) ls st G := prL_of rfl ls st G
set_option maxRecDepth 100000 in
theorem eL_law_595 {d : Nat} {lim : Nat × Nat} {Q : px_Q} {ls : px_L} {st : List Value} {G : px_H} : prL d lim Q 595 ls st G ↔ (pi_const (.int (1)) 596) (pcal d) Q lim (prL d lim Q) ls st G := prL_of rfl ls st G
set_option maxRecDepth 100000 in
theorem eL_law_596 {d : Nat} {lim : Nat × Nat} {Q : px_Q} {ls : px_L} {st : List Value} {G : px_H} : prL d lim Q 596 ls st G ↔ (pi_bin (fun x y => x + y) 597) (pcal d) Q lim (prL d lim Q) ls st G := prL_of rfl ls st G
set_option maxRecDepth 100000 in
theorem eL_law_597 {d : Nat} {lim : Nat × Nat} {Q : px_Q} {ls : px_L} {st : List Value} {G : px_H} : prL d lim Q 597 ls st G ↔ (pi_iald 598) (pcal d) Q lim (prL d lim Q) ls st G := prL_of rfl ls st G
set_option maxRecDepth 100000 in
theorem eL_law_598 {d : Nat} {lim : Nat × Nat} {Q : px_Q} {ls : px_L} {st : List Value} {G : px_H} : prL d lim Q 598 ls st G ↔ (pi_callV 129 1 7 601) (pcal d) Q lim (prL d lim Q) ls st G := prL_of rfl ls st G
set_option maxRecDepth 100000 in
theorem eL_law_601 {d : Nat} {lim : Nat × Nat} {Q : px_Q} {ls : px_L} {st : List Value} {G : px_H} : prL d lim Q 601 ls st G ↔ (pi_iceq 1156 604) (pcal d) Q lim (prL d lim Q) ls st G := prL_of rfl ls st G
set_option maxRecDepth 100000 in
theorem eL_law_604 {d : Nat} {lim : Nat × Nat} {Q : px_Q} {ls : px_L} {st : List Value} {G : px_H} : prL d lim Q 604 ls st G ↔ (pi_const (.int (0)) 605) (pcal d) Q lim (prL d lim Q) ls st G := prL_of rfl ls st G
set_option maxRecDepth 100000 in
theorem eL_law_605 {d : Nat} {lim : Nat × Nat} {Q : px_Q} {ls : px_L} {st : List Value} {G : px_H} : prL d lim Q 605 ls st G ↔ (pi_zret) (pcal d) Q lim (prL d lim Q) ls st G := prL_of rfl ls st G
set_option maxRecDepth 100000 in
theorem eL_law_606 {d : Nat} {lim : Nat × Nat} {Q : px_Q} {ls : px_L} {st : List Value} {G : px_H} : prL d lim Q 606 ls st G ↔ (pi_aload 1 607) (pcal d) Q lim (prL d lim Q) ls st G := prL_of rfl ls st G
set_option maxRecDepth 100000 in
theorem eL_law_607 {d : Nat} {lim : Nat × Nat} {Q : px_Q} {ls : px_L} {st : List Value} {G : px_H} : prL d lim Q 607 ls st G ↔ (pi_aload 0 608) (pcal d) Q lim (prL d lim Q) ls st G := prL_of rfl ls st G
set_option maxRecDepth 100000 in
theorem eL_law_608 {d : Nat} {lim : Nat × Nat} {Q : px_Q} {ls : px_L} {st : List Value} {G : px_H} : prL d lim Q 608 ls st G ↔ (pi_iload 3 609) (pcal d) Q lim (prL d lim Q) ls st G := prL_of rfl ls st G
set_option maxRecDepth 100000 in
theorem eL_law_609 {d : Nat} {lim : Nat × Nat} {Q : px_Q} {ls : px_L} {st : List Value} {G : px_H} : prL d lim Q 609 ls st G ↔ (pi_const (.int (1)) 610) (pcal d) Q lim (prL d lim Q) ls st G := prL_of rfl ls st G
set_option maxRecDepth 100000 in
theorem eL_law_610 {d : Nat} {lim : Nat × Nat} {Q : px_Q} {ls : px_L} {st : List Value} {G : px_H} : prL d lim Q 610 ls st G ↔ (pi_bin (fun x y => x + y) 611) (pcal d) Q lim (prL d lim Q) ls st G := prL_of rfl ls st G
set_option maxRecDepth 100000 in
theorem eL_law_611 {d : Nat} {lim : Nat × Nat} {Q : px_Q} {ls : px_L} {st : List Value} {G : px_H} : prL d lim Q 611 ls st G ↔ (pi_iald 612) (pcal d) Q lim (prL d lim Q) ls st G := prL_of rfl ls st G
set_option maxRecDepth 100000 in
theorem eL_law_612 {d : Nat} {lim : Nat × Nat} {Q : px_Q} {ls : px_L} {st : List Value} {G : px_H} : prL d lim Q 612 ls st G ↔ (pi_callV 60 1 6 615) (pcal d) Q lim (prL d lim Q) ls st G := prL_of rfl ls st G
set_option maxRecDepth 100000 in
theorem eL_law_615 {d : Nat} {lim : Nat × Nat} {Q : px_Q} {ls : px_L} {st : List Value} {G : px_H} : prL d lim Q 615 ls st G ↔ (pi_aload 2 616) (pcal d) Q lim (prL d lim Q) ls st G := prL_of rfl ls st G
set_option maxRecDepth 100000 in
theorem eL_law_616 {d : Nat} {lim : Nat × Nat} {Q : px_Q} {ls : px_L} {st : List Value} {G : px_H} : prL d lim Q 616 ls st G ↔ (pi_aload 0 617) (pcal d) Q lim (prL d lim Q) ls st G := prL_of rfl ls st G
set_option maxRecDepth 100000 in
theorem eL_law_617 {d : Nat} {lim : Nat × Nat} {Q : px_Q} {ls : px_L} {st : List Value} {G : px_H} : prL d lim Q 617 ls st G ↔ (pi_iload 3 618) (pcal d) Q lim (prL d lim Q) ls st G := prL_of rfl ls st G
set_option maxRecDepth 100000 in
theorem eL_law_618 {d : Nat} {lim : Nat × Nat} {Q : px_Q} {ls : px_L} {st : List Value} {G : px_H} : prL d lim Q 618 ls st G ↔ (pi_const (.int (1)) 619) (pcal d) Q lim (prL d lim Q) ls st G := prL_of rfl ls st G
set_option maxRecDepth 100000 in
theorem eL_law_619 {d : Nat} {lim : Nat × Nat} {Q : px_Q} {ls : px_L} {st : List Value} {G : px_H} : prL d lim Q 619 ls st G ↔ (pi_bin (fun x y => x + y) 620) (pcal d) Q lim (prL d lim Q) ls st G := prL_of rfl ls st G
set_option maxRecDepth 100000 in
theorem eL_law_620 {d : Nat} {lim : Nat × Nat} {Q : px_Q} {ls : px_L} {st : List Value} {G : px_H} : prL d lim Q 620 ls st G ↔ (pi_iald 621) (pcal d) Q lim (prL d lim Q) ls st G := prL_of rfl ls st G
set_option maxRecDepth 100000 in
theorem eL_law_621 {d : Nat} {lim : Nat × Nat} {Q : px_Q} {ls : px_L} {st : List Value} {G : px_H} : prL d lim Q 621 ls st G ↔ (pi_callV 130 1 7 624) (pcal d) Q lim (prL d lim Q) ls st G := prL_of rfl ls st G
set_option maxRecDepth 100000 in
theorem eL_law_624 {d : Nat} {lim : Nat × Nat} {Q : px_Q} {ls : px_L} {st : List Value} {G : px_H} : prL d lim Q 624 ls st G ↔ (pi_iceq 1156 627) (pcal d) Q lim (prL d lim Q) ls st G := prL_of rfl ls st G
set_option maxRecDepth 100000 in
theorem eL_law_627 {d : Nat} {lim : Nat × Nat} {Q : px_Q} {ls : px_L} {st : List Value} {G : px_H} : prL d lim Q 627 ls st G ↔ (pi_const (.int (0)) 628) (pcal d) Q lim (prL d lim Q) ls st G := prL_of rfl ls st G
set_option maxRecDepth 100000 in
theorem eL_law_628 {d : Nat} {lim : Nat × Nat} {Q : px_Q} {ls : px_L} {st : List Value} {G : px_H} : prL d lim Q 628 ls st G ↔ (pi_zret) (pcal d) Q lim (prL d lim Q) ls st G := prL_of rfl ls st G
set_option maxRecDepth 100000 in
theorem eL_law_629 {d : Nat} {lim : Nat × Nat} {Q : px_Q} {ls : px_L} {st : List Value} {G : px_H} : prL d lim Q 629 ls st G ↔ (pi_aload 1 630) (pcal d) Q lim (prL d lim Q) ls st G := prL_of rfl ls st G
set_option maxRecDepth 100000 in
theorem eL_law_630 {d : Nat} {lim : Nat × Nat} {Q : px_Q} {ls : px_L} {st : List Value} {G : px_H} : prL d lim Q 630 ls st G ↔ (pi_aload 0 631) (pcal d) Q lim (prL d lim Q) ls st G := prL_of rfl ls st G
set_option maxRecDepth 100000 in
theorem eL_law_631 {d : Nat} {lim : Nat × Nat} {Q : px_Q} {ls : px_L} {st : List Value} {G : px_H} : prL d lim Q 631 ls st G ↔ (pi_iload 3 632) (pcal d) Q lim (prL d lim Q) ls st G := prL_of rfl ls st G
set_option maxRecDepth 100000 in
theorem eL_law_632 {d : Nat} {lim : Nat × Nat} {Q : px_Q} {ls : px_L} {st : List Value} {G : px_H} : prL d lim Q 632 ls st G ↔ (pi_const (.int (1)) 633) (pcal d) Q lim (prL d lim Q) ls st G := prL_of rfl ls st G
set_option maxRecDepth 100000 in
theorem eL_law_633 {d : Nat} {lim : Nat × Nat} {Q : px_Q} {ls : px_L} {st : List Value} {G : px_H} : prL d lim Q 633 ls st G ↔ (pi_bin (fun x y => x + y) 634) (pcal d) Q lim (prL d lim Q) ls st G := prL_of rfl ls st G
set_option maxRecDepth 100000 in
theorem eL_law_634 {d : Nat} {lim : Nat × Nat} {Q : px_Q} {ls : px_L} {st : List Value} {G : px_H} : prL d lim Q 634 ls st G ↔ (pi_iald 635) (pcal d) Q lim (prL d lim Q) ls st G := prL_of rfl ls st G
set_option maxRecDepth 100000 in
theorem eL_law_635 {d : Nat} {lim : Nat × Nat} {Q : px_Q} {ls : px_L} {st : List Value} {G : px_H} : prL d lim Q 635 ls st G ↔ (pi_aload 0 636) (pcal d) Q lim (prL d lim Q) ls st G := prL_of rfl ls st G
set_option maxRecDepth 100000 in
theorem eL_law_636 {d : Nat} {lim : Nat × Nat} {Q : px_Q} {ls : px_L} {st : List Value} {G : px_H} : prL d lim Q 636 ls st G ↔ (pi_iload 3 637) (pcal d) Q lim (prL d lim Q) ls st G := prL_of rfl ls st G
set_option maxRecDepth 100000 in
theorem eL_law_637 {d : Nat} {lim : Nat × Nat} {Q : px_Q} {ls : px_L} {st : List Value} {G : px_H} : prL d lim Q 637 ls st G ↔ (pi_const (.int (2)) 638) (pcal d) Q lim (prL d lim Q) ls st G := prL_of rfl ls st G
set_option maxRecDepth 100000 in
theorem eL_law_638 {d : Nat} {lim : Nat × Nat} {Q : px_Q} {ls : px_L} {st : List Value} {G : px_H} : prL d lim Q 638 ls st G ↔ (pi_bin (fun x y => x + y) 639) (pcal d) Q lim (prL d lim Q) ls st G := prL_of rfl ls st G
set_option maxRecDepth 100000 in
theorem eL_law_639 {d : Nat} {lim : Nat × Nat} {Q : px_Q} {ls : px_L} {st : List Value} {G : px_H} : prL d lim Q 639 ls st G ↔ (pi_iald 640) (pcal d) Q lim (prL d lim Q) ls st G := prL_of rfl ls st G
set_option maxRecDepth 100000 in
theorem eL_law_640 {d : Nat} {lim : Nat × Nat} {Q : px_Q} {ls : px_L} {st : List Value} {G : px_H} : prL d lim Q 640 ls st G ↔ (pi_callV 61 2 6 643) (pcal d) Q lim (prL d lim Q) ls st G := prL_of rfl ls st G
set_option maxRecDepth 100000 in
theorem eL_law_643 {d : Nat} {lim : Nat × Nat} {Q : px_Q} {ls : px_L} {st : List Value} {G : px_H} : prL d lim Q 643 ls st G ↔ (pi_aload 2 644) (pcal d) Q lim (prL d lim Q) ls st G := prL_of rfl ls st G
set_option maxRecDepth 100000 in
theorem eL_law_644 {d : Nat} {lim : Nat × Nat} {Q : px_Q} {ls : px_L} {st : List Value} {G : px_H} : prL d lim Q 644 ls st G ↔ (pi_aload 0 645) (pcal d) Q lim (prL d lim Q) ls st G := prL_of rfl ls st G
set_option maxRecDepth 100000 in
theorem eL_law_645 {d : Nat} {lim : Nat × Nat} {Q : px_Q} {ls : px_L} {st : List Value} {G : px_H} : prL d lim Q 645 ls st G ↔ (pi_iload 3 646) (pcal d) Q lim (prL d lim Q) ls st G := prL_of rfl ls st G
set_option maxRecDepth 100000 in
theorem eL_law_646 {d : Nat} {lim : Nat × Nat} {Q : px_Q} {ls : px_L} {st : List Value} {G : px_H} : prL d lim Q 646 ls st G ↔ (pi_const (.int (1)) 647) (pcal d) Q lim (prL d lim Q) ls st G := prL_of rfl ls st G
set_option maxRecDepth 100000 in
theorem eL_law_647 {d : Nat} {lim : Nat × Nat} {Q : px_Q} {ls : px_L} {st : List Value} {G : px_H} : prL d lim Q 647 ls st G ↔ (pi_bin (fun x y => x + y) 648) (pcal d) Q lim (prL d lim Q) ls st G := prL_of rfl ls st G
set_option maxRecDepth 100000 in
theorem eL_law_648 {d : Nat} {lim : Nat × Nat} {Q : px_Q} {ls : px_L} {st : List Value} {G : px_H} : prL d lim Q 648 ls st G ↔ (pi_iald 649) (pcal d) Q lim (prL d lim Q) ls st G := prL_of rfl ls st G
set_option maxRecDepth 100000 in
theorem eL_law_649 {d : Nat} {lim : Nat × Nat} {Q : px_Q} {ls : px_L} {st : List Value} {G : px_H} : prL d lim Q 649 ls st G ↔ (pi_aload 0 650) (pcal d) Q lim (prL d lim Q) ls st G := prL_of rfl ls st G
set_option maxRecDepth 100000 in
theorem eL_law_650 {d : Nat} {lim : Nat × Nat} {Q : px_Q} {ls : px_L} {st : List Value} {G : px_H} : prL d lim Q 650 ls st G ↔ (pi_iload 3 651) (pcal d) Q lim (prL d lim Q) ls st G := prL_of rfl ls st G
set_option maxRecDepth 100000 in
theorem eL_law_651 {d : Nat} {lim : Nat × Nat} {Q : px_Q} {ls : px_L} {st : List Value} {G : px_H} : prL d lim Q 651 ls st G ↔ (pi_const (.int (2)) 652) (pcal d) Q lim (prL d lim Q) ls st G := prL_of rfl ls st G
set_option maxRecDepth 100000 in
theorem eL_law_652 {d : Nat} {lim : Nat × Nat} {Q : px_Q} {ls : px_L} {st : List Value} {G : px_H} : prL d lim Q 652 ls st G ↔ (pi_bin (fun x y => x + y) 653) (pcal d) Q lim (prL d lim Q) ls st G := prL_of rfl ls st G
set_option maxRecDepth 100000 in
theorem eL_law_653 {d : Nat} {lim : Nat × Nat} {Q : px_Q} {ls : px_L} {st : List Value} {G : px_H} : prL d lim Q 653 ls st G ↔ (pi_iald 654) (pcal d) Q lim (prL d lim Q) ls st G := prL_of rfl ls st G
set_option maxRecDepth 100000 in
theorem eL_law_654 {d : Nat} {lim : Nat × Nat} {Q : px_Q} {ls : px_L} {st : List Value} {G : px_H} : prL d lim Q 654 ls st G ↔ (pi_callV 131 2 7 657) (pcal d) Q lim (prL d lim Q) ls st G := prL_of rfl ls st G
set_option maxRecDepth 100000 in
theorem eL_law_657 {d : Nat} {lim : Nat × Nat} {Q : px_Q} {ls : px_L} {st : List Value} {G : px_H} : prL d lim Q 657 ls st G ↔ (pi_iceq 1156 660) (pcal d) Q lim (prL d lim Q) ls st G := prL_of rfl ls st G
set_option maxRecDepth 100000 in
theorem eL_law_660 {d : Nat} {lim : Nat × Nat} {Q : px_Q} {ls : px_L} {st : List Value} {G : px_H} : prL d lim Q 660 ls st G ↔ (pi_const (.int (0)) 661) (pcal d) Q lim (prL d lim Q) ls st G := prL_of rfl ls st G
set_option maxRecDepth 100000 in
theorem eL_law_661 {d : Nat} {lim : Nat × Nat} {Q : px_Q} {ls : px_L} {st : List Value} {G : px_H} : prL d lim Q 661 ls st G ↔ (pi_zret) (pcal d) Q lim (prL d lim Q) ls st G := prL_of rfl ls st G
set_option maxRecDepth 100000 in
theorem eL_law_662 {d : Nat} {lim : Nat × Nat} {Q : px_Q} {ls : px_L} {st : List Value} {G : px_H} : prL d lim Q 662 ls st G ↔ (pi_aload 1 663) (pcal d) Q lim (prL d lim Q) ls st G := prL_of rfl ls st G
set_option maxRecDepth 100000 in
theorem eL_law_663 {d : Nat} {lim : Nat × Nat} {Q : px_Q} {ls : px_L} {st : List Value} {G : px_H} : prL d lim Q 663 ls st G ↔ (pi_aload 0 664) (pcal d) Q lim (prL d lim Q) ls st G := prL_of rfl ls st G
set_option maxRecDepth 100000 in
theorem eL_law_664 {d : Nat} {lim : Nat × Nat} {Q : px_Q} {ls : px_L} {st : List Value} {G : px_H} : prL d lim Q 664 ls st G ↔ (pi_iload 3 665) (pcal d) Q lim (prL d lim Q) ls st G := prL_of rfl ls st G
set_option maxRecDepth 100000 in
theorem eL_law_665 {d : Nat} {lim : Nat × Nat} {Q : px_Q} {ls : px_L} {st : List Value} {G : px_H} : prL d lim Q 665 ls st G ↔ (pi_const (.int (1)) 666) (pcal d) Q lim (prL d lim Q) ls st G := prL_of rfl ls st G
set_option maxRecDepth 100000 in
theorem eL_law_666 {d : Nat} {lim : Nat × Nat} {Q : px_Q} {ls : px_L} {st : List Value} {G : px_H} : prL d lim Q 666 ls st G ↔ (pi_bin (fun x y => x + y) 667) (pcal d) Q lim (prL d lim Q) ls st G := prL_of rfl ls st G
set_option maxRecDepth 100000 in
theorem eL_law_667 {d : Nat} {lim : Nat × Nat} {Q : px_Q} {ls : px_L} {st : List Value} {G : px_H} : prL d lim Q 667 ls st G ↔ (pi_iald 668) (pcal d) Q lim (prL d lim Q) ls st G := prL_of rfl ls st G
set_option maxRecDepth 100000 in
theorem eL_law_668 {d : Nat} {lim : Nat × Nat} {Q : px_Q} {ls : px_L} {st : List Value} {G : px_H} : prL d lim Q 668 ls st G ↔ (pi_aload 0 669) (pcal d) Q lim (prL d lim Q) ls st G := prL_of rfl ls st G
set_option maxRecDepth 100000 in
theorem eL_law_669 {d : Nat} {lim : Nat × Nat} {Q : px_Q} {ls : px_L} {st : List Value} {G : px_H} : prL d lim Q 669 ls st G ↔ (pi_iload 3 670) (pcal d) Q lim (prL d lim Q) ls st G := prL_of rfl ls st G
set_option maxRecDepth 100000 in
theorem eL_law_670 {d : Nat} {lim : Nat × Nat} {Q : px_Q} {ls : px_L} {st : List Value} {G : px_H} : prL d lim Q 670 ls st G ↔ (pi_const (.int (2)) 671) (pcal d) Q lim (prL d lim Q) ls st G := prL_of rfl ls st G
set_option maxRecDepth 100000 in
theorem eL_law_671 {d : Nat} {lim : Nat × Nat} {Q : px_Q} {ls : px_L} {st : List Value} {G : px_H} : prL d lim Q 671 ls st G ↔ (pi_bin (fun x y => x + y) 672) (pcal d) Q lim (prL d lim Q) ls st G := prL_of rfl ls st G
set_option maxRecDepth 100000 in
theorem eL_law_672 {d : Nat} {lim : Nat × Nat} {Q : px_Q} {ls : px_L} {st : List Value} {G : px_H} : prL d lim Q 672 ls st G ↔ (pi_iald 673) (pcal d) Q lim (prL d lim Q) ls st G := prL_of rfl ls st G
set_option maxRecDepth 100000 in
theorem eL_law_673 {d : Nat} {lim : Nat × Nat} {Q : px_Q} {ls : px_L} {st : List Value} {G : px_H} : prL d lim Q 673 ls st G ↔ (pi_callV 62 2 6 676) (pcal d) Q lim (prL d lim Q) ls st G := prL_of rfl ls st G
set_option maxRecDepth 100000 in
theorem eL_law_676 {d : Nat} {lim : Nat × Nat} {Q : px_Q} {ls : px_L} {st : List Value} {G : px_H} : prL d lim Q 676 ls st G ↔ (pi_aload 2 677) (pcal d) Q lim (prL d lim Q) ls st G := prL_of rfl ls st G
set_option maxRecDepth 100000 in
theorem eL_law_677 {d : Nat} {lim : Nat × Nat} {Q : px_Q} {ls : px_L} {st : List Value} {G : px_H} : prL d lim Q 677 ls st G ↔ (pi_aload 0 678) (pcal d) Q lim (prL d lim Q) ls st G := prL_of rfl ls st G
set_option maxRecDepth 100000 in
theorem eL_law_678 {d : Nat} {lim : Nat × Nat} {Q : px_Q} {ls : px_L} {st : List Value} {G : px_H} : prL d lim Q 678 ls st G ↔ (pi_iload 3 679) (pcal d) Q lim (prL d lim Q) ls st G := prL_of rfl ls st G
set_option maxRecDepth 100000 in
theorem eL_law_679 {d : Nat} {lim : Nat × Nat} {Q : px_Q} {ls : px_L} {st : List Value} {G : px_H} : prL d lim Q 679 ls st G ↔ (pi_const (.int (1)) 680) (pcal d) Q lim (prL d lim Q) ls st G := prL_of rfl ls st G
set_option maxRecDepth 100000 in
theorem eL_law_680 {d : Nat} {lim : Nat × Nat} {Q : px_Q} {ls : px_L} {st : List Value} {G : px_H} : prL d lim Q 680 ls st G ↔ (pi_bin (fun x y => x + y) 681) (pcal d) Q lim (prL d lim Q) ls st G := prL_of rfl ls st G
set_option maxRecDepth 100000 in
theorem eL_law_681 {d : Nat} {lim : Nat × Nat} {Q : px_Q} {ls : px_L} {st : List Value} {G : px_H} : prL d lim Q 681 ls st G ↔ (pi_iald 682) (pcal d) Q lim (prL d lim Q) ls st G := prL_of rfl ls st G
set_option maxRecDepth 100000 in
theorem eL_law_682 {d : Nat} {lim : Nat × Nat} {Q : px_Q} {ls : px_L} {st : List Value} {G : px_H} : prL d lim Q 682 ls st G ↔ (pi_aload 0 683) (pcal d) Q lim (prL d lim Q) ls st G := prL_of rfl ls st G
set_option maxRecDepth 100000 in
theorem eL_law_683 {d : Nat} {lim : Nat × Nat} {Q : px_Q} {ls : px_L} {st : List Value} {G : px_H} : prL d lim Q 683 ls st G ↔ (pi_iload 3 684) (pcal d) Q lim (prL d lim Q) ls st G := prL_of rfl ls st G
set_option maxRecDepth 100000 in
theorem eL_law_684 {d : Nat} {lim : Nat × Nat} {Q : px_Q} {ls : px_L} {st : List Value} {G : px_H} : prL d lim Q 684 ls st G ↔ (pi_const (.int (2)) 685) (pcal d) Q lim (prL d lim Q) ls st G := prL_of rfl ls st G
set_option maxRecDepth 100000 in
theorem eL_law_685 {d : Nat} {lim : Nat × Nat} {Q : px_Q} {ls : px_L} {st : List Value} {G : px_H} : prL d lim Q 685 ls st G ↔ (pi_bin (fun x y => x + y) 686) (pcal d) Q lim (prL d lim Q) ls st G := prL_of rfl ls st G
set_option maxRecDepth 100000 in
theorem eL_law_686 {d : Nat} {lim : Nat × Nat} {Q : px_Q} {ls : px_L} {st : List Value} {G : px_H} : prL d lim Q 686 ls st G ↔ (pi_iald 687) (pcal d) Q lim (prL d lim Q) ls st G := prL_of rfl ls st G
set_option maxRecDepth 100000 in
theorem eL_law_687 {d : Nat} {lim : Nat × Nat} {Q : px_Q} {ls : px_L} {st : List Value} {G : px_H} : prL d lim Q 687 ls st G ↔ (pi_callV 132 2 7 690) (pcal d) Q lim (prL d lim Q) ls st G := prL_of rfl ls st G
set_option maxRecDepth 100000 in
theorem eL_law_690 {d : Nat} {lim : Nat × Nat} {Q : px_Q} {ls : px_L} {st : List Value} {G : px_H} : prL d lim Q 690 ls st G ↔ (pi_iceq 1156 693) (pcal d) Q lim (prL d lim Q) ls st G := prL_of rfl ls st G
set_option maxRecDepth 100000 in
theorem eL_law_693 {d : Nat} {lim : Nat × Nat} {Q : px_Q} {ls : px_L} {st : List Value} {G : px_H} : prL d lim Q 693 ls st G ↔ (pi_const (.int (0)) 694) (pcal d) Q lim (prL d lim Q) ls st G := prL_of rfl ls st G
set_option maxRecDepth 100000 in
theorem eL_law_694 {d : Nat} {lim : Nat × Nat} {Q : px_Q} {ls : px_L} {st : List Value} {G : px_H} : prL d lim Q 694 ls st G ↔ (pi_zret) (pcal d) Q lim (prL d lim Q) ls st G := prL_of rfl ls st G
set_option maxRecDepth 100000 in
theorem eL_law_695 {d : Nat} {lim : Nat × Nat} {Q : px_Q} {ls : px_L} {st : List Value} {G : px_H} : prL d lim Q 695 ls st G ↔ (pi_aload 1 696) (pcal d) Q lim (prL d lim Q) ls st G := prL_of rfl ls st G
set_option maxRecDepth 100000 in
theorem eL_law_696 {d : Nat} {lim : Nat × Nat} {Q : px_Q} {ls : px_L} {st : List Value} {G : px_H} : prL d lim Q 696 ls st G ↔ (pi_aload 0 697) (pcal d) Q lim (prL d lim Q) ls st G := prL_of rfl ls st G
set_option maxRecDepth 100000 in
theorem eL_law_697 {d : Nat} {lim : Nat × Nat} {Q : px_Q} {ls : px_L} {st : List Value} {G : px_H} : prL d lim Q 697 ls st G ↔ (pi_iload 3 698) (pcal d) Q lim (prL d lim Q) ls st G := prL_of rfl ls st G
set_option maxRecDepth 100000 in
theorem eL_law_698 {d : Nat} {lim : Nat × Nat} {Q : px_Q} {ls : px_L} {st : List Value} {G : px_H} : prL d lim Q 698 ls st G ↔ (pi_const (.int (1)) 699) (pcal d) Q lim (prL d lim Q) ls st G := prL_of rfl ls st G
set_option maxRecDepth 100000 in
theorem eL_law_699 {d : Nat} {lim : Nat × Nat} {Q : px_Q} {ls : px_L} {st : List Value} {G : px_H} : prL d lim Q 699 ls st G ↔ (pi_bin (fun x y => x + y) 700) (pcal d) Q lim (prL d lim Q) ls st G := prL_of rfl ls st G
set_option maxRecDepth 100000 in
theorem eL_law_700 {d : Nat} {lim : Nat × Nat} {Q : px_Q} {ls : px_L} {st : List Value} {G : px_H} : prL d lim Q 700 ls st G ↔ (pi_iald 701) (pcal d) Q lim (prL d lim Q) ls st G := prL_of rfl ls st G
set_option maxRecDepth 100000 in
theorem eL_law_701 {d : Nat} {lim : Nat × Nat} {Q : px_Q} {ls : px_L} {st : List Value} {G : px_H} : prL d lim Q 701 ls st G ↔ (pi_aload 0 702) (pcal d) Q lim (prL d lim Q) ls st G := prL_of rfl ls st G
set_option maxRecDepth 100000 in
theorem eL_law_702 {d : Nat} {lim : Nat × Nat} {Q : px_Q} {ls : px_L} {st : List Value} {G : px_H} : prL d lim Q 702 ls st G ↔ (pi_iload 3 703) (pcal d) Q lim (prL d lim Q) ls st G := prL_of rfl ls st G
set_option maxRecDepth 100000 in
theorem eL_law_703 {d : Nat} {lim : Nat × Nat} {Q : px_Q} {ls : px_L} {st : List Value} {G : px_H} : prL d lim Q 703 ls st G ↔ (pi_const (.int (2)) 704) (pcal d) Q lim (prL d lim Q) ls st G := prL_of rfl ls st G
set_option maxRecDepth 100000 in
theorem eL_law_704 {d : Nat} {lim : Nat × Nat} {Q : px_Q} {ls : px_L} {st : List Value} {G : px_H} : prL d lim Q 704 ls st G ↔ (pi_bin (fun x y => x + y) 705) (pcal d) Q lim (prL d lim Q) ls st G := prL_of rfl ls st G
set_option maxRecDepth 100000 in
theorem eL_law_705 {d : Nat} {lim : Nat × Nat} {Q : px_Q} {ls : px_L} {st : List Value} {G : px_H} : prL d lim Q 705 ls st G ↔ (pi_iald 706) (pcal d) Q lim (prL d lim Q) ls st G := prL_of rfl ls st G
set_option maxRecDepth 100000 in
theorem eL_law_706 {d : Nat} {lim : Nat × Nat} {Q : px_Q} {ls : px_L} {st : List Value} {G : px_H} : prL d lim Q 706 ls st G ↔ (pi_aload 0 707) (pcal d) Q lim (prL d lim Q) ls st G := prL_of rfl ls st G
set_option maxRecDepth 100000 in
theorem eL_law_707 {d : Nat} {lim : Nat × Nat} {Q : px_Q} {ls : px_L} {st : List Value} {G : px_H} : prL d lim Q 707 ls st G ↔ (pi_iload 3 708) (pcal d) Q lim (prL d lim Q) ls st G := prL_of rfl ls st G
set_option maxRecDepth 100000 in
theorem eL_law_708 {d : Nat} {lim : Nat × Nat} {Q : px_Q} {ls : px_L} {st : List Value} {G : px_H} : prL d lim Q 708 ls st G ↔ (pi_const (.int (3)) 709) (pcal d) Q lim (prL d lim Q) ls st G := prL_of rfl ls st G
set_option maxRecDepth 100000 in
theorem eL_law_709 {d : Nat} {lim : Nat × Nat} {Q : px_Q} {ls : px_L} {st : List Value} {G : px_H} : prL d lim Q 709 ls st G ↔ (pi_bin (fun x y => x + y) 710) (pcal d) Q lim (prL d lim Q) ls st G := prL_of rfl ls st G
set_option maxRecDepth 100000 in
theorem eL_law_710 {d : Nat} {lim : Nat × Nat} {Q : px_Q} {ls : px_L} {st : List Value} {G : px_H} : prL d lim Q 710 ls st G ↔ (pi_iald 711) (pcal d) Q lim (prL d lim Q) ls st G := prL_of rfl ls st G
set_option maxRecDepth 100000 in
theorem eL_law_711 {d : Nat} {lim : Nat × Nat} {Q : px_Q} {ls : px_L} {st : List Value} {G : px_H} : prL d lim Q 711 ls st G ↔ (pi_ifeq 718 714) (pcal d) Q lim (prL d lim Q) ls st G := prL_of rfl ls st G
set_option maxRecDepth 100000 in
theorem eL_law_714 {d : Nat} {lim : Nat × Nat} {Q : px_Q} {ls : px_L} {st : List Value} {G : px_H} : prL d lim Q 714 ls st G ↔ (pi_const (.int (1)) 715) (pcal d) Q lim (prL d lim Q) ls st G := prL_of rfl ls st G
set_option maxRecDepth 100000 in
theorem eL_law_715 {d : Nat} {lim : Nat × Nat} {Q : px_Q} {ls : px_L} {st : List Value} {G : px_H} : prL d lim Q 715 ls st G ↔ (pi_goto 719) (pcal d) Q lim (prL d lim Q) ls st G := prL_of rfl ls st G
set_option maxRecDepth 100000 in
theorem eL_law_718 {d : Nat} {lim : Nat × Nat} {Q : px_Q} {ls : px_L} {st : List Value} {G : px_H} : prL d lim Q 718 ls st G ↔ (pi_const (.int (0)) 719) (pcal d) Q lim (prL d lim Q) ls st G := prL_of rfl ls st G
set_option maxRecDepth 100000 in
theorem eL_law_719 {d : Nat} {lim : Nat × Nat} {Q : px_Q} {ls : px_L} {st : List Value} {G : px_H} : prL d lim Q 719 ls st G ↔ (pi_callV 69 3 6 722) (pcal d) Q lim (prL d lim Q) ls st G := prL_of rfl ls st G
set_option maxRecDepth 100000 in
theorem eL_law_722 {d : Nat} {lim : Nat × Nat} {Q : px_Q} {ls : px_L} {st : List Value} {G : px_H} : prL d lim Q 722 ls st G ↔ (pi_aload 2 723) (pcal d) Q lim (prL d lim Q) ls st G := prL_of rfl ls st G
set_option maxRecDepth 100000 in
theorem eL_law_723 {d : Nat} {lim : Nat × Nat} {Q : px_Q} {ls : px_L} {st : List Value} {G : px_H} : prL d lim Q 723 ls st G ↔ (pi_aload 0 724) (pcal d) Q lim (prL d lim Q) ls st G := prL_of rfl ls st G
set_option maxRecDepth 100000 in
theorem eL_law_724 {d : Nat} {lim : Nat × Nat} {Q : px_Q} {ls : px_L} {st : List Value} {G : px_H} : prL d lim Q 724 ls st G ↔ (pi_iload 3 725) (pcal d) Q lim (prL d lim Q) ls st G := prL_of rfl ls st G
set_option maxRecDepth 100000 in
theorem eL_law_725 {d : Nat} {lim : Nat × Nat} {Q : px_Q} {ls : px_L} {st : List Value} {G : px_H} : prL d lim Q 725 ls st G ↔ (pi_const (.int (1)) 726) (pcal d) Q lim (prL d lim Q) ls st G := prL_of rfl ls st G
set_option maxRecDepth 100000 in
theorem eL_law_726 {d : Nat} {lim : Nat × Nat} {Q : px_Q} {ls : px_L} {st : List Value} {G : px_H} : prL d lim Q 726 ls st G ↔ (pi_bin (fun x y => x + y) 727) (pcal d) Q lim (prL d lim Q) ls st G := prL_of rfl ls st G
set_option maxRecDepth 100000 in
theorem eL_law_727 {d : Nat} {lim : Nat × Nat} {Q : px_Q} {ls : px_L} {st : List Value} {G : px_H} : prL d lim Q 727 ls st G ↔ (pi_iald 728) (pcal d) Q lim (prL d lim Q) ls st G := prL_of rfl ls st G
set_option maxRecDepth 100000 in
theorem eL_law_728 {d : Nat} {lim : Nat × Nat} {Q : px_Q} {ls : px_L} {st : List Value} {G : px_H} : prL d lim Q 728 ls st G ↔ (pi_aload 0 729) (pcal d) Q lim (prL d lim Q) ls st G := prL_of rfl ls st G
set_option maxRecDepth 100000 in
theorem eL_law_729 {d : Nat} {lim : Nat × Nat} {Q : px_Q} {ls : px_L} {st : List Value} {G : px_H} : prL d lim Q 729 ls st G ↔ (pi_iload 3 730) (pcal d) Q lim (prL d lim Q) ls st G := prL_of rfl ls st G
set_option maxRecDepth 100000 in
theorem eL_law_730 {d : Nat} {lim : Nat × Nat} {Q : px_Q} {ls : px_L} {st : List Value} {G : px_H} : prL d lim Q 730 ls st G ↔ (pi_const (.int (2)) 731) (pcal d) Q lim (prL d lim Q) ls st G := prL_of rfl ls st G
set_option maxRecDepth 100000 in
theorem eL_law_731 {d : Nat} {lim : Nat × Nat} {Q : px_Q} {ls : px_L} {st : List Value} {G : px_H} : prL d lim Q 731 ls st G ↔ (pi_bin (fun x y => x + y) 732) (pcal d) Q lim (prL d lim Q) ls st G := prL_of rfl ls st G
set_option maxRecDepth 100000 in
theorem eL_law_732 {d : Nat} {lim : Nat × Nat} {Q : px_Q} {ls : px_L} {st : List Value} {G : px_H} : prL d lim Q 732 ls st G ↔ (pi_iald 733) (pcal d) Q lim (prL d lim Q) ls st G := prL_of rfl ls st G
set_option maxRecDepth 100000 in
theorem eL_law_733 {d : Nat} {lim : Nat × Nat} {Q : px_Q} {ls : px_L} {st : List Value} {G : px_H} : prL d lim Q 733 ls st G ↔ (pi_aload 0 734) (pcal d) Q lim (prL d lim Q) ls st G := prL_of rfl ls st G
set_option maxRecDepth 100000 in
theorem eL_law_734 {d : Nat} {lim : Nat × Nat} {Q : px_Q} {ls : px_L} {st : List Value} {G : px_H} : prL d lim Q 734 ls st G ↔ (pi_iload 3 735) (pcal d) Q lim (prL d lim Q) ls st G := prL_of rfl ls st G
set_option maxRecDepth 100000 in
theorem eL_law_735 {d : Nat} {lim : Nat × Nat} {Q : px_Q} {ls : px_L} {st : List Value} {G : px_H} : prL d lim Q 735 ls st G ↔ (pi_const (.int (3)) 736) (pcal d) Q lim (prL d lim Q) ls st G := prL_of rfl ls st G
set_option maxRecDepth 100000 in
theorem eL_law_736 {d : Nat} {lim : Nat × Nat} {Q : px_Q} {ls : px_L} {st : List Value} {G : px_H} : prL d lim Q 736 ls st G ↔ (pi_bin (fun x y => x + y) 737) (pcal d) Q lim (prL d lim Q) ls st G := prL_of rfl ls st G
set_option maxRecDepth 100000 in
theorem eL_law_737 {d : Nat} {lim : Nat × Nat} {Q : px_Q} {ls : px_L} {st : List Value} {G : px_H} : prL d lim Q 737 ls st G ↔ (pi_iald 738) (pcal d) Q lim (prL d lim Q) ls st G := prL_of rfl ls st G
set_option maxRecDepth 100000 in
theorem eL_law_738 {d : Nat} {lim : Nat × Nat} {Q : px_Q} {ls : px_L} {st : List Value} {G : px_H} : prL d lim Q 738 ls st G ↔ (pi_ifeq 745 741) (pcal d) Q lim (prL d lim Q) ls st G := prL_of rfl ls st G
set_option maxRecDepth 100000 in
theorem eL_law_741 {d : Nat} {lim : Nat × Nat} {Q : px_Q} {ls : px_L} {st : List Value} {G : px_H} : prL d lim Q 741 ls st G ↔ (pi_const (.int (1)) 742) (pcal d) Q lim (prL d lim Q) ls st G := prL_of rfl ls st G
set_option maxRecDepth 100000 in
theorem eL_law_742 {d : Nat} {lim : Nat × Nat} {Q : px_Q} {ls : px_L} {st : List Value} {G : px_H} : prL d lim Q 742 ls st G ↔ (pi_goto 746) (pcal d) Q lim (prL d lim Q) ls st G := prL_of rfl ls st G
set_option maxRecDepth 100000 in
theorem eL_law_745 {d : Nat} {lim : Nat × Nat} {Q : px_Q} {ls : px_L} {st : List Value} {G : px_H} : prL d lim Q 745 ls st G ↔ (pi_const (.int (0)) 746) (pcal d) Q lim (prL d lim Q) ls st G := prL_of rfl ls st G
set_option maxRecDepth 100000 in
theorem eL_law_746 {d : Nat} {lim : Nat × Nat} {Q : px_Q} {ls : px_L} {st : List Value} {G : px_H} : prL d lim Q 746 ls st G ↔ (pi_callV 137 3 7 749) (pcal d) Q lim (prL d lim Q) ls st G := prL_of rfl ls st G
set_option maxRecDepth 100000 in
theorem eL_law_749 {d : Nat} {lim : Nat × Nat} {Q : px_Q} {ls : px_L} {st : List Value} {G : px_H} : prL d lim Q 749 ls st G ↔ (pi_iceq 1156 752) (pcal d) Q lim (prL d lim Q) ls st G := prL_of rfl ls st G
set_option maxRecDepth 100000 in
theorem eL_law_752 {d : Nat} {lim : Nat × Nat} {Q : px_Q} {ls : px_L} {st : List Value} {G : px_H} : prL d lim Q 752 ls st G ↔ (pi_const (.int (0)) 753) (pcal d) Q lim (prL d lim Q) ls st G := prL_of rfl ls st G
set_option maxRecDepth 100000 in
theorem eL_law_753 {d : Nat} {lim : Nat × Nat} {Q : px_Q} {ls : px_L} {st : List Value} {G : px_H} : prL d lim Q 753 ls st G ↔ (pi_zret) (pcal d) Q lim (prL d lim Q) ls st G := prL_of rfl ls st G
set_option maxRecDepth 100000 in
theorem eL_law_754 {d : Nat} {lim : Nat × Nat} {Q : px_Q} {ls : px_L} {st : List Value} {G : px_H} : prL d lim Q 754 ls st G ↔ (pi_aload 1 755) (pcal d) Q lim (prL d lim Q) ls st G := prL_of rfl ls st G
set_option maxRecDepth 100000 in
theorem eL_law_755 {d : Nat} {lim : Nat × Nat} {Q : px_Q} {ls : px_L} {st : List Value} {G : px_H} : prL d lim Q 755 ls st G ↔ (pi_aload 0 756) (pcal d) Q lim (prL d lim Q) ls st G := prL_of rfl ls st G
set_option maxRecDepth 100000 in
theorem eL_law_756 {d : Nat} {lim : Nat × Nat} {Q : px_Q} {ls : px_L} {st : List Value} {G : px_H} : prL d lim Q 756 ls st G ↔ (pi_iload 3 757) (pcal d) Q lim (prL d lim Q) ls st G := prL_of rfl ls st G
set_option maxRecDepth 100000 in
theorem eL_law_757 {d : Nat} {lim : Nat × Nat} {Q : px_Q} {ls : px_L} {st : List Value} {G : px_H} : prL d lim Q 757 ls st G ↔ (pi_const (.int (1)) 758) (pcal d) Q lim (prL d lim Q) ls st G := prL_of rfl ls st G
set_option maxRecDepth 100000 in
theorem eL_law_758 {d : Nat} {lim : Nat × Nat} {Q : px_Q} {ls : px_L} {st : List Value} {G : px_H} : prL d lim Q 758 ls st G ↔ (pi_bin (fun x y => x + y) 759) (pcal d) Q lim (prL d lim Q) ls st G := prL_of rfl ls st G
set_option maxRecDepth 100000 in
theorem eL_law_759 {d : Nat} {lim : Nat × Nat} {Q : px_Q} {ls : px_L} {st : List Value} {G : px_H} : prL d lim Q 759 ls st G ↔ (pi_iald 760) (pcal d) Q lim (prL d lim Q) ls st G := prL_of rfl ls st G
set_option maxRecDepth 100000 in
theorem eL_law_760 {d : Nat} {lim : Nat × Nat} {Q : px_Q} {ls : px_L} {st : List Value} {G : px_H} : prL d lim Q 760 ls st G ↔ (pi_aload 0 761) (pcal d) Q lim (prL d lim Q) ls st G := prL_of rfl ls st G
set_option maxRecDepth 100000 in
theorem eL_law_761 {d : Nat} {lim : Nat × Nat} {Q : px_Q} {ls : px_L} {st : List Value} {G : px_H} : prL d lim Q 761 ls st G ↔ (pi_iload 3 762) (pcal d) Q lim (prL d lim Q) ls st G := prL_of rfl ls st G
set_option maxRecDepth 100000 in
theorem eL_law_762 {d : Nat} {lim : Nat × Nat} {Q : px_Q} {ls : px_L} {st : List Value} {G : px_H} : prL d lim Q 762 ls st G ↔ (pi_const (.int (2)) 763) (pcal d) Q lim (prL d lim Q) ls st G := prL_of rfl ls st G
set_option maxRecDepth 100000 in
theorem eL_law_763 {d : Nat} {lim : Nat × Nat} {Q : px_Q} {ls : px_L} {st : List Value} {G : px_H} : prL d lim Q 763 ls st G ↔ (pi_bin (fun x y => x + y) 764) (pcal d) Q lim (prL d lim Q) ls st G := prL_of rfl ls st G
set_option maxRecDepth 100000 in
theorem eL_law_764 {d : Nat} {lim : Nat × Nat} {Q : px_Q} {ls : px_L} {st : List Value} {G : px_H} : prL d lim Q 764 ls st G ↔ (pi_iald 765) (pcal d) Q lim (prL d lim Q) ls st G := prL_of rfl ls st G
set_option maxRecDepth 100000 in
theorem eL_law_765 {d : Nat} {lim : Nat × Nat} {Q : px_Q} {ls : px_L} {st : List Value} {G : px_H} : prL d lim Q 765 ls st G ↔ (pi_aload 0 766) (pcal d) Q lim (prL d lim Q) ls st G := prL_of rfl ls st G
set_option maxRecDepth 100000 in
theorem eL_law_766 {d : Nat} {lim : Nat × Nat} {Q : px_Q} {ls : px_L} {st : List Value} {G : px_H} : prL d lim Q 766 ls st G ↔ (pi_iload 3 767) (pcal d) Q lim (prL d lim Q) ls st G := prL_of rfl ls st G
set_option maxRecDepth 100000 in
theorem eL_law_767 {d : Nat} {lim : Nat × Nat} {Q : px_Q} {ls : px_L} {st : List Value} {G : px_H} : prL d lim Q 767 ls st G ↔ (pi_const (.int (3)) 768) (pcal d) Q lim (prL d lim Q) ls st G := prL_of rfl ls st G
set_option maxRecDepth 100000 in
theorem eL_law_768 {d : Nat} {lim : Nat × Nat} {Q : px_Q} {ls : px_L} {st : List Value} {G : px_H} : prL d lim Q 768 ls st G ↔ (pi_bin (fun x y => x + y) 769) (pcal d) Q lim (prL d lim Q) ls st G := prL_of rfl ls st G
set_option maxRecDepth 100000 in
theorem eL_law_769 {d : Nat} {lim : Nat × Nat} {Q : px_Q} {ls : px_L} {st : List Value} {G : px_H} : prL d lim Q 769 ls st G ↔ (pi_iald 770) (pcal d) Q lim (prL d lim Q) ls st G := prL_of rfl ls st G
set_option maxRecDepth 100000 in
theorem eL_law_770 {d : Nat} {lim : Nat × Nat} {Q : px_Q} {ls : px_L} {st : List Value} {G : px_H} : prL d lim Q 770 ls st G ↔ (pi_ifeq 777 773) (pcal d) Q lim (prL d lim Q) ls st G := prL_of rfl ls st G
set_option maxRecDepth 100000 in
theorem eL_law_773 {d : Nat} {lim : Nat × Nat} {Q : px_Q} {ls : px_L} {st : List Value} {G : px_H} : prL d lim Q 773 ls st G ↔ (pi_const (.int (1)) 774) (pcal d) Q lim (prL d lim Q) ls st G := prL_of rfl ls st G
set_option maxRecDepth 100000 in
theorem eL_law_774 {d : Nat} {lim : Nat × Nat} {Q : px_Q} {ls : px_L} {st : List Value} {G : px_H} : prL d lim Q 774 ls st G ↔ (pi_goto 778) (pcal d) Q lim (prL d lim Q) ls st G := prL_of rfl ls st G
set_option maxRecDepth 100000 in
theorem eL_law_777 {d : Nat} {lim : Nat × Nat} {Q : px_Q} {ls : px_L} {st : List Value} {G : px_H} : prL d lim Q 777 ls st G ↔ (pi_const (.int (0)) 778) (pcal d) Q lim (prL d lim Q) ls st G := prL_of rfl ls st G
set_option maxRecDepth 100000 in
theorem eL_law_778 {d : Nat} {lim : Nat × Nat} {Q : px_Q} {ls : px_L} {st : List Value} {G : px_H} : prL d lim Q 778 ls st G ↔ (pi_callV 70 3 6 781) (pcal d) Q lim (prL d lim Q) ls st G := prL_of rfl ls st G
set_option maxRecDepth 100000 in
theorem eL_law_781 {d : Nat} {lim : Nat × Nat} {Q : px_Q} {ls : px_L} {st : List Value} {G : px_H} : prL d lim Q 781 ls st G ↔ (pi_aload 2 782) (pcal d) Q lim (prL d lim Q) ls st G := prL_of rfl ls st G
set_option maxRecDepth 100000 in
theorem eL_law_782 {d : Nat} {lim : Nat × Nat} {Q : px_Q} {ls : px_L} {st : List Value} {G : px_H} : prL d lim Q 782 ls st G ↔ (pi_aload 0 783) (pcal d) Q lim (prL d lim Q) ls st G := prL_of rfl ls st G
set_option maxRecDepth 100000 in
theorem eL_law_783 {d : Nat} {lim : Nat × Nat} {Q : px_Q} {ls : px_L} {st : List Value} {G : px_H} : prL d lim Q 783 ls st G ↔ (pi_iload 3 784) (pcal d) Q lim (prL d lim Q) ls st G := prL_of rfl ls st G
set_option maxRecDepth 100000 in
theorem eL_law_784 {d : Nat} {lim : Nat × Nat} {Q : px_Q} {ls : px_L} {st : List Value} {G : px_H} : prL d lim Q 784 ls st G ↔ (pi_const (.int (1)) 785) (pcal d) Q lim (prL d lim Q) ls st G := prL_of rfl ls st G
set_option maxRecDepth 100000 in
theorem eL_law_785 {d : Nat} {lim : Nat × Nat} {Q : px_Q} {ls : px_L} {st : List Value} {G : px_H} : prL d lim Q 785 ls st G ↔ (pi_bin (fun x y => x + y) 786) (pcal d) Q lim (prL d lim Q) ls st G := prL_of rfl ls st G
set_option maxRecDepth 100000 in
theorem eL_law_786 {d : Nat} {lim : Nat × Nat} {Q : px_Q} {ls : px_L} {st : List Value} {G : px_H} : prL d lim Q 786 ls st G ↔ (pi_iald 787) (pcal d) Q lim (prL d lim Q) ls st G := prL_of rfl ls st G
set_option maxRecDepth 100000 in
theorem eL_law_787 {d : Nat} {lim : Nat × Nat} {Q : px_Q} {ls : px_L} {st : List Value} {G : px_H} : prL d lim Q 787 ls st G ↔ (pi_aload 0 788) (pcal d) Q lim (prL d lim Q) ls st G := prL_of rfl ls st G
set_option maxRecDepth 100000 in
theorem eL_law_788 {d : Nat} {lim : Nat × Nat} {Q : px_Q} {ls : px_L} {st : List Value} {G : px_H} : prL d lim Q 788 ls st G ↔ (pi_iload 3 789) (pcal d) Q lim (prL d lim Q) ls st G := prL_of rfl ls st G
set_option maxRecDepth 100000 in
theorem eL_law_789 {d : Nat} {lim : Nat × Nat} {Q : px_Q} {ls : px_L} {st : List Value} {G : px_H} : prL d lim Q 789 ls st G ↔ (pi_const (.int (2)) 790) (pcal d) Q lim (prL d lim Q) ls st G := prL_of rfl ls st G
set_option maxRecDepth 100000 in
theorem eL_law_790 {d : Nat} {lim : Nat × Nat} {Q : px_Q} {ls : px_L} {st : List Value} {G : px_H} : prL d lim Q 790 ls st G ↔ (pi_bin (fun x y => x + y) 791) (pcal d) Q lim (prL d lim Q) ls st G := prL_of rfl ls st G
set_option maxRecDepth 100000 in
theorem eL_law_791 {d : Nat} {lim : Nat × Nat} {Q : px_Q} {ls : px_L} {st : List Value} {G : px_H} : prL d lim Q 791 ls st G ↔ (pi_iald 792) (pcal d) Q lim (prL d lim Q) ls st G := prL_of rfl ls st G
set_option maxRecDepth 100000 in
theorem eL_law_792 {d : Nat} {lim : Nat × Nat} {Q : px_Q} {ls : px_L} {st : List Value} {G : px_H} : prL d lim Q 792 ls st G ↔ (pi_aload 0 793) (pcal d) Q lim (prL d lim Q) ls st G := prL_of rfl ls st G
set_option maxRecDepth 100000 in
theorem eL_law_793 {d : Nat} {lim : Nat × Nat} {Q : px_Q} {ls : px_L} {st : List Value} {G : px_H} : prL d lim Q 793 ls st G ↔ (pi_iload 3 794) (pcal d) Q lim (prL d lim Q) ls st G := prL_of rfl ls st G
set_option maxRecDepth 100000 in
theorem eL_law_794 {d : Nat} {lim : Nat × Nat} {Q : px_Q} {ls : px_L} {st : List Value} {G : px_H} : prL d lim Q 794 ls st G ↔ (pi_const (.int (3)) 795) (pcal d) Q lim (prL d lim Q) ls st G := prL_of rfl ls st G
set_option maxRecDepth 100000 in
theorem eL_law_795 {d : Nat} {lim : Nat × Nat} {Q : px_Q} {ls : px_L} {st : List Value} {G : px_H} : prL d lim Q 795 ls st G ↔ (pi_bin (fun x y => x + y) 796) (pcal d) Q lim (prL d lim Q) ls st G := prL_of rfl ls st G
set_option maxRecDepth 100000 in
theorem eL_law_796 {d : Nat} {lim : Nat × Nat} {Q : px_Q} {ls : px_L} {st : List Value} {G : px_H} : prL d lim Q 796 ls st G ↔ (pi_iald 797) (pcal d) Q lim (prL d lim Q) ls st G := prL_of rfl ls st G
set_option maxRecDepth 100000 in
theorem eL_law_797 {d : Nat} {lim : Nat × Nat} {Q : px_Q} {ls : px_L} {st : List Value} {G : px_H} : prL d lim Q 797 ls st G ↔ (pi_ifeq 804 800) (pcal d) Q lim (prL d lim Q) ls st G := prL_of rfl ls st G
set_option maxRecDepth 100000 in
theorem eL_law_800 {d : Nat} {lim : Nat × Nat} {Q : px_Q} {ls : px_L} {st : List Value} {G : px_H} : prL d lim Q 800 ls st G ↔ (pi_const (.int (1)) 801) (pcal d) Q lim (prL d lim Q) ls st G := prL_of rfl ls st G
set_option maxRecDepth 100000 in
theorem eL_law_801 {d : Nat} {lim : Nat × Nat} {Q : px_Q} {ls : px_L} {st : List Value} {G : px_H} : prL d lim Q 801 ls st G ↔ (pi_goto 805) (pcal d) Q lim (prL d lim Q) ls st G := prL_of rfl ls st G
set_option maxRecDepth 100000 in
theorem eL_law_804 {d : Nat} {lim : Nat × Nat} {Q : px_Q} {ls : px_L} {st : List Value} {G : px_H} : prL d lim Q 804 ls st G ↔ (pi_const (.int (0)) 805) (pcal d) Q lim (prL d lim Q) ls st G := prL_of rfl ls st G
set_option maxRecDepth 100000 in
theorem eL_law_805 {d : Nat} {lim : Nat × Nat} {Q : px_Q} {ls : px_L} {st : List Value} {G : px_H} : prL d lim Q 805 ls st G ↔ (pi_callV 139 3 7 808) (pcal d) Q lim (prL d lim Q) ls st G := prL_of rfl ls st G
set_option maxRecDepth 100000 in
theorem eL_law_808 {d : Nat} {lim : Nat × Nat} {Q : px_Q} {ls : px_L} {st : List Value} {G : px_H} : prL d lim Q 808 ls st G ↔ (pi_iceq 1156 811) (pcal d) Q lim (prL d lim Q) ls st G := prL_of rfl ls st G
set_option maxRecDepth 100000 in
theorem eL_law_811 {d : Nat} {lim : Nat × Nat} {Q : px_Q} {ls : px_L} {st : List Value} {G : px_H} : prL d lim Q 811 ls st G ↔ (pi_const (.int (0)) 812) (pcal d) Q lim (prL d lim Q) ls st G := prL_of rfl ls st G
set_option maxRecDepth 100000 in
theorem eL_law_812 {d : Nat} {lim : Nat × Nat} {Q : px_Q} {ls : px_L} {st : List Value} {G : px_H} : prL d lim Q 812 ls st G ↔ (pi_zret) (pcal d) Q lim (prL d lim Q) ls st G := prL_of rfl ls st G
set_option maxRecDepth 100000 in
theorem eL_law_813 {d : Nat} {lim : Nat × Nat} {Q : px_Q} {ls : px_L} {st : List Value} {G : px_H} : prL d lim Q 813 ls st G ↔ (pi_aload 1 814) (pcal d) Q lim (prL d lim Q) ls st G := prL_of rfl ls st G
set_option maxRecDepth 100000 in
theorem eL_law_814 {d : Nat} {lim : Nat × Nat} {Q : px_Q} {ls : px_L} {st : List Value} {G : px_H} : prL d lim Q 814 ls st G ↔ (pi_aload 0 815) (pcal d) Q lim (prL d lim Q) ls st G := prL_of rfl ls st G
set_option maxRecDepth 100000 in
theorem eL_law_815 {d : Nat} {lim : Nat × Nat} {Q : px_Q} {ls : px_L} {st : List Value} {G : px_H} : prL d lim Q 815 ls st G ↔ (pi_iload 3 816) (pcal d) Q lim (prL d lim Q) ls st G := prL_of rfl ls st G
set_option maxRecDepth 100000 in
theorem eL_law_816 {d : Nat} {lim : Nat × Nat} {Q : px_Q} {ls : px_L} {st : List Value} {G : px_H} : prL d lim Q 816 ls st G ↔ (pi_const (.int (1)) 817) (pcal d) Q lim (prL d lim Q) ls st G := prL_of rfl ls st G
set_option maxRecDepth 100000 in
theorem eL_law_817 {d : Nat} {lim : Nat × Nat} {Q : px_Q} {ls : px_L} {st : List Value} {G : px_H} : prL d lim Q 817 ls st G ↔ (pi_bin (fun x y => x + y) 818) (pcal d) Q lim (prL d lim Q) ls st G := prL_of rfl ls st G
set_option maxRecDepth 100000 in
theorem eL_law_818 {d : Nat} {lim : Nat × Nat} {Q : px_Q} {ls : px_L} {st : List Value} {G : px_H} : prL d lim Q 818 ls st G ↔ (pi_iald 819) (pcal d) Q lim (prL d lim Q) ls st G := prL_of rfl ls st G
set_option maxRecDepth 100000 in
theorem eL_law_819 {d : Nat} {lim : Nat × Nat} {Q : px_Q} {ls : px_L} {st : List Value} {G : px_H} : prL d lim Q 819 ls st G ↔ (pi_aload 0 820) (pcal d) Q lim (prL d lim Q) ls st G := prL_of rfl ls st G
set_option maxRecDepth 100000 in
theorem eL_law_820 {d : Nat} {lim : Nat × Nat} {Q : px_Q} {ls : px_L} {st : List Value} {G : px_H} : prL d lim Q 820 ls st G ↔ (pi_iload 3 821) (pcal d) Q lim (prL d lim Q) ls st G := prL_of rfl ls st G
set_option maxRecDepth 100000 in
theorem eL_law_821 {d : Nat} {lim : Nat × Nat} {Q : px_Q} {ls : px_L} {st : List Value} {G : px_H} : prL d lim Q 821 ls st G ↔ (pi_const (.int (2)) 822) (pcal d) Q lim (prL d lim Q) ls st G := prL_of rfl ls st G
set_option maxRecDepth 100000 in
theorem eL_law_822 {d : Nat} {lim : Nat × Nat} {Q : px_Q} {ls : px_L} {st : List Value} {G : px_H} : prL d lim Q 822 ls st G ↔ (pi_bin (fun x y => x + y) 823) (pcal d) Q lim (prL d lim Q) ls st G := prL_of rfl ls st G
set_option maxRecDepth 100000 in
theorem eL_law_823 {d : Nat} {lim : Nat × Nat} {Q : px_Q} {ls : px_L} {st : List Value} {G : px_H} : prL d lim Q 823 ls st G ↔ (pi_iald 824) (pcal d) Q lim (prL d lim Q) ls st G := prL_of rfl ls st G
set_option maxRecDepth 100000 in
theorem eL_law_824 {d : Nat} {lim : Nat × Nat} {Q : px_Q} {ls : px_L} {st : List Value} {G : px_H} : prL d lim Q 824 ls st G ↔ (pi_aload 0 825) (pcal d) Q lim (prL d lim Q) ls st G := prL_of rfl ls st G
set_option maxRecDepth 100000 in
theorem eL_law_825 {d : Nat} {lim : Nat × Nat} {Q : px_Q} {ls : px_L} {st : List Value} {G : px_H} : prL d lim Q 825 ls st G ↔ (pi_iload 3 826) (pcal d) Q lim (prL d lim Q) ls st G := prL_of rfl ls st G
set_option maxRecDepth 100000 in
theorem eL_law_826 {d : Nat} {lim : Nat × Nat} {Q : px_Q} {ls : px_L} {st : List Value} {G : px_H} : prL d lim Q 826 ls st G ↔ (pi_const (.int (3)) 827) (pcal d) Q lim (prL d lim Q) ls st G := prL_of rfl ls st G
set_option maxRecDepth 100000 in
theorem eL_law_827 {d : Nat} {lim : Nat × Nat} {Q : px_Q} {ls : px_L} {st : List Value} {G : px_H} : prL d lim Q 827 ls st G ↔ (pi_bin (fun x y => x + y) 828) (pcal d) Q lim (prL d lim Q) ls st G := prL_of rfl ls st G
set_option maxRecDepth 100000 in
theorem eL_law_828 {d : Nat} {lim : Nat × Nat} {Q : px_Q} {ls : px_L} {st : List Value} {G : px_H} : prL d lim Q 828 ls st G ↔ (pi_iald 829) (pcal d) Q lim (prL d lim Q) ls st G := prL_of rfl ls st G
set_option maxRecDepth 100000 in
theorem eL_law_829 {d : Nat} {lim : Nat × Nat} {Q : px_Q} {ls : px_L} {st : List Value} {G : px_H} : prL d lim Q 829 ls st G ↔ (pi_ifeq 836 832) (pcal d) Q lim (prL d lim Q) ls st G := prL_of rfl ls st G
set_option maxRecDepth 100000 in
theorem eL_law_832 {d : Nat} {lim : Nat × Nat} {Q : px_Q} {ls : px_L} {st : List Value} {G : px_H} : prL d lim Q 832 ls st G ↔ (pi_const (.int (1)) 833) (pcal d) Q lim (prL d lim Q) ls st G := prL_of rfl ls st G
set_option maxRecDepth 100000 in
theorem eL_law_833 {d : Nat} {lim : Nat × Nat} {Q : px_Q} {ls : px_L} {st : List Value} {G : px_H} : prL d lim Q 833 ls st G ↔ (pi_goto 837) (pcal d) Q lim (prL d lim Q) ls st G := prL_of rfl ls st G
set_option maxRecDepth 100000 in
theorem eL_law_836 {d : Nat} {lim : Nat × Nat} {Q : px_Q} {ls : px_L} {st : List Value} {G : px_H} : prL d lim Q 836 ls st G ↔ (pi_const (.int (0)) 837) (pcal d) Q lim (prL d lim Q) ls st G := prL_of rfl ls st G
set_option maxRecDepth 100000 in
theorem eL_law_837 {d : Nat} {lim : Nat × Nat} {Q : px_Q} {ls : px_L} {st : List Value} {G : px_H} : prL d lim Q 837 ls st G ↔ (pi_callV 71 3 6 840) (pcal d) Q lim (prL d lim Q) ls st G := prL_of rfl ls st G
set_option maxRecDepth 100000 in
theorem eL_law_840 {d : Nat} {lim : Nat × Nat} {Q : px_Q} {ls : px_L} {st : List Value} {G : px_H} : prL d lim Q 840 ls st G ↔ (pi_aload 2 841) (pcal d) Q lim (prL d lim Q) ls st G := prL_of rfl ls st G
set_option maxRecDepth 100000 in
theorem eL_law_841 {d : Nat} {lim : Nat × Nat} {Q : px_Q} {ls : px_L} {st : List Value} {G : px_H} : prL d lim Q 841 ls st G ↔ (pi_aload 0 842) (pcal d) Q lim (prL d lim Q) ls st G := prL_of rfl ls st G
set_option maxRecDepth 100000 in
theorem eL_law_842 {d : Nat} {lim : Nat × Nat} {Q : px_Q} {ls : px_L} {st : List Value} {G : px_H} : prL d lim Q 842 ls st G ↔ (pi_iload 3 843) (pcal d) Q lim (prL d lim Q) ls st G := prL_of rfl ls st G
set_option maxRecDepth 100000 in
theorem eL_law_843 {d : Nat} {lim : Nat × Nat} {Q : px_Q} {ls : px_L} {st : List Value} {G : px_H} : prL d lim Q 843 ls st G ↔ (pi_const (.int (1)) 844) (pcal d) Q lim (prL d lim Q) ls st G := prL_of rfl ls st G
set_option maxRecDepth 100000 in
theorem eL_law_844 {d : Nat} {lim : Nat × Nat} {Q : px_Q} {ls : px_L} {st : List Value} {G : px_H} : prL d lim Q 844 ls st G ↔ (pi_bin (fun x y => x + y) 845) (pcal d) Q lim (prL d lim Q) ls st G := prL_of rfl ls st G
set_option maxRecDepth 100000 in
theorem eL_law_845 {d : Nat} {lim : Nat × Nat} {Q : px_Q} {ls : px_L} {st : List Value} {G : px_H} : prL d lim Q 845 ls st G ↔ (pi_iald 846) (pcal d) Q lim (prL d lim Q) ls st G := prL_of rfl ls st G
set_option maxRecDepth 100000 in
theorem eL_law_846 {d : Nat} {lim : Nat × Nat} {Q : px_Q} {ls : px_L} {st : List Value} {G : px_H} : prL d lim Q 846 ls st G ↔ (pi_aload 0 847) (pcal d) Q lim (prL d lim Q) ls st G := prL_of rfl ls st G
set_option maxRecDepth 100000 in
theorem eL_law_847 {d : Nat} {lim : Nat × Nat} {Q : px_Q} {ls : px_L} {st : List Value} {G : px_H} : prL d lim Q 847 ls st G ↔ (pi_iload 3 848) (pcal d) Q lim (prL d lim Q) ls st G := prL_of rfl ls st G
set_option maxRecDepth 100000 in
theorem eL_law_848 {d : Nat} {lim : Nat × Nat} {Q : px_Q} {ls : px_L} {st : List Value} {G : px_H} : prL d lim Q 848 ls st G ↔ (pi_const (.int (2)) 849) (pcal d) Q lim (prL d lim Q) ls st G := prL_of rfl ls st G
set_option maxRecDepth 100000 in
theorem eL_law_849 {d : Nat} {lim : Nat × Nat} {Q : px_Q} {ls : px_L} {st : List Value} {G : px_H} : prL d lim Q 849 ls st G ↔ (pi_bin (fun x y => x + y) 850) (pcal d) Q lim (prL d lim Q) ls st G := prL_of rfl ls st G
set_option maxRecDepth 100000 in
theorem eL_law_850 {d : Nat} {lim : Nat × Nat} {Q : px_Q} {ls : px_L} {st : List Value} {G : px_H} : prL d lim Q 850 ls st G ↔ (pi_iald 851) (pcal d) Q lim (prL d lim Q) ls st G := prL_of rfl ls st G
set_option maxRecDepth 100000 in
theorem eL_law_851 {d : Nat} {lim : Nat × Nat} {Q : px_Q} {ls : px_L} {st : List Value} {G : px_H} : prL d lim Q 851 ls st G ↔ (pi_aload 0 852) (pcal d) Q lim (prL d lim Q) ls st G := prL_of rfl ls st G
set_option maxRecDepth 100000 in
theorem eL_law_852 {d : Nat} {lim : Nat × Nat} {Q : px_Q} {ls : px_L} {st : List Value} {G : px_H} : prL d lim Q 852 ls st G ↔ (pi_iload 3 853) (pcal d) Q lim (prL d lim Q) ls st G := prL_of rfl ls st G
set_option maxRecDepth 100000 in
theorem eL_law_853 {d : Nat} {lim : Nat × Nat} {Q : px_Q} {ls : px_L} {st : List Value} {G : px_H} : prL d lim Q 853 ls st G ↔ (pi_const (.int (3)) 854) (pcal d) Q lim (prL d lim Q) ls st G := prL_of rfl ls st G
set_option maxRecDepth 100000 in
theorem eL_law_854 {d : Nat} {lim : Nat × Nat} {Q : px_Q} {ls : px_L} {st : List Value} {G : px_H} : prL d lim Q 854 ls st G ↔ (pi_bin (fun x y => x + y) 855) (pcal d) Q lim (prL d lim Q) ls st G := prL_of rfl ls st G
set_option maxRecDepth 100000 in
theorem eL_law_855 {d : Nat} {lim : Nat × Nat} {Q : px_Q} {ls : px_L} {st : List Value} {G : px_H} : prL d lim Q 855 ls st G ↔ (pi_iald 856) (pcal d) Q lim (prL d lim Q) ls st G := prL_of rfl ls st G
set_option maxRecDepth 100000 in
theorem eL_law_856 {d : Nat} {lim : Nat × Nat} {Q : px_Q} {ls : px_L} {st : List Value} {G : px_H} : prL d lim Q 856 ls st G ↔ (pi_ifeq 863 859) (pcal d) Q lim (prL d lim Q) ls st G := prL_of rfl ls st G
set_option maxRecDepth 100000 in
theorem eL_law_859 {d : Nat} {lim : Nat × Nat} {Q : px_Q} {ls : px_L} {st : List Value} {G : px_H} : prL d lim Q 859 ls st G ↔ (pi_const (.int (1)) 860) (pcal d) Q lim (prL d lim Q) ls st G := prL_of rfl ls st G
set_option maxRecDepth 100000 in
theorem eL_law_860 {d : Nat} {lim : Nat × Nat} {Q : px_Q} {ls : px_L} {st : List Value} {G : px_H} : prL d lim Q 860 ls st G ↔ (pi_goto 864) (pcal d) Q lim (prL d lim Q) ls st G := prL_of rfl ls st G
set_option maxRecDepth 100000 in
theorem eL_law_863 {d : Nat} {lim : Nat × Nat} {Q : px_Q} {ls : px_L} {st : List Value} {G : px_H} : prL d lim Q 863 ls st G ↔ (pi_const (.int (0)) 864) (pcal d) Q lim (prL d lim Q) ls st G := prL_of rfl ls st G
set_option maxRecDepth 100000 in
theorem eL_law_864 {d : Nat} {lim : Nat × Nat} {Q : px_Q} {ls : px_L} {st : List Value} {G : px_H} : prL d lim Q 864 ls st G ↔ (pi_callV 140 3 7 867) (pcal d) Q lim (prL d lim Q) ls st G := prL_of rfl ls st G
set_option maxRecDepth 100000 in
theorem eL_law_867 {d : Nat} {lim : Nat × Nat} {Q : px_Q} {ls : px_L} {st : List Value} {G : px_H} : prL d lim Q 867 ls st G ↔ (pi_iceq 1156 870) (pcal d) Q lim (prL d lim Q) ls st G := prL_of rfl ls st G
set_option maxRecDepth 100000 in
theorem eL_law_870 {d : Nat} {lim : Nat × Nat} {Q : px_Q} {ls : px_L} {st : List Value} {G : px_H} : prL d lim Q 870 ls st G ↔ (pi_const (.int (0)) 871) (pcal d) Q lim (prL d lim Q) ls st G := prL_of rfl ls st G
set_option maxRecDepth 100000 in
theorem eL_law_871 {d : Nat} {lim : Nat × Nat} {Q : px_Q} {ls : px_L} {st : List Value} {G : px_H} : prL d lim Q 871 ls st G ↔ (pi_zret) (pcal d) Q lim (prL d lim Q) ls st G := prL_of rfl ls st G
set_option maxRecDepth 100000 in
theorem eL_law_872 {d : Nat} {lim : Nat × Nat} {Q : px_Q} {ls : px_L} {st : List Value} {G : px_H} : prL d lim Q 872 ls st G ↔ (pi_aload 1 873) (pcal d) Q lim (prL d lim Q) ls st G := prL_of rfl ls st G
set_option maxRecDepth 100000 in
theorem eL_law_873 {d : Nat} {lim : Nat × Nat} {Q : px_Q} {ls : px_L} {st : List Value} {G : px_H} : prL d lim Q 873 ls st G ↔ (pi_aload 0 874) (pcal d) Q lim (prL d lim Q) ls st G := prL_of rfl ls st G
set_option maxRecDepth 100000 in
theorem eL_law_874 {d : Nat} {lim : Nat × Nat} {Q : px_Q} {ls : px_L} {st : List Value} {G : px_H} : prL d lim Q 874 ls st G ↔ (pi_iload 3 875) (pcal d) Q lim (prL d lim Q) ls st G := prL_of rfl ls st G
set_option maxRecDepth 100000 in
theorem eL_law_875 {d : Nat} {lim : Nat × Nat} {Q : px_Q} {ls : px_L} {st : List Value} {G : px_H} : prL d lim Q 875 ls st G ↔ (pi_const (.int (1)) 876) (pcal d) Q lim (prL d lim Q) ls st G := prL_of rfl ls st G
set_option maxRecDepth 100000 in
theorem eL_law_876 {d : Nat} {lim : Nat × Nat} {Q : px_Q} {ls : px_L} {st : List Value} {G : px_H} : prL d lim Q 876 ls st G ↔ (pi_bin (fun x y => x + y) 877) (pcal d) Q lim (prL d lim Q) ls st G := prL_of rfl ls st G
set_option maxRecDepth 100000 in
theorem eL_law_877 {d : Nat} {lim : Nat × Nat} {Q : px_Q} {ls : px_L} {st : List Value} {G : px_H} : prL d lim Q 877 ls st G ↔ (pi_iald 878) (pcal d) Q lim (prL d lim Q) ls st G := prL_of rfl ls st G
set_option maxRecDepth 100000 in
theorem eL_law_878 {d : Nat} {lim : Nat × Nat} {Q : px_Q} {ls : px_L} {st : List Value} {G : px_H} : prL d lim Q 878 ls st G ↔ (pi_aload 0 879) (pcal d) Q lim (prL d lim Q) ls st G := prL_of rfl ls st G
set_option maxRecDepth 100000 in
theorem eL_law_879 {d : Nat} {lim : Nat × Nat} {Q : px_Q} {ls : px_L} {st : List Value} {G : px_H} : prL d lim Q 879 ls st G ↔ (pi_iload 3 880) (pcal d) Q lim (prL d lim Q) ls st G := prL_of rfl ls st G
set_option maxRecDepth 100000 in
theorem eL_law_880 {d : Nat} {lim : Nat × Nat} {Q : px_Q} {ls : px_L} {st : List Value} {G : px_H} : prL d lim Q 880 ls st G ↔ (pi_const (.int (2)) 881) (pcal d) Q lim (prL d lim Q) ls st G := prL_of rfl ls st G
set_option maxRecDepth 100000 in
theorem eL_law_881 {d : Nat} {lim : Nat × Nat} {Q : px_Q} {ls : px_L} {st : List Value} {G : px_H} : prL d lim Q 881 ls st G ↔ (pi_bin (fun x y => x + y) 882) (pcal d) Q lim (prL d lim Q) ls st G := prL_of rfl ls st G
set_option maxRecDepth 100000 in
theorem eL_law_882 {d : Nat} {lim : Nat × Nat} {Q : px_Q} {ls : px_L} {st : List Value} {G : px_H} : prL d lim Q 882 ls st G ↔ (pi_iald 883) (pcal d) Q lim (prL d lim Q) ls st G := prL_of rfl ls st G
set_option maxRecDepth 100000 in
theorem eL_law_883 {d : Nat} {lim : Nat × Nat} {Q : px_Q} {ls : px_L} {st : List Value} {G : px_H} : prL d lim Q 883 ls st G ↔ (pi_aload 0 884) (pcal d) Q lim (prL d lim Q) ls st G := prL_of rfl ls st G
set_option maxRecDepth 100000 in
theorem eL_law_884 {d : Nat} {lim : Nat × Nat} {Q : px_Q} {ls : px_L} {st : List Value} {G : px_H} : prL d lim Q 884 ls st G ↔ (pi_iload 3 885) (pcal d) Q lim (prL d lim Q) ls st G := prL_of rfl ls st G
set_option maxRecDepth 100000 in
theorem eL_law_885 {d : Nat} {lim : Nat × Nat} {Q : px_Q} {ls : px_L} {st : List Value} {G : px_H} : prL d lim Q 885 ls st G ↔ (pi_const (.int (3)) 886) (pcal d) Q lim (prL d lim Q) ls st G := prL_of rfl ls st G
set_option maxRecDepth 100000 in
theorem eL_law_886 {d : Nat} {lim : Nat × Nat} {Q : px_Q} {ls : px_L} {st : List Value} {G : px_H} : prL d lim Q 886 ls st G ↔ (pi_bin (fun x y => x + y) 887) (pcal d) Q lim (prL d lim Q) ls st G := prL_of rfl ls st G
set_option maxRecDepth 100000 in
theorem eL_law_887 {d : Nat} {lim : Nat × Nat} {Q : px_Q} {ls : px_L} {st : List Value} {G : px_H} : prL d lim Q 887 ls st G ↔ (pi_iald 888) (pcal d) Q lim (prL d lim Q) ls st G := prL_of rfl ls st G
set_option maxRecDepth 100000 in
theorem eL_law_888 {d : Nat} {lim : Nat × Nat} {Q : px_Q} {ls : px_L} {st : List Value} {G : px_H} : prL d lim Q 888 ls st G ↔ (pi_callV 78 3 6 891) (pcal d) Q lim (prL d lim Q) ls st G := prL_of rfl ls st G
set_option maxRecDepth 100000 in
theorem eL_law_891 {d : Nat} {lim : Nat × Nat} {Q : px_Q} {ls : px_L} {st : List Value} {G : px_H} : prL d lim Q 891 ls st G ↔ (pi_aload 2 892) (pcal d) Q lim (prL d lim Q) ls st G := prL_of rfl ls st G
set_option maxRecDepth 100000 in
theorem eL_law_892 {d : Nat} {lim : Nat × Nat} {Q : px_Q} {ls : px_L} {st : List Value} {G : px_H} : prL d lim Q 892 ls st G ↔ (pi_aload 0 893) (pcal d) Q lim (prL d lim Q) ls st G := prL_of rfl ls st G
set_option maxRecDepth 100000 in
theorem eL_law_893 {d : Nat} {lim : Nat × Nat} {Q : px_Q} {ls : px_L} {st : List Value} {G : px_H} : prL d lim Q 893 ls st G ↔ (pi_iload 3 894) (pcal d) Q lim (prL d lim Q) ls st G := prL_of rfl ls st G
set_option maxRecDepth 100000 in
theorem eL_law_894 {d : Nat} {lim : Nat × Nat} {Q : px_Q} {ls : px_L} {st : List Value} {G : px_H} : prL d lim Q 894 ls st G ↔ (pi_const (.int (1)) 895) (pcal d) Q lim (prL d lim Q) ls st G := prL_of rfl ls st G
set_option maxRecDepth 100000 in
theorem eL_law_895 {d : Nat} {lim : Nat × Nat} {Q : px_Q} {ls : px_L} {st : List Value} {G : px_H} : prL d lim Q 895 ls st G ↔ (pi_bin (fun x y => x + y) 896) (pcal d) Q lim (prL d lim Q) ls st G := prL_of rfl ls st G
set_option maxRecDepth 100000 in
theorem eL_law_896 {d : Nat} {lim : Nat × Nat} {Q : px_Q} {ls : px_L} {st : List Value} {G : px_H} : prL d lim Q 896 ls st G ↔ (pi_iald 897) (pcal d) Q lim (prL d lim Q) ls st G := prL_of rfl ls st G
set_option maxRecDepth 100000 in
theorem eL_law_897 {d : Nat} {lim : Nat × Nat} {Q : px_Q} {ls : px_L} {st : List Value} {G : px_H} : prL d lim Q 897 ls st G ↔ (pi_aload 0 898) (pcal d) Q lim (prL d lim Q) ls st G := prL_of rfl ls st G
set_option maxRecDepth 100000 in
theorem eL_law_898 {d : Nat} {lim : Nat × Nat} {Q : px_Q} {ls : px_L} {st : List Value} {G : px_H} : prL d lim Q 898 ls st G ↔ (pi_iload 3 899) (pcal d) Q lim (prL d lim Q) ls st G := prL_of rfl ls st G
set_option maxRecDepth 100000 in
theorem eL_law_899 {d : Nat} {lim : Nat × Nat} {Q : px_Q} {ls : px_L} {st : List Value} {G : px_H} : prL d lim Q 899 ls st G ↔ (pi_const (.int (2)) 900) (pcal d) Q lim (prL d lim Q) ls st G := prL_of rfl ls st G
set_option maxRecDepth 100000 in
theorem eL_law_900 {d : Nat} {lim : Nat × Nat} {Q : px_Q} {ls : px_L} {st : List Value} {G : px_H} : prL d lim Q 900 ls st G ↔ (pi_bin (fun x y => x + y) 901) (pcal d) Q lim (prL d lim Q) ls st G := prL_of rfl ls st G
set_option maxRecDepth 100000 in
theorem eL_law_901 {d : Nat} {lim : Nat × Nat} {Q : px_Q} {ls : px_L} {st : List Value} {G : px_H} : prL d lim Q 901 ls st G ↔ (pi_iald 902) (pcal d) Q lim (prL d lim Q) ls st G := prL_of rfl ls st G
set_option maxRecDepth 100000 in
theorem eL_law_902 {d : Nat} {lim : Nat × Nat} {Q : px_Q} {ls : px_L} {st : List Value} {G : px_H} : prL d lim Q 902 ls st G ↔ (pi_aload 0 903) (pcal d) Q lim (prL d lim Q) ls st G := prL_of rfl ls st G
set_option maxRecDepth 100000 in
theorem eL_law_903 {d : Nat} {lim : Nat × Nat} {Q : px_Q} {ls : px_L} {st : List Value} {G : px_H} : prL d lim Q 903 ls st G ↔ (pi_iload 3 904) (pcal d) Q lim (prL d lim Q) ls st G := prL_of rfl ls st G
set_option maxRecDepth 100000 in
theorem eL_law_904 {d : Nat} {lim : Nat × Nat} {Q : px_Q} {ls : px_L} {st : List Value} {G : px_H} : prL d lim Q 904 ls st G ↔ (pi_const (.int (3)) 905) (pcal d) Q lim (prL d lim Q) ls st G := prL_of rfl ls st G
set_option maxRecDepth 100000 in
theorem eL_law_905 {d : Nat} {lim : Nat × Nat} {Q : px_Q} {ls : px_L} {st : List Value} {G : px_H} : prL d lim Q 905 ls st G ↔ (pi_bin (fun x y => x + y) 906) (pcal d) Q lim (prL d lim Q) ls st G := prL_of rfl ls st G
set_option maxRecDepth 100000 in
theorem eL_law_906 {d : Nat} {lim : Nat × Nat} {Q : px_Q} {ls : px_L} {st : List Value} {G : px_H} : prL d lim Q 906 ls st G ↔ (pi_iald 907) (pcal d) Q lim (prL d lim Q) ls st G := prL_of rfl ls st G
set_option maxRecDepth 100000 in
theorem eL_law_907 {d : Nat} {lim : Nat × Nat} {Q : px_Q} {ls : px_L} {st : List Value} {G : px_H} : prL d lim Q 907 ls st G ↔ (pi_callV 141 3 7 910) (pcal d) Q lim (prL d lim Q) ls st G := prL_of rfl ls st G
set_option maxRecDepth 100000 in
theorem eL_law_910 {d : Nat} {lim : Nat × Nat} {Q : px_Q} {ls : px_L} {st : List Value} {G : px_H} : prL d lim Q 910 ls st G ↔ (pi_iceq 1156 913) (pcal d) Q lim (prL d lim Q) ls st G := prL_of rfl ls st G
set_option maxRecDepth 100000 in
theorem eL_law_913 {d : Nat} {lim : Nat × Nat} {Q : px_Q} {ls : px_L} {st : List Value} {G : px_H} : prL d lim Q 913 ls st G ↔ (pi_const (.int (0)) 914) (pcal d) Q lim (prL d lim Q) ls st G := prL_of rfl ls st G
set_option maxRecDepth 100000 in
theorem eL_law_914 {d : Nat} {lim : Nat × Nat} {Q : px_Q} {ls : px_L} {st : List Value} {G : px_H} : prL d lim Q 914 ls st G ↔ (pi_zret) (pcal d) Q lim (prL d lim Q) ls st G := prL_of rfl ls st G
set_option maxRecDepth 100000 in
theorem eL_law_915 {d : Nat} {lim : Nat × Nat} {Q : px_Q} {ls : px_L} {st : List Value} {G : px_H} : prL d lim Q 915 ls st G ↔ (pi_aload 1 916) (pcal d) Q lim (prL d lim Q) ls st G := prL_of rfl ls st G
set_option maxRecDepth 100000 in
theorem eL_law_916 {d : Nat} {lim : Nat × Nat} {Q : px_Q} {ls : px_L} {st : List Value} {G : px_H} : prL d lim Q 916 ls st G ↔ (pi_callV 79 0 6 919) (pcal d) Q lim (prL d lim Q) ls st G := prL_of rfl ls st G
set_option maxRecDepth 100000 in
theorem eL_law_919 {d : Nat} {lim : Nat × Nat} {Q : px_Q} {ls : px_L} {st : List Value} {G : px_H} : prL d lim Q 919 ls st G ↔ (pi_aload 2 920) (pcal d) Q lim (prL d lim Q) ls st G := prL_of rfl ls st G
set_option maxRecDepth 100000 in
theorem eL_law_920 {d : Nat} {lim : Nat × Nat} {Q : px_Q} {ls : px_L} {st : List Value} {G : px_H} : prL d lim Q 920 ls st G ↔ (pi_callV 142 0 7 923) (pcal d) Q lim (prL d lim Q) ls st G := prL_of rfl ls st G
set_option maxRecDepth 100000 in
theorem eL_law_923 {d : Nat} {lim : Nat × Nat} {Q : px_Q} {ls : px_L} {st : List Value} {G : px_H} : prL d lim Q 923 ls st G ↔ (pi_iceq 1156 926) (pcal d) Q lim (prL d lim Q) ls st G := prL_of rfl ls st G
set_option maxRecDepth 100000 in
theorem eL_law_926 {d : Nat} {lim : Nat × Nat} {Q : px_Q} {ls : px_L} {st : List Value} {G : px_H} : prL d lim Q 926 ls st G ↔ (pi_const (.int (0)) 927) (pcal d) Q lim (prL d lim Q) ls st G := prL_of rfl ls st G
set_option maxRecDepth 100000 in
theorem eL_law_927 {d : Nat} {lim : Nat × Nat} {Q : px_Q} {ls : px_L} {st : List Value} {G : px_H} : prL d lim Q 927 ls st G ↔ (pi_zret) (pcal d) Q lim (prL d lim Q) ls st G := prL_of rfl ls st G
set_option maxRecDepth 100000 in
theorem eL_law_928 {d : Nat} {lim : Nat × Nat} {Q : px_Q} {ls : px_L} {st : List Value} {G : px_H} : prL d lim Q 928 ls st G ↔ (pi_aload 1 929) (pcal d) Q lim (prL d lim Q) ls st G := prL_of rfl ls st G
set_option maxRecDepth 100000 in
theorem eL_law_929 {d : Nat} {lim : Nat × Nat} {Q : px_Q} {ls : px_L} {st : List Value} {G : px_H} : prL d lim Q 929 ls st G ↔ (pi_aload 0 930) (pcal d) Q lim (prL d lim Q) ls st G := prL_of rfl ls st G
set_option maxRecDepth 100000 in
theorem eL_law_930 {d : Nat} {lim : Nat × Nat} {Q : px_Q} {ls : px_L} {st : List Value} {G : px_H} : prL d lim Q 930 ls st G ↔ (pi_iload 3 931) (pcal d) Q lim (prL d lim Q) ls st G := prL_of rfl ls st G
set_option maxRecDepth 100000 in
theorem eL_law_931 {d : Nat} {lim : Nat × Nat} {Q : px_Q} {ls : px_L} {st : List Value} {G : px_H} : prL d lim Q 931 ls st G ↔ (pi_const (.int (1)) 932) (pcal d) Q lim (prL d lim Q) ls st G := prL_of rfl ls st G
set_option maxRecDepth 100000 in
theorem eL_law_932 {d : Nat} {lim : Nat × Nat} {Q : px_Q} {ls : px_L} {st : List Value} {G : px_H} : prL d lim Q 932 ls st G ↔ (pi_bin (fun x y => x + y) 933) (pcal d) Q lim (prL d lim Q) ls st G := prL_of rfl ls st G
set_option maxRecDepth 100000 in
theorem eL_law_933 {d : Nat} {lim : Nat × Nat} {Q : px_Q} {ls : px_L} {st : List Value} {G : px_H} : prL d lim Q 933 ls st G ↔ (pi_iald 934) (pcal d) Q lim (prL d lim Q) ls st G := prL_of rfl ls st G
set_option maxRecDepth 100000 in
theorem eL_law_934 {d : Nat} {lim : Nat × Nat} {Q : px_Q} {ls : px_L} {st : List Value} {G : px_H} : prL d lim Q 934 ls st G ↔ (pi_callV 80 1 6 937) (pcal d) Q lim (prL d lim Q) ls st G := prL_of rfl ls st G
set_option maxRecDepth 100000 in
theorem eL_law_937 {d : Nat} {lim : Nat × Nat} {Q : px_Q} {ls : px_L} {st : List Value} {G : px_H} : prL d lim Q 937 ls st G ↔ (pi_aload 2 938) (pcal d) Q lim (prL d lim Q) ls st G := prL_of rfl ls st G
set_option maxRecDepth 100000 in
theorem eL_law_938 {d : Nat} {lim : Nat × Nat} {Q : px_Q} {ls : px_L} {st : List Value} {G : px_H} : prL d lim Q 938 ls st G ↔ (pi_aload 0 939) (pcal d) Q lim (prL d lim Q) ls st G := prL_of rfl ls st G
set_option maxRecDepth 100000 in
theorem eL_law_939 {d : Nat} {lim : Nat × Nat} {Q : px_Q} {ls : px_L} {st : List Value} {G : px_H} : prL d lim Q 939 ls st G ↔ (pi_iload 3 940) (pcal d) Q lim (prL d lim Q) ls st G := prL_of rfl ls st G
set_option maxRecDepth 100000 in
theorem eL_law_940 {d : Nat} {lim : Nat × Nat} {Q : px_Q} {ls : px_L} {st : List Value} {G : px_H} : prL d lim Q 940 ls st G ↔ (pi_const (.int (1)) 941) (pcal d) Q lim (prL d lim Q) ls st G := prL_of rfl ls st G
set_option maxRecDepth 100000 in
theorem eL_law_941 {d : Nat} {lim : Nat × Nat} {Q : px_Q} {ls : px_L} {st : List Value} {G : px_H} : prL d lim Q 941 ls st G ↔ (pi_bin (fun x y => x + y) 942) (pcal d) Q lim (prL d lim Q) ls st G := prL_of rfl ls st G
set_option maxRecDepth 100000 in
theorem eL_law_942 {d : Nat} {lim : Nat × Nat} {Q : px_Q} {ls : px_L} {st : List Value} {G : px_H} : prL d lim Q 942 ls st G ↔ (pi_iald 943) (pcal d) Q lim (prL d lim Q) ls st G := prL_of rfl ls st G
set_option maxRecDepth 100000 in
theorem eL_law_943 {d : Nat} {lim : Nat × Nat} {Q : px_Q} {ls : px_L} {st : List Value} {G : px_H} : prL d lim Q 943 ls st G ↔ (pi_callV 144 1 7 946) (pcal d) Q lim (prL d lim Q) ls st G := prL_of rfl ls st G
set_option maxRecDepth 100000 in
theorem eL_law_946 {d : Nat} {lim : Nat × Nat} {Q : px_Q} {ls : px_L} {st : List Value} {G : px_H} : prL d lim Q 946 ls st G ↔ (pi_iceq 1156 949) (pcal d) Q lim (prL d lim Q) ls st G := prL_of rfl ls st G
set_option maxRecDepth 100000 in
theorem eL_law_949 {d : Nat} {lim : Nat × Nat} {Q : px_Q} {ls : px_L} {st : List Value} {G : px_H} : prL d lim Q 949 ls st G ↔ (pi_const (.int (0)) 950) (pcal d) Q lim (prL d lim Q) ls st G := prL_of rfl ls st G
set_option maxRecDepth 100000 in
theorem eL_law_950 {d : Nat} {lim : Nat × Nat} {Q : px_Q} {ls : px_L} {st : List Value} {G : px_H} : prL d lim Q 950 ls st G ↔ (pi_zret) (pcal d) Q lim (prL d lim Q) ls st G := prL_of rfl ls st G
set_option maxRecDepth 100000 in
theorem eL_law_951 {d : Nat} {lim : Nat × Nat} {Q : px_Q} {ls : px_L} {st : List Value} {G : px_H} : prL d lim Q 951 ls st G ↔ (pi_aload 1 952) (pcal d) Q lim (prL d lim Q) ls st G := prL_of rfl ls st G
set_option maxRecDepth 100000 in
theorem eL_law_952 {d : Nat} {lim : Nat × Nat} {Q : px_Q} {ls : px_L} {st : List Value} {G : px_H} : prL d lim Q 952 ls st G ↔ (pi_aload 0 953) (pcal d) Q lim (prL d lim Q) ls st G := prL_of rfl ls st G
set_option maxRecDepth 100000 in
theorem eL_law_953 {d : Nat} {lim : Nat × Nat} {Q : px_Q} {ls : px_L} {st : List Value} {G : px_H} : prL d lim Q 953 ls st G ↔ (pi_iload 3 954) (pcal d) Q lim (prL d lim Q) ls st G := prL_of rfl ls st G
set_option maxRecDepth 100000 in
theorem eL_law_954 {d : Nat} {lim : Nat × Nat} {Q : px_Q} {ls : px_L} {st : List Value} {G : px_H} : prL d lim Q 954 ls st G ↔ (pi_const (.int (1)) 955) (pcal d) Q lim (prL d lim Q) ls st G := prL_of rfl ls st G
set_option maxRecDepth 100000 in
theorem eL_law_955 {d : Nat} {lim : Nat × Nat} {Q : px_Q} {ls : px_L} {st : List Value} {G : px_H} : prL d lim Q 955 ls st G ↔ (pi_bin (fun x y => x + y) 956) (pcal d) Q lim (prL d lim Q) ls st G := prL_of rfl ls st G
set_option maxRecDepth 100000 in
theorem eL_law_956 {d : Nat} {lim : Nat × Nat} {Q : px_Q} {ls : px_L} {st : List Value} {G : px_H} : prL d lim Q 956 ls st G ↔ (pi_iald 957) (pcal d) Q lim (prL d lim Q) ls st G := prL_of rfl ls st G
set_option maxRecDepth 100000 in
theorem eL_law_957 {d : Nat} {lim : Nat × Nat} {Q : px_Q} {ls : px_L} {st : List Value} {G : px_H} : prL d lim Q 957 ls st G ↔ (pi_aload 0 958) (pcal d) Q lim (prL d lim Q) ls st G := prL_of rfl ls st G
set_option maxRecDepth 100000 in
theorem eL_law_958 {d : Nat} {lim : Nat × Nat} {Q : px_Q} {ls : px_L} {st : List Value} {G : px_H} : prL d lim Q 958 ls st G ↔ (pi_iload 3 959) (pcal d) Q lim (prL d lim Q) ls st G := prL_of rfl ls st G
set_option maxRecDepth 100000 in
theorem eL_law_959 {d : Nat} {lim : Nat × Nat} {Q : px_Q} {ls : px_L} {st : List Value} {G : px_H} : prL d lim Q 959 ls st G ↔ (pi_const (.int (2)) 960) (pcal d) Q lim (prL d lim Q) ls st G := prL_of rfl ls st G
set_option maxRecDepth 100000 in
theorem eL_law_960 {d : Nat} {lim : Nat × Nat} {Q : px_Q} {ls : px_L} {st : List Value} {G : px_H} : prL d lim Q 960 ls st G ↔ (pi_bin (fun x y => x + y) 961) (pcal d) Q lim (prL d lim Q) ls st G := prL_of rfl ls st G
set_option maxRecDepth 100000 in
theorem eL_law_961 {d : Nat} {lim : Nat × Nat} {Q : px_Q} {ls : px_L} {st : List Value} {G : px_H} : prL d lim Q 961 ls st G ↔ (pi_iald 962) (pcal d) Q lim (prL d lim Q) ls st G := prL_of rfl ls st G
set_option maxRecDepth 100000 in
theorem eL_law_962 {d : Nat} {lim : Nat × Nat} {Q : px_Q} {ls : px_L} {st : List Value} {G : px_H} : prL d lim Q 962 ls st G ↔ (pi_aload 0 963) (pcal d) Q lim (prL d lim Q) ls st G := prL_of rfl ls st G
set_option maxRecDepth 100000 in
theorem eL_law_963 {d : Nat} {lim : Nat × Nat} {Q : px_Q} {ls : px_L} {st : List Value} {G : px_H} : prL d lim Q 963 ls st G ↔ (pi_iload 3 964) (pcal d) Q lim (prL d lim Q) ls st G := prL_of rfl ls st G
set_option maxRecDepth 100000 in
theorem eL_law_964 {d : Nat} {lim : Nat × Nat} {Q : px_Q} {ls : px_L} {st : List Value} {G : px_H} : prL d lim Q 964 ls st G ↔ (pi_const (.int (3)) 965) (pcal d) Q lim (prL d lim Q) ls st G := prL_of rfl ls st G
set_option maxRecDepth 100000 in
theorem eL_law_965 {d : Nat} {lim : Nat × Nat} {Q : px_Q} {ls : px_L} {st : List Value} {G : px_H} : prL d lim Q 965 ls st G ↔ (pi_bin (fun x y => x + y) 966) (pcal d) Q lim (prL d lim Q) ls st G := prL_of rfl ls st G
set_option maxRecDepth 100000 in
theorem eL_law_966 {d : Nat} {lim : Nat × Nat} {Q : px_Q} {ls : px_L} {st : List Value} {G : px_H} : prL d lim Q 966 ls st G ↔ (pi_iald 967) (pcal d) Q lim (prL d lim Q) ls st G := prL_of rfl ls st G
set_option maxRecDepth 100000 in
theorem eL_law_967 {d : Nat} {lim : Nat × Nat} {Q : px_Q} {ls : px_L} {st : List Value} {G : px_H} : prL d lim Q 967 ls st G ↔ (pi_ifeq 974 970) (pcal d) Q lim (prL d lim Q) ls st G := prL_of rfl ls st G
set_option maxRecDepth 100000 in
theorem eL_law_970 {d : Nat} {lim : Nat × Nat} {Q : px_Q} {ls : px_L} {st : List Value} {G : px_H} : prL d lim Q 970 ls st G ↔ (pi_const (.int (1)) 971) (pcal d) Q lim (prL d lim Q) ls st G := prL_of rfl ls st G
set_option maxRecDepth 100000 in
theorem eL_law_971 {d : Nat} {lim : Nat × Nat} {Q : px_Q} {ls : px_L} {st : List Value} {G : px_H} : prL d lim Q 971 ls st G ↔ (pi_goto 975) (pcal d) Q lim (prL d lim Q) ls st G := prL_of rfl ls st G
set_option maxRecDepth 100000 in
theorem eL_law_974 {d : Nat} {lim : Nat × Nat} {Q : px_Q} {ls : px_L} {st : List Value} {G : px_H} : prL d lim Q 974 ls st G ↔ (pi_const (.int (0)) 975) (pcal d) Q lim (prL d lim Q) ls st G := prL_of rfl ls st G
set_option maxRecDepth 100000 in
theorem eL_law_975 {d : Nat} {lim : Nat × Nat} {Q : px_Q} {ls : px_L} {st : List Value} {G : px_H} : prL d lim Q 975 ls st G ↔ (pi_callV 82 3 6 978) (pcal d) Q lim (prL d lim Q) ls st G := prL_of rfl ls st G
set_option maxRecDepth 100000 in
theorem eL_law_978 {d : Nat} {lim : Nat × Nat} {Q : px_Q} {ls : px_L} {st : List Value} {G : px_H} : prL d lim Q 978 ls st G ↔ (pi_aload 2 979) (pcal d) Q lim (prL d lim Q) ls st G := prL_of rfl ls st G
set_option maxRecDepth 100000 in
theorem eL_law_979 {d : Nat} {lim : Nat × Nat} {Q : px_Q} {ls : px_L} {st : List Value} {G : px_H} : prL d lim Q 979 ls st G ↔ (pi_aload 0 980) (pcal d) Q lim (prL d lim Q) ls st G := prL_of rfl ls st G
set_option maxRecDepth 100000 in
theorem eL_law_980 {d : Nat} {lim : Nat × Nat} {Q : px_Q} {ls : px_L} {st : List Value} {G : px_H} : prL d lim Q 980 ls st G ↔ (pi_iload 3 981) (pcal d) Q lim (prL d lim Q) ls st G := prL_of rfl ls st G
set_option maxRecDepth 100000 in
theorem eL_law_981 {d : Nat} {lim : Nat × Nat} {Q : px_Q} {ls : px_L} {st : List Value} {G : px_H} : prL d lim Q 981 ls st G ↔ (pi_const (.int (1)) 982) (pcal d) Q lim (prL d lim Q) ls st G := prL_of rfl ls st G
set_option maxRecDepth 100000 in
theorem eL_law_982 {d : Nat} {lim : Nat × Nat} {Q : px_Q} {ls : px_L} {st : List Value} {G : px_H} : prL d lim Q 982 ls st G ↔ (pi_bin (fun x y => x + y) 983) (pcal d) Q lim (prL d lim Q) ls st G := prL_of rfl ls st G
set_option maxRecDepth 100000 in
theorem eL_law_983 {d : Nat} {lim : Nat × Nat} {Q : px_Q} {ls : px_L} {st : List Value} {G : px_H} : prL d lim Q 983 ls st G ↔ (pi_iald 984) (pcal d) Q lim (prL d lim Q) ls st G := prL_of rfl ls st G
set_option maxRecDepth 100000 in
theorem eL_law_984 {d : Nat} {lim : Nat × Nat} {Q : px_Q} {ls : px_L} {st : List Value} {G : px_H} : prL d lim Q 984 ls st G ↔ (pi_aload 0 985) (pcal d) Q lim (prL d lim Q) ls st G := prL_of rfl ls st G
set_option maxRecDepth 100000 in
theorem eL_law_985 {d : Nat} {lim : Nat × Nat} {Q : px_Q} {ls : px_L} {st : List Value} {G : px_H} : prL d lim Q 985 ls st G ↔ (pi_iload 3 986) (pcal d) Q lim (prL d lim Q) ls st G := prL_of rfl ls st G
set_option maxRecDepth 100000 in
theorem eL_law_986 {d : Nat} {lim : Nat × Nat} {Q : px_Q} {ls : px_L} {st : List Value} {G : px_H} : prL d lim Q 986 ls st G ↔ (pi_const (.int (2)) 987) (pcal d) Q lim (prL d lim Q) ls st G := prL_of rfl ls st G
set_option maxRecDepth 100000 in
theorem eL_law_987 {d : Nat} {lim : Nat × Nat} {Q : px_Q} {ls : px_L} {st : List Value} {G : px_H} : prL d lim Q 987 ls st G ↔ (pi_bin (fun x y => x + y) 988) (pcal d) Q lim (prL d lim Q) ls st G := prL_of rfl ls st G
set_option maxRecDepth 100000 in
theorem eL_law_988 {d : Nat} {lim : Nat × Nat} {Q : px_Q} {ls : px_L} {st : List Value} {G : px_H} : prL d lim Q 988 ls st G ↔ (pi_iald 989) (pcal d) Q lim (prL d lim Q) ls st G := prL_of rfl ls st G
set_option maxRecDepth 100000 in
theorem eL_law_989 {d : Nat} {lim : Nat × Nat} {Q : px_Q} {ls : px_L} {st : List Value} {G : px_H} : prL d lim Q 989 ls st G ↔ (pi_aload 0 990) (pcal d) Q lim (prL d lim Q) ls st G := prL_of rfl ls st G
set_option maxRecDepth 100000 in
theorem eL_law_990 {d : Nat} {lim : Nat × Nat} {Q : px_Q} {ls : px_L} {st : List Value} {G : px_H} : prL d lim Q 990 ls st G ↔ (pi_iload 3 991) (pcal d) Q lim (prL d lim Q) ls st G := prL_of rfl ls st G
set_option maxRecDepth 100000 in
theorem eL_law_991 {d : Nat} {lim : Nat × Nat} {Q : px_Q} {ls : px_L} {st : List Value} {G : px_H} : prL d lim Q 991 ls st G ↔ (pi_const (.int (3)) 992) (pcal d) Q lim (prL d lim Q) ls st G := prL_of rfl ls st G
set_option maxRecDepth 100000 in
theorem eL_law_992 {d : Nat} {lim : Nat × Nat} {Q : px_Q} {ls : px_L} {st : List Value} {G : px_H} : prL d lim Q 992 ls st G ↔ (pi_bin (fun x y => x + y) 993) (pcal d) Q lim (prL d lim Q) ls st G := prL_of rfl ls st G
set_option maxRecDepth 100000 in
theorem eL_law_993 {d : Nat} {lim : Nat × Nat} {Q : px_Q} {ls : px_L} {st : List Value} {G : px_H} : prL d lim Q 993 ls st G ↔ (pi_iald 994) (pcal d) Q lim (prL d lim Q) ls st G := prL_of rfl ls st G
set_option maxRecDepth 100000 in
theorem eL_law_994 {d : Nat} {lim : Nat × Nat} {Q : px_Q} {ls : px_L} {st : List Value} {G : px_H} : prL d lim Q 994 ls st G ↔ (pi_ifeq 1001 997) (pcal d) Q lim (prL d lim Q) ls st G := prL_of rfl ls st G
set_option maxRecDepth 100000 in
theorem eL_law_997 {d : Nat} {lim : Nat × Nat} {Q : px_Q} {ls : px_L} {st : List Value} {G : px_H} : prL d lim Q 997 ls st G ↔ (pi_const (.int (1)) 998) (pcal d) Q lim (prL d lim Q) ls st G := prL_of rfl ls st G
set_option maxRecDepth 100000 in
theorem eL_law_998 {d : Nat} {lim : Nat × Nat} {Q : px_Q} {ls : px_L} {st : List Value} {G : px_H} : prL d lim Q 998 ls st G ↔ (pi_goto 1002) (pcal d) Q lim (prL d lim Q) ls st G := prL_of rfl ls st G
set_option maxRecDepth 100000 in
theorem eL_law_1001 {d : Nat} {lim : Nat × Nat} {Q : px_Q} {ls : px_L} {st : List Value} {G : px_H} : prL d lim Q 1001 ls st G ↔ (pi_const (.int (0)) 1002) (pcal d) Q lim (prL d lim Q) ls st G := prL_of rfl ls st G
set_option maxRecDepth 100000 in
theorem eL_law_1002 {d : Nat} {lim : Nat × Nat} {Q : px_Q} {ls : px_L} {st : List Value} {G : px_H} : prL d lim Q 1002 ls st G ↔ (pi_callV 145 3 7 1005) (pcal d) Q lim (prL d lim Q) ls st G := prL_of rfl ls st G
set_option maxRecDepth 100000 in
theorem eL_law_1005 {d : Nat} {lim : Nat × Nat} {Q : px_Q} {ls : px_L} {st : List Value} {G : px_H} : prL d lim Q 1005 ls st G ↔ (pi_iceq 1156 1008) (pcal d) Q lim (prL d lim Q) ls st G := prL_of rfl ls st G
set_option maxRecDepth 100000 in
theorem eL_law_1008 {d : Nat} {lim : Nat × Nat} {Q : px_Q} {ls : px_L} {st : List Value} {G : px_H} : prL d lim Q 1008 ls st G ↔ (pi_const (.int (0)) 1009) (pcal d) Q lim (prL d lim Q) ls st G := prL_of rfl ls st G
set_option maxRecDepth 100000 in
theorem eL_law_1009 {d : Nat} {lim : Nat × Nat} {Q : px_Q} {ls : px_L} {st : List Value} {G : px_H} : prL d lim Q 1009 ls st G ↔ (pi_zret) (pcal d) Q lim (prL d lim Q) ls st G := prL_of rfl ls st G
set_option maxRecDepth 100000 in
theorem eL_law_1010 {d : Nat} {lim : Nat × Nat} {Q : px_Q} {ls : px_L} {st : List Value} {G : px_H} : prL d lim Q 1010 ls st G ↔ (pi_aload 1 1011) (pcal d) Q lim (prL d lim Q) ls st G := prL_of rfl ls st G
set_option maxRecDepth 100000 in
theorem eL_law_1011 {d : Nat} {lim : Nat × Nat} {Q : px_Q} {ls : px_L} {st : List Value} {G : px_H} : prL d lim Q 1011 ls st G ↔ (pi_aload 0 1012) (pcal d) Q lim (prL d lim Q) ls st G := prL_of rfl ls st G
set_option maxRecDepth 100000 in
theorem eL_law_1012 {d : Nat} {lim : Nat × Nat} {Q : px_Q} {ls : px_L} {st : List Value} {G : px_H} : prL d lim Q 1012 ls st G ↔ (pi_iload 3 1013) (pcal d) Q lim (prL d lim Q) ls st G := prL_of rfl ls st G
set_option maxRecDepth 100000 in
theorem eL_law_1013 {d : Nat} {lim : Nat × Nat} {Q : px_Q} {ls : px_L} {st : List Value} {G : px_H} : prL d lim Q 1013 ls st G ↔ (pi_const (.int (1)) 1014) (pcal d) Q lim (prL d lim Q) ls st G := prL_of rfl ls st G
set_option maxRecDepth 100000 in
theorem eL_law_1014 {d : Nat} {lim : Nat × Nat} {Q : px_Q} {ls : px_L} {st : List Value} {G : px_H} : prL d lim Q 1014 ls st G ↔ (pi_bin (fun x y => x + y) 1015) (pcal d) Q lim (prL d lim Q) ls st G := prL_of rfl ls st G
set_option maxRecDepth 100000 in
theorem eL_law_1015 {d : Nat} {lim : Nat × Nat} {Q : px_Q} {ls : px_L} {st : List Value} {G : px_H} : prL d lim Q 1015 ls st G ↔ (pi_iald 1016) (pcal d) Q lim (prL d lim Q) ls st G := prL_of rfl ls st G
set_option maxRecDepth 100000 in
theorem eL_law_1016 {d : Nat} {lim : Nat × Nat} {Q : px_Q} {ls : px_L} {st : List Value} {G : px_H} : prL d lim Q 1016 ls st G ↔ (pi_i2l 1017) (pcal d) Q lim (prL d lim Q) ls st G := prL_of rfl ls st G
set_option maxRecDepth 100000 in
theorem eL_law_1017 {d : Nat} {lim : Nat × Nat} {Q : px_Q} {ls : px_L} {st : List Value} {G : px_H} : prL d lim Q 1017 ls st G ↔ (pi_const (.int (32)) 1019) (pcal d) Q lim (prL d lim Q) ls st G := prL_of rfl ls st G
set_option maxRecDepth 100000 in
theorem eL_law_1019 {d : Nat} {lim : Nat × Nat} {Q : px_Q} {ls : px_L} {st : List Value} {G : px_H} : prL d lim Q 1019 ls st G ↔ (pi_lsh (fun x y => x <<< (y.toInt64 &&& 63)) 1020) (pcal d) Q lim (prL d lim Q) ls st G := prL_of rfl ls st G
set_option maxRecDepth 100000 in
theorem eL_law_1020 {d : Nat} {lim : Nat × Nat} {Q : px_Q} {ls : px_L} {st : List Value} {G : px_H} : prL d lim Q 1020 ls st G ↔ (pi_aload 0 1021) (pcal d) Q lim (prL d lim Q) ls st G := prL_of rfl ls st G
set_option maxRecDepth 100000 in
theorem eL_law_1021 {d : Nat} {lim : Nat × Nat} {Q : px_Q} {ls : px_L} {st : List Value} {G : px_H} : prL d lim Q 1021 ls st G ↔ (pi_iload 3 1022) (pcal d) Q lim (prL d lim Q) ls st G := prL_of rfl ls st G
set_option maxRecDepth 100000 in
theorem eL_law_1022 {d : Nat} {lim : Nat × Nat} {Q : px_Q} {ls : px_L} {st : List Value} {G : px_H} : prL d lim Q 1022 ls st G ↔ (pi_const (.int (2)) 1023) (pcal d) Q lim (prL d lim Q) ls st G := prL_of rfl ls st G
set_option maxRecDepth 100000 in
theorem eL_law_1023 {d : Nat} {lim : Nat × Nat} {Q : px_Q} {ls : px_L} {st : List Value} {G : px_H} : prL d lim Q 1023 ls st G ↔ (pi_bin (fun x y => x + y) 1024) (pcal d) Q lim (prL d lim Q) ls st G := prL_of rfl ls st G
set_option maxRecDepth 100000 in
theorem eL_law_1024 {d : Nat} {lim : Nat × Nat} {Q : px_Q} {ls : px_L} {st : List Value} {G : px_H} : prL d lim Q 1024 ls st G ↔ (pi_iald 1025) (pcal d) Q lim (prL d lim Q) ls st G := prL_of rfl ls st G
set_option maxRecDepth 100000 in
theorem eL_law_1025 {d : Nat} {lim : Nat × Nat} {Q : px_Q} {ls : px_L} {st : List Value} {G : px_H} : prL d lim Q 1025 ls st G ↔ (pi_i2l 1026) (pcal d) Q lim (prL d lim Q) ls st G := prL_of rfl ls st G
set_option maxRecDepth 100000 in
theorem eL_law_1026 {d : Nat} {lim : Nat × Nat} {Q : px_Q} {ls : px_L} {st : List Value} {G : px_H} : prL d lim Q 1026 ls st G ↔ (pi_const (.long (4294967295)) 1029) (pcal d) Q lim (prL d lim Q) ls st G := prL_of rfl ls st G
set_option maxRecDepth 100000 in
theorem eL_law_1029 {d : Nat} {lim : Nat × Nat} {Q : px_Q} {ls : px_L} {st : List Value} {G : px_H} : prL d lim Q 1029 ls st G ↔ (pi_lbin (fun x y => x &&& y) 1030) (pcal d) Q lim (prL d lim Q) ls st G := prL_of rfl ls st G
set_option maxRecDepth 100000 in
theorem eL_law_1030 {d : Nat} {lim : Nat × Nat} {Q : px_Q} {ls : px_L} {st : List Value} {G : px_H} : prL d lim Q 1030 ls st G ↔ (pi_lbin (fun x y => x ||| y) 1031) (pcal d) Q lim (prL d lim Q) ls st G := prL_of rfl ls st G
set_option maxRecDepth 100000 in
theorem eL_law_1031 {d : Nat} {lim : Nat × Nat} {Q : px_Q} {ls : px_L} {st : List Value} {G : px_H} : prL d lim Q 1031 ls st G ↔ (pi_callV 85 1 6 1034) (pcal d) Q lim (prL d lim Q) ls st G := prL_of rfl ls st G
set_option maxRecDepth 100000 in
theorem eL_law_1034 {d : Nat} {lim : Nat × Nat} {Q : px_Q} {ls : px_L} {st : List Value} {G : px_H} : prL d lim Q 1034 ls st G ↔ (pi_aload 2 1035) (pcal d) Q lim (prL d lim Q) ls st G := prL_of rfl ls st G
set_option maxRecDepth 100000 in
theorem eL_law_1035 {d : Nat} {lim : Nat × Nat} {Q : px_Q} {ls : px_L} {st : List Value} {G : px_H} : prL d lim Q 1035 ls st G ↔ (pi_aload 0 1036) (pcal d) Q lim (prL d lim Q) ls st G := prL_of rfl ls st G
set_option maxRecDepth 100000 in
theorem eL_law_1036 {d : Nat} {lim : Nat × Nat} {Q : px_Q} {ls : px_L} {st : List Value} {G : px_H} : prL d lim Q 1036 ls st G ↔ (pi_iload 3 1037) (pcal d) Q lim (prL d lim Q) ls st G := prL_of rfl ls st G
set_option maxRecDepth 100000 in
theorem eL_law_1037 {d : Nat} {lim : Nat × Nat} {Q : px_Q} {ls : px_L} {st : List Value} {G : px_H} : prL d lim Q 1037 ls st G ↔ (pi_const (.int (1)) 1038) (pcal d) Q lim (prL d lim Q) ls st G := prL_of rfl ls st G
set_option maxRecDepth 100000 in
theorem eL_law_1038 {d : Nat} {lim : Nat × Nat} {Q : px_Q} {ls : px_L} {st : List Value} {G : px_H} : prL d lim Q 1038 ls st G ↔ (pi_bin (fun x y => x + y) 1039) (pcal d) Q lim (prL d lim Q) ls st G := prL_of rfl ls st G
set_option maxRecDepth 100000 in
theorem eL_law_1039 {d : Nat} {lim : Nat × Nat} {Q : px_Q} {ls : px_L} {st : List Value} {G : px_H} : prL d lim Q 1039 ls st G ↔ (pi_iald 1040) (pcal d) Q lim (prL d lim Q) ls st G := prL_of rfl ls st G
set_option maxRecDepth 100000 in
theorem eL_law_1040 {d : Nat} {lim : Nat × Nat} {Q : px_Q} {ls : px_L} {st : List Value} {G : px_H} : prL d lim Q 1040 ls st G ↔ (pi_i2l 1041) (pcal d) Q lim (prL d lim Q) ls st G := prL_of rfl ls st G
set_option maxRecDepth 100000 in
theorem eL_law_1041 {d : Nat} {lim : Nat × Nat} {Q : px_Q} {ls : px_L} {st : List Value} {G : px_H} : prL d lim Q 1041 ls st G ↔ (pi_const (.int (32)) 1043) (pcal d) Q lim (prL d lim Q) ls st G := prL_of rfl ls st G
set_option maxRecDepth 100000 in
theorem eL_law_1043 {d : Nat} {lim : Nat × Nat} {Q : px_Q} {ls : px_L} {st : List Value} {G : px_H} : prL d lim Q 1043 ls st G ↔ (pi_lsh (fun x y => x <<< (y.toInt64 &&& 63)) 1044) (pcal d) Q lim (prL d lim Q) ls st G := prL_of rfl ls st G
set_option maxRecDepth 100000 in
theorem eL_law_1044 {d : Nat} {lim : Nat × Nat} {Q : px_Q} {ls : px_L} {st : List Value} {G : px_H} : prL d lim Q 1044 ls st G ↔ (pi_aload 0 1045) (pcal d) Q lim (prL d lim Q) ls st G := prL_of rfl ls st G
set_option maxRecDepth 100000 in
theorem eL_law_1045 {d : Nat} {lim : Nat × Nat} {Q : px_Q} {ls : px_L} {st : List Value} {G : px_H} : prL d lim Q 1045 ls st G ↔ (pi_iload 3 1046) (pcal d) Q lim (prL d lim Q) ls st G := prL_of rfl ls st G
set_option maxRecDepth 100000 in
theorem eL_law_1046 {d : Nat} {lim : Nat × Nat} {Q : px_Q} {ls : px_L} {st : List Value} {G : px_H} : prL d lim Q 1046 ls st G ↔ (pi_const (.int (2)) 1047) (pcal d) Q lim (prL d lim Q) ls st G := prL_of rfl ls st G
set_option maxRecDepth 100000 in
theorem eL_law_1047 {d : Nat} {lim : Nat × Nat} {Q : px_Q} {ls : px_L} {st : List Value} {G : px_H} : prL d lim Q 1047 ls st G ↔ (pi_bin (fun x y => x + y) 1048) (pcal d) Q lim (prL d lim Q) ls st G := prL_of rfl ls st G
set_option maxRecDepth 100000 in
theorem eL_law_1048 {d : Nat} {lim : Nat × Nat} {Q : px_Q} {ls : px_L} {st : List Value} {G : px_H} : prL d lim Q 1048 ls st G ↔ (pi_iald 1049) (pcal d) Q lim (prL d lim Q) ls st G := prL_of rfl ls st G
set_option maxRecDepth 100000 in
theorem eL_law_1049 {d : Nat} {lim : Nat × Nat} {Q : px_Q} {ls : px_L} {st : List Value} {G : px_H} : prL d lim Q 1049 ls st G ↔ (pi_i2l 1050) (pcal d) Q lim (prL d lim Q) ls st G := prL_of rfl ls st G
set_option maxRecDepth 100000 in
theorem eL_law_1050 {d : Nat} {lim : Nat × Nat} {Q : px_Q} {ls : px_L} {st : List Value} {G : px_H} : prL d lim Q 1050 ls st G ↔ (pi_const (.long (4294967295)) 1053) (pcal d) Q lim (prL d lim Q) ls st G := prL_of rfl ls st G
set_option maxRecDepth 100000 in
theorem eL_law_1053 {d : Nat} {lim : Nat × Nat} {Q : px_Q} {ls : px_L} {st : List Value} {G : px_H} : prL d lim Q 1053 ls st G ↔ (pi_lbin (fun x y => x &&& y) 1054) (pcal d) Q lim (prL d lim Q) ls st G := prL_of rfl ls st G
set_option maxRecDepth 100000 in
theorem eL_law_1054 {d : Nat} {lim : Nat × Nat} {Q : px_Q} {ls : px_L} {st : List Value} {G : px_H} : prL d lim Q 1054 ls st G ↔ (pi_lbin (fun x y => x ||| y) 1055) (pcal d) Q lim (prL d lim Q) ls st G := prL_of rfl ls st G
set_option maxRecDepth 100000 in
theorem eL_law_1055 {d : Nat} {lim : Nat × Nat} {Q : px_Q} {ls : px_L} {st : List Value} {G : px_H} : prL d lim Q 1055 ls st G ↔ (pi_callV 146 1 7 1058) (pcal d) Q lim (prL d lim Q) ls st G := prL_of rfl ls st G
set_option maxRecDepth 100000 in
theorem eL_law_1058 {d : Nat} {lim : Nat × Nat} {Q : px_Q} {ls : px_L} {st : List Value} {G : px_H} : prL d lim Q 1058 ls st G ↔ (pi_lcmp 1059) (pcal d) Q lim (prL d lim Q) ls st G := prL_of rfl ls st G
set_option maxRecDepth 100000 in
theorem eL_law_1059 {d : Nat} {lim : Nat × Nat} {Q : px_Q} {ls : px_L} {st : List Value} {G : px_H} : prL d lim Q 1059 ls st G ↔ (pi_ifeq 1156 1062) (pcal d) Q lim (prL d lim Q) ls st G := prL_of rfl ls st G
set_option maxRecDepth 100000 in
theorem eL_law_1062 {d : Nat} {lim : Nat × Nat} {Q : px_Q} {ls : px_L} {st : List Value} {G : px_H} : prL d lim Q 1062 ls st G ↔ (pi_const (.int (0)) 1063) (pcal d) Q lim (prL d lim Q) ls st G := prL_of rfl ls st G
set_option maxRecDepth 100000 in
theorem eL_law_1063 {d : Nat} {lim : Nat × Nat} {Q : px_Q} {ls : px_L} {st : List Value} {G : px_H} : prL d lim Q 1063 ls st G ↔ (pi_zret) (pcal d) Q lim (prL d lim Q) ls st G := prL_of rfl ls st G
set_option maxRecDepth 100000 in
theorem eL_law_1064 {d : Nat} {lim : Nat × Nat} {Q : px_Q} {ls : px_L} {st : List Value} {G : px_H} : prL d lim Q 1064 ls st G ↔ (pi_aload 1 1065) (pcal d) Q lim (prL d lim Q) ls st G := prL_of rfl ls st G
set_option maxRecDepth 100000 in
theorem eL_law_1065 {d : Nat} {lim : Nat × Nat} {Q : px_Q} {ls : px_L} {st : List Value} {G : px_H} : prL d lim Q 1065 ls st G ↔ (pi_aload 0 1066) (pcal d) Q lim (prL d lim Q) ls st G := prL_of rfl ls st G
set_option maxRecDepth 100000 in
theorem eL_law_1066 {d : Nat} {lim : Nat × Nat} {Q : px_Q} {ls : px_L} {st : List Value} {G : px_H} : prL d lim Q 1066 ls st G ↔ (pi_iload 3 1067) (pcal d) Q lim (prL d lim Q) ls st G := prL_of rfl ls st G
set_option maxRecDepth 100000 in
theorem eL_law_1067 {d : Nat} {lim : Nat × Nat} {Q : px_Q} {ls : px_L} {st : List Value} {G : px_H} : prL d lim Q 1067 ls st G ↔ (pi_const (.int (1)) 1068) (pcal d) Q lim (prL d lim Q) ls st G := prL_of rfl ls st G
set_option maxRecDepth 100000 in
theorem eL_law_1068 {d : Nat} {lim : Nat × Nat} {Q : px_Q} {ls : px_L} {st : List Value} {G : px_H} : prL d lim Q 1068 ls st G ↔ (pi_bin (fun x y => x + y) 1069) (pcal d) Q lim (prL d lim Q) ls st G := prL_of rfl ls st G
set_option maxRecDepth 100000 in
theorem eL_law_1069 {d : Nat} {lim : Nat × Nat} {Q : px_Q} {ls : px_L} {st : List Value} {G : px_H} : prL d lim Q 1069 ls st G ↔ (pi_iald 1070) (pcal d) Q lim (prL d lim Q) ls st G := prL_of rfl ls st G
set_option maxRecDepth 100000 in
theorem eL_law_1070 {d : Nat} {lim : Nat × Nat} {Q : px_Q} {ls : px_L} {st : List Value} {G : px_H} : prL d lim Q 1070 ls st G ↔ (pi_callV 86 1 6 1073) (pcal d) Q lim (prL d lim Q) ls st G := prL_of rfl ls st G
set_option maxRecDepth 100000 in
theorem eL_law_1073 {d : Nat} {lim : Nat × Nat} {Q : px_Q} {ls : px_L} {st : List Value} {G : px_H} : prL d lim Q 1073 ls st G ↔ (pi_aload 2 1074) (pcal d) Q lim (prL d lim Q) ls st G := prL_of rfl ls st G
set_option maxRecDepth 100000 in
theorem eL_law_1074 {d : Nat} {lim : Nat × Nat} {Q : px_Q} {ls : px_L} {st : List Value} {G : px_H} : prL d lim Q 1074 ls st G ↔ (pi_aload 0 1075) (pcal d) Q lim (prL d lim Q) ls st G := prL_of rfl ls st G
set_option maxRecDepth 100000 in
theorem eL_law_1075 {d : Nat} {lim : Nat × Nat} {Q : px_Q} {ls : px_L} {st : List Value} {G : px_H} : prL d lim Q 1075 ls st G ↔ (pi_iload 3 1076) (pcal d) Q lim (prL d lim Q) ls st G := prL_of rfl ls st G
set_option maxRecDepth 100000 in
theorem eL_law_1076 {d : Nat} {lim : Nat × Nat} {Q : px_Q} {ls : px_L} {st : List Value} {G : px_H} : prL d lim Q 1076 ls st G ↔ (pi_const (.int (1)) 1077) (pcal d) Q lim (prL d lim Q) ls st G := prL_of rfl ls st G
set_option maxRecDepth 100000 in
theorem eL_law_1077 {d : Nat} {lim : Nat × Nat} {Q : px_Q} {ls : px_L} {st : List Value} {G : px_H} : prL d lim Q 1077 ls st G ↔ (pi_bin (fun x y => x + y) 1078) (pcal d) Q lim (prL d lim Q) ls st G := prL_of rfl ls st G
set_option maxRecDepth 100000 in
theorem eL_law_1078 {d : Nat} {lim : Nat × Nat} {Q : px_Q} {ls : px_L} {st : List Value} {G : px_H} : prL d lim Q 1078 ls st G ↔ (pi_iald 1079) (pcal d) Q lim (prL d lim Q) ls st G := prL_of rfl ls st G
set_option maxRecDepth 100000 in
theorem eL_law_1079 {d : Nat} {lim : Nat × Nat} {Q : px_Q} {ls : px_L} {st : List Value} {G : px_H} : prL d lim Q 1079 ls st G ↔ (pi_callV 147 1 7 1082) (pcal d) Q lim (prL d lim Q) ls st G := prL_of rfl ls st G
set_option maxRecDepth 100000 in
theorem eL_law_1082 {d : Nat} {lim : Nat × Nat} {Q : px_Q} {ls : px_L} {st : List Value} {G : px_H} : prL d lim Q 1082 ls st G ↔ (pi_iceq 1156 1085) (pcal d) Q lim (prL d lim Q) ls st G := prL_of rfl ls st G
set_option maxRecDepth 100000 in
theorem eL_law_1085 {d : Nat} {lim : Nat × Nat} {Q : px_Q} {ls : px_L} {st : List Value} {G : px_H} : prL d lim Q 1085 ls st G ↔ (pi_const (.int (0)) 1086) (pcal d) Q lim (prL d lim Q) ls st G := prL_of rfl ls st G
set_option maxRecDepth 100000 in
theorem eL_law_1086 {d : Nat} {lim : Nat × Nat} {Q : px_Q} {ls : px_L} {st : List Value} {G : px_H} : prL d lim Q 1086 ls st G ↔ (pi_zret) (pcal d) Q lim (prL d lim Q) ls st G := prL_of rfl ls st G
set_option maxRecDepth 100000 in
theorem eL_law_1087 {d : Nat} {lim : Nat × Nat} {Q : px_Q} {ls : px_L} {st : List Value} {G : px_H} : prL d lim Q 1087 ls st G ↔ (pi_aload 1 1088) (pcal d) Q lim (prL d lim Q) ls st G := prL_of rfl ls st G
set_option maxRecDepth 100000 in
theorem eL_law_1088 {d : Nat} {lim : Nat × Nat} {Q : px_Q} {ls : px_L} {st : List Value} {G : px_H} : prL d lim Q 1088 ls st G ↔ (pi_aload 0 1089) (pcal d) Q lim (prL d lim Q) ls st G := prL_of rfl ls st G
set_option maxRecDepth 100000 in
theorem eL_law_1089 {d : Nat} {lim : Nat × Nat} {Q : px_Q} {ls : px_L} {st : List Value} {G : px_H} : prL d lim Q 1089 ls st G ↔ (pi_iload 3 1090) (pcal d) Q lim (prL d lim Q) ls st G := prL_of rfl ls st G
set_option maxRecDepth 100000 in
theorem eL_law_1090 {d : Nat} {lim : Nat × Nat} {Q : px_Q} {ls : px_L} {st : List Value} {G : px_H} : prL d lim Q 1090 ls st G ↔ (pi_const (.int (1)) 1091) (pcal d) Q lim (prL d lim Q) ls st G := prL_of rfl ls st G
set_option maxRecDepth 100000 in
theorem eL_law_1091 {d : Nat} {lim : Nat × Nat} {Q : px_Q} {ls : px_L} {st : List Value} {G : px_H} : prL d lim Q 1091 ls st G ↔ (pi_bin (fun x y => x + y) 1092) (pcal d) Q lim (prL d lim Q) ls st G := prL_of rfl ls st G
set_option maxRecDepth 100000 in
theorem eL_law_1092 {d : Nat} {lim : Nat × Nat} {Q : px_Q} {ls : px_L} {st : List Value} {G : px_H} : prL d lim Q 1092 ls st G ↔ (pi_iald 1093) (pcal d) Q lim (prL d lim Q) ls st G := prL_of rfl ls st G
set_option maxRecDepth 100000 in
theorem eL_law_1093 {d : Nat} {lim : Nat × Nat} {Q : px_Q} {ls : px_L} {st : List Value} {G : px_H} : prL d lim Q 1093 ls st G ↔ (pi_callV 87 1 6 1096) (pcal d) Q lim (prL d lim Q) ls st G := prL_of rfl ls st G
set_option maxRecDepth 100000 in
theorem eL_law_1096 {d : Nat} {lim : Nat × Nat} {Q : px_Q} {ls : px_L} {st : List Value} {G : px_H} : prL d lim Q 1096 ls st G ↔ (pi_aload 2 1097) (pcal d) Q lim (prL d lim Q) ls st G := prL_of rfl ls st G
set_option maxRecDepth 100000 in
theorem eL_law_1097 {d : Nat} {lim : Nat × Nat} {Q : px_Q} {ls : px_L} {st : List Value} {G : px_H} : prL d lim Q 1097 ls st G ↔ (pi_aload 0 1098) (pcal d) Q lim (prL d lim Q) ls st G := prL_of rfl ls st G
set_option maxRecDepth 100000 in
theorem eL_law_1098 {d : Nat} {lim : Nat × Nat} {Q : px_Q} {ls : px_L} {st : List Value} {G : px_H} : prL d lim Q 1098 ls st G ↔ (pi_iload 3 1099) (pcal d) Q lim (prL d lim Q) ls st G := prL_of rfl ls st G
set_option maxRecDepth 100000 in
theorem eL_law_1099 {d : Nat} {lim : Nat × Nat} {Q : px_Q} {ls : px_L} {st : List Value} {G : px_H} : prL d lim Q 1099 ls st G ↔ (pi_const (.int (1)) 1100) (pcal d) Q lim (prL d lim Q) ls st G := prL_of rfl ls st G
set_option maxRecDepth 100000 in
theorem eL_law_1100 {d : Nat} {lim : Nat × Nat} {Q : px_Q} {ls : px_L} {st : List Value} {G : px_H} : prL d lim Q 1100 ls st G ↔ (pi_bin (fun x y => x + y) 1101) (pcal d) Q lim (prL d lim Q) ls st G := prL_of rfl ls st G
set_option maxRecDepth 100000 in
theorem eL_law_1101 {d : Nat} {lim : Nat × Nat} {Q : px_Q} {ls : px_L} {st : List Value} {G : px_H} : prL d lim Q 1101 ls st G ↔ (pi_iald 1102) (pcal d) Q lim (prL d lim Q) ls st G := prL_of rfl ls st G
set_option maxRecDepth 100000 in
theorem eL_law_1102 {d : Nat} {lim : Nat × Nat} {Q : px_Q} {ls : px_L} {st : List Value} {G : px_H} : prL d lim Q 1102 ls st G ↔ (pi_callV 148 1 7 1105) (pcal d) Q lim (prL d lim Q) ls st G := prL_of rfl ls st G
set_option maxRecDepth 100000 in
theorem eL_law_1105 {d : Nat} {lim : Nat × Nat} {Q : px_Q} {ls : px_L} {st : List Value} {G : px_H} : prL d lim Q 1105 ls st G ↔ (pi_iceq 1156 1108) (pcal d) Q lim (prL d lim Q) ls st G := prL_of rfl ls st G
set_option maxRecDepth 100000 in
theorem eL_law_1108 {d : Nat} {lim : Nat × Nat} {Q : px_Q} {ls : px_L} {st : List Value} {G : px_H} : prL d lim Q 1108 ls st G ↔ (pi_const (.int (0)) 1109) (pcal d) Q lim (prL d lim Q) ls st G := prL_of rfl ls st G
set_option maxRecDepth 100000 in
theorem eL_law_1109 {d : Nat} {lim : Nat × Nat} {Q : px_Q} {ls : px_L} {st : List Value} {G : px_H} : prL d lim Q 1109 ls st G ↔ (pi_zret) (pcal d) Q lim (prL d lim Q) ls st G := prL_of rfl ls st G
set_option maxRecDepth 100000 in
theorem eL_law_1110 {d : Nat} {lim : Nat × Nat} {Q : px_Q} {ls : px_L} {st : List Value} {G : px_H} : prL d lim Q 1110 ls st G ↔ (pi_aload 1 1111) (pcal d) Q lim (prL d lim Q) ls st G := prL_of rfl ls st G
set_option maxRecDepth 100000 in
theorem eL_law_1111 {d : Nat} {lim : Nat × Nat} {Q : px_Q} {ls : px_L} {st : List Value} {G : px_H} : prL d lim Q 1111 ls st G ↔ (pi_aload 0 1112) (pcal d) Q lim (prL d lim Q) ls st G := prL_of rfl ls st G
set_option maxRecDepth 100000 in
theorem eL_law_1112 {d : Nat} {lim : Nat × Nat} {Q : px_Q} {ls : px_L} {st : List Value} {G : px_H} : prL d lim Q 1112 ls st G ↔ (pi_iload 3 1113) (pcal d) Q lim (prL d lim Q) ls st G := prL_of rfl ls st G
set_option maxRecDepth 100000 in
theorem eL_law_1113 {d : Nat} {lim : Nat × Nat} {Q : px_Q} {ls : px_L} {st : List Value} {G : px_H} : prL d lim Q 1113 ls st G ↔ (pi_const (.int (1)) 1114) (pcal d) Q lim (prL d lim Q) ls st G := prL_of rfl ls st G
set_option maxRecDepth 100000 in
theorem eL_law_1114 {d : Nat} {lim : Nat × Nat} {Q : px_Q} {ls : px_L} {st : List Value} {G : px_H} : prL d lim Q 1114 ls st G ↔ (pi_bin (fun x y => x + y) 1115) (pcal d) Q lim (prL d lim Q) ls st G := prL_of rfl ls st G
set_option maxRecDepth 100000 in
theorem eL_law_1115 {d : Nat} {lim : Nat × Nat} {Q : px_Q} {ls : px_L} {st : List Value} {G : px_H} : prL d lim Q 1115 ls st G ↔ (pi_iald 1116) (pcal d) Q lim (prL d lim Q) ls st G := prL_of rfl ls st G
set_option maxRecDepth 100000 in
theorem eL_law_1116 {d : Nat} {lim : Nat × Nat} {Q : px_Q} {ls : px_L} {st : List Value} {G : px_H} : prL d lim Q 1116 ls st G ↔ (pi_callV 88 1 6 1119) (pcal d) Q lim (prL d lim Q) ls st G := prL_of rfl ls st G
set_option maxRecDepth 100000 in
theorem eL_law_1119 {d : Nat} {lim : Nat × Nat} {Q : px_Q} {ls : px_L} {st : List Value} {G : px_H} : prL d lim Q 1119 ls st G ↔ (pi_aload 2 1120) (pcal d) Q lim (prL d lim Q) ls st G := prL_of rfl ls st G
set_option maxRecDepth 100000 in
theorem eL_law_1120 {d : Nat} {lim : Nat × Nat} {Q : px_Q} {ls : px_L} {st : List Value} {G : px_H} : prL d lim Q 1120 ls st G ↔ (pi_aload 0 1121) (pcal d) Q lim (prL d lim Q) ls st G := prL_of rfl ls st G
set_option maxRecDepth 100000 in
theorem eL_law_1121 {d : Nat} {lim : Nat × Nat} {Q : px_Q} {ls : px_L} {st : List Value} {G : px_H} : prL d lim Q 1121 ls st G ↔ (pi_iload 3 1122) (pcal d) Q lim (prL d lim Q) ls st G := prL_of rfl ls st G
set_option maxRecDepth 100000 in
theorem eL_law_1122 {d : Nat} {lim : Nat × Nat} {Q : px_Q} {ls : px_L} {st : List Value} {G : px_H} : prL d lim Q 1122 ls st G ↔ (pi_const (.int (1)) 1123) (pcal d) Q lim (prL d lim Q) ls st G := prL_of rfl ls st G
set_option maxRecDepth 100000 in
theorem eL_law_1123 {d : Nat} {lim : Nat × Nat} {Q : px_Q} {ls : px_L} {st : List Value} {G : px_H} : prL d lim Q 1123 ls st G ↔ (pi_bin (fun x y => x + y) 1124) (pcal d) Q lim (prL d lim Q) ls st G := prL_of rfl ls st G
set_option maxRecDepth 100000 in
theorem eL_law_1124 {d : Nat} {lim : Nat × Nat} {Q : px_Q} {ls : px_L} {st : List Value} {G : px_H} : prL d lim Q 1124 ls st G ↔ (pi_iald 1125) (pcal d) Q lim (prL d lim Q) ls st G := prL_of rfl ls st G
set_option maxRecDepth 100000 in
theorem eL_law_1125 {d : Nat} {lim : Nat × Nat} {Q : px_Q} {ls : px_L} {st : List Value} {G : px_H} : prL d lim Q 1125 ls st G ↔ (pi_callV 149 1 7 1128) (pcal d) Q lim (prL d lim Q) ls st G := prL_of rfl ls st G
set_option maxRecDepth 100000 in
theorem eL_law_1128 {d : Nat} {lim : Nat × Nat} {Q : px_Q} {ls : px_L} {st : List Value} {G : px_H} : prL d lim Q 1128 ls st G ↔ (pi_iceq 1156 1131) (pcal d) Q lim (prL d lim Q) ls st G := prL_of rfl ls st G
set_option maxRecDepth 100000 in
theorem eL_law_1131 {d : Nat} {lim : Nat × Nat} {Q : px_Q} {ls : px_L} {st : List Value} {G : px_H} : prL d lim Q 1131 ls st G ↔ (pi_const (.int (0)) 1132) (pcal d) Q lim (prL d lim Q) ls st G := prL_of rfl ls st G
set_option maxRecDepth 100000 in
theorem eL_law_1132 {d : Nat} {lim : Nat × Nat} {Q : px_Q} {ls : px_L} {st : List Value} {G : px_H} : prL d lim Q 1132 ls st G ↔ (pi_zret) (pcal d) Q lim (prL d lim Q) ls st G := prL_of rfl ls st G
set_option maxRecDepth 100000 in
theorem eL_law_1133 {d : Nat} {lim : Nat × Nat} {Q : px_Q} {ls : px_L} {st : List Value} {G : px_H} : prL d lim Q 1133 ls st G ↔ (pi_aload 1 1134) (pcal d) Q lim (prL d lim Q) ls st G := prL_of rfl ls st G
set_option maxRecDepth 100000 in
theorem eL_law_1134 {d : Nat} {lim : Nat × Nat} {Q : px_Q} {ls : px_L} {st : List Value} {G : px_H} : prL d lim Q 1134 ls st G ↔ (pi_aload 0 1135) (pcal d) Q lim (prL d lim Q) ls st G := prL_of rfl ls st G
set_option maxRecDepth 100000 in
theorem eL_law_1135 {d : Nat} {lim : Nat × Nat} {Q : px_Q} {ls : px_L} {st : List Value} {G : px_H} : prL d lim Q 1135 ls st G ↔ (pi_iload 3 1136) (pcal d) Q lim (prL d lim Q) ls st G := prL_of rfl ls st G
set_option maxRecDepth 100000 in
theorem eL_law_1136 {d : Nat} {lim : Nat × Nat} {Q : px_Q} {ls : px_L} {st : List Value} {G : px_H} : prL d lim Q 1136 ls st G ↔ (pi_const (.int (1)) 1137) (pcal d) Q lim (prL d lim Q) ls st G := prL_of rfl ls st G
set_option maxRecDepth 100000 in
theorem eL_law_1137 {d : Nat} {lim : Nat × Nat} {Q : px_Q} {ls : px_L} {st : List Value} {G : px_H} : prL d lim Q 1137 ls st G ↔ (pi_bin (fun x y => x + y) 1138) (pcal d) Q lim (prL d lim Q) ls st G := prL_of rfl ls st G
set_option maxRecDepth 100000 in
theorem eL_law_1138 {d : Nat} {lim : Nat × Nat} {Q : px_Q} {ls : px_L} {st : List Value} {G : px_H} : prL d lim Q 1138 ls st G ↔ (pi_iald 1139) (pcal d) Q lim (prL d lim Q) ls st G := prL_of rfl ls st G
set_option maxRecDepth 100000 in
theorem eL_law_1139 {d : Nat} {lim : Nat × Nat} {Q : px_Q} {ls : px_L} {st : List Value} {G : px_H} : prL d lim Q 1139 ls st G ↔ (pi_callV 89 1 6 1142) (pcal d) Q lim (prL d lim Q) ls st G := prL_of rfl ls st G
set_option maxRecDepth 100000 in
theorem eL_law_1142 {d : Nat} {lim : Nat × Nat} {Q : px_Q} {ls : px_L} {st : List Value} {G : px_H} : prL d lim Q 1142 ls st G ↔ (pi_aload 2 1143) (pcal d) Q lim (prL d lim Q) ls st G := prL_of rfl ls st G
set_option maxRecDepth 100000 in
theorem eL_law_1143 {d : Nat} {lim : Nat × Nat} {Q : px_Q} {ls : px_L} {st : List Value} {G : px_H} : prL d lim Q 1143 ls st G ↔ (pi_aload 0 1144) (pcal d) Q lim (prL d lim Q) ls st G := prL_of rfl ls st G
set_option maxRecDepth 100000 in
theorem eL_law_1144 {d : Nat} {lim : Nat × Nat} {Q : px_Q} {ls : px_L} {st : List Value} {G : px_H} : prL d lim Q 1144 ls st G ↔ (pi_iload 3 1145) (pcal d) Q lim (prL d lim Q) ls st G := prL_of rfl ls st G
set_option maxRecDepth 100000 in
theorem eL_law_1145 {d : Nat} {lim : Nat × Nat} {Q : px_Q} {ls : px_L} {st : List Value} {G : px_H} : prL d lim Q 1145 ls st G ↔ (pi_const (.int (1)) 1146) (pcal d) Q lim (prL d lim Q) ls st G := prL_of rfl ls st G
set_option maxRecDepth 100000 in
theorem eL_law_1146 {d : Nat} {lim : Nat × Nat} {Q : px_Q} {ls : px_L} {st : List Value} {G : px_H} : prL d lim Q 1146 ls st G ↔ (pi_bin (fun x y => x + y) 1147) (pcal d) Q lim (prL d lim Q) ls st G := prL_of rfl ls st G
set_option maxRecDepth 100000 in
theorem eL_law_1147 {d : Nat} {lim : Nat × Nat} {Q : px_Q} {ls : px_L} {st : List Value} {G : px_H} : prL d lim Q 1147 ls st G ↔ (pi_iald 1148) (pcal d) Q lim (prL d lim Q) ls st G := prL_of rfl ls st G
set_option maxRecDepth 100000 in
theorem eL_law_1148 {d : Nat} {lim : Nat × Nat} {Q : px_Q} {ls : px_L} {st : List Value} {G : px_H} : prL d lim Q 1148 ls st G ↔ (pi_callV 150 1 7 1151) (pcal d) Q lim (prL d lim Q) ls st G := prL_of rfl ls st G
set_option maxRecDepth 100000 in
theorem eL_law_1151 {d : Nat} {lim : Nat × Nat} {Q : px_Q} {ls : px_L} {st : List Value} {G : px_H} : prL d lim Q 1151 ls st G ↔ (pi_iceq 1156 1154) (pcal d) Q lim (prL d lim Q) ls st G := prL_of rfl ls st G
set_option maxRecDepth 100000 in
theorem eL_law_1154 {d : Nat} {lim : Nat × Nat} {Q : px_Q} {ls : px_L} {st : List Value} {G : px_H} : prL d lim Q 1154 ls st G ↔ (pi_const (.int (0)) 1155) (pcal d) Q lim (prL d lim Q) ls st G := prL_of rfl ls st G
set_option maxRecDepth 100000 in
theorem eL_law_1155 {d : Nat} {lim : Nat × Nat} {Q : px_Q} {ls : px_L} {st : List Value} {G : px_H} : prL d lim Q 1155 ls st G ↔ (pi_zret) (pcal d) Q lim (prL d lim Q) ls st G := prL_of rfl ls st G
set_option maxRecDepth 100000 in
theorem eL_law_1156 {d : Nat} {lim : Nat × Nat} {Q : px_Q} {ls : px_L} {st : List Value} {G : px_H} : prL d lim Q 1156 ls st G ↔ (pi_iinc 3 (4) 1159) (pcal d) Q lim (prL d lim Q) ls st G := prL_of rfl ls st G
set_option maxRecDepth 100000 in
theorem eL_law_1159 {d : Nat} {lim : Nat × Nat} {Q : px_Q} {ls : px_L} {st : List Value} {G : px_H} : prL d lim Q 1159 ls st G ↔ (pi_goto 18) (pcal d) Q lim (prL d lim Q) ls st G := prL_of rfl ls st G
set_option maxRecDepth 100000 in
theorem eL_law_1162 {d : Nat} {lim : Nat × Nat} {Q : px_Q} {ls : px_L} {st : List Value} {G : px_H} : prL d lim Q 1162 ls st G ↔ (pi_const (.int (1)) 1163) (pcal d) Q lim (prL d lim Q) ls st G := prL_of rfl ls st G
set_option maxRecDepth 100000 in
theorem eL_law_1163 {d : Nat} {lim : Nat × Nat} {Q : px_Q} {ls : px_L} {st : List Value} {G : px_H} : prL d lim Q 1163 ls st G ↔ (pi_zret) (pcal d) Q lim (prL d lim Q) ls st G := prL_of rfl ls st G
