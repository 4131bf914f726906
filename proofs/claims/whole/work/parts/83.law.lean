/-! ===== the law, call by call ===== -/
/-- seed, told twice -/
def pairL (d cy my : Nat) (as : List Value) : Prop := ∀ (G : px_H) (N : Nat) (s : SS), cW G s → mWd G s → pI N s → N < 1000 → ∀ Q : px_Q, (∀ G1 (v : Int64), hget G1 0 = hget G 0 → (∃ q sd, hget G1 124 = some (c_m q sd)) → (∀ Q2 : px_Q, (∀ G2 s', cW G2 s' → mWd G2 s' → pI (N + 1) s' → hget G2 0 = hget G 0 → Q2 (some (.long v)) G2) → pcal d my (.ref 124 :: as) G1 Q2) → Q (some (.long v)) G1) → pcal d cy (.ref 2 :: as) G Q
theorem k_seed {d : Nat} {z : Int64} : pairL (d + 12) 85 146 [.long z] := by
  rintro G N ⟨n, tx, K, t, sz, T, nv, pp, tm, mn, ke, w0, w1, sd⟩ ⟨la, dr, hr, hc⟩ hm hp hN Q hQ
  have hd := hr.1.2.1.b
  refine sp_seed hr.x ?_
  refine hQ _ sd (hget_ne (by omega)) ?_ ?_
  · obtain ⟨q, hrm, he⟩ := hm
    exact ⟨q, sd, (hget_ne (by omega)).trans hrm.o⟩
  · intro Q2 hQ2
    obtain ⟨q, hrm, he⟩ := hm
    refine sp_mseed (q := q) (sd := sd) ((hget_ne (by omega)).trans hrm.o) ?_
    refine hQ2 _ (n, tx, K, t, sz, T, nv, pp, tm, mn, ke, w0, w1, z) ⟨la, dr, hr.to (sd' := z) (by rw [hget_ne (by omega), hget_self]) (fun k hk => by rw [hget_ne (by omega), hget_ne (by omega)]), hc.kept hd.1 (fun k hk => by rw [hget_ne (by omega), hget_ne (by omega)])⟩ ⟨q, hrm.to (hget_self _ _ _) rfl rfl (fun k hk => by rw [hget_ne (by omega), hget_ne (by omega)]), he.kept (fun k hk => by rw [hget_ne (by omega), hget_ne (by omega)]) rfl rfl rfl rfl⟩ (hp.up hN) (by rw [hget_ne (by omega), hget_ne (by omega)])
theorem nI_c3 (a : Nat) : nI a + 3 = nI (a + 3) := nI_add a 3
theorem nI_c4 (a : Nat) : nI a + 4 = nI (a + 4) := nI_add a 4
theorem lg_self {u : Int64} : lg_cmp u u = 0 := by
  have h1 : ¬ lg_cmp u u < 0 := by rw [lg_cmp_lt]; exact Int64.lt_irrefl
  have h2 : ¬ 0 < lg_cmp u u := by rw [lg_cmp_gt]; exact Int64.lt_irrefl
  rw [i_lt, i_0] at h1 h2
  exact Int32.toInt_inj.mp (by rw [i_0]; omega)
theorem nI_bv {y : Int32} : nI y.toBitVec.toNat = y := by
  apply Int32.toBitVec_inj.mp
  simp [nI]
theorem and31 (x : Int32) : ∃ c, c < 32 ∧ x &&& 31 = nI c := by
  refine ⟨(x &&& 31).toBitVec.toNat, ?_, nI_bv.symm⟩
  rw [Int32.toBitVec_and, BitVec.toNat_and]
  exact Nat.lt_of_le_of_lt Nat.and_le_right (by decide)
section LW
variable {d len N : Nat} {lim : Nat × Nat} {Q : px_Q} {G : px_H} {s : SS} {sc : Nat → Int32}
/-- the law before call N: both worlds, the script, what comes behind the call -/
def lW (d len N : Nat) (lim : Nat × Nat) (Q : px_Q) (G : px_H) (s : SS) (sc : Nat → Int32) : Prop := hget G 0 = some (c_ro len sc) ∧ cW G s ∧ mWd G s ∧ pI N s ∧ 4 * N + 4 ≤ len ∧ len ≤ 256 ∧ ∀ G2 s', cW G2 s' → mWd G2 s' → pI (N + 1) s' → hget G2 0 = hget G 0 → prL (d + 12) lim Q 1156 [some (.ref 0), some (.ref 2), some (.ref 124), some (.int (nI (4 * N)))] [] G2
set_option maxRecDepth 100000 in
theorem law_0 (h : lW d len N lim Q G s sc) : prL (d + 12) lim Q 172 [some (.ref 0), some (.ref 2), some (.ref 124), some (.int (nI (4 * N)))] [] G := by
  obtain ⟨h0, hc, hm, hp, hl, hl2, nx⟩ := h
  obtain ⟨le, la, dr, ke, sd, x0⟩ := hc.o
  have c1 : (nI (4 * N + 1)).toNatClampNeg = 4 * N + 1 := nI_clamp (by omega)
  have c2 : (nI (4 * N + 2)).toNatClampNeg = 4 * N + 2 := nI_clamp (by omega)
  have c3 : (nI (4 * N + 3)).toNatClampNeg = 4 * N + 3 := nI_clamp (by omega)
  have d1 : 0 ≤ nI (4 * N + 1) := nI_pos' (by omega)
  have d2 : 0 ≤ nI (4 * N + 2) := nI_pos' (by omega)
  have d3 : 0 ≤ nI (4 * N + 3) := nI_pos' (by omega)
  have e1 : 4 * N + 1 < len := by omega
  have e2 : 4 * N + 2 < len := by omega
  have e3 : 4 * N + 3 < len := by omega
  simp only [eL_law_172, eL_law_173, eL_law_174, eL_law_175, eL_law_176, eL_law_177, eL_law_178, pe_aload_0, pe_aload_1, pe_bin, pe_callV_1, pe_const, pe_iald, pe_iload_3, h0, x0, x_o, ro_l, nisw, nI_c2, nI_c3, c1, c2, c3, d1, d2, d3, e1, e2, e3, hget_hset, ia_l, ia_s, vin, opl, onl, Int32.reduceLT, Int32.reduceLE, Int32.reduceAdd, Int32.reduceSub, Nat.reduceLT, Nat.reduceAdd, Nat.reduceEqDiff, ↓reduceIte, true_and, and_true, List.length_nil, List.length_cons, Nat.reduceLeDiff, Nat.zero_le]
  refine k_write G N s hc hm hp (by omega) _ ?_
  intro G1 v g0 ⟨q, sd', m1⟩ cont
  have h1 : hget G1 0 = some (c_ro len sc) := g0.trans h0
  simp only [eL_law_181, eL_law_182, eL_law_183, eL_law_184, eL_law_185, eL_law_186, eL_law_187, pe_aload_0, pe_aload_2, pe_bin, pe_callV_1, pe_const, pe_iald, pe_iload_3, h1, m1, m_o, ro_l, nisw, nI_c2, nI_c3, c1, c2, c3, d1, d2, d3, e1, e2, e3, hget_hset, ia_l, ia_s, vin, opl, onl, Int32.reduceLT, Int32.reduceLE, Int32.reduceAdd, Int32.reduceSub, Nat.reduceLT, Nat.reduceAdd, Nat.reduceEqDiff, ↓reduceIte, true_and, and_true, List.length_nil, List.length_cons, Nat.reduceLeDiff, Nat.zero_le]
  refine cont _ ?_
  intro G2 s' a1 a2 a3 a4
  simp only [eL_law_190, pe_iceq, hget_hset, ia_l, ia_s, vin, opl, onl, Int32.reduceLT, Int32.reduceLE, Int32.reduceAdd, Int32.reduceSub, Nat.reduceLT, Nat.reduceAdd, Nat.reduceEqDiff, ↓reduceIte, true_and, and_true, List.length_nil, List.length_cons, Nat.reduceLeDiff, Nat.zero_le]
  exact nx G2 s' a1 a2 a3 a4
set_option maxRecDepth 100000 in
theorem law_1 (h : lW d len N lim Q G s sc) : prL (d + 12) lim Q 195 [some (.ref 0), some (.ref 2), some (.ref 124), some (.int (nI (4 * N)))] [] G := by
  obtain ⟨h0, hc, hm, hp, hl, hl2, nx⟩ := h
  obtain ⟨le, la, dr, ke, sd, x0⟩ := hc.o
  have c1 : (nI (4 * N + 1)).toNatClampNeg = 4 * N + 1 := nI_clamp (by omega)
  have c2 : (nI (4 * N + 2)).toNatClampNeg = 4 * N + 2 := nI_clamp (by omega)
  have c3 : (nI (4 * N + 3)).toNatClampNeg = 4 * N + 3 := nI_clamp (by omega)
  have d1 : 0 ≤ nI (4 * N + 1) := nI_pos' (by omega)
  have d2 : 0 ≤ nI (4 * N + 2) := nI_pos' (by omega)
  have d3 : 0 ≤ nI (4 * N + 3) := nI_pos' (by omega)
  have e1 : 4 * N + 1 < len := by omega
  have e2 : 4 * N + 2 < len := by omega
  have e3 : 4 * N + 3 < len := by omega
  simp only [eL_law_195, eL_law_196, pe_aload_1, pe_callV_0, h0, x0, x_o, ro_l, nisw, nI_c2, nI_c3, c1, c2, c3, d1, d2, d3, e1, e2, e3, hget_hset, ia_l, ia_s, vin, opl, onl, Int32.reduceLT, Int32.reduceLE, Int32.reduceAdd, Int32.reduceSub, Nat.reduceLT, Nat.reduceAdd, Nat.reduceEqDiff, ↓reduceIte, true_and, and_true, List.length_nil, List.length_cons, Nat.reduceLeDiff, Nat.zero_le]
  refine k_wipe G N s hc hm hp (by omega) _ ?_
  intro G1 v g0 ⟨q, sd', m1⟩ cont
  have h1 : hget G1 0 = some (c_ro len sc) := g0.trans h0
  simp only [eL_law_199, eL_law_200, pe_aload_2, pe_callV_0, h1, m1, m_o, ro_l, nisw, nI_c2, nI_c3, c1, c2, c3, d1, d2, d3, e1, e2, e3, hget_hset, ia_l, ia_s, vin, opl, onl, Int32.reduceLT, Int32.reduceLE, Int32.reduceAdd, Int32.reduceSub, Nat.reduceLT, Nat.reduceAdd, Nat.reduceEqDiff, ↓reduceIte, true_and, and_true, List.length_nil, List.length_cons, Nat.reduceLeDiff, Nat.zero_le]
  refine cont _ ?_
  intro G2 s' a1 a2 a3 a4
  simp only [eL_law_203, pe_iceq, hget_hset, ia_l, ia_s, vin, opl, onl, Int32.reduceLT, Int32.reduceLE, Int32.reduceAdd, Int32.reduceSub, Nat.reduceLT, Nat.reduceAdd, Nat.reduceEqDiff, ↓reduceIte, true_and, and_true, List.length_nil, List.length_cons, Nat.reduceLeDiff, Nat.zero_le]
  exact nx G2 s' a1 a2 a3 a4
set_option maxRecDepth 100000 in
theorem law_2 (h : lW d len N lim Q G s sc) : prL (d + 12) lim Q 208 [some (.ref 0), some (.ref 2), some (.ref 124), some (.int (nI (4 * N)))] [] G := by
  obtain ⟨h0, hc, hm, hp, hl, hl2, nx⟩ := h
  obtain ⟨le, la, dr, ke, sd, x0⟩ := hc.o
  have c1 : (nI (4 * N + 1)).toNatClampNeg = 4 * N + 1 := nI_clamp (by omega)
  have c2 : (nI (4 * N + 2)).toNatClampNeg = 4 * N + 2 := nI_clamp (by omega)
  have c3 : (nI (4 * N + 3)).toNatClampNeg = 4 * N + 3 := nI_clamp (by omega)
  have d1 : 0 ≤ nI (4 * N + 1) := nI_pos' (by omega)
  have d2 : 0 ≤ nI (4 * N + 2) := nI_pos' (by omega)
  have d3 : 0 ≤ nI (4 * N + 3) := nI_pos' (by omega)
  have e1 : 4 * N + 1 < len := by omega
  have e2 : 4 * N + 2 < len := by omega
  have e3 : 4 * N + 3 < len := by omega
  simp only [eL_law_208, eL_law_209, pe_aload_1, pe_callV_0, h0, x0, x_o, ro_l, nisw, nI_c2, nI_c3, c1, c2, c3, d1, d2, d3, e1, e2, e3, hget_hset, ia_l, ia_s, vin, opl, onl, Int32.reduceLT, Int32.reduceLE, Int32.reduceAdd, Int32.reduceSub, Nat.reduceLT, Nat.reduceAdd, Nat.reduceEqDiff, ↓reduceIte, true_and, and_true, List.length_nil, List.length_cons, Nat.reduceLeDiff, Nat.zero_le]
  refine k_fault G N s hc hm hp (by omega) _ ?_
  intro G1 v g0 ⟨q, sd', m1⟩ cont
  have h1 : hget G1 0 = some (c_ro len sc) := g0.trans h0
  simp only [eL_law_212, eL_law_213, pe_aload_2, pe_callV_0, h1, m1, m_o, ro_l, nisw, nI_c2, nI_c3, c1, c2, c3, d1, d2, d3, e1, e2, e3, hget_hset, ia_l, ia_s, vin, opl, onl, Int32.reduceLT, Int32.reduceLE, Int32.reduceAdd, Int32.reduceSub, Nat.reduceLT, Nat.reduceAdd, Nat.reduceEqDiff, ↓reduceIte, true_and, and_true, List.length_nil, List.length_cons, Nat.reduceLeDiff, Nat.zero_le]
  refine cont _ ?_
  intro G2 s' a1 a2 a3 a4
  simp only [eL_law_216, pe_iceq, hget_hset, ia_l, ia_s, vin, opl, onl, Int32.reduceLT, Int32.reduceLE, Int32.reduceAdd, Int32.reduceSub, Nat.reduceLT, Nat.reduceAdd, Nat.reduceEqDiff, ↓reduceIte, true_and, and_true, List.length_nil, List.length_cons, Nat.reduceLeDiff, Nat.zero_le]
  exact nx G2 s' a1 a2 a3 a4
set_option maxRecDepth 100000 in
theorem law_3 (h : lW d len N lim Q G s sc) : prL (d + 12) lim Q 221 [some (.ref 0), some (.ref 2), some (.ref 124), some (.int (nI (4 * N)))] [] G := by
  obtain ⟨h0, hc, hm, hp, hl, hl2, nx⟩ := h
  obtain ⟨le, la, dr, ke, sd, x0⟩ := hc.o
  have c1 : (nI (4 * N + 1)).toNatClampNeg = 4 * N + 1 := nI_clamp (by omega)
  have c2 : (nI (4 * N + 2)).toNatClampNeg = 4 * N + 2 := nI_clamp (by omega)
  have c3 : (nI (4 * N + 3)).toNatClampNeg = 4 * N + 3 := nI_clamp (by omega)
  have d1 : 0 ≤ nI (4 * N + 1) := nI_pos' (by omega)
  have d2 : 0 ≤ nI (4 * N + 2) := nI_pos' (by omega)
  have d3 : 0 ≤ nI (4 * N + 3) := nI_pos' (by omega)
  have e1 : 4 * N + 1 < len := by omega
  have e2 : 4 * N + 2 < len := by omega
  have e3 : 4 * N + 3 < len := by omega
  simp only [eL_law_221, eL_law_222, pe_aload_1, pe_callV_0, h0, x0, x_o, ro_l, nisw, nI_c2, nI_c3, c1, c2, c3, d1, d2, d3, e1, e2, e3, hget_hset, ia_l, ia_s, vin, opl, onl, Int32.reduceLT, Int32.reduceLE, Int32.reduceAdd, Int32.reduceSub, Nat.reduceLT, Nat.reduceAdd, Nat.reduceEqDiff, ↓reduceIte, true_and, and_true, List.length_nil, List.length_cons, Nat.reduceLeDiff, Nat.zero_le]
  refine k_land G N s hc hm hp (by omega) _ ?_
  intro G1 v g0 ⟨q, sd', m1⟩ cont
  have h1 : hget G1 0 = some (c_ro len sc) := g0.trans h0
  simp only [eL_law_225, eL_law_226, pe_aload_2, pe_callV_0, h1, m1, m_o, ro_l, nisw, nI_c2, nI_c3, c1, c2, c3, d1, d2, d3, e1, e2, e3, hget_hset, ia_l, ia_s, vin, opl, onl, Int32.reduceLT, Int32.reduceLE, Int32.reduceAdd, Int32.reduceSub, Nat.reduceLT, Nat.reduceAdd, Nat.reduceEqDiff, ↓reduceIte, true_and, and_true, List.length_nil, List.length_cons, Nat.reduceLeDiff, Nat.zero_le]
  refine cont _ ?_
  intro G2 s' a1 a2 a3 a4
  simp only [eL_law_229, pe_iceq, hget_hset, ia_l, ia_s, vin, opl, onl, Int32.reduceLT, Int32.reduceLE, Int32.reduceAdd, Int32.reduceSub, Nat.reduceLT, Nat.reduceAdd, Nat.reduceEqDiff, ↓reduceIte, true_and, and_true, List.length_nil, List.length_cons, Nat.reduceLeDiff, Nat.zero_le]
  exact nx G2 s' a1 a2 a3 a4
set_option maxRecDepth 100000 in
theorem law_4 (h : lW d len N lim Q G s sc) : prL (d + 12) lim Q 234 [some (.ref 0), some (.ref 2), some (.ref 124), some (.int (nI (4 * N)))] [] G := by
  obtain ⟨h0, hc, hm, hp, hl, hl2, nx⟩ := h
  obtain ⟨le, la, dr, ke, sd, x0⟩ := hc.o
  have c1 : (nI (4 * N + 1)).toNatClampNeg = 4 * N + 1 := nI_clamp (by omega)
  have c2 : (nI (4 * N + 2)).toNatClampNeg = 4 * N + 2 := nI_clamp (by omega)
  have c3 : (nI (4 * N + 3)).toNatClampNeg = 4 * N + 3 := nI_clamp (by omega)
  have d1 : 0 ≤ nI (4 * N + 1) := nI_pos' (by omega)
  have d2 : 0 ≤ nI (4 * N + 2) := nI_pos' (by omega)
  have d3 : 0 ≤ nI (4 * N + 3) := nI_pos' (by omega)
  have e1 : 4 * N + 1 < len := by omega
  have e2 : 4 * N + 2 < len := by omega
  have e3 : 4 * N + 3 < len := by omega
  simp only [eL_law_234, eL_law_235, eL_law_236, eL_law_237, eL_law_238, eL_law_239, eL_law_240, eL_law_241, eL_law_242, eL_law_243, eL_law_244, eL_law_245, pe_aload_0, pe_aload_1, pe_bin, pe_callV_2, pe_const, pe_iald, pe_iload_3, h0, x0, x_o, ro_l, nisw, nI_c2, nI_c3, c1, c2, c3, d1, d2, d3, e1, e2, e3, hget_hset, ia_l, ia_s, vin, opl, onl, Int32.reduceLT, Int32.reduceLE, Int32.reduceAdd, Int32.reduceSub, Nat.reduceLT, Nat.reduceAdd, Nat.reduceEqDiff, ↓reduceIte, true_and, and_true, List.length_nil, List.length_cons, Nat.reduceLeDiff, Nat.zero_le]
  refine k_place G N s hc hm hp (by omega) _ ?_
  intro G1 v g0 ⟨q, sd', m1⟩ cont
  have h1 : hget G1 0 = some (c_ro len sc) := g0.trans h0
  simp only [eL_law_248, eL_law_249, eL_law_250, eL_law_251, eL_law_252, eL_law_253, eL_law_254, eL_law_255, eL_law_256, eL_law_257, eL_law_258, eL_law_259, pe_aload_0, pe_aload_2, pe_bin, pe_callV_2, pe_const, pe_iald, pe_iload_3, h1, m1, m_o, ro_l, nisw, nI_c2, nI_c3, c1, c2, c3, d1, d2, d3, e1, e2, e3, hget_hset, ia_l, ia_s, vin, opl, onl, Int32.reduceLT, Int32.reduceLE, Int32.reduceAdd, Int32.reduceSub, Nat.reduceLT, Nat.reduceAdd, Nat.reduceEqDiff, ↓reduceIte, true_and, and_true, List.length_nil, List.length_cons, Nat.reduceLeDiff, Nat.zero_le]
  refine cont _ ?_
  intro G2 s' a1 a2 a3 a4
  simp only [eL_law_262, pe_iceq, hget_hset, ia_l, ia_s, vin, opl, onl, Int32.reduceLT, Int32.reduceLE, Int32.reduceAdd, Int32.reduceSub, Nat.reduceLT, Nat.reduceAdd, Nat.reduceEqDiff, ↓reduceIte, true_and, and_true, List.length_nil, List.length_cons, Nat.reduceLeDiff, Nat.zero_le]
  exact nx G2 s' a1 a2 a3 a4
set_option maxRecDepth 100000 in
theorem law_5 (h : lW d len N lim Q G s sc) : prL (d + 12) lim Q 267 [some (.ref 0), some (.ref 2), some (.ref 124), some (.int (nI (4 * N)))] [] G := by
  obtain ⟨h0, hc, hm, hp, hl, hl2, nx⟩ := h
  obtain ⟨le, la, dr, ke, sd, x0⟩ := hc.o
  have c1 : (nI (4 * N + 1)).toNatClampNeg = 4 * N + 1 := nI_clamp (by omega)
  have c2 : (nI (4 * N + 2)).toNatClampNeg = 4 * N + 2 := nI_clamp (by omega)
  have c3 : (nI (4 * N + 3)).toNatClampNeg = 4 * N + 3 := nI_clamp (by omega)
  have d1 : 0 ≤ nI (4 * N + 1) := nI_pos' (by omega)
  have d2 : 0 ≤ nI (4 * N + 2) := nI_pos' (by omega)
  have d3 : 0 ≤ nI (4 * N + 3) := nI_pos' (by omega)
  have e1 : 4 * N + 1 < len := by omega
  have e2 : 4 * N + 2 < len := by omega
  have e3 : 4 * N + 3 < len := by omega
  simp only [eL_law_267, eL_law_268, eL_law_269, eL_law_270, eL_law_271, eL_law_272, eL_law_273, eL_law_274, eL_law_275, eL_law_276, eL_law_277, eL_law_278, pe_aload_0, pe_aload_1, pe_bin, pe_callV_2, pe_const, pe_iald, pe_iload_3, h0, x0, x_o, ro_l, nisw, nI_c2, nI_c3, c1, c2, c3, d1, d2, d3, e1, e2, e3, hget_hset, ia_l, ia_s, vin, opl, onl, Int32.reduceLT, Int32.reduceLE, Int32.reduceAdd, Int32.reduceSub, Nat.reduceLT, Nat.reduceAdd, Nat.reduceEqDiff, ↓reduceIte, true_and, and_true, List.length_nil, List.length_cons, Nat.reduceLeDiff, Nat.zero_le]
  refine k_ditch G N s hc hm hp (by omega) _ ?_
  intro G1 v g0 ⟨q, sd', m1⟩ cont
  have h1 : hget G1 0 = some (c_ro len sc) := g0.trans h0
  simp only [eL_law_281, eL_law_282, eL_law_283, eL_law_284, eL_law_285, eL_law_286, eL_law_287, eL_law_288, eL_law_289, eL_law_290, eL_law_291, eL_law_292, pe_aload_0, pe_aload_2, pe_bin, pe_callV_2, pe_const, pe_iald, pe_iload_3, h1, m1, m_o, ro_l, nisw, nI_c2, nI_c3, c1, c2, c3, d1, d2, d3, e1, e2, e3, hget_hset, ia_l, ia_s, vin, opl, onl, Int32.reduceLT, Int32.reduceLE, Int32.reduceAdd, Int32.reduceSub, Nat.reduceLT, Nat.reduceAdd, Nat.reduceEqDiff, ↓reduceIte, true_and, and_true, List.length_nil, List.length_cons, Nat.reduceLeDiff, Nat.zero_le]
  refine cont _ ?_
  intro G2 s' a1 a2 a3 a4
  simp only [eL_law_295, pe_iceq, hget_hset, ia_l, ia_s, vin, opl, onl, Int32.reduceLT, Int32.reduceLE, Int32.reduceAdd, Int32.reduceSub, Nat.reduceLT, Nat.reduceAdd, Nat.reduceEqDiff, ↓reduceIte, true_and, and_true, List.length_nil, List.length_cons, Nat.reduceLeDiff, Nat.zero_le]
  exact nx G2 s' a1 a2 a3 a4
set_option maxRecDepth 100000 in
theorem law_6 (h : lW d len N lim Q G s sc) : prL (d + 12) lim Q 300 [some (.ref 0), some (.ref 2), some (.ref 124), some (.int (nI (4 * N)))] [] G := by
  obtain ⟨h0, hc, hm, hp, hl, hl2, nx⟩ := h
  obtain ⟨le, la, dr, ke, sd, x0⟩ := hc.o
  have c1 : (nI (4 * N + 1)).toNatClampNeg = 4 * N + 1 := nI_clamp (by omega)
  have c2 : (nI (4 * N + 2)).toNatClampNeg = 4 * N + 2 := nI_clamp (by omega)
  have c3 : (nI (4 * N + 3)).toNatClampNeg = 4 * N + 3 := nI_clamp (by omega)
  have d1 : 0 ≤ nI (4 * N + 1) := nI_pos' (by omega)
  have d2 : 0 ≤ nI (4 * N + 2) := nI_pos' (by omega)
  have d3 : 0 ≤ nI (4 * N + 3) := nI_pos' (by omega)
  have e1 : 4 * N + 1 < len := by omega
  have e2 : 4 * N + 2 < len := by omega
  have e3 : 4 * N + 3 < len := by omega
  simp only [eL_law_300, eL_law_301, pe_aload_1, pe_callV_0, h0, x0, x_o, ro_l, nisw, nI_c2, nI_c3, c1, c2, c3, d1, d2, d3, e1, e2, e3, hget_hset, ia_l, ia_s, vin, opl, onl, Int32.reduceLT, Int32.reduceLE, Int32.reduceAdd, Int32.reduceSub, Nat.reduceLT, Nat.reduceAdd, Nat.reduceEqDiff, ↓reduceIte, true_and, and_true, List.length_nil, List.length_cons, Nat.reduceLeDiff, Nat.zero_le]
  refine k_hour G N s hc hm hp (by omega) _ ?_
  intro G1 v g0 ⟨q, sd', m1⟩ cont
  have h1 : hget G1 0 = some (c_ro len sc) := g0.trans h0
  simp only [eL_law_304, eL_law_305, pe_aload_2, pe_callV_0, h1, m1, m_o, ro_l, nisw, nI_c2, nI_c3, c1, c2, c3, d1, d2, d3, e1, e2, e3, hget_hset, ia_l, ia_s, vin, opl, onl, Int32.reduceLT, Int32.reduceLE, Int32.reduceAdd, Int32.reduceSub, Nat.reduceLT, Nat.reduceAdd, Nat.reduceEqDiff, ↓reduceIte, true_and, and_true, List.length_nil, List.length_cons, Nat.reduceLeDiff, Nat.zero_le]
  refine cont _ ?_
  intro G2 s' a1 a2 a3 a4
  simp only [eL_law_308, pe_iceq, hget_hset, ia_l, ia_s, vin, opl, onl, Int32.reduceLT, Int32.reduceLE, Int32.reduceAdd, Int32.reduceSub, Nat.reduceLT, Nat.reduceAdd, Nat.reduceEqDiff, ↓reduceIte, true_and, and_true, List.length_nil, List.length_cons, Nat.reduceLeDiff, Nat.zero_le]
  exact nx G2 s' a1 a2 a3 a4
set_option maxRecDepth 100000 in
theorem law_7 (h : lW d len N lim Q G s sc) : prL (d + 12) lim Q 313 [some (.ref 0), some (.ref 2), some (.ref 124), some (.int (nI (4 * N)))] [] G := by
  obtain ⟨h0, hc, hm, hp, hl, hl2, nx⟩ := h
  obtain ⟨le, la, dr, ke, sd, x0⟩ := hc.o
  have c1 : (nI (4 * N + 1)).toNatClampNeg = 4 * N + 1 := nI_clamp (by omega)
  have c2 : (nI (4 * N + 2)).toNatClampNeg = 4 * N + 2 := nI_clamp (by omega)
  have c3 : (nI (4 * N + 3)).toNatClampNeg = 4 * N + 3 := nI_clamp (by omega)
  have d1 : 0 ≤ nI (4 * N + 1) := nI_pos' (by omega)
  have d2 : 0 ≤ nI (4 * N + 2) := nI_pos' (by omega)
  have d3 : 0 ≤ nI (4 * N + 3) := nI_pos' (by omega)
  have e1 : 4 * N + 1 < len := by omega
  have e2 : 4 * N + 2 < len := by omega
  have e3 : 4 * N + 3 < len := by omega
  simp only [eL_law_313, eL_law_314, eL_law_315, eL_law_316, eL_law_317, eL_law_318, eL_law_319, pe_aload_0, pe_aload_1, pe_bin, pe_callV_1, pe_const, pe_iald, pe_iload_3, h0, x0, x_o, ro_l, nisw, nI_c2, nI_c3, c1, c2, c3, d1, d2, d3, e1, e2, e3, hget_hset, ia_l, ia_s, vin, opl, onl, Int32.reduceLT, Int32.reduceLE, Int32.reduceAdd, Int32.reduceSub, Nat.reduceLT, Nat.reduceAdd, Nat.reduceEqDiff, ↓reduceIte, true_and, and_true, List.length_nil, List.length_cons, Nat.reduceLeDiff, Nat.zero_le]
  refine k_turn G N s hc hm hp (by omega) _ ?_
  intro G1 v g0 ⟨q, sd', m1⟩ cont
  have h1 : hget G1 0 = some (c_ro len sc) := g0.trans h0
  simp only [eL_law_322, eL_law_323, eL_law_324, eL_law_325, eL_law_326, eL_law_327, eL_law_328, pe_aload_0, pe_aload_2, pe_bin, pe_callV_1, pe_const, pe_iald, pe_iload_3, h1, m1, m_o, ro_l, nisw, nI_c2, nI_c3, c1, c2, c3, d1, d2, d3, e1, e2, e3, hget_hset, ia_l, ia_s, vin, opl, onl, Int32.reduceLT, Int32.reduceLE, Int32.reduceAdd, Int32.reduceSub, Nat.reduceLT, Nat.reduceAdd, Nat.reduceEqDiff, ↓reduceIte, true_and, and_true, List.length_nil, List.length_cons, Nat.reduceLeDiff, Nat.zero_le]
  refine cont _ ?_
  intro G2 s' a1 a2 a3 a4
  simp only [eL_law_331, pe_iceq, hget_hset, ia_l, ia_s, vin, opl, onl, Int32.reduceLT, Int32.reduceLE, Int32.reduceAdd, Int32.reduceSub, Nat.reduceLT, Nat.reduceAdd, Nat.reduceEqDiff, ↓reduceIte, true_and, and_true, List.length_nil, List.length_cons, Nat.reduceLeDiff, Nat.zero_le]
  exact nx G2 s' a1 a2 a3 a4
set_option maxRecDepth 100000 in
theorem law_8 (h : lW d len N lim Q G s sc) : prL (d + 12) lim Q 336 [some (.ref 0), some (.ref 2), some (.ref 124), some (.int (nI (4 * N)))] [] G := by
  obtain ⟨h0, hc, hm, hp, hl, hl2, nx⟩ := h
  obtain ⟨le, la, dr, ke, sd, x0⟩ := hc.o
  have c1 : (nI (4 * N + 1)).toNatClampNeg = 4 * N + 1 := nI_clamp (by omega)
  have c2 : (nI (4 * N + 2)).toNatClampNeg = 4 * N + 2 := nI_clamp (by omega)
  have c3 : (nI (4 * N + 3)).toNatClampNeg = 4 * N + 3 := nI_clamp (by omega)
  have d1 : 0 ≤ nI (4 * N + 1) := nI_pos' (by omega)
  have d2 : 0 ≤ nI (4 * N + 2) := nI_pos' (by omega)
  have d3 : 0 ≤ nI (4 * N + 3) := nI_pos' (by omega)
  have e1 : 4 * N + 1 < len := by omega
  have e2 : 4 * N + 2 < len := by omega
  have e3 : 4 * N + 3 < len := by omega
  simp only [eL_law_336, eL_law_337, eL_law_338, eL_law_339, eL_law_340, eL_law_341, eL_law_342, eL_law_343, eL_law_344, eL_law_345, eL_law_346, eL_law_347, pe_aload_0, pe_aload_1, pe_bin, pe_callV_2, pe_const, pe_iald, pe_iload_3, h0, x0, x_o, ro_l, nisw, nI_c2, nI_c3, c1, c2, c3, d1, d2, d3, e1, e2, e3, hget_hset, ia_l, ia_s, vin, opl, onl, Int32.reduceLT, Int32.reduceLE, Int32.reduceAdd, Int32.reduceSub, Nat.reduceLT, Nat.reduceAdd, Nat.reduceEqDiff, ↓reduceIte, true_and, and_true, List.length_nil, List.length_cons, Nat.reduceLeDiff, Nat.zero_le]
  refine k_rain G N s hc hm hp (by omega) _ ?_
  intro G1 v g0 ⟨q, sd', m1⟩ cont
  have h1 : hget G1 0 = some (c_ro len sc) := g0.trans h0
  simp only [eL_law_350, eL_law_351, eL_law_352, eL_law_353, eL_law_354, eL_law_355, eL_law_356, eL_law_357, eL_law_358, eL_law_359, eL_law_360, eL_law_361, pe_aload_0, pe_aload_2, pe_bin, pe_callV_2, pe_const, pe_iald, pe_iload_3, h1, m1, m_o, ro_l, nisw, nI_c2, nI_c3, c1, c2, c3, d1, d2, d3, e1, e2, e3, hget_hset, ia_l, ia_s, vin, opl, onl, Int32.reduceLT, Int32.reduceLE, Int32.reduceAdd, Int32.reduceSub, Nat.reduceLT, Nat.reduceAdd, Nat.reduceEqDiff, ↓reduceIte, true_and, and_true, List.length_nil, List.length_cons, Nat.reduceLeDiff, Nat.zero_le]
  refine cont _ ?_
  intro G2 s' a1 a2 a3 a4
  simp only [eL_law_364, pe_iceq, hget_hset, ia_l, ia_s, vin, opl, onl, Int32.reduceLT, Int32.reduceLE, Int32.reduceAdd, Int32.reduceSub, Nat.reduceLT, Nat.reduceAdd, Nat.reduceEqDiff, ↓reduceIte, true_and, and_true, List.length_nil, List.length_cons, Nat.reduceLeDiff, Nat.zero_le]
  exact nx G2 s' a1 a2 a3 a4
set_option maxRecDepth 100000 in
theorem law_9 (h : lW d len N lim Q G s sc) : prL (d + 12) lim Q 369 [some (.ref 0), some (.ref 2), some (.ref 124), some (.int (nI (4 * N)))] [] G := by
  obtain ⟨h0, hc, hm, hp, hl, hl2, nx⟩ := h
  obtain ⟨le, la, dr, ke, sd, x0⟩ := hc.o
  have c1 : (nI (4 * N + 1)).toNatClampNeg = 4 * N + 1 := nI_clamp (by omega)
  have c2 : (nI (4 * N + 2)).toNatClampNeg = 4 * N + 2 := nI_clamp (by omega)
  have c3 : (nI (4 * N + 3)).toNatClampNeg = 4 * N + 3 := nI_clamp (by omega)
  have d1 : 0 ≤ nI (4 * N + 1) := nI_pos' (by omega)
  have d2 : 0 ≤ nI (4 * N + 2) := nI_pos' (by omega)
  have d3 : 0 ≤ nI (4 * N + 3) := nI_pos' (by omega)
  have e1 : 4 * N + 1 < len := by omega
  have e2 : 4 * N + 2 < len := by omega
  have e3 : 4 * N + 3 < len := by omega
  simp only [eL_law_369, eL_law_370, pe_aload_1, pe_callV_0, h0, x0, x_o, ro_l, nisw, nI_c2, nI_c3, c1, c2, c3, d1, d2, d3, e1, e2, e3, hget_hset, ia_l, ia_s, vin, opl, onl, Int32.reduceLT, Int32.reduceLE, Int32.reduceAdd, Int32.reduceSub, Nat.reduceLT, Nat.reduceAdd, Nat.reduceEqDiff, ↓reduceIte, true_and, and_true, List.length_nil, List.length_cons, Nat.reduceLeDiff, Nat.zero_le]
  refine k_undo G N s hc hm hp (by omega) _ ?_
  intro G1 v g0 ⟨q, sd', m1⟩ cont
  have h1 : hget G1 0 = some (c_ro len sc) := g0.trans h0
  simp only [eL_law_373, eL_law_374, pe_aload_2, pe_callV_0, h1, m1, m_o, ro_l, nisw, nI_c2, nI_c3, c1, c2, c3, d1, d2, d3, e1, e2, e3, hget_hset, ia_l, ia_s, vin, opl, onl, Int32.reduceLT, Int32.reduceLE, Int32.reduceAdd, Int32.reduceSub, Nat.reduceLT, Nat.reduceAdd, Nat.reduceEqDiff, ↓reduceIte, true_and, and_true, List.length_nil, List.length_cons, Nat.reduceLeDiff, Nat.zero_le]
  refine cont _ ?_
  intro G2 s' a1 a2 a3 a4
  simp only [eL_law_377, pe_iceq, hget_hset, ia_l, ia_s, vin, opl, onl, Int32.reduceLT, Int32.reduceLE, Int32.reduceAdd, Int32.reduceSub, Nat.reduceLT, Nat.reduceAdd, Nat.reduceEqDiff, ↓reduceIte, true_and, and_true, List.length_nil, List.length_cons, Nat.reduceLeDiff, Nat.zero_le]
  exact nx G2 s' a1 a2 a3 a4
set_option maxRecDepth 100000 in
theorem law_10 (h : lW d len N lim Q G s sc) : prL (d + 12) lim Q 382 [some (.ref 0), some (.ref 2), some (.ref 124), some (.int (nI (4 * N)))] [] G := by
  obtain ⟨h0, hc, hm, hp, hl, hl2, nx⟩ := h
  obtain ⟨le, la, dr, ke, sd, x0⟩ := hc.o
  have c1 : (nI (4 * N + 1)).toNatClampNeg = 4 * N + 1 := nI_clamp (by omega)
  have c2 : (nI (4 * N + 2)).toNatClampNeg = 4 * N + 2 := nI_clamp (by omega)
  have c3 : (nI (4 * N + 3)).toNatClampNeg = 4 * N + 3 := nI_clamp (by omega)
  have d1 : 0 ≤ nI (4 * N + 1) := nI_pos' (by omega)
  have d2 : 0 ≤ nI (4 * N + 2) := nI_pos' (by omega)
  have d3 : 0 ≤ nI (4 * N + 3) := nI_pos' (by omega)
  have e1 : 4 * N + 1 < len := by omega
  have e2 : 4 * N + 2 < len := by omega
  have e3 : 4 * N + 3 < len := by omega
  simp only [eL_law_382, eL_law_383, eL_law_384, eL_law_385, eL_law_386, eL_law_387, eL_law_388, eL_law_389, eL_law_390, eL_law_391, eL_law_392, eL_law_393, pe_aload_0, pe_aload_1, pe_bin, pe_callV_2, pe_const, pe_iald, pe_iload_3, h0, x0, x_o, ro_l, nisw, nI_c2, nI_c3, c1, c2, c3, d1, d2, d3, e1, e2, e3, hget_hset, ia_l, ia_s, vin, opl, onl, Int32.reduceLT, Int32.reduceLE, Int32.reduceAdd, Int32.reduceSub, Nat.reduceLT, Nat.reduceAdd, Nat.reduceEqDiff, ↓reduceIte, true_and, and_true, List.length_nil, List.length_cons, Nat.reduceLeDiff, Nat.zero_le]
  refine k_judge G N s hc hm hp (by omega) _ ?_
  intro G1 v g0 ⟨q, sd', m1⟩ cont
  have h1 : hget G1 0 = some (c_ro len sc) := g0.trans h0
  simp only [eL_law_396, eL_law_397, eL_law_398, eL_law_399, eL_law_400, eL_law_401, eL_law_402, eL_law_403, eL_law_404, eL_law_405, eL_law_406, eL_law_407, pe_aload_0, pe_aload_2, pe_bin, pe_callV_2, pe_const, pe_iald, pe_iload_3, h1, m1, m_o, ro_l, nisw, nI_c2, nI_c3, c1, c2, c3, d1, d2, d3, e1, e2, e3, hget_hset, ia_l, ia_s, vin, opl, onl, Int32.reduceLT, Int32.reduceLE, Int32.reduceAdd, Int32.reduceSub, Nat.reduceLT, Nat.reduceAdd, Nat.reduceEqDiff, ↓reduceIte, true_and, and_true, List.length_nil, List.length_cons, Nat.reduceLeDiff, Nat.zero_le]
  refine cont _ ?_
  intro G2 s' a1 a2 a3 a4
  simp only [eL_law_410, pe_iceq, hget_hset, ia_l, ia_s, vin, opl, onl, Int32.reduceLT, Int32.reduceLE, Int32.reduceAdd, Int32.reduceSub, Nat.reduceLT, Nat.reduceAdd, Nat.reduceEqDiff, ↓reduceIte, true_and, and_true, List.length_nil, List.length_cons, Nat.reduceLeDiff, Nat.zero_le]
  exact nx G2 s' a1 a2 a3 a4
set_option maxRecDepth 100000 in
theorem law_11 (h : lW d len N lim Q G s sc) : prL (d + 12) lim Q 415 [some (.ref 0), some (.ref 2), some (.ref 124), some (.int (nI (4 * N)))] [] G := by
  obtain ⟨h0, hc, hm, hp, hl, hl2, nx⟩ := h
  obtain ⟨le, la, dr, ke, sd, x0⟩ := hc.o
  have c1 : (nI (4 * N + 1)).toNatClampNeg = 4 * N + 1 := nI_clamp (by omega)
  have c2 : (nI (4 * N + 2)).toNatClampNeg = 4 * N + 2 := nI_clamp (by omega)
  have c3 : (nI (4 * N + 3)).toNatClampNeg = 4 * N + 3 := nI_clamp (by omega)
  have d1 : 0 ≤ nI (4 * N + 1) := nI_pos' (by omega)
  have d2 : 0 ≤ nI (4 * N + 2) := nI_pos' (by omega)
  have d3 : 0 ≤ nI (4 * N + 3) := nI_pos' (by omega)
  have e1 : 4 * N + 1 < len := by omega
  have e2 : 4 * N + 2 < len := by omega
  have e3 : 4 * N + 3 < len := by omega
  simp only [eL_law_415, eL_law_416, eL_law_417, eL_law_418, eL_law_419, eL_law_420, eL_law_421, eL_law_422, eL_law_423, eL_law_424, eL_law_425, eL_law_426, eL_law_427, eL_law_428, eL_law_429, eL_law_430, eL_law_431, pe_aload_0, pe_aload_1, pe_bin, pe_callV_3, pe_const, pe_iald, pe_iload_3, h0, x0, x_o, ro_l, nisw, nI_c2, nI_c3, c1, c2, c3, d1, d2, d3, e1, e2, e3, hget_hset, ia_l, ia_s, vin, opl, onl, Int32.reduceLT, Int32.reduceLE, Int32.reduceAdd, Int32.reduceSub, Nat.reduceLT, Nat.reduceAdd, Nat.reduceEqDiff, ↓reduceIte, true_and, and_true, List.length_nil, List.length_cons, Nat.reduceLeDiff, Nat.zero_le]
  refine k_behind G N s hc hm hp (by omega) _ ?_
  intro G1 v g0 ⟨q, sd', m1⟩ cont
  have h1 : hget G1 0 = some (c_ro len sc) := g0.trans h0
  simp only [eL_law_434, eL_law_435, eL_law_436, eL_law_437, eL_law_438, eL_law_439, eL_law_440, eL_law_441, eL_law_442, eL_law_443, eL_law_444, eL_law_445, eL_law_446, eL_law_447, eL_law_448, eL_law_449, eL_law_450, pe_aload_0, pe_aload_2, pe_bin, pe_callV_3, pe_const, pe_iald, pe_iload_3, h1, m1, m_o, ro_l, nisw, nI_c2, nI_c3, c1, c2, c3, d1, d2, d3, e1, e2, e3, hget_hset, ia_l, ia_s, vin, opl, onl, Int32.reduceLT, Int32.reduceLE, Int32.reduceAdd, Int32.reduceSub, Nat.reduceLT, Nat.reduceAdd, Nat.reduceEqDiff, ↓reduceIte, true_and, and_true, List.length_nil, List.length_cons, Nat.reduceLeDiff, Nat.zero_le]
  refine cont _ ?_
  intro G2 s' a1 a2 a3 a4
  simp only [eL_law_453, pe_iceq, hget_hset, ia_l, ia_s, vin, opl, onl, Int32.reduceLT, Int32.reduceLE, Int32.reduceAdd, Int32.reduceSub, Nat.reduceLT, Nat.reduceAdd, Nat.reduceEqDiff, ↓reduceIte, true_and, and_true, List.length_nil, List.length_cons, Nat.reduceLeDiff, Nat.zero_le]
  exact nx G2 s' a1 a2 a3 a4
set_option maxRecDepth 100000 in
theorem law_12 (h : lW d len N lim Q G s sc) : prL (d + 12) lim Q 458 [some (.ref 0), some (.ref 2), some (.ref 124), some (.int (nI (4 * N)))] [] G := by
  obtain ⟨h0, hc, hm, hp, hl, hl2, nx⟩ := h
  obtain ⟨le, la, dr, ke, sd, x0⟩ := hc.o
  have c1 : (nI (4 * N + 1)).toNatClampNeg = 4 * N + 1 := nI_clamp (by omega)
  have c2 : (nI (4 * N + 2)).toNatClampNeg = 4 * N + 2 := nI_clamp (by omega)
  have c3 : (nI (4 * N + 3)).toNatClampNeg = 4 * N + 3 := nI_clamp (by omega)
  have d1 : 0 ≤ nI (4 * N + 1) := nI_pos' (by omega)
  have d2 : 0 ≤ nI (4 * N + 2) := nI_pos' (by omega)
  have d3 : 0 ≤ nI (4 * N + 3) := nI_pos' (by omega)
  have e1 : 4 * N + 1 < len := by omega
  have e2 : 4 * N + 2 < len := by omega
  have e3 : 4 * N + 3 < len := by omega
  simp only [eL_law_458, eL_law_459, eL_law_460, eL_law_461, eL_law_462, eL_law_463, eL_law_464, eL_law_465, eL_law_466, eL_law_467, eL_law_468, eL_law_469, eL_law_470, eL_law_471, eL_law_472, eL_law_473, eL_law_474, pe_aload_0, pe_aload_1, pe_bin, pe_callV_3, pe_const, pe_iald, pe_iload_3, h0, x0, x_o, ro_l, nisw, nI_c2, nI_c3, c1, c2, c3, d1, d2, d3, e1, e2, e3, hget_hset, ia_l, ia_s, vin, opl, onl, Int32.reduceLT, Int32.reduceLE, Int32.reduceAdd, Int32.reduceSub, Nat.reduceLT, Nat.reduceAdd, Nat.reduceEqDiff, ↓reduceIte, true_and, and_true, List.length_nil, List.length_cons, Nat.reduceLeDiff, Nat.zero_le]
  refine k_by G N s hc hm hp (by omega) _ ?_
  intro G1 v g0 ⟨q, sd', m1⟩ cont
  have h1 : hget G1 0 = some (c_ro len sc) := g0.trans h0
  simp only [eL_law_477, eL_law_478, eL_law_479, eL_law_480, eL_law_481, eL_law_482, eL_law_483, eL_law_484, eL_law_485, eL_law_486, eL_law_487, eL_law_488, eL_law_489, eL_law_490, eL_law_491, eL_law_492, eL_law_493, pe_aload_0, pe_aload_2, pe_bin, pe_callV_3, pe_const, pe_iald, pe_iload_3, h1, m1, m_o, ro_l, nisw, nI_c2, nI_c3, c1, c2, c3, d1, d2, d3, e1, e2, e3, hget_hset, ia_l, ia_s, vin, opl, onl, Int32.reduceLT, Int32.reduceLE, Int32.reduceAdd, Int32.reduceSub, Nat.reduceLT, Nat.reduceAdd, Nat.reduceEqDiff, ↓reduceIte, true_and, and_true, List.length_nil, List.length_cons, Nat.reduceLeDiff, Nat.zero_le]
  refine cont _ ?_
  intro G2 s' a1 a2 a3 a4
  simp only [eL_law_496, pe_iceq, hget_hset, ia_l, ia_s, vin, opl, onl, Int32.reduceLT, Int32.reduceLE, Int32.reduceAdd, Int32.reduceSub, Nat.reduceLT, Nat.reduceAdd, Nat.reduceEqDiff, ↓reduceIte, true_and, and_true, List.length_nil, List.length_cons, Nat.reduceLeDiff, Nat.zero_le]
  exact nx G2 s' a1 a2 a3 a4
set_option maxRecDepth 100000 in
theorem law_13 (h : lW d len N lim Q G s sc) : prL (d + 12) lim Q 501 [some (.ref 0), some (.ref 2), some (.ref 124), some (.int (nI (4 * N)))] [] G := by
  obtain ⟨h0, hc, hm, hp, hl, hl2, nx⟩ := h
  obtain ⟨le, la, dr, ke, sd, x0⟩ := hc.o
  have c1 : (nI (4 * N + 1)).toNatClampNeg = 4 * N + 1 := nI_clamp (by omega)
  have c2 : (nI (4 * N + 2)).toNatClampNeg = 4 * N + 2 := nI_clamp (by omega)
  have c3 : (nI (4 * N + 3)).toNatClampNeg = 4 * N + 3 := nI_clamp (by omega)
  have d1 : 0 ≤ nI (4 * N + 1) := nI_pos' (by omega)
  have d2 : 0 ≤ nI (4 * N + 2) := nI_pos' (by omega)
  have d3 : 0 ≤ nI (4 * N + 3) := nI_pos' (by omega)
  have e1 : 4 * N + 1 < len := by omega
  have e2 : 4 * N + 2 < len := by omega
  have e3 : 4 * N + 3 < len := by omega
  by_cases hz : sc (4 * N + 2) = 0
  · simp only [eL_law_501, eL_law_502, eL_law_503, eL_law_504, eL_law_505, eL_law_506, eL_law_507, eL_law_508, eL_law_509, eL_law_510, eL_law_511, eL_law_512, eL_law_515, eL_law_516, eL_law_519, eL_law_520, pe_aload_0, pe_aload_1, pe_bin, pe_callV_2, pe_const, pe_goto, pe_iald, pe_ifeq, pe_iload_3, h0, x0, x_o, hz, ro_l, nisw, nI_c2, nI_c3, c1, c2, c3, d1, d2, d3, e1, e2, e3, hget_hset, ia_l, ia_s, vin, opl, onl, Int32.reduceLT, Int32.reduceLE, Int32.reduceAdd, Int32.reduceSub, Nat.reduceLT, Nat.reduceAdd, Nat.reduceEqDiff, ↓reduceIte, true_and, and_true, List.length_nil, List.length_cons, Nat.reduceLeDiff, Nat.zero_le]
    refine k_once G N s hc hm hp (by omega) _ ?_
    intro G1 v g0 ⟨q, sd', m1⟩ cont
    have h1 : hget G1 0 = some (c_ro len sc) := g0.trans h0
    simp only [eL_law_523, eL_law_524, eL_law_525, eL_law_526, eL_law_527, eL_law_528, eL_law_529, eL_law_530, eL_law_531, eL_law_532, eL_law_533, eL_law_534, eL_law_537, eL_law_538, eL_law_541, eL_law_542, pe_aload_0, pe_aload_2, pe_bin, pe_callV_2, pe_const, pe_goto, pe_iald, pe_ifeq, pe_iload_3, h1, m1, m_o, hz, ro_l, nisw, nI_c2, nI_c3, c1, c2, c3, d1, d2, d3, e1, e2, e3, hget_hset, ia_l, ia_s, vin, opl, onl, Int32.reduceLT, Int32.reduceLE, Int32.reduceAdd, Int32.reduceSub, Nat.reduceLT, Nat.reduceAdd, Nat.reduceEqDiff, ↓reduceIte, true_and, and_true, List.length_nil, List.length_cons, Nat.reduceLeDiff, Nat.zero_le]
    refine cont _ ?_
    intro G2 s' a1 a2 a3 a4
    simp only [eL_law_545, pe_iceq, hget_hset, ia_l, ia_s, vin, opl, onl, Int32.reduceLT, Int32.reduceLE, Int32.reduceAdd, Int32.reduceSub, Nat.reduceLT, Nat.reduceAdd, Nat.reduceEqDiff, ↓reduceIte, true_and, and_true, List.length_nil, List.length_cons, Nat.reduceLeDiff, Nat.zero_le]
    exact nx G2 s' a1 a2 a3 a4
  · simp only [eL_law_501, eL_law_502, eL_law_503, eL_law_504, eL_law_505, eL_law_506, eL_law_507, eL_law_508, eL_law_509, eL_law_510, eL_law_511, eL_law_512, eL_law_515, eL_law_516, eL_law_519, eL_law_520, pe_aload_0, pe_aload_1, pe_bin, pe_callV_2, pe_const, pe_goto, pe_iald, pe_ifeq, pe_iload_3, h0, x0, x_o, hz, ro_l, nisw, nI_c2, nI_c3, c1, c2, c3, d1, d2, d3, e1, e2, e3, hget_hset, ia_l, ia_s, vin, opl, onl, Int32.reduceLT, Int32.reduceLE, Int32.reduceAdd, Int32.reduceSub, Nat.reduceLT, Nat.reduceAdd, Nat.reduceEqDiff, ↓reduceIte, true_and, and_true, List.length_nil, List.length_cons, Nat.reduceLeDiff, Nat.zero_le]
    refine k_once G N s hc hm hp (by omega) _ ?_
    intro G1 v g0 ⟨q, sd', m1⟩ cont
    have h1 : hget G1 0 = some (c_ro len sc) := g0.trans h0
    simp only [eL_law_523, eL_law_524, eL_law_525, eL_law_526, eL_law_527, eL_law_528, eL_law_529, eL_law_530, eL_law_531, eL_law_532, eL_law_533, eL_law_534, eL_law_537, eL_law_538, eL_law_541, eL_law_542, pe_aload_0, pe_aload_2, pe_bin, pe_callV_2, pe_const, pe_goto, pe_iald, pe_ifeq, pe_iload_3, h1, m1, m_o, hz, ro_l, nisw, nI_c2, nI_c3, c1, c2, c3, d1, d2, d3, e1, e2, e3, hget_hset, ia_l, ia_s, vin, opl, onl, Int32.reduceLT, Int32.reduceLE, Int32.reduceAdd, Int32.reduceSub, Nat.reduceLT, Nat.reduceAdd, Nat.reduceEqDiff, ↓reduceIte, true_and, and_true, List.length_nil, List.length_cons, Nat.reduceLeDiff, Nat.zero_le]
    refine cont _ ?_
    intro G2 s' a1 a2 a3 a4
    simp only [eL_law_545, pe_iceq, hget_hset, ia_l, ia_s, vin, opl, onl, Int32.reduceLT, Int32.reduceLE, Int32.reduceAdd, Int32.reduceSub, Nat.reduceLT, Nat.reduceAdd, Nat.reduceEqDiff, ↓reduceIte, true_and, and_true, List.length_nil, List.length_cons, Nat.reduceLeDiff, Nat.zero_le]
    exact nx G2 s' a1 a2 a3 a4
set_option maxRecDepth 100000 in
theorem law_14 (h : lW d len N lim Q G s sc) : prL (d + 12) lim Q 550 [some (.ref 0), some (.ref 2), some (.ref 124), some (.int (nI (4 * N)))] [] G := by
  obtain ⟨h0, hc, hm, hp, hl, hl2, nx⟩ := h
  obtain ⟨le, la, dr, ke, sd, x0⟩ := hc.o
  have c1 : (nI (4 * N + 1)).toNatClampNeg = 4 * N + 1 := nI_clamp (by omega)
  have c2 : (nI (4 * N + 2)).toNatClampNeg = 4 * N + 2 := nI_clamp (by omega)
  have c3 : (nI (4 * N + 3)).toNatClampNeg = 4 * N + 3 := nI_clamp (by omega)
  have d1 : 0 ≤ nI (4 * N + 1) := nI_pos' (by omega)
  have d2 : 0 ≤ nI (4 * N + 2) := nI_pos' (by omega)
  have d3 : 0 ≤ nI (4 * N + 3) := nI_pos' (by omega)
  have e1 : 4 * N + 1 < len := by omega
  have e2 : 4 * N + 2 < len := by omega
  have e3 : 4 * N + 3 < len := by omega
  simp only [eL_law_550, eL_law_551, eL_law_552, eL_law_553, eL_law_554, eL_law_555, eL_law_556, eL_law_557, eL_law_558, eL_law_559, eL_law_560, eL_law_561, pe_aload_0, pe_aload_1, pe_bin, pe_callV_2, pe_const, pe_iald, pe_iload_3, h0, x0, x_o, ro_l, nisw, nI_c2, nI_c3, c1, c2, c3, d1, d2, d3, e1, e2, e3, hget_hset, ia_l, ia_s, vin, opl, onl, Int32.reduceLT, Int32.reduceLE, Int32.reduceAdd, Int32.reduceSub, Nat.reduceLT, Nat.reduceAdd, Nat.reduceEqDiff, ↓reduceIte, true_and, and_true, List.length_nil, List.length_cons, Nat.reduceLeDiff, Nat.zero_le]
  refine k_twice G N s hc hm hp (by omega) _ ?_
  intro G1 v g0 ⟨q, sd', m1⟩ cont
  have h1 : hget G1 0 = some (c_ro len sc) := g0.trans h0
  simp only [eL_law_564, eL_law_565, eL_law_566, eL_law_567, eL_law_568, eL_law_569, eL_law_570, eL_law_571, eL_law_572, eL_law_573, eL_law_574, eL_law_575, pe_aload_0, pe_aload_2, pe_bin, pe_callV_2, pe_const, pe_iald, pe_iload_3, h1, m1, m_o, ro_l, nisw, nI_c2, nI_c3, c1, c2, c3, d1, d2, d3, e1, e2, e3, hget_hset, ia_l, ia_s, vin, opl, onl, Int32.reduceLT, Int32.reduceLE, Int32.reduceAdd, Int32.reduceSub, Nat.reduceLT, Nat.reduceAdd, Nat.reduceEqDiff, ↓reduceIte, true_and, and_true, List.length_nil, List.length_cons, Nat.reduceLeDiff, Nat.zero_le]
  refine cont _ ?_
  intro G2 s' a1 a2 a3 a4
  simp only [eL_law_578, pe_iceq, hget_hset, ia_l, ia_s, vin, opl, onl, Int32.reduceLT, Int32.reduceLE, Int32.reduceAdd, Int32.reduceSub, Nat.reduceLT, Nat.reduceAdd, Nat.reduceEqDiff, ↓reduceIte, true_and, and_true, List.length_nil, List.length_cons, Nat.reduceLeDiff, Nat.zero_le]
  exact nx G2 s' a1 a2 a3 a4
set_option maxRecDepth 100000 in
theorem law_15 (h : lW d len N lim Q G s sc) : prL (d + 12) lim Q 583 [some (.ref 0), some (.ref 2), some (.ref 124), some (.int (nI (4 * N)))] [] G := by
  obtain ⟨h0, hc, hm, hp, hl, hl2, nx⟩ := h
  obtain ⟨le, la, dr, ke, sd, x0⟩ := hc.o
  have c1 : (nI (4 * N + 1)).toNatClampNeg = 4 * N + 1 := nI_clamp (by omega)
  have c2 : (nI (4 * N + 2)).toNatClampNeg = 4 * N + 2 := nI_clamp (by omega)
  have c3 : (nI (4 * N + 3)).toNatClampNeg = 4 * N + 3 := nI_clamp (by omega)
  have d1 : 0 ≤ nI (4 * N + 1) := nI_pos' (by omega)
  have d2 : 0 ≤ nI (4 * N + 2) := nI_pos' (by omega)
  have d3 : 0 ≤ nI (4 * N + 3) := nI_pos' (by omega)
  have e1 : 4 * N + 1 < len := by omega
  have e2 : 4 * N + 2 < len := by omega
  have e3 : 4 * N + 3 < len := by omega
  simp only [eL_law_583, eL_law_584, eL_law_585, eL_law_586, eL_law_587, eL_law_588, eL_law_589, pe_aload_0, pe_aload_1, pe_bin, pe_callV_1, pe_const, pe_iald, pe_iload_3, h0, x0, x_o, ro_l, nisw, nI_c2, nI_c3, c1, c2, c3, d1, d2, d3, e1, e2, e3, hget_hset, ia_l, ia_s, vin, opl, onl, Int32.reduceLT, Int32.reduceLE, Int32.reduceAdd, Int32.reduceSub, Nat.reduceLT, Nat.reduceAdd, Nat.reduceEqDiff, ↓reduceIte, true_and, and_true, List.length_nil, List.length_cons, Nat.reduceLeDiff, Nat.zero_le]
  refine k_richest G N s hc hm hp (by omega) _ ?_
  intro G1 v g0 ⟨q, sd', m1⟩ cont
  have h1 : hget G1 0 = some (c_ro len sc) := g0.trans h0
  simp only [eL_law_592, eL_law_593, eL_law_594, eL_law_595, eL_law_596, eL_law_597, eL_law_598, pe_aload_0, pe_aload_2, pe_bin, pe_callV_1, pe_const, pe_iald, pe_iload_3, h1, m1, m_o, ro_l, nisw, nI_c2, nI_c3, c1, c2, c3, d1, d2, d3, e1, e2, e3, hget_hset, ia_l, ia_s, vin, opl, onl, Int32.reduceLT, Int32.reduceLE, Int32.reduceAdd, Int32.reduceSub, Nat.reduceLT, Nat.reduceAdd, Nat.reduceEqDiff, ↓reduceIte, true_and, and_true, List.length_nil, List.length_cons, Nat.reduceLeDiff, Nat.zero_le]
  refine cont _ ?_
  intro G2 s' a1 a2 a3 a4
  simp only [eL_law_601, pe_iceq, hget_hset, ia_l, ia_s, vin, opl, onl, Int32.reduceLT, Int32.reduceLE, Int32.reduceAdd, Int32.reduceSub, Nat.reduceLT, Nat.reduceAdd, Nat.reduceEqDiff, ↓reduceIte, true_and, and_true, List.length_nil, List.length_cons, Nat.reduceLeDiff, Nat.zero_le]
  exact nx G2 s' a1 a2 a3 a4
set_option maxRecDepth 100000 in
theorem law_16 (h : lW d len N lim Q G s sc) : prL (d + 12) lim Q 606 [some (.ref 0), some (.ref 2), some (.ref 124), some (.int (nI (4 * N)))] [] G := by
  obtain ⟨h0, hc, hm, hp, hl, hl2, nx⟩ := h
  obtain ⟨le, la, dr, ke, sd, x0⟩ := hc.o
  have c1 : (nI (4 * N + 1)).toNatClampNeg = 4 * N + 1 := nI_clamp (by omega)
  have c2 : (nI (4 * N + 2)).toNatClampNeg = 4 * N + 2 := nI_clamp (by omega)
  have c3 : (nI (4 * N + 3)).toNatClampNeg = 4 * N + 3 := nI_clamp (by omega)
  have d1 : 0 ≤ nI (4 * N + 1) := nI_pos' (by omega)
  have d2 : 0 ≤ nI (4 * N + 2) := nI_pos' (by omega)
  have d3 : 0 ≤ nI (4 * N + 3) := nI_pos' (by omega)
  have e1 : 4 * N + 1 < len := by omega
  have e2 : 4 * N + 2 < len := by omega
  have e3 : 4 * N + 3 < len := by omega
  simp only [eL_law_606, eL_law_607, eL_law_608, eL_law_609, eL_law_610, eL_law_611, eL_law_612, pe_aload_0, pe_aload_1, pe_bin, pe_callV_1, pe_const, pe_iald, pe_iload_3, h0, x0, x_o, ro_l, nisw, nI_c2, nI_c3, c1, c2, c3, d1, d2, d3, e1, e2, e3, hget_hset, ia_l, ia_s, vin, opl, onl, Int32.reduceLT, Int32.reduceLE, Int32.reduceAdd, Int32.reduceSub, Nat.reduceLT, Nat.reduceAdd, Nat.reduceEqDiff, ↓reduceIte, true_and, and_true, List.length_nil, List.length_cons, Nat.reduceLeDiff, Nat.zero_le]
  refine k_barred G N s hc hm hp (by omega) _ ?_
  intro G1 v g0 ⟨q, sd', m1⟩ cont
  have h1 : hget G1 0 = some (c_ro len sc) := g0.trans h0
  simp only [eL_law_615, eL_law_616, eL_law_617, eL_law_618, eL_law_619, eL_law_620, eL_law_621, pe_aload_0, pe_aload_2, pe_bin, pe_callV_1, pe_const, pe_iald, pe_iload_3, h1, m1, m_o, ro_l, nisw, nI_c2, nI_c3, c1, c2, c3, d1, d2, d3, e1, e2, e3, hget_hset, ia_l, ia_s, vin, opl, onl, Int32.reduceLT, Int32.reduceLE, Int32.reduceAdd, Int32.reduceSub, Nat.reduceLT, Nat.reduceAdd, Nat.reduceEqDiff, ↓reduceIte, true_and, and_true, List.length_nil, List.length_cons, Nat.reduceLeDiff, Nat.zero_le]
  refine cont _ ?_
  intro G2 s' a1 a2 a3 a4
  simp only [eL_law_624, pe_iceq, hget_hset, ia_l, ia_s, vin, opl, onl, Int32.reduceLT, Int32.reduceLE, Int32.reduceAdd, Int32.reduceSub, Nat.reduceLT, Nat.reduceAdd, Nat.reduceEqDiff, ↓reduceIte, true_and, and_true, List.length_nil, List.length_cons, Nat.reduceLeDiff, Nat.zero_le]
  exact nx G2 s' a1 a2 a3 a4
set_option maxRecDepth 100000 in
theorem law_17 (h : lW d len N lim Q G s sc) : prL (d + 12) lim Q 629 [some (.ref 0), some (.ref 2), some (.ref 124), some (.int (nI (4 * N)))] [] G := by
  obtain ⟨h0, hc, hm, hp, hl, hl2, nx⟩ := h
  obtain ⟨le, la, dr, ke, sd, x0⟩ := hc.o
  have c1 : (nI (4 * N + 1)).toNatClampNeg = 4 * N + 1 := nI_clamp (by omega)
  have c2 : (nI (4 * N + 2)).toNatClampNeg = 4 * N + 2 := nI_clamp (by omega)
  have c3 : (nI (4 * N + 3)).toNatClampNeg = 4 * N + 3 := nI_clamp (by omega)
  have d1 : 0 ≤ nI (4 * N + 1) := nI_pos' (by omega)
  have d2 : 0 ≤ nI (4 * N + 2) := nI_pos' (by omega)
  have d3 : 0 ≤ nI (4 * N + 3) := nI_pos' (by omega)
  have e1 : 4 * N + 1 < len := by omega
  have e2 : 4 * N + 2 < len := by omega
  have e3 : 4 * N + 3 < len := by omega
  simp only [eL_law_629, eL_law_630, eL_law_631, eL_law_632, eL_law_633, eL_law_634, eL_law_635, eL_law_636, eL_law_637, eL_law_638, eL_law_639, eL_law_640, pe_aload_0, pe_aload_1, pe_bin, pe_callV_2, pe_const, pe_iald, pe_iload_3, h0, x0, x_o, ro_l, nisw, nI_c2, nI_c3, c1, c2, c3, d1, d2, d3, e1, e2, e3, hget_hset, ia_l, ia_s, vin, opl, onl, Int32.reduceLT, Int32.reduceLE, Int32.reduceAdd, Int32.reduceSub, Nat.reduceLT, Nat.reduceAdd, Nat.reduceEqDiff, ↓reduceIte, true_and, and_true, List.length_nil, List.length_cons, Nat.reduceLeDiff, Nat.zero_le]
  refine k_free G N s hc hm hp (by omega) _ ?_
  intro G1 v g0 ⟨q, sd', m1⟩ cont
  have h1 : hget G1 0 = some (c_ro len sc) := g0.trans h0
  simp only [eL_law_643, eL_law_644, eL_law_645, eL_law_646, eL_law_647, eL_law_648, eL_law_649, eL_law_650, eL_law_651, eL_law_652, eL_law_653, eL_law_654, pe_aload_0, pe_aload_2, pe_bin, pe_callV_2, pe_const, pe_iald, pe_iload_3, h1, m1, m_o, ro_l, nisw, nI_c2, nI_c3, c1, c2, c3, d1, d2, d3, e1, e2, e3, hget_hset, ia_l, ia_s, vin, opl, onl, Int32.reduceLT, Int32.reduceLE, Int32.reduceAdd, Int32.reduceSub, Nat.reduceLT, Nat.reduceAdd, Nat.reduceEqDiff, ↓reduceIte, true_and, and_true, List.length_nil, List.length_cons, Nat.reduceLeDiff, Nat.zero_le]
  refine cont _ ?_
  intro G2 s' a1 a2 a3 a4
  simp only [eL_law_657, pe_iceq, hget_hset, ia_l, ia_s, vin, opl, onl, Int32.reduceLT, Int32.reduceLE, Int32.reduceAdd, Int32.reduceSub, Nat.reduceLT, Nat.reduceAdd, Nat.reduceEqDiff, ↓reduceIte, true_and, and_true, List.length_nil, List.length_cons, Nat.reduceLeDiff, Nat.zero_le]
  exact nx G2 s' a1 a2 a3 a4
set_option maxRecDepth 100000 in
theorem law_18 (h : lW d len N lim Q G s sc) : prL (d + 12) lim Q 662 [some (.ref 0), some (.ref 2), some (.ref 124), some (.int (nI (4 * N)))] [] G := by
  obtain ⟨h0, hc, hm, hp, hl, hl2, nx⟩ := h
  obtain ⟨le, la, dr, ke, sd, x0⟩ := hc.o
  have c1 : (nI (4 * N + 1)).toNatClampNeg = 4 * N + 1 := nI_clamp (by omega)
  have c2 : (nI (4 * N + 2)).toNatClampNeg = 4 * N + 2 := nI_clamp (by omega)
  have c3 : (nI (4 * N + 3)).toNatClampNeg = 4 * N + 3 := nI_clamp (by omega)
  have d1 : 0 ≤ nI (4 * N + 1) := nI_pos' (by omega)
  have d2 : 0 ≤ nI (4 * N + 2) := nI_pos' (by omega)
  have d3 : 0 ≤ nI (4 * N + 3) := nI_pos' (by omega)
  have e1 : 4 * N + 1 < len := by omega
  have e2 : 4 * N + 2 < len := by omega
  have e3 : 4 * N + 3 < len := by omega
  simp only [eL_law_662, eL_law_663, eL_law_664, eL_law_665, eL_law_666, eL_law_667, eL_law_668, eL_law_669, eL_law_670, eL_law_671, eL_law_672, eL_law_673, pe_aload_0, pe_aload_1, pe_bin, pe_callV_2, pe_const, pe_iald, pe_iload_3, h0, x0, x_o, ro_l, nisw, nI_c2, nI_c3, c1, c2, c3, d1, d2, d3, e1, e2, e3, hget_hset, ia_l, ia_s, vin, opl, onl, Int32.reduceLT, Int32.reduceLE, Int32.reduceAdd, Int32.reduceSub, Nat.reduceLT, Nat.reduceAdd, Nat.reduceEqDiff, ↓reduceIte, true_and, and_true, List.length_nil, List.length_cons, Nat.reduceLeDiff, Nat.zero_le]
  refine k_stuck G N s hc hm hp (by omega) _ ?_
  intro G1 v g0 ⟨q, sd', m1⟩ cont
  have h1 : hget G1 0 = some (c_ro len sc) := g0.trans h0
  simp only [eL_law_676, eL_law_677, eL_law_678, eL_law_679, eL_law_680, eL_law_681, eL_law_682, eL_law_683, eL_law_684, eL_law_685, eL_law_686, eL_law_687, pe_aload_0, pe_aload_2, pe_bin, pe_callV_2, pe_const, pe_iald, pe_iload_3, h1, m1, m_o, ro_l, nisw, nI_c2, nI_c3, c1, c2, c3, d1, d2, d3, e1, e2, e3, hget_hset, ia_l, ia_s, vin, opl, onl, Int32.reduceLT, Int32.reduceLE, Int32.reduceAdd, Int32.reduceSub, Nat.reduceLT, Nat.reduceAdd, Nat.reduceEqDiff, ↓reduceIte, true_and, and_true, List.length_nil, List.length_cons, Nat.reduceLeDiff, Nat.zero_le]
  refine cont _ ?_
  intro G2 s' a1 a2 a3 a4
  simp only [eL_law_690, pe_iceq, hget_hset, ia_l, ia_s, vin, opl, onl, Int32.reduceLT, Int32.reduceLE, Int32.reduceAdd, Int32.reduceSub, Nat.reduceLT, Nat.reduceAdd, Nat.reduceEqDiff, ↓reduceIte, true_and, and_true, List.length_nil, List.length_cons, Nat.reduceLeDiff, Nat.zero_le]
  exact nx G2 s' a1 a2 a3 a4
set_option maxRecDepth 100000 in
theorem law_19 (h : lW d len N lim Q G s sc) : prL (d + 12) lim Q 695 [some (.ref 0), some (.ref 2), some (.ref 124), some (.int (nI (4 * N)))] [] G := by
  obtain ⟨h0, hc, hm, hp, hl, hl2, nx⟩ := h
  obtain ⟨le, la, dr, ke, sd, x0⟩ := hc.o
  have c1 : (nI (4 * N + 1)).toNatClampNeg = 4 * N + 1 := nI_clamp (by omega)
  have c2 : (nI (4 * N + 2)).toNatClampNeg = 4 * N + 2 := nI_clamp (by omega)
  have c3 : (nI (4 * N + 3)).toNatClampNeg = 4 * N + 3 := nI_clamp (by omega)
  have d1 : 0 ≤ nI (4 * N + 1) := nI_pos' (by omega)
  have d2 : 0 ≤ nI (4 * N + 2) := nI_pos' (by omega)
  have d3 : 0 ≤ nI (4 * N + 3) := nI_pos' (by omega)
  have e1 : 4 * N + 1 < len := by omega
  have e2 : 4 * N + 2 < len := by omega
  have e3 : 4 * N + 3 < len := by omega
  by_cases hz : sc (4 * N + 3) = 0
  · simp only [eL_law_695, eL_law_696, eL_law_697, eL_law_698, eL_law_699, eL_law_700, eL_law_701, eL_law_702, eL_law_703, eL_law_704, eL_law_705, eL_law_706, eL_law_707, eL_law_708, eL_law_709, eL_law_710, eL_law_711, eL_law_714, eL_law_715, eL_law_718, eL_law_719, pe_aload_0, pe_aload_1, pe_bin, pe_callV_3, pe_const, pe_goto, pe_iald, pe_ifeq, pe_iload_3, h0, x0, x_o, hz, ro_l, nisw, nI_c2, nI_c3, c1, c2, c3, d1, d2, d3, e1, e2, e3, hget_hset, ia_l, ia_s, vin, opl, onl, Int32.reduceLT, Int32.reduceLE, Int32.reduceAdd, Int32.reduceSub, Nat.reduceLT, Nat.reduceAdd, Nat.reduceEqDiff, ↓reduceIte, true_and, and_true, List.length_nil, List.length_cons, Nat.reduceLeDiff, Nat.zero_le]
    refine k_share G N s hc hm hp (by omega) _ ?_
    intro G1 v g0 ⟨q, sd', m1⟩ cont
    have h1 : hget G1 0 = some (c_ro len sc) := g0.trans h0
    simp only [eL_law_722, eL_law_723, eL_law_724, eL_law_725, eL_law_726, eL_law_727, eL_law_728, eL_law_729, eL_law_730, eL_law_731, eL_law_732, eL_law_733, eL_law_734, eL_law_735, eL_law_736, eL_law_737, eL_law_738, eL_law_741, eL_law_742, eL_law_745, eL_law_746, pe_aload_0, pe_aload_2, pe_bin, pe_callV_3, pe_const, pe_goto, pe_iald, pe_ifeq, pe_iload_3, h1, m1, m_o, hz, ro_l, nisw, nI_c2, nI_c3, c1, c2, c3, d1, d2, d3, e1, e2, e3, hget_hset, ia_l, ia_s, vin, opl, onl, Int32.reduceLT, Int32.reduceLE, Int32.reduceAdd, Int32.reduceSub, Nat.reduceLT, Nat.reduceAdd, Nat.reduceEqDiff, ↓reduceIte, true_and, and_true, List.length_nil, List.length_cons, Nat.reduceLeDiff, Nat.zero_le]
    refine cont _ ?_
    intro G2 s' a1 a2 a3 a4
    simp only [eL_law_749, pe_iceq, hget_hset, ia_l, ia_s, vin, opl, onl, Int32.reduceLT, Int32.reduceLE, Int32.reduceAdd, Int32.reduceSub, Nat.reduceLT, Nat.reduceAdd, Nat.reduceEqDiff, ↓reduceIte, true_and, and_true, List.length_nil, List.length_cons, Nat.reduceLeDiff, Nat.zero_le]
    exact nx G2 s' a1 a2 a3 a4
  · simp only [eL_law_695, eL_law_696, eL_law_697, eL_law_698, eL_law_699, eL_law_700, eL_law_701, eL_law_702, eL_law_703, eL_law_704, eL_law_705, eL_law_706, eL_law_707, eL_law_708, eL_law_709, eL_law_710, eL_law_711, eL_law_714, eL_law_715, eL_law_718, eL_law_719, pe_aload_0, pe_aload_1, pe_bin, pe_callV_3, pe_const, pe_goto, pe_iald, pe_ifeq, pe_iload_3, h0, x0, x_o, hz, ro_l, nisw, nI_c2, nI_c3, c1, c2, c3, d1, d2, d3, e1, e2, e3, hget_hset, ia_l, ia_s, vin, opl, onl, Int32.reduceLT, Int32.reduceLE, Int32.reduceAdd, Int32.reduceSub, Nat.reduceLT, Nat.reduceAdd, Nat.reduceEqDiff, ↓reduceIte, true_and, and_true, List.length_nil, List.length_cons, Nat.reduceLeDiff, Nat.zero_le]
    refine k_share G N s hc hm hp (by omega) _ ?_
    intro G1 v g0 ⟨q, sd', m1⟩ cont
    have h1 : hget G1 0 = some (c_ro len sc) := g0.trans h0
    simp only [eL_law_722, eL_law_723, eL_law_724, eL_law_725, eL_law_726, eL_law_727, eL_law_728, eL_law_729, eL_law_730, eL_law_731, eL_law_732, eL_law_733, eL_law_734, eL_law_735, eL_law_736, eL_law_737, eL_law_738, eL_law_741, eL_law_742, eL_law_745, eL_law_746, pe_aload_0, pe_aload_2, pe_bin, pe_callV_3, pe_const, pe_goto, pe_iald, pe_ifeq, pe_iload_3, h1, m1, m_o, hz, ro_l, nisw, nI_c2, nI_c3, c1, c2, c3, d1, d2, d3, e1, e2, e3, hget_hset, ia_l, ia_s, vin, opl, onl, Int32.reduceLT, Int32.reduceLE, Int32.reduceAdd, Int32.reduceSub, Nat.reduceLT, Nat.reduceAdd, Nat.reduceEqDiff, ↓reduceIte, true_and, and_true, List.length_nil, List.length_cons, Nat.reduceLeDiff, Nat.zero_le]
    refine cont _ ?_
    intro G2 s' a1 a2 a3 a4
    simp only [eL_law_749, pe_iceq, hget_hset, ia_l, ia_s, vin, opl, onl, Int32.reduceLT, Int32.reduceLE, Int32.reduceAdd, Int32.reduceSub, Nat.reduceLT, Nat.reduceAdd, Nat.reduceEqDiff, ↓reduceIte, true_and, and_true, List.length_nil, List.length_cons, Nat.reduceLeDiff, Nat.zero_le]
    exact nx G2 s' a1 a2 a3 a4
set_option maxRecDepth 100000 in
theorem law_20 (h : lW d len N lim Q G s sc) : prL (d + 12) lim Q 754 [some (.ref 0), some (.ref 2), some (.ref 124), some (.int (nI (4 * N)))] [] G := by
  obtain ⟨h0, hc, hm, hp, hl, hl2, nx⟩ := h
  obtain ⟨le, la, dr, ke, sd, x0⟩ := hc.o
  have c1 : (nI (4 * N + 1)).toNatClampNeg = 4 * N + 1 := nI_clamp (by omega)
  have c2 : (nI (4 * N + 2)).toNatClampNeg = 4 * N + 2 := nI_clamp (by omega)
  have c3 : (nI (4 * N + 3)).toNatClampNeg = 4 * N + 3 := nI_clamp (by omega)
  have d1 : 0 ≤ nI (4 * N + 1) := nI_pos' (by omega)
  have d2 : 0 ≤ nI (4 * N + 2) := nI_pos' (by omega)
  have d3 : 0 ≤ nI (4 * N + 3) := nI_pos' (by omega)
  have e1 : 4 * N + 1 < len := by omega
  have e2 : 4 * N + 2 < len := by omega
  have e3 : 4 * N + 3 < len := by omega
  by_cases hz : sc (4 * N + 3) = 0
  · simp only [eL_law_754, eL_law_755, eL_law_756, eL_law_757, eL_law_758, eL_law_759, eL_law_760, eL_law_761, eL_law_762, eL_law_763, eL_law_764, eL_law_765, eL_law_766, eL_law_767, eL_law_768, eL_law_769, eL_law_770, eL_law_773, eL_law_774, eL_law_777, eL_law_778, pe_aload_0, pe_aload_1, pe_bin, pe_callV_3, pe_const, pe_goto, pe_iald, pe_ifeq, pe_iload_3, h0, x0, x_o, hz, ro_l, nisw, nI_c2, nI_c3, c1, c2, c3, d1, d2, d3, e1, e2, e3, hget_hset, ia_l, ia_s, vin, opl, onl, Int32.reduceLT, Int32.reduceLE, Int32.reduceAdd, Int32.reduceSub, Nat.reduceLT, Nat.reduceAdd, Nat.reduceEqDiff, ↓reduceIte, true_and, and_true, List.length_nil, List.length_cons, Nat.reduceLeDiff, Nat.zero_le]
    refine k_chance G N s hc hm hp (by omega) _ ?_
    intro G1 v g0 ⟨q, sd', m1⟩ cont
    have h1 : hget G1 0 = some (c_ro len sc) := g0.trans h0
    simp only [eL_law_781, eL_law_782, eL_law_783, eL_law_784, eL_law_785, eL_law_786, eL_law_787, eL_law_788, eL_law_789, eL_law_790, eL_law_791, eL_law_792, eL_law_793, eL_law_794, eL_law_795, eL_law_796, eL_law_797, eL_law_800, eL_law_801, eL_law_804, eL_law_805, pe_aload_0, pe_aload_2, pe_bin, pe_callV_3, pe_const, pe_goto, pe_iald, pe_ifeq, pe_iload_3, h1, m1, m_o, hz, ro_l, nisw, nI_c2, nI_c3, c1, c2, c3, d1, d2, d3, e1, e2, e3, hget_hset, ia_l, ia_s, vin, opl, onl, Int32.reduceLT, Int32.reduceLE, Int32.reduceAdd, Int32.reduceSub, Nat.reduceLT, Nat.reduceAdd, Nat.reduceEqDiff, ↓reduceIte, true_and, and_true, List.length_nil, List.length_cons, Nat.reduceLeDiff, Nat.zero_le]
    refine cont _ ?_
    intro G2 s' a1 a2 a3 a4
    simp only [eL_law_808, pe_iceq, hget_hset, ia_l, ia_s, vin, opl, onl, Int32.reduceLT, Int32.reduceLE, Int32.reduceAdd, Int32.reduceSub, Nat.reduceLT, Nat.reduceAdd, Nat.reduceEqDiff, ↓reduceIte, true_and, and_true, List.length_nil, List.length_cons, Nat.reduceLeDiff, Nat.zero_le]
    exact nx G2 s' a1 a2 a3 a4
  · simp only [eL_law_754, eL_law_755, eL_law_756, eL_law_757, eL_law_758, eL_law_759, eL_law_760, eL_law_761, eL_law_762, eL_law_763, eL_law_764, eL_law_765, eL_law_766, eL_law_767, eL_law_768, eL_law_769, eL_law_770, eL_law_773, eL_law_774, eL_law_777, eL_law_778, pe_aload_0, pe_aload_1, pe_bin, pe_callV_3, pe_const, pe_goto, pe_iald, pe_ifeq, pe_iload_3, h0, x0, x_o, hz, ro_l, nisw, nI_c2, nI_c3, c1, c2, c3, d1, d2, d3, e1, e2, e3, hget_hset, ia_l, ia_s, vin, opl, onl, Int32.reduceLT, Int32.reduceLE, Int32.reduceAdd, Int32.reduceSub, Nat.reduceLT, Nat.reduceAdd, Nat.reduceEqDiff, ↓reduceIte, true_and, and_true, List.length_nil, List.length_cons, Nat.reduceLeDiff, Nat.zero_le]
    refine k_chance G N s hc hm hp (by omega) _ ?_
    intro G1 v g0 ⟨q, sd', m1⟩ cont
    have h1 : hget G1 0 = some (c_ro len sc) := g0.trans h0
    simp only [eL_law_781, eL_law_782, eL_law_783, eL_law_784, eL_law_785, eL_law_786, eL_law_787, eL_law_788, eL_law_789, eL_law_790, eL_law_791, eL_law_792, eL_law_793, eL_law_794, eL_law_795, eL_law_796, eL_law_797, eL_law_800, eL_law_801, eL_law_804, eL_law_805, pe_aload_0, pe_aload_2, pe_bin, pe_callV_3, pe_const, pe_goto, pe_iald, pe_ifeq, pe_iload_3, h1, m1, m_o, hz, ro_l, nisw, nI_c2, nI_c3, c1, c2, c3, d1, d2, d3, e1, e2, e3, hget_hset, ia_l, ia_s, vin, opl, onl, Int32.reduceLT, Int32.reduceLE, Int32.reduceAdd, Int32.reduceSub, Nat.reduceLT, Nat.reduceAdd, Nat.reduceEqDiff, ↓reduceIte, true_and, and_true, List.length_nil, List.length_cons, Nat.reduceLeDiff, Nat.zero_le]
    refine cont _ ?_
    intro G2 s' a1 a2 a3 a4
    simp only [eL_law_808, pe_iceq, hget_hset, ia_l, ia_s, vin, opl, onl, Int32.reduceLT, Int32.reduceLE, Int32.reduceAdd, Int32.reduceSub, Nat.reduceLT, Nat.reduceAdd, Nat.reduceEqDiff, ↓reduceIte, true_and, and_true, List.length_nil, List.length_cons, Nat.reduceLeDiff, Nat.zero_le]
    exact nx G2 s' a1 a2 a3 a4
set_option maxRecDepth 100000 in
theorem law_21 (h : lW d len N lim Q G s sc) : prL (d + 12) lim Q 813 [some (.ref 0), some (.ref 2), some (.ref 124), some (.int (nI (4 * N)))] [] G := by
  obtain ⟨h0, hc, hm, hp, hl, hl2, nx⟩ := h
  obtain ⟨le, la, dr, ke, sd, x0⟩ := hc.o
  have c1 : (nI (4 * N + 1)).toNatClampNeg = 4 * N + 1 := nI_clamp (by omega)
  have c2 : (nI (4 * N + 2)).toNatClampNeg = 4 * N + 2 := nI_clamp (by omega)
  have c3 : (nI (4 * N + 3)).toNatClampNeg = 4 * N + 3 := nI_clamp (by omega)
  have d1 : 0 ≤ nI (4 * N + 1) := nI_pos' (by omega)
  have d2 : 0 ≤ nI (4 * N + 2) := nI_pos' (by omega)
  have d3 : 0 ≤ nI (4 * N + 3) := nI_pos' (by omega)
  have e1 : 4 * N + 1 < len := by omega
  have e2 : 4 * N + 2 < len := by omega
  have e3 : 4 * N + 3 < len := by omega
  by_cases hz : sc (4 * N + 3) = 0
  · simp only [eL_law_813, eL_law_814, eL_law_815, eL_law_816, eL_law_817, eL_law_818, eL_law_819, eL_law_820, eL_law_821, eL_law_822, eL_law_823, eL_law_824, eL_law_825, eL_law_826, eL_law_827, eL_law_828, eL_law_829, eL_law_832, eL_law_833, eL_law_836, eL_law_837, pe_aload_0, pe_aload_1, pe_bin, pe_callV_3, pe_const, pe_goto, pe_iald, pe_ifeq, pe_iload_3, h0, x0, x_o, hz, ro_l, nisw, nI_c2, nI_c3, c1, c2, c3, d1, d2, d3, e1, e2, e3, hget_hset, ia_l, ia_s, vin, opl, onl, Int32.reduceLT, Int32.reduceLE, Int32.reduceAdd, Int32.reduceSub, Nat.reduceLT, Nat.reduceAdd, Nat.reduceEqDiff, ↓reduceIte, true_and, and_true, List.length_nil, List.length_cons, Nat.reduceLeDiff, Nat.zero_le]
    refine k_mean G N s hc hm hp (by omega) _ ?_
    intro G1 v g0 ⟨q, sd', m1⟩ cont
    have h1 : hget G1 0 = some (c_ro len sc) := g0.trans h0
    simp only [eL_law_840, eL_law_841, eL_law_842, eL_law_843, eL_law_844, eL_law_845, eL_law_846, eL_law_847, eL_law_848, eL_law_849, eL_law_850, eL_law_851, eL_law_852, eL_law_853, eL_law_854, eL_law_855, eL_law_856, eL_law_859, eL_law_860, eL_law_863, eL_law_864, pe_aload_0, pe_aload_2, pe_bin, pe_callV_3, pe_const, pe_goto, pe_iald, pe_ifeq, pe_iload_3, h1, m1, m_o, hz, ro_l, nisw, nI_c2, nI_c3, c1, c2, c3, d1, d2, d3, e1, e2, e3, hget_hset, ia_l, ia_s, vin, opl, onl, Int32.reduceLT, Int32.reduceLE, Int32.reduceAdd, Int32.reduceSub, Nat.reduceLT, Nat.reduceAdd, Nat.reduceEqDiff, ↓reduceIte, true_and, and_true, List.length_nil, List.length_cons, Nat.reduceLeDiff, Nat.zero_le]
    refine cont _ ?_
    intro G2 s' a1 a2 a3 a4
    simp only [eL_law_867, pe_iceq, hget_hset, ia_l, ia_s, vin, opl, onl, Int32.reduceLT, Int32.reduceLE, Int32.reduceAdd, Int32.reduceSub, Nat.reduceLT, Nat.reduceAdd, Nat.reduceEqDiff, ↓reduceIte, true_and, and_true, List.length_nil, List.length_cons, Nat.reduceLeDiff, Nat.zero_le]
    exact nx G2 s' a1 a2 a3 a4
  · simp only [eL_law_813, eL_law_814, eL_law_815, eL_law_816, eL_law_817, eL_law_818, eL_law_819, eL_law_820, eL_law_821, eL_law_822, eL_law_823, eL_law_824, eL_law_825, eL_law_826, eL_law_827, eL_law_828, eL_law_829, eL_law_832, eL_law_833, eL_law_836, eL_law_837, pe_aload_0, pe_aload_1, pe_bin, pe_callV_3, pe_const, pe_goto, pe_iald, pe_ifeq, pe_iload_3, h0, x0, x_o, hz, ro_l, nisw, nI_c2, nI_c3, c1, c2, c3, d1, d2, d3, e1, e2, e3, hget_hset, ia_l, ia_s, vin, opl, onl, Int32.reduceLT, Int32.reduceLE, Int32.reduceAdd, Int32.reduceSub, Nat.reduceLT, Nat.reduceAdd, Nat.reduceEqDiff, ↓reduceIte, true_and, and_true, List.length_nil, List.length_cons, Nat.reduceLeDiff, Nat.zero_le]
    refine k_mean G N s hc hm hp (by omega) _ ?_
    intro G1 v g0 ⟨q, sd', m1⟩ cont
    have h1 : hget G1 0 = some (c_ro len sc) := g0.trans h0
    simp only [eL_law_840, eL_law_841, eL_law_842, eL_law_843, eL_law_844, eL_law_845, eL_law_846, eL_law_847, eL_law_848, eL_law_849, eL_law_850, eL_law_851, eL_law_852, eL_law_853, eL_law_854, eL_law_855, eL_law_856, eL_law_859, eL_law_860, eL_law_863, eL_law_864, pe_aload_0, pe_aload_2, pe_bin, pe_callV_3, pe_const, pe_goto, pe_iald, pe_ifeq, pe_iload_3, h1, m1, m_o, hz, ro_l, nisw, nI_c2, nI_c3, c1, c2, c3, d1, d2, d3, e1, e2, e3, hget_hset, ia_l, ia_s, vin, opl, onl, Int32.reduceLT, Int32.reduceLE, Int32.reduceAdd, Int32.reduceSub, Nat.reduceLT, Nat.reduceAdd, Nat.reduceEqDiff, ↓reduceIte, true_and, and_true, List.length_nil, List.length_cons, Nat.reduceLeDiff, Nat.zero_le]
    refine cont _ ?_
    intro G2 s' a1 a2 a3 a4
    simp only [eL_law_867, pe_iceq, hget_hset, ia_l, ia_s, vin, opl, onl, Int32.reduceLT, Int32.reduceLE, Int32.reduceAdd, Int32.reduceSub, Nat.reduceLT, Nat.reduceAdd, Nat.reduceEqDiff, ↓reduceIte, true_and, and_true, List.length_nil, List.length_cons, Nat.reduceLeDiff, Nat.zero_le]
    exact nx G2 s' a1 a2 a3 a4
set_option maxRecDepth 100000 in
theorem law_22 (h : lW d len N lim Q G s sc) : prL (d + 12) lim Q 872 [some (.ref 0), some (.ref 2), some (.ref 124), some (.int (nI (4 * N)))] [] G := by
  obtain ⟨h0, hc, hm, hp, hl, hl2, nx⟩ := h
  obtain ⟨le, la, dr, ke, sd, x0⟩ := hc.o
  have c1 : (nI (4 * N + 1)).toNatClampNeg = 4 * N + 1 := nI_clamp (by omega)
  have c2 : (nI (4 * N + 2)).toNatClampNeg = 4 * N + 2 := nI_clamp (by omega)
  have c3 : (nI (4 * N + 3)).toNatClampNeg = 4 * N + 3 := nI_clamp (by omega)
  have d1 : 0 ≤ nI (4 * N + 1) := nI_pos' (by omega)
  have d2 : 0 ≤ nI (4 * N + 2) := nI_pos' (by omega)
  have d3 : 0 ≤ nI (4 * N + 3) := nI_pos' (by omega)
  have e1 : 4 * N + 1 < len := by omega
  have e2 : 4 * N + 2 < len := by omega
  have e3 : 4 * N + 3 < len := by omega
  simp only [eL_law_872, eL_law_873, eL_law_874, eL_law_875, eL_law_876, eL_law_877, eL_law_878, eL_law_879, eL_law_880, eL_law_881, eL_law_882, eL_law_883, eL_law_884, eL_law_885, eL_law_886, eL_law_887, eL_law_888, pe_aload_0, pe_aload_1, pe_bin, pe_callV_3, pe_const, pe_iald, pe_iload_3, h0, x0, x_o, ro_l, nisw, nI_c2, nI_c3, c1, c2, c3, d1, d2, d3, e1, e2, e3, hget_hset, ia_l, ia_s, vin, opl, onl, Int32.reduceLT, Int32.reduceLE, Int32.reduceAdd, Int32.reduceSub, Nat.reduceLT, Nat.reduceAdd, Nat.reduceEqDiff, ↓reduceIte, true_and, and_true, List.length_nil, List.length_cons, Nat.reduceLeDiff, Nat.zero_le]
  refine k_see G N s hc hm hp (by omega) _ ?_
  intro G1 v g0 ⟨q, sd', m1⟩ cont
  have h1 : hget G1 0 = some (c_ro len sc) := g0.trans h0
  simp only [eL_law_891, eL_law_892, eL_law_893, eL_law_894, eL_law_895, eL_law_896, eL_law_897, eL_law_898, eL_law_899, eL_law_900, eL_law_901, eL_law_902, eL_law_903, eL_law_904, eL_law_905, eL_law_906, eL_law_907, pe_aload_0, pe_aload_2, pe_bin, pe_callV_3, pe_const, pe_iald, pe_iload_3, h1, m1, m_o, ro_l, nisw, nI_c2, nI_c3, c1, c2, c3, d1, d2, d3, e1, e2, e3, hget_hset, ia_l, ia_s, vin, opl, onl, Int32.reduceLT, Int32.reduceLE, Int32.reduceAdd, Int32.reduceSub, Nat.reduceLT, Nat.reduceAdd, Nat.reduceEqDiff, ↓reduceIte, true_and, and_true, List.length_nil, List.length_cons, Nat.reduceLeDiff, Nat.zero_le]
  refine cont _ ?_
  intro G2 s' a1 a2 a3 a4
  simp only [eL_law_910, pe_iceq, hget_hset, ia_l, ia_s, vin, opl, onl, Int32.reduceLT, Int32.reduceLE, Int32.reduceAdd, Int32.reduceSub, Nat.reduceLT, Nat.reduceAdd, Nat.reduceEqDiff, ↓reduceIte, true_and, and_true, List.length_nil, List.length_cons, Nat.reduceLeDiff, Nat.zero_le]
  exact nx G2 s' a1 a2 a3 a4
set_option maxRecDepth 100000 in
theorem law_23 (h : lW d len N lim Q G s sc) : prL (d + 12) lim Q 915 [some (.ref 0), some (.ref 2), some (.ref 124), some (.int (nI (4 * N)))] [] G := by
  obtain ⟨h0, hc, hm, hp, hl, hl2, nx⟩ := h
  obtain ⟨le, la, dr, ke, sd, x0⟩ := hc.o
  have c1 : (nI (4 * N + 1)).toNatClampNeg = 4 * N + 1 := nI_clamp (by omega)
  have c2 : (nI (4 * N + 2)).toNatClampNeg = 4 * N + 2 := nI_clamp (by omega)
  have c3 : (nI (4 * N + 3)).toNatClampNeg = 4 * N + 3 := nI_clamp (by omega)
  have d1 : 0 ≤ nI (4 * N + 1) := nI_pos' (by omega)
  have d2 : 0 ≤ nI (4 * N + 2) := nI_pos' (by omega)
  have d3 : 0 ≤ nI (4 * N + 3) := nI_pos' (by omega)
  have e1 : 4 * N + 1 < len := by omega
  have e2 : 4 * N + 2 < len := by omega
  have e3 : 4 * N + 3 < len := by omega
  simp only [eL_law_915, eL_law_916, pe_aload_1, pe_callV_0, h0, x0, x_o, ro_l, nisw, nI_c2, nI_c3, c1, c2, c3, d1, d2, d3, e1, e2, e3, hget_hset, ia_l, ia_s, vin, opl, onl, Int32.reduceLT, Int32.reduceLE, Int32.reduceAdd, Int32.reduceSub, Nat.reduceLT, Nat.reduceAdd, Nat.reduceEqDiff, ↓reduceIte, true_and, and_true, List.length_nil, List.length_cons, Nat.reduceLeDiff, Nat.zero_le]
  refine k_unsee G N s hc hm hp (by omega) _ ?_
  intro G1 v g0 ⟨q, sd', m1⟩ cont
  have h1 : hget G1 0 = some (c_ro len sc) := g0.trans h0
  simp only [eL_law_919, eL_law_920, pe_aload_2, pe_callV_0, h1, m1, m_o, ro_l, nisw, nI_c2, nI_c3, c1, c2, c3, d1, d2, d3, e1, e2, e3, hget_hset, ia_l, ia_s, vin, opl, onl, Int32.reduceLT, Int32.reduceLE, Int32.reduceAdd, Int32.reduceSub, Nat.reduceLT, Nat.reduceAdd, Nat.reduceEqDiff, ↓reduceIte, true_and, and_true, List.length_nil, List.length_cons, Nat.reduceLeDiff, Nat.zero_le]
  refine cont _ ?_
  intro G2 s' a1 a2 a3 a4
  simp only [eL_law_923, pe_iceq, hget_hset, ia_l, ia_s, vin, opl, onl, Int32.reduceLT, Int32.reduceLE, Int32.reduceAdd, Int32.reduceSub, Nat.reduceLT, Nat.reduceAdd, Nat.reduceEqDiff, ↓reduceIte, true_and, and_true, List.length_nil, List.length_cons, Nat.reduceLeDiff, Nat.zero_le]
  exact nx G2 s' a1 a2 a3 a4
set_option maxRecDepth 100000 in
theorem law_24 (h : lW d len N lim Q G s sc) : prL (d + 12) lim Q 928 [some (.ref 0), some (.ref 2), some (.ref 124), some (.int (nI (4 * N)))] [] G := by
  obtain ⟨h0, hc, hm, hp, hl, hl2, nx⟩ := h
  obtain ⟨le, la, dr, ke, sd, x0⟩ := hc.o
  have c1 : (nI (4 * N + 1)).toNatClampNeg = 4 * N + 1 := nI_clamp (by omega)
  have c2 : (nI (4 * N + 2)).toNatClampNeg = 4 * N + 2 := nI_clamp (by omega)
  have c3 : (nI (4 * N + 3)).toNatClampNeg = 4 * N + 3 := nI_clamp (by omega)
  have d1 : 0 ≤ nI (4 * N + 1) := nI_pos' (by omega)
  have d2 : 0 ≤ nI (4 * N + 2) := nI_pos' (by omega)
  have d3 : 0 ≤ nI (4 * N + 3) := nI_pos' (by omega)
  have e1 : 4 * N + 1 < len := by omega
  have e2 : 4 * N + 2 < len := by omega
  have e3 : 4 * N + 3 < len := by omega
  simp only [eL_law_928, eL_law_929, eL_law_930, eL_law_931, eL_law_932, eL_law_933, eL_law_934, pe_aload_0, pe_aload_1, pe_bin, pe_callV_1, pe_const, pe_iald, pe_iload_3, h0, x0, x_o, ro_l, nisw, nI_c2, nI_c3, c1, c2, c3, d1, d2, d3, e1, e2, e3, hget_hset, ia_l, ia_s, vin, opl, onl, Int32.reduceLT, Int32.reduceLE, Int32.reduceAdd, Int32.reduceSub, Nat.reduceLT, Nat.reduceAdd, Nat.reduceEqDiff, ↓reduceIte, true_and, and_true, List.length_nil, List.length_cons, Nat.reduceLeDiff, Nat.zero_le]
  refine k_fit G N s hc hm hp (by omega) _ ?_
  intro G1 v g0 ⟨q, sd', m1⟩ cont
  have h1 : hget G1 0 = some (c_ro len sc) := g0.trans h0
  simp only [eL_law_937, eL_law_938, eL_law_939, eL_law_940, eL_law_941, eL_law_942, eL_law_943, pe_aload_0, pe_aload_2, pe_bin, pe_callV_1, pe_const, pe_iald, pe_iload_3, h1, m1, m_o, ro_l, nisw, nI_c2, nI_c3, c1, c2, c3, d1, d2, d3, e1, e2, e3, hget_hset, ia_l, ia_s, vin, opl, onl, Int32.reduceLT, Int32.reduceLE, Int32.reduceAdd, Int32.reduceSub, Nat.reduceLT, Nat.reduceAdd, Nat.reduceEqDiff, ↓reduceIte, true_and, and_true, List.length_nil, List.length_cons, Nat.reduceLeDiff, Nat.zero_le]
  refine cont _ ?_
  intro G2 s' a1 a2 a3 a4
  simp only [eL_law_946, pe_iceq, hget_hset, ia_l, ia_s, vin, opl, onl, Int32.reduceLT, Int32.reduceLE, Int32.reduceAdd, Int32.reduceSub, Nat.reduceLT, Nat.reduceAdd, Nat.reduceEqDiff, ↓reduceIte, true_and, and_true, List.length_nil, List.length_cons, Nat.reduceLeDiff, Nat.zero_le]
  exact nx G2 s' a1 a2 a3 a4
set_option maxRecDepth 100000 in
theorem law_25 (h : lW d len N lim Q G s sc) : prL (d + 12) lim Q 951 [some (.ref 0), some (.ref 2), some (.ref 124), some (.int (nI (4 * N)))] [] G := by
  obtain ⟨h0, hc, hm, hp, hl, hl2, nx⟩ := h
  obtain ⟨le, la, dr, ke, sd, x0⟩ := hc.o
  have c1 : (nI (4 * N + 1)).toNatClampNeg = 4 * N + 1 := nI_clamp (by omega)
  have c2 : (nI (4 * N + 2)).toNatClampNeg = 4 * N + 2 := nI_clamp (by omega)
  have c3 : (nI (4 * N + 3)).toNatClampNeg = 4 * N + 3 := nI_clamp (by omega)
  have d1 : 0 ≤ nI (4 * N + 1) := nI_pos' (by omega)
  have d2 : 0 ≤ nI (4 * N + 2) := nI_pos' (by omega)
  have d3 : 0 ≤ nI (4 * N + 3) := nI_pos' (by omega)
  have e1 : 4 * N + 1 < len := by omega
  have e2 : 4 * N + 2 < len := by omega
  have e3 : 4 * N + 3 < len := by omega
  by_cases hz : sc (4 * N + 3) = 0
  · simp only [eL_law_951, eL_law_952, eL_law_953, eL_law_954, eL_law_955, eL_law_956, eL_law_957, eL_law_958, eL_law_959, eL_law_960, eL_law_961, eL_law_962, eL_law_963, eL_law_964, eL_law_965, eL_law_966, eL_law_967, eL_law_970, eL_law_971, eL_law_974, eL_law_975, pe_aload_0, pe_aload_1, pe_bin, pe_callV_3, pe_const, pe_goto, pe_iald, pe_ifeq, pe_iload_3, h0, x0, x_o, hz, ro_l, nisw, nI_c2, nI_c3, c1, c2, c3, d1, d2, d3, e1, e2, e3, hget_hset, ia_l, ia_s, vin, opl, onl, Int32.reduceLT, Int32.reduceLE, Int32.reduceAdd, Int32.reduceSub, Nat.reduceLT, Nat.reduceAdd, Nat.reduceEqDiff, ↓reduceIte, true_and, and_true, List.length_nil, List.length_cons, Nat.reduceLeDiff, Nat.zero_le]
    refine k_kings G N s hc hm hp (by omega) _ ?_
    intro G1 v g0 ⟨q, sd', m1⟩ cont
    have h1 : hget G1 0 = some (c_ro len sc) := g0.trans h0
    simp only [eL_law_978, eL_law_979, eL_law_980, eL_law_981, eL_law_982, eL_law_983, eL_law_984, eL_law_985, eL_law_986, eL_law_987, eL_law_988, eL_law_989, eL_law_990, eL_law_991, eL_law_992, eL_law_993, eL_law_994, eL_law_997, eL_law_998, eL_law_1001, eL_law_1002, pe_aload_0, pe_aload_2, pe_bin, pe_callV_3, pe_const, pe_goto, pe_iald, pe_ifeq, pe_iload_3, h1, m1, m_o, hz, ro_l, nisw, nI_c2, nI_c3, c1, c2, c3, d1, d2, d3, e1, e2, e3, hget_hset, ia_l, ia_s, vin, opl, onl, Int32.reduceLT, Int32.reduceLE, Int32.reduceAdd, Int32.reduceSub, Nat.reduceLT, Nat.reduceAdd, Nat.reduceEqDiff, ↓reduceIte, true_and, and_true, List.length_nil, List.length_cons, Nat.reduceLeDiff, Nat.zero_le]
    refine cont _ ?_
    intro G2 s' a1 a2 a3 a4
    simp only [eL_law_1005, pe_iceq, hget_hset, ia_l, ia_s, vin, opl, onl, Int32.reduceLT, Int32.reduceLE, Int32.reduceAdd, Int32.reduceSub, Nat.reduceLT, Nat.reduceAdd, Nat.reduceEqDiff, ↓reduceIte, true_and, and_true, List.length_nil, List.length_cons, Nat.reduceLeDiff, Nat.zero_le]
    exact nx G2 s' a1 a2 a3 a4
  · simp only [eL_law_951, eL_law_952, eL_law_953, eL_law_954, eL_law_955, eL_law_956, eL_law_957, eL_law_958, eL_law_959, eL_law_960, eL_law_961, eL_law_962, eL_law_963, eL_law_964, eL_law_965, eL_law_966, eL_law_967, eL_law_970, eL_law_971, eL_law_974, eL_law_975, pe_aload_0, pe_aload_1, pe_bin, pe_callV_3, pe_const, pe_goto, pe_iald, pe_ifeq, pe_iload_3, h0, x0, x_o, hz, ro_l, nisw, nI_c2, nI_c3, c1, c2, c3, d1, d2, d3, e1, e2, e3, hget_hset, ia_l, ia_s, vin, opl, onl, Int32.reduceLT, Int32.reduceLE, Int32.reduceAdd, Int32.reduceSub, Nat.reduceLT, Nat.reduceAdd, Nat.reduceEqDiff, ↓reduceIte, true_and, and_true, List.length_nil, List.length_cons, Nat.reduceLeDiff, Nat.zero_le]
    refine k_kings G N s hc hm hp (by omega) _ ?_
    intro G1 v g0 ⟨q, sd', m1⟩ cont
    have h1 : hget G1 0 = some (c_ro len sc) := g0.trans h0
    simp only [eL_law_978, eL_law_979, eL_law_980, eL_law_981, eL_law_982, eL_law_983, eL_law_984, eL_law_985, eL_law_986, eL_law_987, eL_law_988, eL_law_989, eL_law_990, eL_law_991, eL_law_992, eL_law_993, eL_law_994, eL_law_997, eL_law_998, eL_law_1001, eL_law_1002, pe_aload_0, pe_aload_2, pe_bin, pe_callV_3, pe_const, pe_goto, pe_iald, pe_ifeq, pe_iload_3, h1, m1, m_o, hz, ro_l, nisw, nI_c2, nI_c3, c1, c2, c3, d1, d2, d3, e1, e2, e3, hget_hset, ia_l, ia_s, vin, opl, onl, Int32.reduceLT, Int32.reduceLE, Int32.reduceAdd, Int32.reduceSub, Nat.reduceLT, Nat.reduceAdd, Nat.reduceEqDiff, ↓reduceIte, true_and, and_true, List.length_nil, List.length_cons, Nat.reduceLeDiff, Nat.zero_le]
    refine cont _ ?_
    intro G2 s' a1 a2 a3 a4
    simp only [eL_law_1005, pe_iceq, hget_hset, ia_l, ia_s, vin, opl, onl, Int32.reduceLT, Int32.reduceLE, Int32.reduceAdd, Int32.reduceSub, Nat.reduceLT, Nat.reduceAdd, Nat.reduceEqDiff, ↓reduceIte, true_and, and_true, List.length_nil, List.length_cons, Nat.reduceLeDiff, Nat.zero_le]
    exact nx G2 s' a1 a2 a3 a4
set_option maxRecDepth 100000 in
theorem law_26 (h : lW d len N lim Q G s sc) : prL (d + 12) lim Q 1010 [some (.ref 0), some (.ref 2), some (.ref 124), some (.int (nI (4 * N)))] [] G := by
  obtain ⟨h0, hc, hm, hp, hl, hl2, nx⟩ := h
  obtain ⟨le, la, dr, ke, sd, x0⟩ := hc.o
  have c1 : (nI (4 * N + 1)).toNatClampNeg = 4 * N + 1 := nI_clamp (by omega)
  have c2 : (nI (4 * N + 2)).toNatClampNeg = 4 * N + 2 := nI_clamp (by omega)
  have c3 : (nI (4 * N + 3)).toNatClampNeg = 4 * N + 3 := nI_clamp (by omega)
  have d1 : 0 ≤ nI (4 * N + 1) := nI_pos' (by omega)
  have d2 : 0 ≤ nI (4 * N + 2) := nI_pos' (by omega)
  have d3 : 0 ≤ nI (4 * N + 3) := nI_pos' (by omega)
  have e1 : 4 * N + 1 < len := by omega
  have e2 : 4 * N + 2 < len := by omega
  have e3 : 4 * N + 3 < len := by omega
  simp only [eL_law_1010, eL_law_1011, eL_law_1012, eL_law_1013, eL_law_1014, eL_law_1015, eL_law_1016, eL_law_1017, eL_law_1019, eL_law_1020, eL_law_1021, eL_law_1022, eL_law_1023, eL_law_1024, eL_law_1025, eL_law_1026, eL_law_1029, eL_law_1030, eL_law_1031, pe_aload_0, pe_aload_1, pe_bin, pe_callV_1, pe_const, pe_i2l, pe_iald, pe_iload_3, pe_lbin, pe_lsh, h0, x0, x_o, ro_l, nisw, nI_c2, nI_c3, c1, c2, c3, d1, d2, d3, e1, e2, e3, hget_hset, ia_l, ia_s, vin, opl, onl, Int32.reduceLT, Int32.reduceLE, Int32.reduceAdd, Int32.reduceSub, Nat.reduceLT, Nat.reduceAdd, Nat.reduceEqDiff, ↓reduceIte, true_and, and_true, List.length_nil, List.length_cons, Nat.reduceLeDiff, Nat.zero_le]
  refine k_seed G N s hc hm hp (by omega) _ ?_
  intro G1 v g0 ⟨q, sd', m1⟩ cont
  have h1 : hget G1 0 = some (c_ro len sc) := g0.trans h0
  simp only [eL_law_1034, eL_law_1035, eL_law_1036, eL_law_1037, eL_law_1038, eL_law_1039, eL_law_1040, eL_law_1041, eL_law_1043, eL_law_1044, eL_law_1045, eL_law_1046, eL_law_1047, eL_law_1048, eL_law_1049, eL_law_1050, eL_law_1053, eL_law_1054, eL_law_1055, pe_aload_0, pe_aload_2, pe_bin, pe_callV_1, pe_const, pe_i2l, pe_iald, pe_iload_3, pe_lbin, pe_lsh, h1, m1, m_o, ro_l, nisw, nI_c2, nI_c3, c1, c2, c3, d1, d2, d3, e1, e2, e3, hget_hset, ia_l, ia_s, vin, opl, onl, Int32.reduceLT, Int32.reduceLE, Int32.reduceAdd, Int32.reduceSub, Nat.reduceLT, Nat.reduceAdd, Nat.reduceEqDiff, ↓reduceIte, true_and, and_true, List.length_nil, List.length_cons, Nat.reduceLeDiff, Nat.zero_le]
  refine cont _ ?_
  intro G2 s' a1 a2 a3 a4
  simp only [eL_law_1058, eL_law_1059, pe_ifeq, pe_lcmp, lg_self, hget_hset, ia_l, ia_s, vin, opl, onl, Int32.reduceLT, Int32.reduceLE, Int32.reduceAdd, Int32.reduceSub, Nat.reduceLT, Nat.reduceAdd, Nat.reduceEqDiff, ↓reduceIte, true_and, and_true, List.length_nil, List.length_cons, Nat.reduceLeDiff, Nat.zero_le]
  exact nx G2 s' a1 a2 a3 a4
set_option maxRecDepth 100000 in
theorem law_27 (h : lW d len N lim Q G s sc) : prL (d + 12) lim Q 1064 [some (.ref 0), some (.ref 2), some (.ref 124), some (.int (nI (4 * N)))] [] G := by
  obtain ⟨h0, hc, hm, hp, hl, hl2, nx⟩ := h
  obtain ⟨le, la, dr, ke, sd, x0⟩ := hc.o
  have c1 : (nI (4 * N + 1)).toNatClampNeg = 4 * N + 1 := nI_clamp (by omega)
  have c2 : (nI (4 * N + 2)).toNatClampNeg = 4 * N + 2 := nI_clamp (by omega)
  have c3 : (nI (4 * N + 3)).toNatClampNeg = 4 * N + 3 := nI_clamp (by omega)
  have d1 : 0 ≤ nI (4 * N + 1) := nI_pos' (by omega)
  have d2 : 0 ≤ nI (4 * N + 2) := nI_pos' (by omega)
  have d3 : 0 ≤ nI (4 * N + 3) := nI_pos' (by omega)
  have e1 : 4 * N + 1 < len := by omega
  have e2 : 4 * N + 2 < len := by omega
  have e3 : 4 * N + 3 < len := by omega
  simp only [eL_law_1064, eL_law_1065, eL_law_1066, eL_law_1067, eL_law_1068, eL_law_1069, eL_law_1070, pe_aload_0, pe_aload_1, pe_bin, pe_callV_1, pe_const, pe_iald, pe_iload_3, h0, x0, x_o, ro_l, nisw, nI_c2, nI_c3, c1, c2, c3, d1, d2, d3, e1, e2, e3, hget_hset, ia_l, ia_s, vin, opl, onl, Int32.reduceLT, Int32.reduceLE, Int32.reduceAdd, Int32.reduceSub, Nat.reduceLT, Nat.reduceAdd, Nat.reduceEqDiff, ↓reduceIte, true_and, and_true, List.length_nil, List.length_cons, Nat.reduceLeDiff, Nat.zero_le]
  refine k_days G N s hc hm hp (by omega) _ ?_
  intro G1 v g0 ⟨q, sd', m1⟩ cont
  have h1 : hget G1 0 = some (c_ro len sc) := g0.trans h0
  simp only [eL_law_1073, eL_law_1074, eL_law_1075, eL_law_1076, eL_law_1077, eL_law_1078, eL_law_1079, pe_aload_0, pe_aload_2, pe_bin, pe_callV_1, pe_const, pe_iald, pe_iload_3, h1, m1, m_o, ro_l, nisw, nI_c2, nI_c3, c1, c2, c3, d1, d2, d3, e1, e2, e3, hget_hset, ia_l, ia_s, vin, opl, onl, Int32.reduceLT, Int32.reduceLE, Int32.reduceAdd, Int32.reduceSub, Nat.reduceLT, Nat.reduceAdd, Nat.reduceEqDiff, ↓reduceIte, true_and, and_true, List.length_nil, List.length_cons, Nat.reduceLeDiff, Nat.zero_le]
  refine cont _ ?_
  intro G2 s' a1 a2 a3 a4
  simp only [eL_law_1082, pe_iceq, hget_hset, ia_l, ia_s, vin, opl, onl, Int32.reduceLT, Int32.reduceLE, Int32.reduceAdd, Int32.reduceSub, Nat.reduceLT, Nat.reduceAdd, Nat.reduceEqDiff, ↓reduceIte, true_and, and_true, List.length_nil, List.length_cons, Nat.reduceLeDiff, Nat.zero_le]
  exact nx G2 s' a1 a2 a3 a4
set_option maxRecDepth 100000 in
theorem law_28 (h : lW d len N lim Q G s sc) : prL (d + 12) lim Q 1087 [some (.ref 0), some (.ref 2), some (.ref 124), some (.int (nI (4 * N)))] [] G := by
  obtain ⟨h0, hc, hm, hp, hl, hl2, nx⟩ := h
  obtain ⟨le, la, dr, ke, sd, x0⟩ := hc.o
  have c1 : (nI (4 * N + 1)).toNatClampNeg = 4 * N + 1 := nI_clamp (by omega)
  have c2 : (nI (4 * N + 2)).toNatClampNeg = 4 * N + 2 := nI_clamp (by omega)
  have c3 : (nI (4 * N + 3)).toNatClampNeg = 4 * N + 3 := nI_clamp (by omega)
  have d1 : 0 ≤ nI (4 * N + 1) := nI_pos' (by omega)
  have d2 : 0 ≤ nI (4 * N + 2) := nI_pos' (by omega)
  have d3 : 0 ≤ nI (4 * N + 3) := nI_pos' (by omega)
  have e1 : 4 * N + 1 < len := by omega
  have e2 : 4 * N + 2 < len := by omega
  have e3 : 4 * N + 3 < len := by omega
  simp only [eL_law_1087, eL_law_1088, eL_law_1089, eL_law_1090, eL_law_1091, eL_law_1092, eL_law_1093, pe_aload_0, pe_aload_1, pe_bin, pe_callV_1, pe_const, pe_iald, pe_iload_3, h0, x0, x_o, ro_l, nisw, nI_c2, nI_c3, c1, c2, c3, d1, d2, d3, e1, e2, e3, hget_hset, ia_l, ia_s, vin, opl, onl, Int32.reduceLT, Int32.reduceLE, Int32.reduceAdd, Int32.reduceSub, Nat.reduceLT, Nat.reduceAdd, Nat.reduceEqDiff, ↓reduceIte, true_and, and_true, List.length_nil, List.length_cons, Nat.reduceLeDiff, Nat.zero_le]
  refine k_keep G N s hc hm hp (by omega) _ ?_
  intro G1 v g0 ⟨q, sd', m1⟩ cont
  have h1 : hget G1 0 = some (c_ro len sc) := g0.trans h0
  simp only [eL_law_1096, eL_law_1097, eL_law_1098, eL_law_1099, eL_law_1100, eL_law_1101, eL_law_1102, pe_aload_0, pe_aload_2, pe_bin, pe_callV_1, pe_const, pe_iald, pe_iload_3, h1, m1, m_o, ro_l, nisw, nI_c2, nI_c3, c1, c2, c3, d1, d2, d3, e1, e2, e3, hget_hset, ia_l, ia_s, vin, opl, onl, Int32.reduceLT, Int32.reduceLE, Int32.reduceAdd, Int32.reduceSub, Nat.reduceLT, Nat.reduceAdd, Nat.reduceEqDiff, ↓reduceIte, true_and, and_true, List.length_nil, List.length_cons, Nat.reduceLeDiff, Nat.zero_le]
  refine cont _ ?_
  intro G2 s' a1 a2 a3 a4
  simp only [eL_law_1105, pe_iceq, hget_hset, ia_l, ia_s, vin, opl, onl, Int32.reduceLT, Int32.reduceLE, Int32.reduceAdd, Int32.reduceSub, Nat.reduceLT, Nat.reduceAdd, Nat.reduceEqDiff, ↓reduceIte, true_and, and_true, List.length_nil, List.length_cons, Nat.reduceLeDiff, Nat.zero_le]
  exact nx G2 s' a1 a2 a3 a4
set_option maxRecDepth 100000 in
theorem law_29 (h : lW d len N lim Q G s sc) : prL (d + 12) lim Q 1110 [some (.ref 0), some (.ref 2), some (.ref 124), some (.int (nI (4 * N)))] [] G := by
  obtain ⟨h0, hc, hm, hp, hl, hl2, nx⟩ := h
  obtain ⟨le, la, dr, ke, sd, x0⟩ := hc.o
  have c1 : (nI (4 * N + 1)).toNatClampNeg = 4 * N + 1 := nI_clamp (by omega)
  have c2 : (nI (4 * N + 2)).toNatClampNeg = 4 * N + 2 := nI_clamp (by omega)
  have c3 : (nI (4 * N + 3)).toNatClampNeg = 4 * N + 3 := nI_clamp (by omega)
  have d1 : 0 ≤ nI (4 * N + 1) := nI_pos' (by omega)
  have d2 : 0 ≤ nI (4 * N + 2) := nI_pos' (by omega)
  have d3 : 0 ≤ nI (4 * N + 3) := nI_pos' (by omega)
  have e1 : 4 * N + 1 < len := by omega
  have e2 : 4 * N + 2 < len := by omega
  have e3 : 4 * N + 3 < len := by omega
  simp only [eL_law_1110, eL_law_1111, eL_law_1112, eL_law_1113, eL_law_1114, eL_law_1115, eL_law_1116, pe_aload_0, pe_aload_1, pe_bin, pe_callV_1, pe_const, pe_iald, pe_iload_3, h0, x0, x_o, ro_l, nisw, nI_c2, nI_c3, c1, c2, c3, d1, d2, d3, e1, e2, e3, hget_hset, ia_l, ia_s, vin, opl, onl, Int32.reduceLT, Int32.reduceLE, Int32.reduceAdd, Int32.reduceSub, Nat.reduceLT, Nat.reduceAdd, Nat.reduceEqDiff, ↓reduceIte, true_and, and_true, List.length_nil, List.length_cons, Nat.reduceLeDiff, Nat.zero_le]
  refine k_again G N s hc hm hp (by omega) _ ?_
  intro G1 v g0 ⟨q, sd', m1⟩ cont
  have h1 : hget G1 0 = some (c_ro len sc) := g0.trans h0
  simp only [eL_law_1119, eL_law_1120, eL_law_1121, eL_law_1122, eL_law_1123, eL_law_1124, eL_law_1125, pe_aload_0, pe_aload_2, pe_bin, pe_callV_1, pe_const, pe_iald, pe_iload_3, h1, m1, m_o, ro_l, nisw, nI_c2, nI_c3, c1, c2, c3, d1, d2, d3, e1, e2, e3, hget_hset, ia_l, ia_s, vin, opl, onl, Int32.reduceLT, Int32.reduceLE, Int32.reduceAdd, Int32.reduceSub, Nat.reduceLT, Nat.reduceAdd, Nat.reduceEqDiff, ↓reduceIte, true_and, and_true, List.length_nil, List.length_cons, Nat.reduceLeDiff, Nat.zero_le]
  refine cont _ ?_
  intro G2 s' a1 a2 a3 a4
  simp only [eL_law_1128, pe_iceq, hget_hset, ia_l, ia_s, vin, opl, onl, Int32.reduceLT, Int32.reduceLE, Int32.reduceAdd, Int32.reduceSub, Nat.reduceLT, Nat.reduceAdd, Nat.reduceEqDiff, ↓reduceIte, true_and, and_true, List.length_nil, List.length_cons, Nat.reduceLeDiff, Nat.zero_le]
  exact nx G2 s' a1 a2 a3 a4
set_option maxRecDepth 100000 in
theorem law_30 (h : lW d len N lim Q G s sc) : prL (d + 12) lim Q 1133 [some (.ref 0), some (.ref 2), some (.ref 124), some (.int (nI (4 * N)))] [] G := by
  obtain ⟨h0, hc, hm, hp, hl, hl2, nx⟩ := h
  obtain ⟨le, la, dr, ke, sd, x0⟩ := hc.o
  have c1 : (nI (4 * N + 1)).toNatClampNeg = 4 * N + 1 := nI_clamp (by omega)
  have c2 : (nI (4 * N + 2)).toNatClampNeg = 4 * N + 2 := nI_clamp (by omega)
  have c3 : (nI (4 * N + 3)).toNatClampNeg = 4 * N + 3 := nI_clamp (by omega)
  have d1 : 0 ≤ nI (4 * N + 1) := nI_pos' (by omega)
  have d2 : 0 ≤ nI (4 * N + 2) := nI_pos' (by omega)
  have d3 : 0 ≤ nI (4 * N + 3) := nI_pos' (by omega)
  have e1 : 4 * N + 1 < len := by omega
  have e2 : 4 * N + 2 < len := by omega
  have e3 : 4 * N + 3 < len := by omega
  simp only [eL_law_1133, eL_law_1134, eL_law_1135, eL_law_1136, eL_law_1137, eL_law_1138, eL_law_1139, pe_aload_0, pe_aload_1, pe_bin, pe_callV_1, pe_const, pe_iald, pe_iload_3, h0, x0, x_o, ro_l, nisw, nI_c2, nI_c3, c1, c2, c3, d1, d2, d3, e1, e2, e3, hget_hset, ia_l, ia_s, vin, opl, onl, Int32.reduceLT, Int32.reduceLE, Int32.reduceAdd, Int32.reduceSub, Nat.reduceLT, Nat.reduceAdd, Nat.reduceEqDiff, ↓reduceIte, true_and, and_true, List.length_nil, List.length_cons, Nat.reduceLeDiff, Nat.zero_le]
  refine k_count G N s hc hm hp (by omega) _ ?_
  intro G1 v g0 ⟨q, sd', m1⟩ cont
  have h1 : hget G1 0 = some (c_ro len sc) := g0.trans h0
  simp only [eL_law_1142, eL_law_1143, eL_law_1144, eL_law_1145, eL_law_1146, eL_law_1147, eL_law_1148, pe_aload_0, pe_aload_2, pe_bin, pe_callV_1, pe_const, pe_iald, pe_iload_3, h1, m1, m_o, ro_l, nisw, nI_c2, nI_c3, c1, c2, c3, d1, d2, d3, e1, e2, e3, hget_hset, ia_l, ia_s, vin, opl, onl, Int32.reduceLT, Int32.reduceLE, Int32.reduceAdd, Int32.reduceSub, Nat.reduceLT, Nat.reduceAdd, Nat.reduceEqDiff, ↓reduceIte, true_and, and_true, List.length_nil, List.length_cons, Nat.reduceLeDiff, Nat.zero_le]
  refine cont _ ?_
  intro G2 s' a1 a2 a3 a4
  simp only [eL_law_1151, pe_iceq, hget_hset, ia_l, ia_s, vin, opl, onl, Int32.reduceLT, Int32.reduceLE, Int32.reduceAdd, Int32.reduceSub, Nat.reduceLT, Nat.reduceAdd, Nat.reduceEqDiff, ↓reduceIte, true_and, and_true, List.length_nil, List.length_cons, Nat.reduceLeDiff, Nat.zero_le]
  exact nx G2 s' a1 a2 a3 a4
set_option maxRecDepth 100000 in
theorem law_loop {sc : Nat → Int32} (hl2 : len ≤ 256) (hQ : ∀ G, Q (some (.int 1)) G) : ∀ k N G s, len < 4 * (N + k) + 4 → hget G 0 = some (c_ro len sc) → cW G s → mWd G s → pI N s → N ≤ 64 → prL (d + 12) lim Q 18 [some (.ref 0), some (.ref 2), some (.ref 124), some (.int (nI (4 * N)))] [] G := by
  intro k
  induction k with
  | zero =>
    intro N G s hk h0 hc hm hp hN
    have c1 : nI len - 4 < nI (4 * N) := by
      rw [i_lt, nI_toInt (by omega)]
      have := pk_sub_toInt (a := len) (b := 4) (by omega) (by omega)
      have e4 : (4 : Int32) = nI 4 := rfl
      rw [e4, this]
      omega
    have el : Int32.ofNat len = nI len := rfl
    simp only [eL_law_18, eL_law_19, eL_law_20, eL_law_21, eL_law_22, eL_law_23, eL_law_1162, eL_law_1163, pe_alen, pe_aload_0, pe_bin, pe_const, pe_icgt, pe_iload_3, pe_zret, h0, ro_n, el, c1, hget_hset, ia_l, ia_s, vin, opl, onl, Int32.reduceLT, Int32.reduceLE, Int32.reduceAdd, Int32.reduceSub, Nat.reduceLT, Nat.reduceAdd, Nat.reduceEqDiff, ↓reduceIte, true_and, and_true, List.length_nil, List.length_cons, Nat.reduceLeDiff, Nat.zero_le, or_true]
    exact hQ G
  | succ k ih =>
    intro N G s hk h0 hc hm hp hN
    have el : Int32.ofNat len = nI len := rfl
    have cv : (nI len - 4 < nI (4 * N)) = (len < 4 * N + 4) := by
      apply propext
      rw [i_lt, nI_toInt (by omega)]
      have := pk_sub_toInt (a := len) (b := 4) (by omega) (by omega)
      have e4 : (4 : Int32) = nI 4 := rfl
      rw [e4, this]
      omega
    by_cases z : len < 4 * N + 4
    · have c1 : nI len - 4 < nI (4 * N) := by rw [cv]; exact z
      simp only [eL_law_18, eL_law_19, eL_law_20, eL_law_21, eL_law_22, eL_law_23, eL_law_1162, eL_law_1163, pe_alen, pe_aload_0, pe_bin, pe_const, pe_icgt, pe_iload_3, pe_zret, h0, ro_n, el, c1, hget_hset, ia_l, ia_s, vin, opl, onl, Int32.reduceLT, Int32.reduceLE, Int32.reduceAdd, Int32.reduceSub, Nat.reduceLT, Nat.reduceAdd, Nat.reduceEqDiff, ↓reduceIte, true_and, and_true, List.length_nil, List.length_cons, Nat.reduceLeDiff, Nat.zero_le, or_true]
      exact hQ G
    · have c1 : ¬ nI len - 4 < nI (4 * N) := by rw [cv]; exact z
      have b1' : (nI (4 * N)).toNatClampNeg = 4 * N := nI_clamp (by omega)
      have b2' : 0 ≤ nI (4 * N) := nI_pos' (by omega)
      have b3' : 4 * N < len := by omega
      obtain ⟨c, hc32, hcc⟩ := and31 (sc (4 * N))
      have nx : ∀ G2 s', cW G2 s' → mWd G2 s' → pI (N + 1) s' → hget G2 0 = hget G 0 → prL (d + 12) lim Q 1156 [some (.ref 0), some (.ref 2), some (.ref 124), some (.int (nI (4 * N)))] [] G2 := by
        intro G2 s' a1 a2 a3 a4
        simp only [eL_law_1156, eL_law_1159, pe_goto, pe_iinc_3, nI_c4, hget_hset, ia_l, ia_s, vin, opl, onl, Int32.reduceLT, Int32.reduceLE, Int32.reduceAdd, Int32.reduceSub, Nat.reduceLT, Nat.reduceAdd, Nat.reduceEqDiff, ↓reduceIte, true_and, and_true, List.length_nil, List.length_cons, Nat.reduceLeDiff, Nat.zero_le]
        rw [show 4 * N + 4 = 4 * (N + 1) by omega]
        exact ih (N + 1) G2 s' (by omega) (a4.trans h0) a1 a2 a3 (by omega)
      have hW : lW d len N lim Q G s sc := ⟨h0, hc, hm, hp, by omega, hl2, nx⟩
      rw [eL_law_18]
      simp only [eL_law_19, eL_law_20, eL_law_21, eL_law_22, eL_law_23, eL_law_26, eL_law_27, eL_law_28, eL_law_29, eL_law_31, eL_law_32, pe_alen, pe_aload_0, pe_bin, pe_const, pe_iald, pe_icgt, pe_iload_3, pe_switch, h0, ro_n, ro_l, el, c1, b1', b2', b3', hcc, hget_hset, ia_l, ia_s, vin, opl, onl, Int32.reduceLT, Int32.reduceLE, Int32.reduceAdd, Int32.reduceSub, Nat.reduceLT, Nat.reduceAdd, Nat.reduceEqDiff, ↓reduceIte, true_and, and_true, List.length_nil, List.length_cons, Nat.reduceLeDiff, Nat.zero_le]
      rcases (show c = 0 ∨ c = 1 ∨ c = 2 ∨ c = 3 ∨ c = 4 ∨ c = 5 ∨ c = 6 ∨ c = 7 ∨ c = 8 ∨ c = 9 ∨ c = 10 ∨ c = 11 ∨ c = 12 ∨ c = 13 ∨ c = 14 ∨ c = 15 ∨ c = 16 ∨ c = 17 ∨ c = 18 ∨ c = 19 ∨ c = 20 ∨ c = 21 ∨ c = 22 ∨ c = 23 ∨ c = 24 ∨ c = 25 ∨ c = 26 ∨ c = 27 ∨ c = 28 ∨ c = 29 ∨ c = 30 ∨ c = 31 by omega) with rfl | rfl | rfl | rfl | rfl | rfl | rfl | rfl | rfl | rfl | rfl | rfl | rfl | rfl | rfl | rfl | rfl | rfl | rfl | rfl | rfl | rfl | rfl | rfl | rfl | rfl | rfl | rfl | rfl | rfl | rfl | rfl
      · rw [show px_sw (nI 0) [(0, 172), (1, 195), (2, 208), (3, 221), (4, 234), (5, 267), (6, 300), (7, 313), (8, 336), (9, 369), (10, 382), (11, 415), (12, 458), (13, 501), (14, 550), (15, 583), (16, 606), (17, 629), (18, 662), (19, 695), (20, 754), (21, 813), (22, 872), (23, 915), (24, 928), (25, 951), (26, 1010), (27, 1064), (28, 1087), (29, 1110), (30, 1133)] 1156 = 172 by decide]
        exact law_0 hW
      · rw [show px_sw (nI 1) [(0, 172), (1, 195), (2, 208), (3, 221), (4, 234), (5, 267), (6, 300), (7, 313), (8, 336), (9, 369), (10, 382), (11, 415), (12, 458), (13, 501), (14, 550), (15, 583), (16, 606), (17, 629), (18, 662), (19, 695), (20, 754), (21, 813), (22, 872), (23, 915), (24, 928), (25, 951), (26, 1010), (27, 1064), (28, 1087), (29, 1110), (30, 1133)] 1156 = 195 by decide]
        exact law_1 hW
      · rw [show px_sw (nI 2) [(0, 172), (1, 195), (2, 208), (3, 221), (4, 234), (5, 267), (6, 300), (7, 313), (8, 336), (9, 369), (10, 382), (11, 415), (12, 458), (13, 501), (14, 550), (15, 583), (16, 606), (17, 629), (18, 662), (19, 695), (20, 754), (21, 813), (22, 872), (23, 915), (24, 928), (25, 951), (26, 1010), (27, 1064), (28, 1087), (29, 1110), (30, 1133)] 1156 = 208 by decide]
        exact law_2 hW
      · rw [show px_sw (nI 3) [(0, 172), (1, 195), (2, 208), (3, 221), (4, 234), (5, 267), (6, 300), (7, 313), (8, 336), (9, 369), (10, 382), (11, 415), (12, 458), (13, 501), (14, 550), (15, 583), (16, 606), (17, 629), (18, 662), (19, 695), (20, 754), (21, 813), (22, 872), (23, 915), (24, 928), (25, 951), (26, 1010), (27, 1064), (28, 1087), (29, 1110), (30, 1133)] 1156 = 221 by decide]
        exact law_3 hW
      · rw [show px_sw (nI 4) [(0, 172), (1, 195), (2, 208), (3, 221), (4, 234), (5, 267), (6, 300), (7, 313), (8, 336), (9, 369), (10, 382), (11, 415), (12, 458), (13, 501), (14, 550), (15, 583), (16, 606), (17, 629), (18, 662), (19, 695), (20, 754), (21, 813), (22, 872), (23, 915), (24, 928), (25, 951), (26, 1010), (27, 1064), (28, 1087), (29, 1110), (30, 1133)] 1156 = 234 by decide]
        exact law_4 hW
      · rw [show px_sw (nI 5) [(0, 172), (1, 195), (2, 208), (3, 221), (4, 234), (5, 267), (6, 300), (7, 313), (8, 336), (9, 369), (10, 382), (11, 415), (12, 458), (13, 501), (14, 550), (15, 583), (16, 606), (17, 629), (18, 662), (19, 695), (20, 754), (21, 813), (22, 872), (23, 915), (24, 928), (25, 951), (26, 1010), (27, 1064), (28, 1087), (29, 1110), (30, 1133)] 1156 = 267 by decide]
        exact law_5 hW
      · rw [show px_sw (nI 6) [(0, 172), (1, 195), (2, 208), (3, 221), (4, 234), (5, 267), (6, 300), (7, 313), (8, 336), (9, 369), (10, 382), (11, 415), (12, 458), (13, 501), (14, 550), (15, 583), (16, 606), (17, 629), (18, 662), (19, 695), (20, 754), (21, 813), (22, 872), (23, 915), (24, 928), (25, 951), (26, 1010), (27, 1064), (28, 1087), (29, 1110), (30, 1133)] 1156 = 300 by decide]
        exact law_6 hW
      · rw [show px_sw (nI 7) [(0, 172), (1, 195), (2, 208), (3, 221), (4, 234), (5, 267), (6, 300), (7, 313), (8, 336), (9, 369), (10, 382), (11, 415), (12, 458), (13, 501), (14, 550), (15, 583), (16, 606), (17, 629), (18, 662), (19, 695), (20, 754), (21, 813), (22, 872), (23, 915), (24, 928), (25, 951), (26, 1010), (27, 1064), (28, 1087), (29, 1110), (30, 1133)] 1156 = 313 by decide]
        exact law_7 hW
      · rw [show px_sw (nI 8) [(0, 172), (1, 195), (2, 208), (3, 221), (4, 234), (5, 267), (6, 300), (7, 313), (8, 336), (9, 369), (10, 382), (11, 415), (12, 458), (13, 501), (14, 550), (15, 583), (16, 606), (17, 629), (18, 662), (19, 695), (20, 754), (21, 813), (22, 872), (23, 915), (24, 928), (25, 951), (26, 1010), (27, 1064), (28, 1087), (29, 1110), (30, 1133)] 1156 = 336 by decide]
        exact law_8 hW
      · rw [show px_sw (nI 9) [(0, 172), (1, 195), (2, 208), (3, 221), (4, 234), (5, 267), (6, 300), (7, 313), (8, 336), (9, 369), (10, 382), (11, 415), (12, 458), (13, 501), (14, 550), (15, 583), (16, 606), (17, 629), (18, 662), (19, 695), (20, 754), (21, 813), (22, 872), (23, 915), (24, 928), (25, 951), (26, 1010), (27, 1064), (28, 1087), (29, 1110), (30, 1133)] 1156 = 369 by decide]
        exact law_9 hW
      · rw [show px_sw (nI 10) [(0, 172), (1, 195), (2, 208), (3, 221), (4, 234), (5, 267), (6, 300), (7, 313), (8, 336), (9, 369), (10, 382), (11, 415), (12, 458), (13, 501), (14, 550), (15, 583), (16, 606), (17, 629), (18, 662), (19, 695), (20, 754), (21, 813), (22, 872), (23, 915), (24, 928), (25, 951), (26, 1010), (27, 1064), (28, 1087), (29, 1110), (30, 1133)] 1156 = 382 by decide]
        exact law_10 hW
      · rw [show px_sw (nI 11) [(0, 172), (1, 195), (2, 208), (3, 221), (4, 234), (5, 267), (6, 300), (7, 313), (8, 336), (9, 369), (10, 382), (11, 415), (12, 458), (13, 501), (14, 550), (15, 583), (16, 606), (17, 629), (18, 662), (19, 695), (20, 754), (21, 813), (22, 872), (23, 915), (24, 928), (25, 951), (26, 1010), (27, 1064), (28, 1087), (29, 1110), (30, 1133)] 1156 = 415 by decide]
        exact law_11 hW
      · rw [show px_sw (nI 12) [(0, 172), (1, 195), (2, 208), (3, 221), (4, 234), (5, 267), (6, 300), (7, 313), (8, 336), (9, 369), (10, 382), (11, 415), (12, 458), (13, 501), (14, 550), (15, 583), (16, 606), (17, 629), (18, 662), (19, 695), (20, 754), (21, 813), (22, 872), (23, 915), (24, 928), (25, 951), (26, 1010), (27, 1064), (28, 1087), (29, 1110), (30, 1133)] 1156 = 458 by decide]
        exact law_12 hW
      · rw [show px_sw (nI 13) [(0, 172), (1, 195), (2, 208), (3, 221), (4, 234), (5, 267), (6, 300), (7, 313), (8, 336), (9, 369), (10, 382), (11, 415), (12, 458), (13, 501), (14, 550), (15, 583), (16, 606), (17, 629), (18, 662), (19, 695), (20, 754), (21, 813), (22, 872), (23, 915), (24, 928), (25, 951), (26, 1010), (27, 1064), (28, 1087), (29, 1110), (30, 1133)] 1156 = 501 by decide]
        exact law_13 hW
      · rw [show px_sw (nI 14) [(0, 172), (1, 195), (2, 208), (3, 221), (4, 234), (5, 267), (6, 300), (7, 313), (8, 336), (9, 369), (10, 382), (11, 415), (12, 458), (13, 501), (14, 550), (15, 583), (16, 606), (17, 629), (18, 662), (19, 695), (20, 754), (21, 813), (22, 872), (23, 915), (24, 928), (25, 951), (26, 1010), (27, 1064), (28, 1087), (29, 1110), (30, 1133)] 1156 = 550 by decide]
        exact law_14 hW
      · rw [show px_sw (nI 15) [(0, 172), (1, 195), (2, 208), (3, 221), (4, 234), (5, 267), (6, 300), (7, 313), (8, 336), (9, 369), (10, 382), (11, 415), (12, 458), (13, 501), (14, 550), (15, 583), (16, 606), (17, 629), (18, 662), (19, 695), (20, 754), (21, 813), (22, 872), (23, 915), (24, 928), (25, 951), (26, 1010), (27, 1064), (28, 1087), (29, 1110), (30, 1133)] 1156 = 583 by decide]
        exact law_15 hW
      · rw [show px_sw (nI 16) [(0, 172), (1, 195), (2, 208), (3, 221), (4, 234), (5, 267), (6, 300), (7, 313), (8, 336), (9, 369), (10, 382), (11, 415), (12, 458), (13, 501), (14, 550), (15, 583), (16, 606), (17, 629), (18, 662), (19, 695), (20, 754), (21, 813), (22, 872), (23, 915), (24, 928), (25, 951), (26, 1010), (27, 1064), (28, 1087), (29, 1110), (30, 1133)] 1156 = 606 by decide]
        exact law_16 hW
      · rw [show px_sw (nI 17) [(0, 172), (1, 195), (2, 208), (3, 221), (4, 234), (5, 267), (6, 300), (7, 313), (8, 336), (9, 369), (10, 382), (11, 415), (12, 458), (13, 501), (14, 550), (15, 583), (16, 606), (17, 629), (18, 662), (19, 695), (20, 754), (21, 813), (22, 872), (23, 915), (24, 928), (25, 951), (26, 1010), (27, 1064), (28, 1087), (29, 1110), (30, 1133)] 1156 = 629 by decide]
        exact law_17 hW
      · rw [show px_sw (nI 18) [(0, 172), (1, 195), (2, 208), (3, 221), (4, 234), (5, 267), (6, 300), (7, 313), (8, 336), (9, 369), (10, 382), (11, 415), (12, 458), (13, 501), (14, 550), (15, 583), (16, 606), (17, 629), (18, 662), (19, 695), (20, 754), (21, 813), (22, 872), (23, 915), (24, 928), (25, 951), (26, 1010), (27, 1064), (28, 1087), (29, 1110), (30, 1133)] 1156 = 662 by decide]
        exact law_18 hW
      · rw [show px_sw (nI 19) [(0, 172), (1, 195), (2, 208), (3, 221), (4, 234), (5, 267), (6, 300), (7, 313), (8, 336), (9, 369), (10, 382), (11, 415), (12, 458), (13, 501), (14, 550), (15, 583), (16, 606), (17, 629), (18, 662), (19, 695), (20, 754), (21, 813), (22, 872), (23, 915), (24, 928), (25, 951), (26, 1010), (27, 1064), (28, 1087), (29, 1110), (30, 1133)] 1156 = 695 by decide]
        exact law_19 hW
      · rw [show px_sw (nI 20) [(0, 172), (1, 195), (2, 208), (3, 221), (4, 234), (5, 267), (6, 300), (7, 313), (8, 336), (9, 369), (10, 382), (11, 415), (12, 458), (13, 501), (14, 550), (15, 583), (16, 606), (17, 629), (18, 662), (19, 695), (20, 754), (21, 813), (22, 872), (23, 915), (24, 928), (25, 951), (26, 1010), (27, 1064), (28, 1087), (29, 1110), (30, 1133)] 1156 = 754 by decide]
        exact law_20 hW
      · rw [show px_sw (nI 21) [(0, 172), (1, 195), (2, 208), (3, 221), (4, 234), (5, 267), (6, 300), (7, 313), (8, 336), (9, 369), (10, 382), (11, 415), (12, 458), (13, 501), (14, 550), (15, 583), (16, 606), (17, 629), (18, 662), (19, 695), (20, 754), (21, 813), (22, 872), (23, 915), (24, 928), (25, 951), (26, 1010), (27, 1064), (28, 1087), (29, 1110), (30, 1133)] 1156 = 813 by decide]
        exact law_21 hW
      · rw [show px_sw (nI 22) [(0, 172), (1, 195), (2, 208), (3, 221), (4, 234), (5, 267), (6, 300), (7, 313), (8, 336), (9, 369), (10, 382), (11, 415), (12, 458), (13, 501), (14, 550), (15, 583), (16, 606), (17, 629), (18, 662), (19, 695), (20, 754), (21, 813), (22, 872), (23, 915), (24, 928), (25, 951), (26, 1010), (27, 1064), (28, 1087), (29, 1110), (30, 1133)] 1156 = 872 by decide]
        exact law_22 hW
      · rw [show px_sw (nI 23) [(0, 172), (1, 195), (2, 208), (3, 221), (4, 234), (5, 267), (6, 300), (7, 313), (8, 336), (9, 369), (10, 382), (11, 415), (12, 458), (13, 501), (14, 550), (15, 583), (16, 606), (17, 629), (18, 662), (19, 695), (20, 754), (21, 813), (22, 872), (23, 915), (24, 928), (25, 951), (26, 1010), (27, 1064), (28, 1087), (29, 1110), (30, 1133)] 1156 = 915 by decide]
        exact law_23 hW
      · rw [show px_sw (nI 24) [(0, 172), (1, 195), (2, 208), (3, 221), (4, 234), (5, 267), (6, 300), (7, 313), (8, 336), (9, 369), (10, 382), (11, 415), (12, 458), (13, 501), (14, 550), (15, 583), (16, 606), (17, 629), (18, 662), (19, 695), (20, 754), (21, 813), (22, 872), (23, 915), (24, 928), (25, 951), (26, 1010), (27, 1064), (28, 1087), (29, 1110), (30, 1133)] 1156 = 928 by decide]
        exact law_24 hW
      · rw [show px_sw (nI 25) [(0, 172), (1, 195), (2, 208), (3, 221), (4, 234), (5, 267), (6, 300), (7, 313), (8, 336), (9, 369), (10, 382), (11, 415), (12, 458), (13, 501), (14, 550), (15, 583), (16, 606), (17, 629), (18, 662), (19, 695), (20, 754), (21, 813), (22, 872), (23, 915), (24, 928), (25, 951), (26, 1010), (27, 1064), (28, 1087), (29, 1110), (30, 1133)] 1156 = 951 by decide]
        exact law_25 hW
      · rw [show px_sw (nI 26) [(0, 172), (1, 195), (2, 208), (3, 221), (4, 234), (5, 267), (6, 300), (7, 313), (8, 336), (9, 369), (10, 382), (11, 415), (12, 458), (13, 501), (14, 550), (15, 583), (16, 606), (17, 629), (18, 662), (19, 695), (20, 754), (21, 813), (22, 872), (23, 915), (24, 928), (25, 951), (26, 1010), (27, 1064), (28, 1087), (29, 1110), (30, 1133)] 1156 = 1010 by decide]
        exact law_26 hW
      · rw [show px_sw (nI 27) [(0, 172), (1, 195), (2, 208), (3, 221), (4, 234), (5, 267), (6, 300), (7, 313), (8, 336), (9, 369), (10, 382), (11, 415), (12, 458), (13, 501), (14, 550), (15, 583), (16, 606), (17, 629), (18, 662), (19, 695), (20, 754), (21, 813), (22, 872), (23, 915), (24, 928), (25, 951), (26, 1010), (27, 1064), (28, 1087), (29, 1110), (30, 1133)] 1156 = 1064 by decide]
        exact law_27 hW
      · rw [show px_sw (nI 28) [(0, 172), (1, 195), (2, 208), (3, 221), (4, 234), (5, 267), (6, 300), (7, 313), (8, 336), (9, 369), (10, 382), (11, 415), (12, 458), (13, 501), (14, 550), (15, 583), (16, 606), (17, 629), (18, 662), (19, 695), (20, 754), (21, 813), (22, 872), (23, 915), (24, 928), (25, 951), (26, 1010), (27, 1064), (28, 1087), (29, 1110), (30, 1133)] 1156 = 1087 by decide]
        exact law_28 hW
      · rw [show px_sw (nI 29) [(0, 172), (1, 195), (2, 208), (3, 221), (4, 234), (5, 267), (6, 300), (7, 313), (8, 336), (9, 369), (10, 382), (11, 415), (12, 458), (13, 501), (14, 550), (15, 583), (16, 606), (17, 629), (18, 662), (19, 695), (20, 754), (21, 813), (22, 872), (23, 915), (24, 928), (25, 951), (26, 1010), (27, 1064), (28, 1087), (29, 1110), (30, 1133)] 1156 = 1110 by decide]
        exact law_29 hW
      · rw [show px_sw (nI 30) [(0, 172), (1, 195), (2, 208), (3, 221), (4, 234), (5, 267), (6, 300), (7, 313), (8, 336), (9, 369), (10, 382), (11, 415), (12, 458), (13, 501), (14, 550), (15, 583), (16, 606), (17, 629), (18, 662), (19, 695), (20, 754), (21, 813), (22, 872), (23, 915), (24, 928), (25, 951), (26, 1010), (27, 1064), (28, 1087), (29, 1110), (30, 1133)] 1156 = 1133 by decide]
        exact law_30 hW
      · rw [show px_sw (nI 31) [(0, 172), (1, 195), (2, 208), (3, 221), (4, 234), (5, 267), (6, 300), (7, 313), (8, 336), (9, 369), (10, 382), (11, 415), (12, 458), (13, 501), (14, 550), (15, 583), (16, 606), (17, 629), (18, 662), (19, 695), (20, 754), (21, 813), (22, 872), (23, 915), (24, 928), (25, 951), (26, 1010), (27, 1064), (28, 1087), (29, 1110), (30, 1133)] 1156 = 1156 by decide]
        exact nx G s hc hm (hp.up (by omega)) rfl
end LW
