/-! ===== the reference: fault, land ===== -/
section ML
variable {d len : Nat} {G : px_H} {q : Nat → Int32} {sd : Int64} {K K2 : Ld} {tx : Nat → Int32} {f1 s1 : Int32} {Q : px_Q}
set_option maxRecDepth 100000 in
theorem sp_mfault (m0 : hget G 124 = some (c_m q sd)) (hB : mB G) (mt : hget G 136 = some (c_ia 48 tx)) (h17 : q 17 = nI len) (hlen : len ≤ 48)
    (hQ : ∀ G' q', hget G' 124 = some (c_m q' sd) → mB G' → fQ G G' → eQ q q' → Q (some (.int (rdC tx len len 0 (0, f1, s1, clK K2)).1)) G') : pcal (d + 5) 101 [.ref 124] G Q := by
  refine inX7_fault ?_
  simp only [eX7_fault_0, eX7_fault_1, pe_aload_0, pe_callV_0, m0, m_o, hget_hset, ia_l, ia_s, vin, opl, onl, Int32.reduceLT, Int32.reduceLE, Int32.reduceAdd, Int32.reduceSub, Nat.reduceLT, Nat.reduceAdd, Nat.reduceEqDiff, ↓reduceIte, true_and, and_true, List.length_nil, List.length_cons, Nat.reduceLeDiff, Nat.zero_le]
  refine sp_mreadText (f1 := f1) (s1 := s1) (K0 := K2) m0 hB mt h17 hlen ?_ ?_
  · intro G' q' f e0 e1 e2 e3 e4 e5
    simp only [eX7_fault_4, pe_iret, hget_hset, ia_l, ia_s, vin, opl, onl, Int32.reduceLT, Int32.reduceLE, Int32.reduceAdd, Int32.reduceSub, Nat.reduceLT, Nat.reduceAdd, Nat.reduceEqDiff, ↓reduceIte, true_and, and_true, List.length_nil, List.length_cons, Nat.reduceLeDiff, Nat.zero_le]
    have := hQ G' q' e0 e1 e4 e5
    rw [e3] at this
    exact this
  · intro G' q' K' e0 e1 e2 e3 e4
    simp only [eX7_fault_4, pe_iret, hget_hset, ia_l, ia_s, vin, opl, onl, Int32.reduceLT, Int32.reduceLE, Int32.reduceAdd, Int32.reduceSub, Nat.reduceLT, Nat.reduceAdd, Nat.reduceEqDiff, ↓reduceIte, true_and, and_true, List.length_nil, List.length_cons, Nat.reduceLeDiff, Nat.zero_le]
    obtain ⟨b0, -, -, -, -, rk, rh, rr, rf, rt, rg, a1, a2, a3, a4, a5, a6, -⟩ := e0
    have := hQ G' q' b0 ⟨rk, rh, rr, rf, rt, rg, a1, a2, a3, a4, a5, a6⟩ e3 e4
    rw [e2] at this
    exact this
theorem aBg_b {p : Nat} (hp : p < 6) : aBg K p = if p < K.n ∧ K.kd p = 0 then K.st p else 0 := by
  unfold aBg
  rw [if_pos hp]
theorem aBg_d {p : Nat} (hp : p < 6) : aBg K (6 + p) = if p < K.n ∧ K.kd p = 1 then K.st p else 0 := by
  unfold aBg
  rw [if_neg (by omega), if_pos (by omega), show 6 + p - 6 = p by omega]
theorem aBg_w {p : Nat} (hp : p < 6) : aBg K (12 + p) = -9 := by
  unfold aBg
  rw [if_neg (by omega), if_neg (by omega), if_pos (by omega)]
theorem ni12 {i : Nat} (h : i < 6) : (6 : Int32) + nI i = nI (6 + i) ∧ (12 : Int32) + nI i = nI (12 + i) := ⟨nI_add 6 i, nI_add 12 i⟩
/-- what land has laid of the first i places -/
def lD (K : Ld) (rf rt kd ms fm tt w : Nat → Int32) (i : Nat) : Prop := ∀ p, p < i → (p < K.n → kd p = K.kd p ∧ ms p = K.ms p) ∧ fm p = rf p ∧ tt p = rt p ∧ w p = aBg K p ∧ w (6 + p) = aBg K (6 + p) ∧ w (12 + p) = aBg K (12 + p)
theorem lD_s {rf rt kd ms fm tt w : Nat → Int32} {i : Nat} {a b x y : Int32} (hi : i < 6) (h : lD K rf rt kd ms fm tt w i) (ha : i < K.n → a = K.kd i ∧ b = K.ms i) (hx : x = aBg K i) (hy : y = aBg K (6 + i)) : lD K rf rt (upd kd i a) (upd ms i b) (upd fm i (rf i)) (upd tt i (rt i)) (upd (upd (upd w i x) (6 + i) y) (12 + i) (-9)) (i + 1) := by
  intro p hp
  by_cases e : p = i
  · subst e
    refine ⟨fun hn => ?_, upd_y, upd_y, ?_, ?_, ?_⟩
    · rw [upd_y, upd_y]; exact ha hn
    · rw [upd_n (by omega), upd_n (by omega), upd_y]; exact hx
    · rw [upd_n (by omega), upd_y]; exact hy
    · rw [upd_y, aBg_w hi]
  · have := h p (by omega)
    rw [upd_n e, upd_n e, upd_n e, upd_n e, upd_n (by omega), upd_n (by omega), upd_n (by omega), upd_n (by omega), upd_n (by omega), upd_n (by omega), upd_n (by omega), upd_n (by omega), upd_n (by omega)]
    exact this
set_option maxRecDepth 100000 in
theorem mland_loop {lim : Nat × Nat} {rk rh rr rf rt rg : Nat → Int32} (hw : wfL K) (hr : rdRel K q rk rh rr rf rt rg) (h13 : q 13 = nI K.n) (m0 : hget G 124 = some (c_m q sd)) (a1 : hget G 125 = some (c_ia 6 rk)) (a2 : hget G 126 = some (c_ia 6 rh)) (a3 : hget G 127 = some (c_ia 6 rr)) (a4 : hget G 128 = some (c_ia 6 rf)) (a5 : hget G 129 = some (c_ia 6 rt))
    (hn : ∀ H kd ms fm tt w o2, hget H 131 = some (c_ia 6 kd) → hget H 132 = some (c_ia 6 ms) → hget H 133 = some (c_ia 6 fm) → hget H 134 = some (c_ia 6 tt) → hget H 135 = some (c_ia 160 w) → lD K rf rt kd ms fm tt w 6 → (∀ k, (k < 131 ∨ 136 ≤ k) → hget H k = hget G k) → pr d 102 lim Q 226 [some (.ref 124), some (.int 6), o2] [] H) :
    ∀ j i H kd ms fm tt w o2, i + j = 6 → hget H 131 = some (c_ia 6 kd) → hget H 132 = some (c_ia 6 ms) → hget H 133 = some (c_ia 6 fm) → hget H 134 = some (c_ia 6 tt) → hget H 135 = some (c_ia 160 w) → lD K rf rt kd ms fm tt w i → (∀ k, (k < 131 ∨ 136 ≤ k) → hget H k = hget G k) → pr d 102 lim Q 30 [some (.ref 124), some (.int (nI i)), o2] [] H := by
  intro j
  induction j with
  | zero =>
    intro i H kd ms fm tt w o2 hi k1 k2 k3 k4 k5 k6 k7
    obtain rfl : i = 6 := by omega
    simp only [eX7_land_30, eX7_land_31, eX7_land_33, pe_const, pe_iclt, pe_iload_1, ni66, hget_hset, ia_l, ia_s, vin, opl, onl, Int32.reduceLT, Int32.reduceLE, Int32.reduceAdd, Int32.reduceSub, Nat.reduceLT, Nat.reduceAdd, Nat.reduceEqDiff, ↓reduceIte, true_and, and_true, List.length_nil, List.length_cons, Nat.reduceLeDiff, Nat.zero_le]
    exact hn H kd ms fm tt w o2 k1 k2 k3 k4 k5 k6 k7
  | succ j ih =>
    intro i H kd ms fm tt w o2 hi k1 k2 k3 k4 k5 k6 k7
    have n6 := hw.1
    have y0 : hget H 124 = some (c_m q sd) := (k7 _ (by omega)).trans m0
    have y1 : hget H 125 = some (c_ia 6 rk) := (k7 _ (by omega)).trans a1
    have y2 : hget H 126 = some (c_ia 6 rh) := (k7 _ (by omega)).trans a2
    have y3 : hget H 127 = some (c_ia 6 rr) := (k7 _ (by omega)).trans a3
    have y4 : hget H 128 = some (c_ia 6 rf) := (k7 _ (by omega)).trans a4
    have y5 : hget H 129 = some (c_ia 6 rt) := (k7 _ (by omega)).trans a5
    have i6 : i < 6 := by omega
    obtain ⟨c1, c2, c3⟩ := ni6 i6
    obtain ⟨e1, e2⟩ := ni12 i6
    obtain ⟨d1, d2⟩ := ni160 (i := 6 + i) (by omega)
    obtain ⟨d3, d4⟩ := ni160 (i := 12 + i) (by omega)
    have d5 : 6 + i < 160 := by omega
    have d6 : 12 + i < 160 := by omega
    have d7 : i < 160 := by omega
    have nx : ∀ (H' : px_H) (a b x y : Int32) o2, (i < K.n → a = K.kd i ∧ b = K.ms i) → x = aBg K i → y = aBg K (6 + i) → hget H' 131 = some (c_ia 6 (upd kd i a)) → hget H' 132 = some (c_ia 6 (upd ms i b)) → hget H' 133 = some (c_ia 6 (upd fm i (rf i))) → hget H' 134 = some (c_ia 6 (upd tt i (rt i))) → hget H' 135 = some (c_ia 160 (upd (upd (upd w i x) (6 + i) y) (12 + i) (-9))) → (∀ k, (k < 131 ∨ 136 ≤ k) → hget H' k = hget H k) → pr d 102 lim Q 30 [some (.ref 124), some (.int (nI (i + 1))), o2] [] H' := by
      intro H' a b x y o2 ha hx hy g1 g2 g3 g4 g5 g6
      exact ih (i + 1) H' _ _ _ _ _ o2 (by omega) g1 g2 g3 g4 g5 (lD_s i6 k6 ha hx hy) (fun k hk => (g6 k hk).trans (k7 k hk))
    rw [eX7_land_30]
    by_cases u : i < K.n
    · have c4 : nI i < nI K.n := nI_lt u (by omega)
      obtain ⟨r1, r2, r3, r4⟩ := hr.2.2.2.1 i u
      obtain ⟨w1, -, -, -, -, w6⟩ := hw.2.2.1 i u
      rcases w1 with kk | kk | kk | kk
      · have rkk : rk i = 0 := r1.trans kk
        simp only [eX7_land_31, eX7_land_33, eX7_land_36, eX7_land_37, eX7_land_38, eX7_land_41, eX7_land_44, eX7_land_45, eX7_land_48, eX7_land_49, eX7_land_50, eX7_land_51, eX7_land_54, eX7_land_55, eX7_land_56, eX7_land_59, eX7_land_60, eX7_land_63, eX7_land_64, eX7_land_65, eX7_land_70, eX7_land_71, eX7_land_72, eX7_land_75, eX7_land_76, eX7_land_77, eX7_land_84, eX7_land_85, eX7_land_88, eX7_land_89, eX7_land_90, eX7_land_91, eX7_land_103, eX7_land_104, eX7_land_107, eX7_land_108, eX7_land_109, eX7_land_112, eX7_land_113, eX7_land_116, eX7_land_117, eX7_land_118, eX7_land_122, eX7_land_123, eX7_land_124, eX7_land_127, eX7_land_128, eX7_land_129, eX7_land_132, eX7_land_133, eX7_land_136, eX7_land_137, eX7_land_138, eX7_land_141, eX7_land_142, eX7_land_145, eX7_land_146, eX7_land_147, eX7_land_151, eX7_land_152, eX7_land_153, eX7_land_156, eX7_land_158, eX7_land_159, eX7_land_160, eX7_land_161, eX7_land_164, eX7_land_165, eX7_land_168, eX7_land_169, eX7_land_170, eX7_land_171, eX7_land_183, eX7_land_184, eX7_land_185, eX7_land_186, eX7_land_189, eX7_land_191, eX7_land_192, eX7_land_193, eX7_land_195, eX7_land_196, eX7_land_197, eX7_land_200, eX7_land_201, eX7_land_202, eX7_land_205, eX7_land_206, eX7_land_207, eX7_land_208, eX7_land_209, eX7_land_212, eX7_land_213, eX7_land_214, eX7_land_217, eX7_land_218, eX7_land_219, eX7_land_220, eX7_land_223, pe_aload_0, pe_bin, pe_const, pe_getf, pe_goto, pe_iald, pe_iast, pe_iceq, pe_iclt, pe_ifeq, pe_iinc_1, pe_iload_1, pe_iload_2, pe_istore_2, c4, rkk, ie_0_2, ie_0_1, ie_1_0, y0, y1, y2, y3, y4, y5, k1, k2, k3, k4, k5, m_g0, m_g1, m_g2, m_g3, m_g4, m_g9, m_g10, m_g11, m_g12, m_g13, m_g15, h13, c1, c2, c3, i6, d1, d2, d3, d4, d5, d6, d7, e1, e2, upd_y, nisw, hget_hset, ia_l, ia_s, vin, opl, onl, Int32.reduceLT, Int32.reduceLE, Int32.reduceAdd, Int32.reduceSub, Nat.reduceLT, Nat.reduceAdd, Nat.reduceEqDiff, ↓reduceIte, true_and, and_true, List.length_nil, List.length_cons, Nat.reduceLeDiff, Nat.zero_le]
        refine nx _ _ _ (rh i) 0 _ (fun _ => ⟨kk.symm, (r2 kk).2⟩) (by rw [aBg_b i6, if_pos ⟨u, kk⟩]; exact (r2 kk).1) (by rw [aBg_d i6, if_neg (fun z => by rw [kk] at z; exact absurd z.2 (by decide))]) ?_ ?_ ?_ ?_ ?_ (fun k hk => ?_)
        · simp only [hget_hset, Nat.reduceEqDiff, ↓reduceIte]
        · simp only [hget_hset, Nat.reduceEqDiff, ↓reduceIte]
        · simp only [hget_hset, Nat.reduceEqDiff, ↓reduceIte]
        · simp only [hget_hset, Nat.reduceEqDiff, ↓reduceIte]
        · simp only [hget_hset, Nat.reduceEqDiff, ↓reduceIte]
        · simp only [hget_hset, show ¬ k = 131 by omega, show ¬ k = 132 by omega, show ¬ k = 133 by omega, show ¬ k = 134 by omega, show ¬ k = 135 by omega, ↓reduceIte]
      · have rkk : rk i = 1 := r1.trans kk
        simp only [eX7_land_31, eX7_land_33, eX7_land_36, eX7_land_37, eX7_land_38, eX7_land_41, eX7_land_44, eX7_land_45, eX7_land_48, eX7_land_49, eX7_land_50, eX7_land_51, eX7_land_54, eX7_land_55, eX7_land_56, eX7_land_59, eX7_land_60, eX7_land_63, eX7_land_64, eX7_land_65, eX7_land_70, eX7_land_71, eX7_land_72, eX7_land_75, eX7_land_76, eX7_land_77, eX7_land_84, eX7_land_85, eX7_land_88, eX7_land_89, eX7_land_90, eX7_land_91, eX7_land_103, eX7_land_104, eX7_land_107, eX7_land_108, eX7_land_109, eX7_land_121, eX7_land_122, eX7_land_123, eX7_land_124, eX7_land_127, eX7_land_128, eX7_land_129, eX7_land_132, eX7_land_133, eX7_land_136, eX7_land_137, eX7_land_138, eX7_land_150, eX7_land_151, eX7_land_152, eX7_land_153, eX7_land_156, eX7_land_158, eX7_land_159, eX7_land_160, eX7_land_161, eX7_land_164, eX7_land_165, eX7_land_168, eX7_land_169, eX7_land_170, eX7_land_171, eX7_land_174, eX7_land_175, eX7_land_178, eX7_land_179, eX7_land_180, eX7_land_184, eX7_land_185, eX7_land_186, eX7_land_189, eX7_land_191, eX7_land_192, eX7_land_193, eX7_land_195, eX7_land_196, eX7_land_197, eX7_land_200, eX7_land_201, eX7_land_202, eX7_land_205, eX7_land_206, eX7_land_207, eX7_land_208, eX7_land_209, eX7_land_212, eX7_land_213, eX7_land_214, eX7_land_217, eX7_land_218, eX7_land_219, eX7_land_220, eX7_land_223, pe_aload_0, pe_bin, pe_const, pe_getf, pe_goto, pe_iald, pe_iast, pe_iceq, pe_iclt, pe_ifeq, pe_iinc_1, pe_iload_1, pe_iload_2, pe_istore_2, c4, rkk, ie_1_2, ie_1_0, y0, y1, y2, y3, y4, y5, k1, k2, k3, k4, k5, m_g0, m_g1, m_g2, m_g3, m_g4, m_g9, m_g10, m_g11, m_g12, m_g13, m_g15, h13, c1, c2, c3, i6, d1, d2, d3, d4, d5, d6, d7, e1, e2, upd_y, nisw, hget_hset, ia_l, ia_s, vin, opl, onl, Int32.reduceLT, Int32.reduceLE, Int32.reduceAdd, Int32.reduceSub, Nat.reduceLT, Nat.reduceAdd, Nat.reduceEqDiff, ↓reduceIte, true_and, and_true, List.length_nil, List.length_cons, Nat.reduceLeDiff, Nat.zero_le]
        refine nx _ _ _ 0 (rh i) _ (fun _ => ⟨kk.symm, (w6 (Or.inl kk)).symm⟩) (by rw [aBg_b i6, if_neg (fun z => by rw [kk] at z; exact absurd z.2 (by decide))]) (by rw [aBg_d i6, if_pos ⟨u, kk⟩]; exact r3 kk) ?_ ?_ ?_ ?_ ?_ (fun k hk => ?_)
        · simp only [hget_hset, Nat.reduceEqDiff, ↓reduceIte]
        · simp only [hget_hset, Nat.reduceEqDiff, ↓reduceIte]
        · simp only [hget_hset, Nat.reduceEqDiff, ↓reduceIte]
        · simp only [hget_hset, Nat.reduceEqDiff, ↓reduceIte]
        · simp only [hget_hset, Nat.reduceEqDiff, ↓reduceIte]
        · simp only [hget_hset, show ¬ k = 131 by omega, show ¬ k = 132 by omega, show ¬ k = 133 by omega, show ¬ k = 134 by omega, show ¬ k = 135 by omega, ↓reduceIte]
      · have rkk : rk i = 2 := r1.trans kk
        simp only [eX7_land_31, eX7_land_33, eX7_land_36, eX7_land_37, eX7_land_38, eX7_land_41, eX7_land_44, eX7_land_45, eX7_land_48, eX7_land_49, eX7_land_50, eX7_land_51, eX7_land_54, eX7_land_55, eX7_land_56, eX7_land_59, eX7_land_60, eX7_land_63, eX7_land_64, eX7_land_65, eX7_land_70, eX7_land_71, eX7_land_72, eX7_land_75, eX7_land_76, eX7_land_77, eX7_land_84, eX7_land_85, eX7_land_88, eX7_land_89, eX7_land_90, eX7_land_91, eX7_land_94, eX7_land_95, eX7_land_98, eX7_land_99, eX7_land_100, eX7_land_122, eX7_land_123, eX7_land_124, eX7_land_127, eX7_land_128, eX7_land_129, eX7_land_132, eX7_land_133, eX7_land_136, eX7_land_137, eX7_land_138, eX7_land_150, eX7_land_151, eX7_land_152, eX7_land_153, eX7_land_156, eX7_land_158, eX7_land_159, eX7_land_160, eX7_land_161, eX7_land_164, eX7_land_165, eX7_land_168, eX7_land_169, eX7_land_170, eX7_land_171, eX7_land_183, eX7_land_184, eX7_land_185, eX7_land_186, eX7_land_189, eX7_land_191, eX7_land_192, eX7_land_193, eX7_land_195, eX7_land_196, eX7_land_197, eX7_land_200, eX7_land_201, eX7_land_202, eX7_land_205, eX7_land_206, eX7_land_207, eX7_land_208, eX7_land_209, eX7_land_212, eX7_land_213, eX7_land_214, eX7_land_217, eX7_land_218, eX7_land_219, eX7_land_220, eX7_land_223, pe_aload_0, pe_bin, pe_const, pe_getf, pe_goto, pe_iald, pe_iast, pe_iceq, pe_iclt, pe_ifeq, pe_iinc_1, pe_iload_1, pe_iload_2, pe_istore_2, c4, rkk, ie_2_0, ie_2_1, ie_1_0, y0, y1, y2, y3, y4, y5, k1, k2, k3, k4, k5, m_g0, m_g1, m_g2, m_g3, m_g4, m_g9, m_g10, m_g11, m_g12, m_g13, m_g15, h13, c1, c2, c3, i6, d1, d2, d3, d4, d5, d6, d7, e1, e2, upd_y, nisw, hget_hset, ia_l, ia_s, vin, opl, onl, Int32.reduceLT, Int32.reduceLE, Int32.reduceAdd, Int32.reduceSub, Nat.reduceLT, Nat.reduceAdd, Nat.reduceEqDiff, ↓reduceIte, true_and, and_true, List.length_nil, List.length_cons, Nat.reduceLeDiff, Nat.zero_le]
        refine nx _ _ _ _ _ _ (fun _ => ⟨kk.symm, r4 kk⟩) (by rw [aBg_b i6, if_neg (fun z => by rw [kk] at z; exact absurd z.2 (by decide))]) (by rw [aBg_d i6, if_neg (fun z => by rw [kk] at z; exact absurd z.2 (by decide))]) ?_ ?_ ?_ ?_ ?_ (fun k hk => ?_)
        · simp only [hget_hset, Nat.reduceEqDiff, ↓reduceIte]
        · simp only [hget_hset, Nat.reduceEqDiff, ↓reduceIte]
        · simp only [hget_hset, Nat.reduceEqDiff, ↓reduceIte]
        · simp only [hget_hset, Nat.reduceEqDiff, ↓reduceIte]
        · simp only [hget_hset, Nat.reduceEqDiff, ↓reduceIte]
        · simp only [hget_hset, show ¬ k = 131 by omega, show ¬ k = 132 by omega, show ¬ k = 133 by omega, show ¬ k = 134 by omega, show ¬ k = 135 by omega, ↓reduceIte]
      · have rkk : rk i = 3 := r1.trans kk
        simp only [eX7_land_31, eX7_land_33, eX7_land_36, eX7_land_37, eX7_land_38, eX7_land_41, eX7_land_44, eX7_land_45, eX7_land_48, eX7_land_49, eX7_land_50, eX7_land_51, eX7_land_54, eX7_land_55, eX7_land_56, eX7_land_59, eX7_land_60, eX7_land_63, eX7_land_64, eX7_land_65, eX7_land_70, eX7_land_71, eX7_land_72, eX7_land_75, eX7_land_76, eX7_land_77, eX7_land_84, eX7_land_85, eX7_land_88, eX7_land_89, eX7_land_90, eX7_land_91, eX7_land_103, eX7_land_104, eX7_land_107, eX7_land_108, eX7_land_109, eX7_land_121, eX7_land_122, eX7_land_123, eX7_land_124, eX7_land_127, eX7_land_128, eX7_land_129, eX7_land_132, eX7_land_133, eX7_land_136, eX7_land_137, eX7_land_138, eX7_land_150, eX7_land_151, eX7_land_152, eX7_land_153, eX7_land_156, eX7_land_158, eX7_land_159, eX7_land_160, eX7_land_161, eX7_land_164, eX7_land_165, eX7_land_168, eX7_land_169, eX7_land_170, eX7_land_171, eX7_land_183, eX7_land_184, eX7_land_185, eX7_land_186, eX7_land_189, eX7_land_191, eX7_land_192, eX7_land_193, eX7_land_195, eX7_land_196, eX7_land_197, eX7_land_200, eX7_land_201, eX7_land_202, eX7_land_205, eX7_land_206, eX7_land_207, eX7_land_208, eX7_land_209, eX7_land_212, eX7_land_213, eX7_land_214, eX7_land_217, eX7_land_218, eX7_land_219, eX7_land_220, eX7_land_223, pe_aload_0, pe_bin, pe_const, pe_getf, pe_goto, pe_iald, pe_iast, pe_iceq, pe_iclt, pe_ifeq, pe_iinc_1, pe_iload_1, pe_iload_2, pe_istore_2, c4, rkk, ie_3_2, ie_3_0, ie_3_1, ie_1_0, y0, y1, y2, y3, y4, y5, k1, k2, k3, k4, k5, m_g0, m_g1, m_g2, m_g3, m_g4, m_g9, m_g10, m_g11, m_g12, m_g13, m_g15, h13, c1, c2, c3, i6, d1, d2, d3, d4, d5, d6, d7, e1, e2, upd_y, nisw, hget_hset, ia_l, ia_s, vin, opl, onl, Int32.reduceLT, Int32.reduceLE, Int32.reduceAdd, Int32.reduceSub, Nat.reduceLT, Nat.reduceAdd, Nat.reduceEqDiff, ↓reduceIte, true_and, and_true, List.length_nil, List.length_cons, Nat.reduceLeDiff, Nat.zero_le]
        refine nx _ _ _ _ _ _ (fun _ => ⟨kk.symm, (w6 (Or.inr kk)).symm⟩) (by rw [aBg_b i6, if_neg (fun z => by rw [kk] at z; exact absurd z.2 (by decide))]) (by rw [aBg_d i6, if_neg (fun z => by rw [kk] at z; exact absurd z.2 (by decide))]) ?_ ?_ ?_ ?_ ?_ (fun k hk => ?_)
        · simp only [hget_hset, Nat.reduceEqDiff, ↓reduceIte]
        · simp only [hget_hset, Nat.reduceEqDiff, ↓reduceIte]
        · simp only [hget_hset, Nat.reduceEqDiff, ↓reduceIte]
        · simp only [hget_hset, Nat.reduceEqDiff, ↓reduceIte]
        · simp only [hget_hset, Nat.reduceEqDiff, ↓reduceIte]
        · simp only [hget_hset, show ¬ k = 131 by omega, show ¬ k = 132 by omega, show ¬ k = 133 by omega, show ¬ k = 134 by omega, show ¬ k = 135 by omega, ↓reduceIte]
    · have c4 : ¬ nI i < nI K.n := nI_nlt (by omega) (by omega)
      simp only [eX7_land_31, eX7_land_33, eX7_land_36, eX7_land_37, eX7_land_38, eX7_land_41, eX7_land_48, eX7_land_49, eX7_land_50, eX7_land_51, eX7_land_54, eX7_land_55, eX7_land_56, eX7_land_68, eX7_land_70, eX7_land_71, eX7_land_72, eX7_land_75, eX7_land_76, eX7_land_77, eX7_land_80, eX7_land_81, eX7_land_122, eX7_land_123, eX7_land_124, eX7_land_127, eX7_land_128, eX7_land_129, eX7_land_150, eX7_land_151, eX7_land_152, eX7_land_153, eX7_land_156, eX7_land_158, eX7_land_159, eX7_land_160, eX7_land_161, eX7_land_183, eX7_land_184, eX7_land_185, eX7_land_186, eX7_land_189, eX7_land_191, eX7_land_192, eX7_land_193, eX7_land_195, eX7_land_196, eX7_land_197, eX7_land_200, eX7_land_201, eX7_land_202, eX7_land_205, eX7_land_206, eX7_land_207, eX7_land_208, eX7_land_209, eX7_land_212, eX7_land_213, eX7_land_214, eX7_land_217, eX7_land_218, eX7_land_219, eX7_land_220, eX7_land_223, pe_aload_0, pe_bin, pe_const, pe_getf, pe_goto, pe_iald, pe_iast, pe_iclt, pe_ifeq, pe_iinc_1, pe_iload_1, pe_iload_2, pe_istore_2, c4, y0, y1, y2, y3, y4, y5, k1, k2, k3, k4, k5, m_g0, m_g1, m_g2, m_g3, m_g4, m_g9, m_g10, m_g11, m_g12, m_g13, m_g15, h13, c1, c2, c3, i6, d1, d2, d3, d4, d5, d6, d7, e1, e2, upd_y, nisw, hget_hset, ia_l, ia_s, vin, opl, onl, Int32.reduceLT, Int32.reduceLE, Int32.reduceAdd, Int32.reduceSub, Nat.reduceLT, Nat.reduceAdd, Nat.reduceEqDiff, ↓reduceIte, true_and, and_true, List.length_nil, List.length_cons, Nat.reduceLeDiff, Nat.zero_le]
      refine nx _ (-9) 0 0 0 _ (fun z => absurd z u) (by rw [aBg_b i6, if_neg (fun z => u z.1)]) (by rw [aBg_d i6, if_neg (fun z => u z.1)]) ?_ ?_ ?_ ?_ ?_ (fun k hk => ?_)
      · simp only [hget_hset, Nat.reduceEqDiff, ↓reduceIte]
      · simp only [hget_hset, Nat.reduceEqDiff, ↓reduceIte]
      · simp only [hget_hset, Nat.reduceEqDiff, ↓reduceIte]
      · simp only [hget_hset, Nat.reduceEqDiff, ↓reduceIte]
      · simp only [hget_hset, Nat.reduceEqDiff, ↓reduceIte]
      · simp only [hget_hset, show ¬ k = 131 by omega, show ¬ k = 132 by omega, show ¬ k = 133 by omega, show ¬ k = 134 by omega, show ¬ k = 135 by omega, ↓reduceIte]
set_option maxRecDepth 100000 in
theorem sp_mland {sz : Nat} {ke : Int32} {K : Ld} {t : Nat → Int32} {T W : Nat → Nat → Int32} (hm : rM G q sd K t) (hA : mA K G q sz T) (hS : mS K G ke W) (hB : mB G) (mt : hget G 136 = some (c_ia 48 tx)) (h17 : q 17 = nI len) (hlen : len ≤ 48)
    (hNo : ¬ (rdC tx len len 0 (0, f1, s1, clK K2)).1 = -9 → ∀ G' q', hget G' 124 = some (c_m q' sd) → mB G' → fQ G G' → eQ q q' → Q (some (.int (-3))) G')
    (hYes : ∀ K', rdC tx len len 0 (0, f1, s1, clK K2) = (-9, K') → wfL K' → ∀ G' q', rM G' q' sd K' (aBg K') → mA K' G' q' 0 T → mS K' G' 0 W → mB G' → (∀ j, j ≠ 6 → j ≠ 7 → j ≠ 8 → j ≠ 18 → j ≠ 19 → j ≠ 13 → j ≠ 14 → j ≠ 21 → q' j = q j) → (∀ k, (k < 124 ∨ 136 ≤ k) → k ≠ 145 → hget G' k = hget G k) → Q (some (.int (10 * nI K'.n + nI K'.m))) G') : pcal (d + 5) 102 [.ref 124] G Q := by
  obtain ⟨w, ⟨hmk, hw0, ff, hf⟩, ht⟩ := id hm
  obtain ⟨m0, -, -, -, -, kd, ms, fm, tt, b1', b2', b3', b4', -, -⟩ := id hmk
  refine inX7_land ?_
  simp only [eX7_land_0, eX7_land_1, pe_aload_0, pe_callV_0, m0, m_o, hget_hset, ia_l, ia_s, vin, opl, onl, Int32.reduceLT, Int32.reduceLE, Int32.reduceAdd, Int32.reduceSub, Nat.reduceLT, Nat.reduceAdd, Nat.reduceEqDiff, ↓reduceIte, true_and, and_true, List.length_nil, List.length_cons, Nat.reduceLeDiff, Nat.zero_le]
  refine sp_mreadText (f1 := f1) (s1 := s1) (K0 := K2) m0 hB mt h17 hlen ?_ ?_
  · intro G' q' f e0 e1 e2 e3 e4 e5
    have n9 : ¬ nI f = -9 := m9_nI (by omega)
    simp only [eX7_land_4, eX7_land_6, eX7_land_9, eX7_land_11, pe_const, pe_iceq, pe_iret, n9, hget_hset, ia_l, ia_s, vin, opl, onl, Int32.reduceLT, Int32.reduceLE, Int32.reduceAdd, Int32.reduceSub, Nat.reduceLT, Nat.reduceAdd, Nat.reduceEqDiff, ↓reduceIte, true_and, and_true, List.length_nil, List.length_cons, Nat.reduceLeDiff, Nat.zero_le]
    exact hNo (by rw [e3]; exact n9) G' q' e0 e1 e4 e5
  · intro G1 q1 K' e0 hwf e2 e3 e4
    obtain ⟨y0, -, -, -, -, rk, rh, rr, rf, rt, rg, a1, a2, a3, a4, a5, a6, hr⟩ := e0
    have h7 : q1 7 = nI K'.n := hr.2.1
    have h8 : upd q1 13 (nI K'.n) 8 = nI K'.m := (upd_n (by omega)).trans hr.2.2.1
    have g131 : hget G1 131 = some (c_ia 6 kd) := (e3 _ (by omega)).trans b1'
    have g132 : hget G1 132 = some (c_ia 6 ms) := (e3 _ (by omega)).trans b2'
    have g133 : hget G1 133 = some (c_ia 6 fm) := (e3 _ (by omega)).trans b3'
    have g134 : hget G1 134 = some (c_ia 6 tt) := (e3 _ (by omega)).trans b4'
    have g135 : hget G1 135 = some (c_ia 160 w) := (e3 _ (by omega)).trans hw0
    simp only [eX7_land_4, eX7_land_6, eX7_land_12, eX7_land_13, eX7_land_14, eX7_land_17, eX7_land_20, eX7_land_21, eX7_land_22, eX7_land_25, eX7_land_28, eX7_land_29, pe_aload_0, pe_const, pe_getf, pe_iceq, pe_istore_1, pe_putf, y0, m_g7, m_g8, m_p13, m_p14, h7, h8, hget_hset, ia_l, ia_s, vin, opl, onl, Int32.reduceLT, Int32.reduceLE, Int32.reduceAdd, Int32.reduceSub, Nat.reduceLT, Nat.reduceAdd, Nat.reduceEqDiff, ↓reduceIte, true_and, and_true, List.length_nil, List.length_cons, Nat.reduceLeDiff, Nat.zero_le]
    generalize hq2 : upd (upd q1 13 (nI K'.n)) 14 (nI K'.m) = q2
    have q13 : q2 13 = nI K'.n := by rw [← hq2, upd_n (by omega), upd_y]
    have q14 : q2 14 = nI K'.m := by rw [← hq2, upd_y]
    have qo : ∀ j, j ≠ 13 → j ≠ 14 → q2 j = q1 j := fun j h1 h2 => by rw [← hq2, upd_n h2, upd_n h1]
    have hr2 : rdRel K' q2 rk rh rr rf rt rg := hr.qs (qo _ (by omega) (by omega)) (qo _ (by omega) (by omega)) (qo _ (by omega) (by omega))
    refine mland_loop hwf hr2 q13 (hget_self _ _ _) (by simp only [hget_hset, Nat.reduceEqDiff, ↓reduceIte]; exact a1) (by simp only [hget_hset, Nat.reduceEqDiff, ↓reduceIte]; exact a2) (by simp only [hget_hset, Nat.reduceEqDiff, ↓reduceIte]; exact a3) (by simp only [hget_hset, Nat.reduceEqDiff, ↓reduceIte]; exact a4) (by simp only [hget_hset, Nat.reduceEqDiff, ↓reduceIte]; exact a5) ?_ 6 0 _ kd ms fm tt w _ (by omega) (by simp only [hget_hset, Nat.reduceEqDiff, ↓reduceIte]; exact g131) (by simp only [hget_hset, Nat.reduceEqDiff, ↓reduceIte]; exact g132) (by simp only [hget_hset, Nat.reduceEqDiff, ↓reduceIte]; exact g133) (by simp only [hget_hset, Nat.reduceEqDiff, ↓reduceIte]; exact g134) (by simp only [hget_hset, Nat.reduceEqDiff, ↓reduceIte]; exact g135) (fun p hp => by omega) (fun k hk => rfl)
    intro H kd2 ms2 fm2 tt2 w2 o2 k1 k2 k3 k4 k5 k6 k7
    have z0 : hget H 124 = some (c_m q2 sd) := (k7 _ (by omega)).trans (hget_self _ _ _)
    obtain ⟨zk, kp, e, s1', s2', s3', s4', s5'⟩ := hS
    have z145 : hget H 145 = some (c_za 2 zk) := by
      rw [k7 _ (by omega), hget_ne (by omega), hget_ne (by omega), e3 _ (by omega)]
      exact s1'
    have c18 : (18 : Int32).toNatClampNeg = 18 := by decide
    have c19 : (19 : Int32).toNatClampNeg = 19 := by decide
    have c0 : (0 : Int32).toNatClampNeg = 0 := by decide
    have c1 : (1 : Int32).toNatClampNeg = 1 := by decide
    have z00 : (0 : Int32) &&& 1 = 0 := by decide
    have h6 : q2 6 = K'.oa := hr2.1
    have g13 : ∀ x, upd q2 21 x 13 = nI K'.n := fun x => (upd_n (by omega)).trans q13
    have g14 : ∀ x, upd q2 21 x 14 = nI K'.m := fun x => (upd_n (by omega)).trans q14
    simp only [eX7_land_226, eX7_land_227, eX7_land_230, eX7_land_232, eX7_land_233, eX7_land_236, eX7_land_237, eX7_land_238, eX7_land_241, eX7_land_243, eX7_land_244, eX7_land_245, eX7_land_246, eX7_land_247, eX7_land_250, eX7_land_251, eX7_land_254, eX7_land_255, eX7_land_256, eX7_land_257, eX7_land_258, eX7_land_261, eX7_land_262, eX7_land_263, eX7_land_264, eX7_land_266, eX7_land_267, eX7_land_270, eX7_land_271, eX7_land_272, eX7_land_275, eX7_land_276, pe_aload_0, pe_bin, pe_const, pe_getf, pe_iast, pe_iret, pe_putf, pe_zast, z0, k5, z145, m_g6, m_g13, m_g14, m_g15, m_g32, m_p21, za_s, h6, g13, g14, c0, c1, c18, c19, z00, hget_hset, ia_l, ia_s, vin, opl, onl, Int32.reduceLT, Int32.reduceLE, Int32.reduceAdd, Int32.reduceSub, Nat.reduceLT, Nat.reduceAdd, Nat.reduceEqDiff, ↓reduceIte, true_and, and_true, List.length_nil, List.length_cons, Nat.reduceLeDiff, Nat.zero_le]
    have n6 := hwf.1
    have m6 := hwf.2.1
    have fr1 : ∀ k, (k < 124 ∨ 136 ≤ k) → k ≠ 145 → ∀ c1 c2 c3 c4 c5 : px_E, hget (hset (hset (hset (hset (hset H 135 c1) 135 c2) 124 c3) 145 c4) 145 c5) k = hget G k := by
      intro k h1 h2 c1 c2 c3 c4 c5
      rw [hget_ne h2, hget_ne h2, hget_ne (by omega), hget_ne (by omega), hget_ne (by omega), k7 k (by omega), hget_ne (by omega), hget_ne (by omega)]
      exact e3 k (by omega)
    have fr2 : ∀ k, k < 135 → k ≠ 124 → ∀ c1 c2 c3 c4 c5 : px_E, hget (hset (hset (hset (hset (hset H 135 c1) 135 c2) 124 c3) 145 c4) 145 c5) k = hget H k := by
      intro k h1 h2 c1 c2 c3 c4 c5
      rw [hget_ne (by omega), hget_ne (by omega), hget_ne h2, hget_ne (by omega), hget_ne (by omega)]
    have up : ∀ k, 125 ≤ k → k ≤ 130 → hget H k = hget G1 k := fun k h1 h2 => by
      rw [k7 k (by omega), hget_ne (by omega), hget_ne (by omega)]
    refine hYes K' e2 hwf _ (upd q2 21 0) ⟨upd (upd w2 18 K'.oa) 19 0, ⟨⟨?_, g13 _, g14 _, n6, m6, kd2, ms2, fm2, tt2, ?_, ?_, ?_, ?_, fun p hp => (k6 p (by omega)).1 hp, fun p hp => ?_⟩, ?_, ff, ?_⟩, fun j hj => ?_⟩ ?_ ⟨upd (upd zk 0 0) 1 0, kp, 0, ?_, ?_, by omega, rfl, fun s hs => ⟨?_, fun z => ?_⟩⟩ ⟨rk, rh, rr, rf, rt, rg, ?_, ?_, ?_, ?_, ?_, ?_⟩ ?_ (fun k h1 h2 => fr1 k h1 h2 _ _ _ _ _)
    · simp only [hget_hset, Nat.reduceEqDiff, ↓reduceIte]
    · rw [fr2 _ (by omega) (by omega)]; exact k1
    · rw [fr2 _ (by omega) (by omega)]; exact k2
    · rw [fr2 _ (by omega) (by omega)]; exact k3
    · rw [fr2 _ (by omega) (by omega)]; exact k4
    · obtain ⟨-, f2, f3, -⟩ := k6 p (by omega)
      rw [f2, f3]
      exact hr2.2.2.2.2.1 p hp
    · simp only [hget_hset, Nat.reduceEqDiff, ↓reduceIte]
    · rw [fr1 _ (by omega) (by omega)]; exact hf
    · rw [Nat.mul_zero, Nat.zero_add]
      by_cases j19 : j = 19
      · subst j19; rw [upd_y]; rfl
      · rw [upd_n j19]
        by_cases j18 : j = 18
        · subst j18; rw [upd_y]; rfl
        · rw [upd_n j18]
          rcases (show j < 6 ∨ (6 ≤ j ∧ j < 12) ∨ (12 ≤ j ∧ j < 18) by omega) with z | z | z
          · exact (k6 j z).2.2.2.1
          · have := (k6 (j - 6) (by omega)).2.2.2.2.1
            rw [show 6 + (j - 6) = j by omega] at this
            exact this
          · have := (k6 (j - 12) (by omega)).2.2.2.2.2
            rw [show 12 + (j - 12) = j by omega] at this
            exact this
    · obtain ⟨-, -, nx, rw', x1, x2, x3, -⟩ := hA
      refine ⟨by omega, upd_y, nx, rw', x1, ?_, ?_, fun i hi => by omega⟩
      · rw [upd_n (by omega), qo _ (by omega) (by omega), e4 _ (by omega) (by omega) (by omega) (by omega) (by omega)]
        exact x2
      · rw [fr1 _ (by omega) (by omega)]; exact x3
    · rw [hget_self]
    · rw [fr1 _ (by omega) (by omega)]; exact s2'
    · rcases (show s = 0 ∨ s = 1 by omega) with rfl | rfl
      · rw [upd_n (by omega), upd_y]; decide
      · rw [upd_y]; decide
    · exfalso
      rcases (show s = 0 ∨ s = 1 by omega) with rfl | rfl
      · rw [upd_n (by omega), upd_y] at z; exact absurd z (by decide)
      · rw [upd_y] at z; exact absurd z (by decide)
    · rw [fr2 _ (by omega) (by omega), up _ (by omega) (by omega)]; exact a1
    · rw [fr2 _ (by omega) (by omega), up _ (by omega) (by omega)]; exact a2
    · rw [fr2 _ (by omega) (by omega), up _ (by omega) (by omega)]; exact a3
    · rw [fr2 _ (by omega) (by omega), up _ (by omega) (by omega)]; exact a4
    · rw [fr2 _ (by omega) (by omega), up _ (by omega) (by omega)]; exact a5
    · rw [fr2 _ (by omega) (by omega), up _ (by omega) (by omega)]; exact a6
    · intro j h1 h2 h3 h4 h5 h6 h7 h8
      rw [upd_n h8, qo j h6 h7]
      exact e4 j h1 h2 h3 h4 h5
end ML
