/-! ===== the reference: dams, factorial, dung by those who come ===== -/
section MX
variable {d : Nat} {G : px_H} {q : Nat → Int32} {sd : Int64} {K : Ld} {t : Nat → Int32} {c o : Nat} {Q : px_Q}
set_option maxRecDepth 100000 in
theorem sp_mdams (hm : mK G q sd K) (hQ : Q (some (.int (aOf K 0 K.n))) G) : pcal (d + 1) 135 [.ref 124] G Q := by
  obtain ⟨m0, m1, m2, m3, m4, kd, ms, fm, tt, a1, a2, a3, a4, a5, a6⟩ := hm
  refine inX7_dams ?_
  have key : ∀ k i acc, i + k = K.n → acc = aOf K 0 i → pr d 135 (G.1 + 0, G.2.1 + 0) Q 4 [some (.ref 124), some (.int acc), some (.int (nI i))] [] G := by
    intro k
    induction k with
    | zero =>
      intro i acc hi hacc
      obtain rfl : i = K.n := by omega
      simp only [eX7_dams_4, eX7_dams_5, eX7_dams_6, eX7_dams_9, eX7_dams_37, eX7_dams_38, pe_aload_0, pe_getf, pe_iclt, pe_iload_1, pe_iload_2, pe_iret, m0, m_g13, m1, niE, hget_hset, ia_l, ia_s, vin, opl, onl, Int32.reduceLT, Int32.reduceLE, Int32.reduceAdd, Int32.reduceSub, Nat.reduceLT, Nat.reduceAdd, Nat.reduceEqDiff, ↓reduceIte, true_and, and_true, List.length_nil, List.length_cons, Nat.reduceLeDiff, Nat.zero_le]
      rw [hacc]
      exact hQ
    | succ k ih =>
      intro i acc hi hacc
      obtain ⟨c1, c2, c3, c4⟩ := niL (i := i) (n := K.n) (by omega) m3
      have f3 := (a5 i (by omega)).1
      rw [eX7_dams_4]
      simp only [eX7_dams_5, eX7_dams_6, eX7_dams_9, eX7_dams_12, eX7_dams_13, eX7_dams_14, eX7_dams_17, eX7_dams_18, eX7_dams_19, eX7_dams_22, eX7_dams_23, eX7_dams_24, eX7_dams_25, eX7_dams_28, eX7_dams_29, eX7_dams_30, eX7_dams_31, eX7_dams_34, pe_aload_0, pe_bin, pe_const, pe_getf, pe_goto, pe_iald, pe_iclt, pe_ifeq, pe_iinc_2, pe_iload_1, pe_iload_2, pe_istore_1, m0, m_g9, m_g13, m1, a1, c1, c2, c3, c4, f3, nisw, b1_e, hget_hset, ia_l, ia_s, vin, opl, onl, Int32.reduceLT, Int32.reduceLE, Int32.reduceAdd, Int32.reduceSub, Nat.reduceLT, Nat.reduceAdd, Nat.reduceEqDiff, ↓reduceIte, true_and, and_true, List.length_nil, List.length_cons, Nat.reduceLeDiff, Nat.zero_le]
      split
      · rename_i hc
        exact ih (i + 1) _ (by omega) (by rw [hacc, aOf, aOf, ob, if_pos hc])
      · rename_i hc
        exact ih (i + 1) _ (by omega) (by rw [hacc, aOf, aOf, ob, if_neg hc])
  simp only [eX7_dams_0, eX7_dams_1, eX7_dams_2, eX7_dams_3, pe_const, pe_istore_1, pe_istore_2, hget_hset, ia_l, ia_s, vin, opl, onl, Int32.reduceLT, Int32.reduceLE, Int32.reduceAdd, Int32.reduceSub, Nat.reduceLT, Nat.reduceAdd, Nat.reduceEqDiff, ↓reduceIte, true_and, and_true, List.length_nil, List.length_cons, Nat.reduceLeDiff, Nat.zero_le]
  exact key K.n 0 0 (by omega) rfl
set_option maxRecDepth 100000 in
theorem sp_mfactorial {N : Nat} (hN : N ≤ 6) (hQ : Q (some (.int (px_fac N))) G) : pcal (d + 1) 133 [.int (nI N)] G Q := by
  refine inX7_factorial ?_
  have st : ∀ i, i ≤ 5 → 2 ≤ i + 1 → px_fac i * nI (i + 1) = px_fac (i + 1) := by decide +kernel
  have key : ∀ j i v, i + 1 + j = N + 1 → 1 ≤ i → v = px_fac i → pr d 133 (G.1 + 0, G.2.1 + 0) Q 4 [some (.int (nI N)), some (.int v), some (.int (nI (i + 1)))] [] G := by
    intro j
    induction j with
    | zero =>
      intro i v hi h1 hv
      obtain rfl : i = N := by omega
      have c1 : nI i < nI (i + 1) := nI_lt (by omega) (by omega)
      simp only [eX7_factorial_4, eX7_factorial_5, eX7_factorial_6, eX7_factorial_19, eX7_factorial_20, pe_icgt, pe_iload_0, pe_iload_1, pe_iload_2, pe_iret, c1, hget_hset, ia_l, ia_s, vin, opl, onl, Int32.reduceLT, Int32.reduceLE, Int32.reduceAdd, Int32.reduceSub, Nat.reduceLT, Nat.reduceAdd, Nat.reduceEqDiff, ↓reduceIte, true_and, and_true, List.length_nil, List.length_cons, Nat.reduceLeDiff, Nat.zero_le]
      rw [hv]
      exact hQ
    | succ j ih =>
      intro i v hi h1 hv
      have c1 : ¬ nI N < nI (i + 1) := nI_nlt (by omega) (by omega)
      rw [eX7_factorial_4]
      simp only [eX7_factorial_5, eX7_factorial_6, eX7_factorial_9, eX7_factorial_10, eX7_factorial_11, eX7_factorial_12, eX7_factorial_13, eX7_factorial_16, pe_bin, pe_goto, pe_icgt, pe_iinc_2, pe_iload_0, pe_iload_1, pe_iload_2, pe_istore_1, c1, nisw, hget_hset, ia_l, ia_s, vin, opl, onl, Int32.reduceLT, Int32.reduceLE, Int32.reduceAdd, Int32.reduceSub, Nat.reduceLT, Nat.reduceAdd, Nat.reduceEqDiff, ↓reduceIte, true_and, and_true, List.length_nil, List.length_cons, Nat.reduceLeDiff, Nat.zero_le]
      exact ih (i + 1) _ (by omega) (by omega) (by rw [hv]; exact st i (by omega) (by omega))
  have c2 : (2 : Int32) = nI 2 := rfl
  simp only [eX7_factorial_0, eX7_factorial_1, eX7_factorial_2, eX7_factorial_3, pe_const, pe_istore_1, pe_istore_2, hget_hset, ia_l, ia_s, vin, opl, onl, Int32.reduceLT, Int32.reduceLE, Int32.reduceAdd, Int32.reduceSub, Nat.reduceLT, Nat.reduceAdd, Nat.reduceEqDiff, ↓reduceIte, true_and, and_true, List.length_nil, List.length_cons, Nat.reduceLeDiff, Nat.zero_le]
  by_cases z : N = 0
  · subst z
    have c1 : nI 0 < 2 := by decide
    simp only [eX7_factorial_4, eX7_factorial_5, eX7_factorial_6, eX7_factorial_19, eX7_factorial_20, pe_icgt, pe_iload_0, pe_iload_1, pe_iload_2, pe_iret, c1, hget_hset, ia_l, ia_s, vin, opl, onl, Int32.reduceLT, Int32.reduceLE, Int32.reduceAdd, Int32.reduceSub, Nat.reduceLT, Nat.reduceAdd, Nat.reduceEqDiff, ↓reduceIte, true_and, and_true, List.length_nil, List.length_cons, Nat.reduceLeDiff, Nat.zero_le]
    exact hQ
  · exact key (N - 1) 1 1 (by omega) (by omega) rfl
set_option maxRecDepth 100000 in
theorem sp_mdungBy {r D k : Nat} {w : Nat → Int32} (hw : mW G q sd K w) (ht : sM K w 0 t) (hv : vK K) (hvf : vF K) (hok : okT K c t) (hk : k ≤ 12) (hr : r < 64) (hD : D < 64) (hD2 : aOf K 0 K.n = nI D) (hQ : ∀ G' w', mW G' q sd K w' → sM K w' 0 t → fM G G' → Q (some (.int (aDu (aH K (nI (wo D r)) k t) 6))) G') : pcal (d + 5) 136 [.ref 124, .int (nI r), .int (nI k)] G Q := by
  have hn6 := hv.1.1
  obtain ⟨hk', hw0, f, hf⟩ := id hw
  have m0 := hk'.1
  obtain ⟨e1, e2⟩ := nI_wo D r hD hr
  refine inX7_dungBy ?_
  simp only [eX7_dungBy_0, eX7_dungBy_1, eX7_dungBy_2, eX7_dungBy_3, pe_aload_0, pe_callV_2, pe_const, m0, m_o, hget_hset, ia_l, ia_s, vin, opl, onl, Int32.reduceLT, Int32.reduceLE, Int32.reduceAdd, Int32.reduceSub, Nat.reduceLT, Nat.reduceAdd, Nat.reduceEqDiff, ↓reduceIte, true_and, and_true, List.length_nil, List.length_cons, Nat.reduceLeDiff, Nat.zero_le]
  refine sp_lay (A := 0) (B := 1) rfl rfl (by omega) (by omega) (by omega) m0 hw0 ht ?_
  intro G1 w1 g1 g2 g3 g4
  have f1 : fM G G1 := fun k a b => g4 k a
  have y0 : hget G1 124 = some (c_m q sd) := (g4 _ (by omega)).trans m0
  simp only [eX7_dungBy_6, eX7_dungBy_7, eX7_dungBy_8, eX7_dungBy_9, eX7_dungBy_10, pe_aload_0, pe_callV_0, pe_const, pe_iload_2, y0, m_o, hget_hset, ia_l, ia_s, vin, opl, onl, Int32.reduceLT, Int32.reduceLE, Int32.reduceAdd, Int32.reduceSub, Nat.reduceLT, Nat.reduceAdd, Nat.reduceEqDiff, ↓reduceIte, true_and, and_true, List.length_nil, List.length_cons, Nat.reduceLeDiff, Nat.zero_le]
  refine sp_mdams (hk'.fM f1) ?_
  rw [hD2]
  simp only [eX7_dungBy_13, eX7_dungBy_14, eX7_dungBy_15, eX7_dungBy_16, eX7_dungBy_17, pe_bin, pe_callV_3, pe_const, pe_iload_1, e1, y0, m_o, hget_hset, ia_l, ia_s, vin, opl, onl, Int32.reduceLT, Int32.reduceLE, Int32.reduceAdd, Int32.reduceSub, Nat.reduceLT, Nat.reduceAdd, Nat.reduceEqDiff, ↓reduceIte, true_and, and_true, List.length_nil, List.length_cons, Nat.reduceLeDiff, Nat.zero_le]
  refine sp_mpasses (L := 1) (xx := wo D r) (w := w1) (t := t) rfl (by omega) rfl e2 rfl (by omega) ⟨hk'.fM f1, g1, f, (g4 _ (by omega)).trans hf⟩ hv hvf g2 hok ?_
  intro G2 w2 s1 s2 s3 s4
  have z0 := s1.1.1
  simp only [eX7_dungBy_20, eX7_dungBy_21, eX7_dungBy_22, pe_aload_0, pe_callV_1, pe_const, z0, m_o, hget_hset, ia_l, ia_s, vin, opl, onl, Int32.reduceLT, Int32.reduceLE, Int32.reduceAdd, Int32.reduceSub, Nat.reduceLT, Nat.reduceAdd, Nat.reduceEqDiff, ↓reduceIte, true_and, and_true, List.length_nil, List.length_cons, Nat.reduceLeDiff, Nat.zero_le]
  refine sp_mallDung (L := 1) rfl (by omega) s1.1 s1.2.1 s2 ?_
  rw [aDu_n hn6 (okT_aH hv hok _ k)]
  simp only [eX7_dungBy_25, pe_iret, hget_hset, ia_l, ia_s, vin, opl, onl, Int32.reduceLT, Int32.reduceLE, Int32.reduceAdd, Int32.reduceSub, Nat.reduceLT, Nat.reduceAdd, Nat.reduceEqDiff, ↓reduceIte, true_and, and_true, List.length_nil, List.length_cons, Nat.reduceLeDiff, Nat.zero_le]
  exact hQ G2 w2 s1 (ht.fL (g3.tr s3) (by omega)) (f1.tr s4)
end MX
