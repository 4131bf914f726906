/-! ===== the class: fault, land ===== -/
section CF
variable {d n la dr sz : Nat} {G : px_H} {ke : Int32} {sd : Int64} {K K2 : Ld} {t tx : Nat → Int32} {T : Nat → Nat → Int32} {a b c : Int32} {Q : px_Q}
set_option maxRecDepth 100000 in
theorem sp_fault (x0 : hget G 2 = some (c_x (nI n) la dr ke sd)) (hlad : lad la dr) (h3 : hget G 3 = some (c_ia 48 tx)) (h4 : hget G 4 = some (c_rd a b c)) (hl : isL G dr K2) (hn : n ≤ 48) (hQ : ∀ G' r, isR G' dr r → fR G G' dr → Q (some (.int (rdC tx n n 0 (0, b, c, clK K2)).1)) G') : pcal (d + 7) 44 [.ref 2] G Q := by
  have dr4 : 4 < dr := by unfold lad at hlad; omega
  refine inX6_fault ?_
  simp only [eX6_fault_0, eX6_fault_1, eX6_fault_4, eX6_fault_5, eX6_fault_8, eX6_fault_9, eX6_fault_12, eX6_fault_13, eX6_fault_16, pe_aload_0, pe_callV_3, pe_getf, x0, h4, x_g0, x_g1, x_g2, x_g4, rd_o, hget_hset, ia_l, ia_s, vin, opl, onl, Int32.reduceLT, Int32.reduceLE, Int32.reduceAdd, Int32.reduceSub, Nat.reduceLT, Nat.reduceAdd, Nat.reduceEqDiff, ↓reduceIte, true_and, and_true, List.length_nil, List.length_cons, Nat.reduceLeDiff, Nat.zero_le]
  refine sp_read dr4 hn h4 hl h3 ?_
  intro G1 r r1 r2 r3
  simp only [eX6_fault_19, pe_iret, hget_hset, ia_l, ia_s, vin, opl, onl, Int32.reduceLT, Int32.reduceLE, Int32.reduceAdd, Int32.reduceSub, Nat.reduceLT, Nat.reduceAdd, Nat.reduceEqDiff, ↓reduceIte, true_and, and_true, List.length_nil, List.length_cons, Nat.reduceLeDiff, Nat.zero_le]
  exact hQ G1 r r1 r3
set_option maxRecDepth 100000 in
theorem sp_land (hr : rX G (nI n) la dr ke sd K t) (hA : isA G sz T) (h3 : hget G 3 = some (c_ia 48 tx)) (h4 : hget G 4 = some (c_rd a b c)) (hl : isL G dr K2) (hn : n ≤ 48)
    (hNo : ¬ (rdC tx n n 0 (0, b, c, clK K2)).1 = -9 → ∀ G' r, isR G' dr r → fR G G' dr → Q (some (.int (-3))) G')
    (hYes : ∀ K', rdC tx n n 0 (0, b, c, clK K2) = (-9, K') → ∀ G', rX G' (nI n) dr la 0 sd K' (aBg K') → isA G' 0 T → isL G' la K → (∃ a b c, hget G' 4 = some (c_rd a b c)) → (∀ k, k ≠ 2 → k ≠ 4 → (k < 5 ∨ 24 ≤ k) → hget G' k = hget G k) → Q (some (.int (10 * nI K'.n + nI K'.m))) G') : pcal (d + 7) 45 [.ref 2] G Q := by
  obtain ⟨⟨x0, hlad, hll, hz⟩, hs, ⟨u, hu⟩, v, hv⟩ := id hr
  have dr4 : 4 < dr := by unfold lad at hlad; omega
  refine inX6_land ?_
  simp only [eX6_land_0, eX6_land_1, eX6_land_4, eX6_land_5, eX6_land_8, eX6_land_9, eX6_land_12, eX6_land_13, eX6_land_16, pe_aload_0, pe_callV_3, pe_getf, x0, h4, x_g0, x_g1, x_g2, x_g4, rd_o, hget_hset, ia_l, ia_s, vin, opl, onl, Int32.reduceLT, Int32.reduceLE, Int32.reduceAdd, Int32.reduceSub, Nat.reduceLT, Nat.reduceAdd, Nat.reduceEqDiff, ↓reduceIte, true_and, and_true, List.length_nil, List.length_cons, Nat.reduceLeDiff, Nat.zero_le]
  refine sp_read dr4 hn h4 hl h3 ?_
  intro G1 r r1 r2 r3
  simp only [eX6_land_19, eX6_land_21, eX6_land_24, eX6_land_26, pe_const, pe_iceq, pe_iret, hget_hset, ia_l, ia_s, vin, opl, onl, Int32.reduceLT, Int32.reduceLE, Int32.reduceAdd, Int32.reduceSub, Nat.reduceLT, Nat.reduceAdd, Nat.reduceEqDiff, ↓reduceIte, true_and, and_true, List.length_nil, List.length_cons, Nat.reduceLeDiff, Nat.zero_le]
  split
  · rename_i u9
    obtain ⟨q1, q2, q3⟩ := id r1
    generalize hK : r.2.2.2 = K' at *
    have hrd : rdC tx n n 0 (0, b, c, clK K2) = (-9, K') := by rw [← u9, ← r2]
    have y0 : hget G1 2 = some (c_x (nI n) la dr ke sd) := (r3 _ (by omega) (by omega)).trans x0
    have s1 : isS G1 19 t := hs.kept (fun k h1 h2 => r3 k (by omega) (by unfold lad at hlad; omega))
    have o1 := s1.obj
    have l1 : isL (hset (hset G1 2 (c_x (nI n) dr dr ke sd)) 2 (c_x (nI n) dr la ke sd)) dr K' := q3.kept (fun k h1 h2 => by rw [hget_ne (by omega), hget_ne (by omega)])
    have s2 : isS (hset (hset G1 2 (c_x (nI n) dr dr ke sd)) 2 (c_x (nI n) dr la ke sd)) 19 t := s1.kept (fun k h1 h2 => by rw [hget_ne (by omega), hget_ne (by omega)])
    simp only [eX6_land_27, eX6_land_28, eX6_land_31, eX6_land_32, eX6_land_33, eX6_land_34, eX6_land_37, eX6_land_40, eX6_land_41, eX6_land_42, eX6_land_45, eX6_land_46, eX6_land_49, eX6_land_50, eX6_land_53, pe_aload_0, pe_aload_1, pe_astore_1, pe_callV_1, pe_getf, pe_putf, y0, o1, x_g3, x_g4, x_g6, x_p3, x_p4, sc_g0, sc_g1, sc_g2, sc_g3, sc_g4, sc_p3, sc_p4, sc_o, hget_hset, ia_l, ia_s, vin, opl, onl, Int32.reduceLT, Int32.reduceLE, Int32.reduceAdd, Int32.reduceSub, Nat.reduceLT, Nat.reduceAdd, Nat.reduceEqDiff, ↓reduceIte, true_and, and_true, List.length_nil, List.length_cons, Nat.reduceLeDiff, Nat.zero_le]
    refine sp_begin s2 l1 (by unfold lad at hlad; omega) ?_
    intro G2 e1 e2
    have z0 : hget G2 2 = some (c_x (nI n) dr la ke sd) := (e2 _ (by omega)).trans (hget_self _ _ _)
    have a23 : hget G2 23 = some (c_ac 23 (nI sz)) := by
      rw [e2 _ (by omega), hget_ne (by omega), hget_ne (by omega), r3 _ (by omega) (by unfold lad at hlad; omega)]
      exact hA.1
    simp only [eX6_land_56, eX6_land_57, eX6_land_60, pe_aload_0, pe_callV_0, pe_getf, z0, a23, x_g7, ac_o, hget_hset, ia_l, ia_s, vin, opl, onl, Int32.reduceLT, Int32.reduceLE, Int32.reduceAdd, Int32.reduceSub, Nat.reduceLT, Nat.reduceAdd, Nat.reduceEqDiff, ↓reduceIte, true_and, and_true, List.length_nil, List.length_cons, Nat.reduceLeDiff, Nat.zero_le]
    refine sp_forget a23 ?_
    have l3 : isL G2 dr K' := l1.kept (fun k h1 h2 => e2 k (by unfold lad at hlad; omega))
    have l30 : hget (hset (hset G2 23 (c_ac 23 0)) 2 (c_x (nI n) dr la 0 sd)) dr = some (c_ld dr K'.oa (nI K'.n) (nI K'.m)) := by
      rw [hget_ne (by omega), hget_ne (by unfold lad at hlad; omega)]
      exact l3.1
    have z1 : hget (hset G2 23 (c_ac 23 0)) 2 = some (c_x (nI n) dr la ke sd) := by rw [hget_ne (by omega)]; exact z0
    have l31 : hget G2 dr = some (c_ld dr K'.oa (nI K'.n) (nI K'.m)) := l3.1
    have nd2 : ¬ dr = 2 := by omega
    have nd23 : ¬ dr = 23 := by unfold lad at hlad; omega
    simp only [eX6_land_63, eX6_land_64, eX6_land_65, eX6_land_68, eX6_land_70, eX6_land_71, eX6_land_74, eX6_land_77, eX6_land_78, eX6_land_79, eX6_land_82, eX6_land_85, eX6_land_86, pe_aload_0, pe_bin, pe_const, pe_getf, pe_iret, pe_putf, z0, z1, l31, nd2, nd23, x_g3, x_p10, ld_g0, ld_g1, ld_g2, ld_g3, ld_g4, ld_g5, ld_g6, ld_g7, ld_p5, ld_p6, ld_p7, ld_o, hget_hset, ia_l, ia_s, vin, opl, onl, Int32.reduceLT, Int32.reduceLE, Int32.reduceAdd, Int32.reduceSub, Nat.reduceLT, Nat.reduceAdd, Nat.reduceEqDiff, ↓reduceIte, true_and, and_true, List.length_nil, List.length_cons, Nat.reduceLeDiff, Nat.zero_le]
    have fr1 : ∀ k, k ≠ 2 → k ≠ 4 → (k < dr ∨ dr + 6 ≤ k) → (k < 19 ∨ 24 ≤ k) → hget (hset (hset G2 23 (c_ac 23 0)) 2 (c_x (nI n) dr la 0 sd)) k = hget G k := by
      intro k h1 h2 h3' h4'
      rw [hget_ne (by omega), hget_ne (by omega), e2 k (by omega), hget_ne (by omega), hget_ne (by omega)]
      exact r3 k h2 h3'
    have hd17 : dr + 6 ≤ 17 ∧ 5 ≤ dr ∧ 5 ≤ la ∧ la + 6 ≤ 17 ∧ (la + 6 ≤ dr ∨ dr + 6 ≤ la) := by unfold lad at hlad; omega
    refine hYes K' hrd _ ⟨⟨hget_self _ _ _, ?_, ?_, ?_⟩, ?_, ⟨u, ?_⟩, v, ?_⟩ ?_ ?_ ?_ ?_
    · unfold lad at hlad ⊢; omega
    · exact l3.kept (fun k h1 h2 => by rw [hget_ne (by omega), hget_ne (by omega)])
    · exact hz.kept (fr1 _ (by omega) (by omega) (by omega) (by omega)) (fr1 _ (by omega) (by omega) (by omega) (by omega))
    · exact e1.kept (fun k h1 h2 => by rw [hget_ne (by omega), hget_ne (by omega)])
    · exact hu.kept (fun k h1 h2 => fr1 k (by omega) (by omega) (by omega) (by omega))
    · exact hv.kept (fun k h1 h2 => fr1 k (by omega) (by omega) (by omega) (by omega))
    · obtain ⟨-, -, rr, pm, h24, h5, h6, -⟩ := hA
      refine ⟨?_, by omega, rr, pm, ?_, fun i hi => ⟨(h5 i hi).1, (h5 i hi).2.1, ?_⟩, h6, fun i hi => by omega⟩
      · rw [hget_ne (by omega), hget_self]; rfl
      · rw [fr1 _ (by omega) (by omega) (by omega) (by omega)]; exact h24
      · obtain ⟨tt, htt⟩ := (h5 i hi).2.2
        exact ⟨tt, htt.kept (fun k h1 h2 => fr1 k (by omega) (by omega) (by omega) (by omega))⟩
    · exact hll.kept (fun k h1 h2 => fr1 k (by omega) (by omega) (by omega) (by omega))
    · refine ⟨nI r.1, r.2.1, r.2.2.1, ?_⟩
      rw [hget_ne (by omega), hget_ne (by omega), e2 _ (by omega), hget_ne (by omega), hget_ne (by omega)]
      exact q2
    · intro k h1 h2 h3'
      exact fr1 k h1 h2 (by omega) (by omega)
  · rename_i u9
    exact hNo u9 G1 r r1 r3
end CF
