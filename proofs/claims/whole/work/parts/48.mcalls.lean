/-! ===== the reference: behind, by, place, ditch ===== -/
section MD
variable {d : Nat} {G : px_H} {q : Nat → Int32} {sd : Int64} {K : Ld} {t : Nat → Int32} {c o : Nat} {Q : px_Q}
theorem hP_nI {n : Nat} (hn : n ≤ 6) {x : Int32} (h : hP n x = true) : ∃ i, i < n ∧ x = nI i := by
  unfold hP at h
  simp only [Bool.and_eq_true, decide_eq_true_eq] at h
  obtain ⟨j, hj, rfl⟩ := nI_of (x := x) (Int32.not_lt.mpr h.1)
  exact ⟨j, (nI_ltI hj (by omega)).mp h.2, rfl⟩
theorem so_self {t : Nat → Int32} : so t (t 18) = t := by
  funext j
  unfold so
  split
  · rename_i e; rw [e]
  · rfl
set_option maxRecDepth 100000 in
theorem sp_mbehind {p h x : Int32} (hm : oM G q sd K t c o) (hQ : ∀ G', rM G' q sd K t → fM G G' → Q (some (.int (aBe K t p h x))) G') : pcal (d + 6) 122 [.ref 124, .int p, .int h, .int x] G Q := by
  obtain ⟨⟨w, hw, ht⟩, hv, hvf, hok, ho, -, hvn⟩ := id hm
  have hm6 := hv.1.2.1
  have hn6 := hv.1.1
  obtain ⟨⟨m0, mr⟩, hw0, f, hf⟩ := id hw
  have no := hQ G ⟨w, hw, ht⟩ (fun _ _ _ => rfl)
  refine inX7_behind ?_
  simp only [eX7_behind_0, eX7_behind_1, eX7_behind_2, pe_aload_0, pe_callV_1, pe_iload_1, m0, m_o, hget_hset, ia_l, ia_s, vin, opl, onl, Int32.reduceLT, Int32.reduceLE, Int32.reduceAdd, Int32.reduceSub, Nat.reduceLT, Nat.reduceAdd, Nat.reduceEqDiff, ↓reduceIte, true_and, and_true, List.length_nil, List.length_cons, Nat.reduceLeDiff, Nat.zero_le]
  refine sp_isPlace hw.1 ?_
  simp only [eX7_behind_5, eX7_behind_8, eX7_behind_9, eX7_behind_10, eX7_behind_11, eX7_behind_12, eX7_behind_13, eX7_behind_16, pe_callS_3, pe_const, pe_i2l, pe_ifeq, pe_iload_2, pe_iret, zB_0, hget_hset, ia_l, ia_s, vin, opl, onl, Int32.reduceLT, Int32.reduceLE, Int32.reduceAdd, Int32.reduceSub, Nat.reduceLT, Nat.reduceAdd, Nat.reduceEqDiff, ↓reduceIte, true_and, and_true, List.length_nil, List.length_cons, Nat.reduceLeDiff, Nat.zero_le]
  split
  · rename_i u0
    rw [aBe, if_pos u0] at no
    exact no
  · rename_i u0
    obtain ⟨i, hi, rfl⟩ := hP_nI hn6 (nt u0)
    refine sp_in (a := 0) (b := 12) rfl rfl ?_
    rw [iN_hr]
    simp only [eX7_behind_19, eX7_behind_22, eX7_behind_23, eX7_behind_24, eX7_behind_25, eX7_behind_26, eX7_behind_32, eX7_behind_34, pe_callS_3, pe_const, pe_i2l, pe_ifeq, pe_iload_3, pe_iret, zB_0, hget_hset, ia_l, ia_s, vin, opl, onl, Int32.reduceLT, Int32.reduceLE, Int32.reduceAdd, Int32.reduceSub, Nat.reduceLT, Nat.reduceAdd, Nat.reduceEqDiff, ↓reduceIte, true_and, and_true, List.length_nil, List.length_cons, Nat.reduceLeDiff, Nat.zero_le]
    split
    · rename_i u1
      rw [aBe, if_neg u0, if_pos (Or.inl u1)] at no
      exact no
    · rename_i u1
      refine sp_in (a := 0) (b := 1) rfl rfl ?_
      simp only [eX7_behind_29, eX7_behind_32, eX7_behind_34, pe_const, pe_ifeq, pe_iret, zB_0, iN_f, hget_hset, ia_l, ia_s, vin, opl, onl, Int32.reduceLT, Int32.reduceLE, Int32.reduceAdd, Int32.reduceSub, Nat.reduceLT, Nat.reduceAdd, Nat.reduceEqDiff, ↓reduceIte, true_and, and_true, List.length_nil, List.length_cons, Nat.reduceLeDiff, Nat.zero_le]
      split
      · rename_i u2
        rw [aBe, if_neg u0, if_pos (Or.inr u2)] at no
        exact no
      · rename_i u2
        obtain ⟨k, hk, rfl⟩ := aHr_of (nt u1)
        have hkc : (nI k).toNatClampNeg = k := nI_clamp (by omega)
        have hic : (nI i).toNatClampNeg = i := nI_clamp (by omega)
        have un : ¬ (aHr (nI k) = false ∨ x < 0 ∨ 1 < x) := fun z => z.elim u1 u2
        rw [aBe, if_neg u0, if_neg un, hkc, hic] at hQ
        simp only [eX7_behind_35, eX7_behind_36, eX7_behind_37, eX7_behind_38, pe_aload_0, pe_callV_2, pe_const, m0, m_o, hget_hset, ia_l, ia_s, vin, opl, onl, Int32.reduceLT, Int32.reduceLE, Int32.reduceAdd, Int32.reduceSub, Nat.reduceLT, Nat.reduceAdd, Nat.reduceEqDiff, ↓reduceIte, true_and, and_true, List.length_nil, List.length_cons, Nat.reduceLeDiff, Nat.zero_le]
        refine sp_lay (A := 0) (B := 1) rfl rfl (by omega) (by omega) (by omega) m0 hw0 ht ?_
        intro G1 w1 e1 e2 e3 e4
        have y0 : hget G1 124 = some (c_m q sd) := (e4 _ (by omega)).trans m0
        have f1 : fM G G1 := fun k q1 q2 => e4 k q1
        simp only [eX7_behind_41, eX7_behind_42, eX7_behind_43, eX7_behind_44, eX7_behind_45, pe_aload_0, pe_callV_3, pe_const, pe_iload_2, y0, m_o, hget_hset, ia_l, ia_s, vin, opl, onl, Int32.reduceLT, Int32.reduceLE, Int32.reduceAdd, Int32.reduceSub, Nat.reduceLT, Nat.reduceAdd, Nat.reduceEqDiff, ↓reduceIte, true_and, and_true, List.length_nil, List.length_cons, Nat.reduceLeDiff, Nat.zero_le]
        refine sp_mpasses (L := 1) (xx := 0) (w := w1) (t := t) rfl (by omega) rfl (by omega) rfl (by omega) ⟨hw.1.fM f1, e1, f, by rw [e4 _ (by omega)]; exact hf⟩ hv hvf e2 hok ?_
        intro G' w' g1 g2 g3 g4
        have z0 := g1.1.1
        have z1 := g1.2.1
        have fin := hQ G' ⟨w', g1, ht.fL (e3.tr g3) (by omega)⟩ (f1.tr g4)
        have es : sT K t k (t 18) = aH K 0 k t := by unfold sT; rw [so_self]
        rw [es] at fin
        obtain ⟨a1, a2⟩ := ni160 (i := 20 + i) (by omega)
        obtain ⟨a3, a4⟩ := ni160 (i := 20 + i + 6) (by omega)
        have a5 : 20 + i < 160 := by omega
        have a6 : 20 + i + 6 < 160 := by omega
        have n20 : (20 : Int32) + nI i = nI (20 + i) := nI_add 20 i
        have b1 : w' (20 + i) = aH K 0 k t i := g2 i (by omega)
        have b2 : w' (20 + i + 6) = aH K 0 k t (6 + i) := by
          have := g2 (6 + i) (by omega)
          rw [show 20 * 1 + (6 + i) = 20 + i + 6 by omega] at this
          exact this
        simp only [eX7_behind_48, eX7_behind_49, eX7_behind_52, eX7_behind_54, eX7_behind_55, eX7_behind_56, eX7_behind_57, eX7_behind_60, eX7_behind_61, eX7_behind_64, eX7_behind_66, eX7_behind_67, eX7_behind_68, pe_aload_0, pe_bin, pe_const, pe_getf, pe_goto, pe_iald, pe_ifeq, pe_iload_1, pe_iload_3, pe_iret, z0, z1, m_g15, n20, nI_c6, Int32.add_zero, a1, a2, a3, a4, a5, a6, b1, b2, hget_hset, ia_l, ia_s, vin, opl, onl, Int32.reduceLT, Int32.reduceLE, Int32.reduceAdd, Int32.reduceSub, Nat.reduceLT, Nat.reduceAdd, Nat.reduceEqDiff, ↓reduceIte, true_and, and_true, List.length_nil, List.length_cons, Nat.reduceLeDiff, Nat.zero_le]
        split
        · rename_i u3
          rw [if_pos u3] at fin
          exact fin
        · rename_i u3
          rw [if_neg u3] at fin
          exact fin
set_option maxRecDepth 100000 in
theorem sp_mby {u h x : Int32} (hm : oM G q sd K t c o) (hQ : ∀ G', rM G' q sd K t → fM G G' → (byR K u h x → Q (some (.int (-2))) G') ∧ (¬ byR K u h x → Q (some (.int (byA K (sT K t h.toNatClampNeg u) x))) G')) : pcal (d + 6) 124 [.ref 124, .int u, .int h, .int x] G Q := by
  obtain ⟨⟨w, hw, ht⟩, hv, hvf, hok, ho, -, hvn⟩ := id hm
  have hm6 := hv.1.2.1
  have hn6 := hv.1.1
  obtain ⟨m0, -, m2, -⟩ := id hw.1
  have no := (hQ G ⟨w, hw, ht⟩ (fun _ _ _ => rfl)).1
  refine inX7_by ?_
  simp only [eX7_by_0, eX7_by_1, eX7_by_2, eX7_by_3, eX7_by_4, eX7_by_5, eX7_by_8, eX7_by_9, eX7_by_10, eX7_by_11, eX7_by_12, pe_aload_0, pe_bin, pe_callS_3, pe_const, pe_getf, pe_i2l, pe_iload_1, m0, m_g14, m2, b1_e, allD hm6, hget_hset, ia_l, ia_s, vin, opl, onl, Int32.reduceLT, Int32.reduceLE, Int32.reduceAdd, Int32.reduceSub, Nat.reduceLT, Nat.reduceAdd, Nat.reduceEqDiff, ↓reduceIte, true_and, and_true, List.length_nil, List.length_cons, Nat.reduceLeDiff, Nat.zero_le]
  refine sp_in (a := 0) (b := nI (2 ^ K.m - 1)) rfl rfl ?_
  simp only [eX7_by_15, eX7_by_18, eX7_by_19, eX7_by_20, eX7_by_21, eX7_by_24, eX7_by_42, eX7_by_44, pe_callS_3, pe_const, pe_i2l, pe_ifeq, pe_iload_2, pe_iret, zB_0, iN_f, hget_hset, ia_l, ia_s, vin, opl, onl, Int32.reduceLT, Int32.reduceLE, Int32.reduceAdd, Int32.reduceSub, Nat.reduceLT, Nat.reduceAdd, Nat.reduceEqDiff, ↓reduceIte, true_and, and_true, List.length_nil, List.length_cons, Nat.reduceLeDiff, Nat.zero_le]
  split
  · rename_i u0
    exact no (u0.elim (fun z => Or.inl z) (fun z => Or.inr (Or.inl z)))
  · rename_i u0
    refine sp_in (a := 0) (b := 12) rfl rfl ?_
    rw [iN_hr]
    simp only [eX7_by_27, eX7_by_30, eX7_by_31, eX7_by_32, eX7_by_33, eX7_by_36, eX7_by_42, eX7_by_44, pe_callS_3, pe_const, pe_i2l, pe_ifeq, pe_iload_3, pe_iret, zB_0, hget_hset, ia_l, ia_s, vin, opl, onl, Int32.reduceLT, Int32.reduceLE, Int32.reduceAdd, Int32.reduceSub, Nat.reduceLT, Nat.reduceAdd, Nat.reduceEqDiff, ↓reduceIte, true_and, and_true, List.length_nil, List.length_cons, Nat.reduceLeDiff, Nat.zero_le]
    split
    · rename_i u1
      exact no (Or.inr (Or.inr (Or.inl u1)))
    · rename_i u1
      refine sp_in (a := 0) (b := 3) rfl rfl ?_
      simp only [eX7_by_39, eX7_by_42, eX7_by_44, pe_const, pe_ifeq, pe_iret, zB_0, iN_f, hget_hset, ia_l, ia_s, vin, opl, onl, Int32.reduceLT, Int32.reduceLE, Int32.reduceAdd, Int32.reduceSub, Nat.reduceLT, Nat.reduceAdd, Nat.reduceEqDiff, ↓reduceIte, true_and, and_true, List.length_nil, List.length_cons, Nat.reduceLeDiff, Nat.zero_le]
      split
      · rename_i u2
        exact no (Or.inr (Or.inr (Or.inr u2)))
      · rename_i u2
        have un : ¬ byR K u h x := by
          rintro (z | z | z | z)
          · exact u0 (Or.inl z)
          · exact u0 (Or.inr z)
          · exact u1 z
          · exact u2 z
        obtain ⟨k, hk, rfl⟩ := aHr_of (nt u1)
        have hkc : (nI k).toNatClampNeg = k := nI_clamp (by omega)
        rw [hkc] at hQ
        have okS : okT K c (sT K t k u) := okT_aH hv (okT_so hok _) 0 k
        simp only [eX7_by_45, eX7_by_46, eX7_by_47, eX7_by_48, pe_aload_0, pe_callV_2, pe_iload_1, pe_iload_2, m0, m_o, hget_hset, ia_l, ia_s, vin, opl, onl, Int32.reduceLT, Int32.reduceLE, Int32.reduceAdd, Int32.reduceSub, Nat.reduceLT, Nat.reduceAdd, Nat.reduceEqDiff, ↓reduceIte, true_and, and_true, List.length_nil, List.length_cons, Nat.reduceLeDiff, Nat.zero_le]
        refine sp_mrun rfl hk hw hv hvf ht hok ?_
        intro G1 w1 e1 e2 e3 e4 e5
        have z0 := e1.1.1
        have fin := (hQ G1 ⟨w1, e1, e2⟩ e5).2 un
        unfold byA at fin
        simp only [eX7_by_51, eX7_by_52, eX7_by_55, eX7_by_56, eX7_by_57, pe_aload_0, pe_callV_1, pe_const, pe_ifeq, pe_iload_3, z0, m_o, hget_hset, ia_l, ia_s, vin, opl, onl, Int32.reduceLT, Int32.reduceLE, Int32.reduceAdd, Int32.reduceSub, Nat.reduceLT, Nat.reduceAdd, Nat.reduceEqDiff, ↓reduceIte, true_and, and_true, List.length_nil, List.length_cons, Nat.reduceLeDiff, Nat.zero_le]
        split
        · rename_i v0
          rw [if_pos v0] at fin
          refine sp_mallDung (L := 1) rfl (by omega) e1.1 e1.2.1 e3 ?_
          simp only [eX7_by_60, eX7_by_102, pe_goto, pe_iret, aDu_n hn6 okS, hget_hset, ia_l, ia_s, vin, opl, onl, Int32.reduceLT, Int32.reduceLE, Int32.reduceAdd, Int32.reduceSub, Nat.reduceLT, Nat.reduceAdd, Nat.reduceEqDiff, ↓reduceIte, true_and, and_true, List.length_nil, List.length_cons, Nat.reduceLeDiff, Nat.zero_le]
          exact fin
        · rename_i v0
          rw [if_neg v0] at fin
          simp only [eX7_by_63, eX7_by_64, eX7_by_65, eX7_by_68, eX7_by_69, eX7_by_70, pe_aload_0, pe_callV_1, pe_const, pe_iceq, pe_iload_3, z0, m_o, hget_hset, ia_l, ia_s, vin, opl, onl, Int32.reduceLT, Int32.reduceLE, Int32.reduceAdd, Int32.reduceSub, Nat.reduceLT, Nat.reduceAdd, Nat.reduceEqDiff, ↓reduceIte, true_and, and_true, List.length_nil, List.length_cons, Nat.reduceLeDiff, Nat.zero_le]
          split
          · rename_i v1
            rw [if_pos v1] at fin
            refine sp_mwet (L := 1) rfl (by omega) e1.1 e1.2.1 e3 ?_
            simp only [eX7_by_73, eX7_by_102, pe_goto, pe_iret, aWe_n hn6 okS, hget_hset, ia_l, ia_s, vin, opl, onl, Int32.reduceLT, Int32.reduceLE, Int32.reduceAdd, Int32.reduceSub, Nat.reduceLT, Nat.reduceAdd, Nat.reduceEqDiff, ↓reduceIte, true_and, and_true, List.length_nil, List.length_cons, Nat.reduceLeDiff, Nat.zero_le]
            exact fin
          · rename_i v1
            rw [if_neg v1] at fin
            simp only [eX7_by_76, eX7_by_77, eX7_by_78, eX7_by_81, eX7_by_82, eX7_by_83, pe_aload_0, pe_callV_1, pe_const, pe_iceq, pe_iload_3, z0, m_o, hget_hset, ia_l, ia_s, vin, opl, onl, Int32.reduceLT, Int32.reduceLE, Int32.reduceAdd, Int32.reduceSub, Nat.reduceLT, Nat.reduceAdd, Nat.reduceEqDiff, ↓reduceIte, true_and, and_true, List.length_nil, List.length_cons, Nat.reduceLeDiff, Nat.zero_le]
            split
            · rename_i v2
              rw [if_pos v2] at fin
              refine sp_mworth (L := 1) rfl (by omega) e1.1 e1.2.1 e3 ?_
              simp only [eX7_by_86, eX7_by_102, pe_goto, pe_iret, hget_hset, ia_l, ia_s, vin, opl, onl, Int32.reduceLT, Int32.reduceLE, Int32.reduceAdd, Int32.reduceSub, Nat.reduceLT, Nat.reduceAdd, Nat.reduceEqDiff, ↓reduceIte, true_and, and_true, List.length_nil, List.length_cons, Nat.reduceLeDiff, Nat.zero_le]
              exact fin
            · rename_i v2
              rw [if_neg v2] at fin
              simp only [eX7_by_89, eX7_by_90, eX7_by_91, pe_aload_0, pe_callV_1, pe_const, z0, m_o, hget_hset, ia_l, ia_s, vin, opl, onl, Int32.reduceLT, Int32.reduceLE, Int32.reduceAdd, Int32.reduceSub, Nat.reduceLT, Nat.reduceAdd, Nat.reduceEqDiff, ↓reduceIte, true_and, and_true, List.length_nil, List.length_cons, Nat.reduceLeDiff, Nat.zero_le]
              refine sp_mdoes (L := 1) rfl (by omega) e1.1 e1.2.1 e3 ?_
              rw [aDo_n hn6 okS]
              simp only [eX7_by_94, eX7_by_97, eX7_by_98, eX7_by_101, eX7_by_102, pe_const, pe_goto, pe_ifeq, pe_iret, zB_0, hget_hset, ia_l, ia_s, vin, opl, onl, Int32.reduceLT, Int32.reduceLE, Int32.reduceAdd, Int32.reduceSub, Nat.reduceLT, Nat.reduceAdd, Nat.reduceEqDiff, ↓reduceIte, true_and, and_true, List.length_nil, List.length_cons, Nat.reduceLeDiff, Nat.zero_le]
              split
              · rename_i v3
                simpa [zB, v3] using fin
              · rename_i v3
                simpa [zB, nt v3] using fin
end MD
