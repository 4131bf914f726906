/-! ===== the reference: days ===== -/
section MY
variable {d : Nat} {G : px_H} {q : Nat → Int32} {sd : Int64} {K : Ld} {t : Nat → Int32} {c o : Nat} {Q : px_Q}
theorem sdN_e (z : Int64) : z * 6364136223846793005 + 1442695040888963407 = sdN z := rfl
theorem aWe_64 (s : Nat → Int32) : ∃ j, j < 64 ∧ aWe s 6 = nI j := by
  obtain ⟨j, h1, h2, -⟩ := ob_bits (fun p => !decide (s (12 + p) = -9)) (f := fun p => if s (12 + p) = -9 then 0 else b1 p) (fun p => by by_cases e : s (12 + p) = -9 <;> simp [e]) 6 (by omega)
  exact ⟨j, h1, h2⟩
/-- only the reference's seed, scenes and flows have changed -/
def fD (G G' : px_H) : Prop := ∀ k, k ≠ 124 → k ≠ 135 → k ≠ 137 → hget G' k = hget G k
set_option maxRecDepth 100000 in
theorem sp_mdays {m : Int32} (hm : oM G q sd K t c o) (hc : c ≤ 999900) (hQ : ∀ G', rM G' q (aDz K t sd m) K t → fD G G' → Q (some (.int (aDy K t sd m))) G') : pcal (d + 5) 147 [.ref 124, .int m] G Q := by
  obtain ⟨⟨w, hw, ht⟩, hv, hvf, hok, ho, -, hvn⟩ := id hm
  have hn6 := hv.1.1
  obtain ⟨hk, hw0, f, hf⟩ := id hw
  obtain ⟨m0, m1, -⟩ := id hk
  refine inX7_days ?_
  simp only [eX7_days_0, eX7_days_1, eX7_days_2, eX7_days_3, eX7_days_6, pe_callS_3, pe_const, pe_i2l, pe_iload_1, hget_hset, ia_l, ia_s, vin, opl, onl, Int32.reduceLT, Int32.reduceLE, Int32.reduceAdd, Int32.reduceSub, Nat.reduceLT, Nat.reduceAdd, Nat.reduceEqDiff, ↓reduceIte, true_and, and_true, List.length_nil, List.length_cons, Nat.reduceLeDiff, Nat.zero_le]
  refine sp_in (a := 1) (b := 40) rfl rfl ?_
  simp only [eX7_days_9, eX7_days_12, eX7_days_14, pe_const, pe_ifeq, pe_iret, zB_0, iN_f, hget_hset, ia_l, ia_s, vin, opl, onl, Int32.reduceLT, Int32.reduceLE, Int32.reduceAdd, Int32.reduceSub, Nat.reduceLT, Nat.reduceAdd, Nat.reduceEqDiff, ↓reduceIte, true_and, and_true, List.length_nil, List.length_cons, Nat.reduceLeDiff, Nat.zero_le]
  split
  · rename_i u0
    have no := hQ G (by rw [aDz, if_pos u0]; exact ⟨w, hw, ht⟩) (fun _ _ _ _ => rfl)
    rw [aDy, if_pos u0] at no
    exact no
  · rename_i u0
    simp only [eX7_days_15, eX7_days_16, eX7_days_19, eX7_days_22, eX7_days_23, pe_aload_0, pe_const, pe_getf, pe_ifeq, pe_iret, m0, m_g13, m1, nI_n0 hn6, hget_hset, ia_l, ia_s, vin, opl, onl, Int32.reduceLT, Int32.reduceLE, Int32.reduceAdd, Int32.reduceSub, Nat.reduceLT, Nat.reduceAdd, Nat.reduceEqDiff, ↓reduceIte, true_and, and_true, List.length_nil, List.length_cons, Nat.reduceLeDiff, Nat.zero_le]
    split
    · rename_i u1
      have no := hQ G (by rw [aDz, if_neg u0, if_pos u1]; exact ⟨w, hw, ht⟩) (fun _ _ _ _ => rfl)
      rw [aDy, if_neg u0, if_pos u1] at no
      exact no
    · rename_i u1
      obtain ⟨M, M40, rfl⟩ : ∃ M, M ≤ 40 ∧ m = nI M := by
        have a1 : ¬ m < 1 := fun z => u0 (Or.inl z)
        have a2 : ¬ 40 < m := fun z => u0 (Or.inr z)
        rw [i_lt, show (1 : Int32).toInt = 1 by decide] at a1
        rw [i_lt, show (40 : Int32).toInt = 40 by decide] at a2
        obtain ⟨j, hj, rfl⟩ := nI_of (x := m) (by rw [i_lt, i_0]; omega)
        rw [nI_toInt hj] at a1 a2
        exact ⟨j, by omega, rfl⟩
      have hMc : (nI M).toNatClampNeg = M := nI_clamp (by omega)
      rw [aDy, aDz, if_neg u0, if_neg u1, if_neg u0, if_neg u1, hMc] at hQ
      have n0 : 0 < K.n := by omega
      simp only [eX7_days_24, eX7_days_25, eX7_days_26, eX7_days_27, pe_aload_0, pe_callV_2, pe_const, m0, m_o, hget_hset, ia_l, ia_s, vin, opl, onl, Int32.reduceLT, Int32.reduceLE, Int32.reduceAdd, Int32.reduceSub, Nat.reduceLT, Nat.reduceAdd, Nat.reduceEqDiff, ↓reduceIte, true_and, and_true, List.length_nil, List.length_cons, Nat.reduceLeDiff, Nat.zero_le]
      refine sp_lay (A := 0) (B := 1) rfl rfl (by omega) (by omega) (by omega) m0 hw0 ht ?_
      intro G1 w1 e1 e2 e3 e4
      have f1 : fM G G1 := fun k a b => e4 k a
      have key : ∀ j i H w', i + j = M → mW H q (dS K t sd i).2 K w' → sM K w' 0 t → sM K w' 1 (dS K t sd i).1 → fD G H → ∀ o3, pr (d + 4) 147 (G.1 + 0, G.2.1 + 0) Q 32 [some (.ref 124), some (.int (nI M)), some (.int (nI i)), o3] [] H := by
        intro j
        induction j with
        | zero =>
          intro i H w' hi k1 k2 k3 k4 o3
          obtain rfl : i = M := by omega
          have y0 := k1.1.1
          have okE := okT_dS hv hok hc n0 sd i M40
          obtain ⟨jj, j1, j2⟩ := aWe_64 (dS K t sd i).1
          simp only [eX7_days_32, eX7_days_33, eX7_days_34, eX7_days_121, eX7_days_122, eX7_days_123, pe_aload_0, pe_callV_1, pe_const, pe_iclt, pe_iload_1, pe_iload_2, niE, y0, m_o, hget_hset, ia_l, ia_s, vin, opl, onl, Int32.reduceLT, Int32.reduceLE, Int32.reduceAdd, Int32.reduceSub, Nat.reduceLT, Nat.reduceAdd, Nat.reduceEqDiff, ↓reduceIte, true_and, and_true, List.length_nil, List.length_cons, Nat.reduceLeDiff, Nat.zero_le]
          refine sp_mallDung (L := 1) rfl (by omega) k1.1 k1.2.1 k3 ?_
          simp only [eX7_days_126, eX7_days_128, eX7_days_129, eX7_days_130, pe_aload_0, pe_callV_1, pe_const, y0, m_o, hget_hset, ia_l, ia_s, vin, opl, onl, Int32.reduceLT, Int32.reduceLE, Int32.reduceAdd, Int32.reduceSub, Nat.reduceLT, Nat.reduceAdd, Nat.reduceEqDiff, ↓reduceIte, true_and, and_true, List.length_nil, List.length_cons, Nat.reduceLeDiff, Nat.zero_le]
          refine sp_mwet (L := 1) rfl (by omega) k1.1 k1.2.1 k3 ?_
          rw [aWe_n hn6 okE, aDu_n hn6 okE, j2]
          simp only [eX7_days_133, pe_callS_1, hget_hset, ia_l, ia_s, vin, opl, onl, Int32.reduceLT, Int32.reduceLE, Int32.reduceAdd, Int32.reduceSub, Nat.reduceLT, Nat.reduceAdd, Nat.reduceEqDiff, ↓reduceIte, true_and, and_true, List.length_nil, List.length_cons, Nat.reduceLeDiff, Nat.zero_le]
          refine sp_ones ?_
          rw [on8_bc jj j1]
          have fin := hQ H ⟨w', k1, k2⟩ k4
          rw [j2, (bcN jj j1).1] at fin
          simp only [eX7_days_136, eX7_days_137, eX7_days_138, pe_bin, pe_iret, hget_hset, ia_l, ia_s, vin, opl, onl, Int32.reduceLT, Int32.reduceLE, Int32.reduceAdd, Int32.reduceSub, Nat.reduceLT, Nat.reduceAdd, Nat.reduceEqDiff, ↓reduceIte, true_and, and_true, List.length_nil, List.length_cons, Nat.reduceLeDiff, Nat.zero_le]
          exact fin
        | succ j ih =>
          intro i H w' hi k1 k2 k3 k4 o3
          obtain ⟨y0, y1, -, -, -, kd, ms, fm, tt, z1, -, -, -, z5, -⟩ := id k1.1
          have y3 := k1.2.1
          have c1 : nI i < nI M := nI_lt (by omega) (by omega)
          have eL : (nI K.n).toInt64 = lN K.n := nI_l (by omega)
          have st : dS K t sd (i + 1) = (aP K 0 (rn1 K (dS K t sd i).1 (sdJ (sdN (dS K t sd i).2) % K.n)), sdN (dS K t sd i).2) := rfl
          have okI := okT_dS hv hok hc n0 sd i (by omega)
          generalize dS K t sd i = s at k1 k3 y0 st okI
          obtain ⟨s, z⟩ := s
          dsimp only at k1 k3 y0 st okI
          have sJ := sdJ_lt (sdN z)
          have rL : lN (sdJ (sdN z)) - lN (sdJ (sdN z)) / lN K.n * lN K.n = lN (sdJ (sdN z) % K.n) := pk_lRem (by omega) n0 (by omega)
          have nL : ¬ lN K.n = 0 := by
            have : lN K.n = lN 0 ↔ K.n = 0 := lN_eq (by omega) (by omega)
            exact fun e => u1 (this.mp e)
          have hP0 : sdJ (sdN z) % K.n < K.n := Nat.mod_lt _ n0
          generalize sdJ (sdN z) % K.n = P at rL hP0 st
          obtain ⟨b1', b2', b3', b4'⟩ := niL (i := P) (n := K.n) hP0 hn6
          have kP := (z5 P hP0).1
          have n20 : (20 : Int32) + nI P = nI (20 + P) := nI_add 20 P
          obtain ⟨a1, a2⟩ := ni160 (i := 20 + P) (by omega)
          have a5 : 20 + P < 160 := by omega
          have g1 : w' (20 + P) = s P := k3 P (by omega)
          have go : ∀ v, v = rn1 K s P P → pr (d + 4) 147 (G.1 + 0, G.2.1 + 0) Q 108 [some (.ref 124), some (.int (nI M)), some (.int (nI i)), some (.int (nI P))] [] (hset (hset H 124 (c_m q (sdN z))) 135 (c_ia 160 (upd w' (20 + P) v))) := by
            intro v hv'
            have q0 : hget (hset (hset H 124 (c_m q (sdN z))) 135 (c_ia 160 (upd w' (20 + P) v))) 124 = some (c_m q (sdN z)) := by rw [hget_ne (by omega)]; exact hget_self _ _ _
            have fH : ∀ k, k ≠ 124 → k ≠ 135 → hget (hset (hset H 124 (c_m q (sdN z))) 135 (c_ia 160 (upd w' (20 + P) v))) k = hget H k := fun k a b => by rw [hget_ne b, hget_ne a]
            simp only [eX7_days_108, eX7_days_109, eX7_days_110, eX7_days_111, pe_aload_0, pe_callV_2, pe_const, q0, m_o, hget_hset, ia_l, ia_s, vin, opl, onl, Int32.reduceLT, Int32.reduceLE, Int32.reduceAdd, Int32.reduceSub, Nat.reduceLT, Nat.reduceAdd, Nat.reduceEqDiff, ↓reduceIte, true_and, and_true, List.length_nil, List.length_cons, Nat.reduceLeDiff, Nat.zero_le]
            refine sp_mpass' (L := 1) (xx := 0) (w := upd w' (20 + P) v) (t := rn1 K s P) rfl (by omega) rfl (by omega) ⟨k1.1.qA q0 rfl rfl (fH _ (by omega) (by omega)) (fH _ (by omega) (by omega)) (fH _ (by omega) (by omega)) (fH _ (by omega) (by omega)), hget_self _ _ _, by obtain ⟨ff, hff⟩ := k1.2.2; exact ⟨ff, (fH _ (by omega) (by omega)).trans hff⟩⟩ hv hvf ?_ (okT_rn okI (by omega) hP0 hn6) ?_
            · intro r hr
              unfold upd
              by_cases e : r = P
              · rw [if_pos (by omega), e]; exact hv'
              · rw [if_neg (by omega)]
                have : rn1 K s P r = s r := by
                  unfold rn1
                  split
                  · exact if_neg e
                  · rfl
                rw [this]
                exact k3 r hr
            · intro G2 w2 s1 s2 s3 s4
              simp only [eX7_days_114, eX7_days_115, eX7_days_118, pe_goto, pe_iinc_2, pe_pop_i, nisw, hget_hset, ia_l, ia_s, vin, opl, onl, Int32.reduceLT, Int32.reduceLE, Int32.reduceAdd, Int32.reduceSub, Nat.reduceLT, Nat.reduceAdd, Nat.reduceEqDiff, ↓reduceIte, true_and, and_true, List.length_nil, List.length_cons, Nat.reduceLeDiff, Nat.zero_le]
              have e1' : (dS K t sd (i + 1)).2 = sdN z := by rw [st]
              have e2' : (dS K t sd (i + 1)).1 = aP K 0 (rn1 K s P) := by rw [st]
              refine ih (i + 1) G2 w2 (by omega) (by rw [e1']; exact s1) ?_ (by rw [e2']; exact s2) (fun k a b c' => ((s4 k b c').trans (fH k a b)).trans (k4 k a b c')) _
              refine (k2.kept (w' := upd w' (20 + P) v) (fun r _ _ => if_neg (by omega))).fL s3 (by omega)
          rw [eX7_days_32]
          simp only [eX7_days_33, eX7_days_34, eX7_days_37, eX7_days_38, eX7_days_39, eX7_days_42, eX7_days_45, eX7_days_46, eX7_days_49, eX7_days_50, eX7_days_53, eX7_days_54, eX7_days_57, eX7_days_59, eX7_days_60, eX7_days_61, eX7_days_64, eX7_days_65, eX7_days_66, eX7_days_67, eX7_days_68, eX7_days_69, eX7_days_72, eX7_days_74, eX7_days_75, eX7_days_76, eX7_days_77, eX7_days_78, eX7_days_79, eX7_days_82, eX7_days_83, eX7_days_84, eX7_days_87, eX7_days_88, eX7_days_91, eX7_days_93, eX7_days_94, eX7_days_95, eX7_days_96, eX7_days_98, eX7_days_101, eX7_days_102, eX7_days_105, eX7_days_106, eX7_days_107, pe_aload_0, pe_bin, pe_const, pe_dup2_ir, pe_getf, pe_goto, pe_i2l, pe_iald, pe_iast, pe_iclt, pe_ifeq, pe_iload_1, pe_iload_2, pe_iload_3, pe_istore_3, pe_l2i, pe_lbin, pe_lrem, pe_lsh, pe_putf, c1, y0, y1, y3, z1, m_g9, m_g13, m_g15, m_g31, m_p31, sdN_e, sdU, eL, rL, nL, lN_i, n20, a1, a2, a5, b1', b2', b4', kP, g1, not_false_eq_true, hget_hset, ia_l, ia_s, vin, opl, onl, Int32.reduceLT, Int32.reduceLE, Int32.reduceAdd, Int32.reduceSub, Nat.reduceLT, Nat.reduceAdd, Nat.reduceEqDiff, ↓reduceIte, true_and, and_true, List.length_nil, List.length_cons, Nat.reduceLeDiff, Nat.zero_le]
          split
          · rename_i v0
            split
            · rename_i v1
              exact go _ (by unfold rn1; rw [if_pos ⟨v0, v1⟩]; exact (if_pos rfl).symm)
            · rename_i v1
              rw [Int32.add_zero]
              exact go _ (by unfold rn1; rw [if_neg (fun z => v1 z.2)])
          · rename_i v0
            rw [Int32.add_zero]
            exact go _ (by unfold rn1; rw [if_neg (fun z => v0 z.1)])
      simp only [eX7_days_30, eX7_days_31, pe_const, pe_istore_2, hget_hset, ia_l, ia_s, vin, opl, onl, Int32.reduceLT, Int32.reduceLE, Int32.reduceAdd, Int32.reduceSub, Nat.reduceLT, Nat.reduceAdd, Nat.reduceEqDiff, ↓reduceIte, true_and, and_true, List.length_nil, List.length_cons, Nat.reduceLeDiff, Nat.zero_le]
      exact key M 0 G1 w1 (by omega) ⟨hk.fM f1, e1, f, (e4 _ (by omega)).trans hf⟩ (ht.fL e3 (by omega)) e2 (fun k a b c' => e4 k b) _
end MY
