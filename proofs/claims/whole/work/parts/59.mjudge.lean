/-! ===== the reference: judge ===== -/
theorem p10_lt {n : Nat} (h : n ≤ 8) : 1 ≤ 10 ^ n ∧ 10 ^ n ≤ 100000000 := by
  rcases (show n = 0 ∨ n = 1 ∨ n = 2 ∨ n = 3 ∨ n = 4 ∨ n = 5 ∨ n = 6 ∨ n = 7 ∨ n = 8 by omega) with rfl | rfl | rfl | rfl | rfl | rfl | rfl | rfl | rfl <;> decide
section MJ
variable {d : Nat} {G : px_H} {q : Nat → Int32} {sd : Int64} {K : Ld} {t : Nat → Int32} {c o : Nat} {Q : px_Q}
set_option maxRecDepth 100000 in
theorem sp_tenTo {N : Nat} (hN : N ≤ 8) (hQ : Q (some (.int (nI (10 ^ N)))) G) : pcal (d + 1) 120 [.int (nI N)] G Q := by
  refine inX7_tenTo ?_
  have key : ∀ j i v, i + j = N → v = nI (10 ^ i) → pr d 120 (G.1 + 0, G.2.1 + 0) Q 4 [some (.int (nI N)), some (.int v), some (.int (nI i))] [] G := by
    intro j
    induction j with
    | zero =>
      intro i v hi hv
      obtain rfl : i = N := by omega
      simp only [eX7_tenTo_4, eX7_tenTo_5, eX7_tenTo_6, eX7_tenTo_20, eX7_tenTo_21, pe_iclt, pe_iload_0, pe_iload_1, pe_iload_2, pe_iret, niE, hget_hset, ia_l, ia_s, vin, opl, onl, Int32.reduceLT, Int32.reduceLE, Int32.reduceAdd, Int32.reduceSub, Nat.reduceLT, Nat.reduceAdd, Nat.reduceEqDiff, ↓reduceIte, true_and, and_true, List.length_nil, List.length_cons, Nat.reduceLeDiff, Nat.zero_le]
      rw [hv]
      exact hQ
    | succ j ih =>
      intro i v hi hv
      have c1 : nI i < nI N := nI_lt (by omega) (by omega)
      rw [eX7_tenTo_4]
      simp only [eX7_tenTo_5, eX7_tenTo_6, eX7_tenTo_9, eX7_tenTo_10, eX7_tenTo_12, eX7_tenTo_13, eX7_tenTo_14, eX7_tenTo_17, pe_bin, pe_const, pe_goto, pe_iclt, pe_iinc_2, pe_iload_0, pe_iload_1, pe_iload_2, pe_istore_1, c1, nisw, hget_hset, ia_l, ia_s, vin, opl, onl, Int32.reduceLT, Int32.reduceLE, Int32.reduceAdd, Int32.reduceSub, Nat.reduceLT, Nat.reduceAdd, Nat.reduceEqDiff, ↓reduceIte, true_and, and_true, List.length_nil, List.length_cons, Nat.reduceLeDiff, Nat.zero_le]
      refine ih (i + 1) _ (by omega) ?_
      rw [hv, Nat.pow_succ]
      exact (Int32.ofNat_mul (10 ^ i) 10).symm
  simp only [eX7_tenTo_0, eX7_tenTo_1, eX7_tenTo_2, eX7_tenTo_3, pe_const, pe_istore_1, pe_istore_2, hget_hset, ia_l, ia_s, vin, opl, onl, Int32.reduceLT, Int32.reduceLE, Int32.reduceAdd, Int32.reduceSub, Nat.reduceLT, Nat.reduceAdd, Nat.reduceEqDiff, ↓reduceIte, true_and, and_true, List.length_nil, List.length_cons, Nat.reduceLeDiff, Nat.zero_le]
  exact key N 0 1 (by omega) rfl
set_option maxRecDepth 100000 in
theorem sp_mjudge {n row : Int32} (hm : oM G q sd K t c o) (hQ : ∀ G', rM G' q sd K t → fM G G' → Q (some (.int (aJu K t n row))) G') : pcal (d + 5) 121 [.ref 124, .int n, .int row] G Q := by
  obtain ⟨⟨w, hw, ht⟩, hv, hvf, hok, ho, -, hvn⟩ := id hm
  have hm6 := hv.1.2.1
  have hn6 := hv.1.1
  obtain ⟨⟨m0, mr⟩, hw0, f, hf⟩ := id hw
  have no := hQ G ⟨w, hw, ht⟩ (fun _ _ _ => rfl)
  refine inX7_judge ?_
  simp only [eX7_judge_0, eX7_judge_1, eX7_judge_2, eX7_judge_3, eX7_judge_6, pe_callS_3, pe_const, pe_i2l, pe_iload_1, hget_hset, ia_l, ia_s, vin, opl, onl, Int32.reduceLT, Int32.reduceLE, Int32.reduceAdd, Int32.reduceSub, Nat.reduceLT, Nat.reduceAdd, Nat.reduceEqDiff, ↓reduceIte, true_and, and_true, List.length_nil, List.length_cons, Nat.reduceLeDiff, Nat.zero_le]
  refine sp_in (a := 1) (b := 8) rfl rfl ?_
  simp only [eX7_judge_9, eX7_judge_12, eX7_judge_13, eX7_judge_14, eX7_judge_15, eX7_judge_16, eX7_judge_28, eX7_judge_30, pe_callS_1, pe_const, pe_i2l, pe_ifeq, pe_iload_1, pe_iload_2, pe_iret, zB_0, iN_f, hget_hset, ia_l, ia_s, vin, opl, onl, Int32.reduceLT, Int32.reduceLE, Int32.reduceAdd, Int32.reduceSub, Nat.reduceLT, Nat.reduceAdd, Nat.reduceEqDiff, ↓reduceIte, true_and, and_true, List.length_nil, List.length_cons, Nat.reduceLeDiff, Nat.zero_le]
  split
  · rename_i u0
    rw [aJu, if_pos (u0.elim Or.inl (fun z => Or.inr (Or.inl z)))] at no
    exact no
  · rename_i u0
    obtain ⟨N, N1, N8, rfl⟩ : ∃ N, 1 ≤ N ∧ N ≤ 8 ∧ n = nI N := by
      have a1 : ¬ n < 1 := fun z => u0 (Or.inl z)
      have a2 : ¬ 8 < n := fun z => u0 (Or.inr z)
      rw [i_lt, show (1 : Int32).toInt = 1 by decide] at a1
      rw [i_lt, show (8 : Int32).toInt = 8 by decide] at a2
      obtain ⟨j, hj, rfl⟩ := nI_of (x := n) (by rw [i_lt, i_0]; omega)
      rw [nI_toInt hj] at a1 a2
      exact ⟨j, by omega, by omega, rfl⟩
    obtain ⟨t1, t2⟩ := p10_lt N8
    have hNc : (nI N).toNatClampNeg = N := nI_clamp (by omega)
    refine sp_tenTo N8 ?_
    have ep : nI (10 ^ N) - 1 = nI (10 ^ N - 1) := by
      have := nI_pred (10 ^ N - 1)
      rw [show 10 ^ N - 1 + 1 = 10 ^ N by omega] at this
      exact this
    simp only [eX7_judge_19, eX7_judge_20, eX7_judge_21, eX7_judge_22, pe_bin, pe_callS_3, pe_const, pe_i2l, ep, hget_hset, ia_l, ia_s, vin, opl, onl, Int32.reduceLT, Int32.reduceLE, Int32.reduceAdd, Int32.reduceSub, Nat.reduceLT, Nat.reduceAdd, Nat.reduceEqDiff, ↓reduceIte, true_and, and_true, List.length_nil, List.length_cons, Nat.reduceLeDiff, Nat.zero_le]
    refine sp_in (a := 0) (b := nI (10 ^ N - 1)) rfl rfl ?_
    simp only [eX7_judge_25, eX7_judge_28, eX7_judge_30, pe_const, pe_ifeq, pe_iret, zB_0, iN_f, hget_hset, ia_l, ia_s, vin, opl, onl, Int32.reduceLT, Int32.reduceLE, Int32.reduceAdd, Int32.reduceSub, Nat.reduceLT, Nat.reduceAdd, Nat.reduceEqDiff, ↓reduceIte, true_and, and_true, List.length_nil, List.length_cons, Nat.reduceLeDiff, Nat.zero_le]
    split
    · rename_i u1
      rw [aJu, if_pos ?_] at no
      · exact no
      · by_cases r0 : row < 0
        · exact Or.inr (Or.inr (Or.inl r0))
        · have u2 := u1.resolve_left r0
          obtain ⟨R, hR, rfl⟩ := nI_of r0
          rw [nI_ltI (by omega) hR] at u2
          refine Or.inr (Or.inr (Or.inr ?_))
          rw [nI_clamp hR, hNc]
          intro z
          have := Nat.lt_of_div_eq_zero (by omega) z
          omega
    · rename_i u1
      have r0 : ¬ row < 0 := fun z => u1 (Or.inl z)
      obtain ⟨R, hR, rfl⟩ := nI_of r0
      have u2 : ¬ nI (10 ^ N - 1) < nI R := fun z => u1 (Or.inr z)
      rw [nI_ltI (by omega) hR] at u2
      have hRc : (nI R).toNatClampNeg = R := nI_clamp hR
      have un : ¬ (nI N < 1 ∨ 8 < nI N ∨ nI R < 0 ∨ ¬ (nI R).toNatClampNeg / 10 ^ (nI N).toNatClampNeg = 0) := by
        rintro (z | z | z | z)
        · exact u0 (Or.inl z)
        · exact u0 (Or.inr z)
        · exact r0 z
        · apply z
          rw [hRc, hNc]
          exact Nat.div_eq_of_lt (by omega)
      rw [aJu, if_neg un, hNc, hRc] at hQ
      simp only [eX7_judge_31, eX7_judge_32, eX7_judge_33, eX7_judge_34, pe_aload_0, pe_callV_2, pe_const, m0, m_o, hget_hset, ia_l, ia_s, vin, opl, onl, Int32.reduceLT, Int32.reduceLE, Int32.reduceAdd, Int32.reduceSub, Nat.reduceLT, Nat.reduceAdd, Nat.reduceEqDiff, ↓reduceIte, true_and, and_true, List.length_nil, List.length_cons, Nat.reduceLeDiff, Nat.zero_le]
      refine sp_lay (A := 0) (B := 1) rfl rfl (by omega) (by omega) (by omega) m0 hw0 ht ?_
      intro G1 w1 e1 e2 e3 e4
      have f1 : fM G G1 := fun k a b => e4 k a
      have hW1 : mW G1 q sd K w1 := ⟨hw.1.fM f1, e1, f, (e4 _ (by omega)).trans hf⟩
      have key : ∀ j i H w' s o4 o5, i + j = N → mW H q sd K w' → sM K w' 0 t → sM K w' 1 s → okT K c s → aWe s 6 = aWe t 6 → fM G H → jG K (aWe t 6) (jF N R) j i s = jG K (aWe t 6) (jF N R) N 0 t → pr (d + 4) 121 (G.1 + 0, G.2.1 + 0) Q 39 [some (.ref 124), some (.int (nI N)), some (.int (nI R)), some (.int (nI i)), o4, o5] [] H := by
        intro j
        induction j with
        | zero =>
          intro i H w' s o4 o5 hi k1 k2 k3 k4 k5 k6 k7
          obtain rfl : i = N := by omega
          simp only [eX7_judge_39, eX7_judge_40, eX7_judge_41, eX7_judge_133, eX7_judge_135, pe_const, pe_iclt, pe_iload_1, pe_iload_3, pe_iret, niE, hget_hset, ia_l, ia_s, vin, opl, onl, Int32.reduceLT, Int32.reduceLE, Int32.reduceAdd, Int32.reduceSub, Nat.reduceLT, Nat.reduceAdd, Nat.reduceEqDiff, ↓reduceIte, true_and, and_true, List.length_nil, List.length_cons, Nat.reduceLeDiff, Nat.zero_le]
          have := hQ H ⟨w', k1, k2⟩ k6
          rw [← k7] at this
          exact this
        | succ j ih =>
          intro i H w' s o4 o5 hi k1 k2 k3 k4 k5 k6 k7
          have y0 := k1.1.1
          have c1 : nI i < nI N := nI_lt (by omega) (by omega)
          have eN : nI N - 1 = nI (N - 1) := by
            have := nI_pred (N - 1)
            rw [show N - 1 + 1 = N by omega] at this
            exact this
          have eS := nI_sb (a := N - 1) (b := i) (by omega) (by omega)
          obtain ⟨q1, q2⟩ := p10_lt (n := N - 1 - i) (by omega)
          have hd1 : nI R / nI (10 ^ (N - 1 - i)) = nI (R / 10 ^ (N - 1 - i)) := pk_div hR (by omega) (by omega)
          have hd0 : ¬ nI (10 ^ (N - 1 - i)) = 0 := nI_ne0 (by omega) (by omega)
          have hq : R / 10 ^ (N - 1 - i) < 2 ^ 31 := Nat.lt_of_le_of_lt (Nat.div_le_self _ _) hR
          have hd2 : nI (R / 10 ^ (N - 1 - i)) - nI (R / 10 ^ (N - 1 - i)) / 10 * 10 = nI (R / 10 ^ (N - 1 - i) % 10) := pk_rem (d := 10) hq (by omega) (by omega)
          have e10 : ¬ (10 : Int32) = 0 := by decide
          have ef : nI (R / 10 ^ (N - 1 - i) % 10) = jF N R i := rfl
          rw [jG] at k7
          rw [eX7_judge_39]
          simp only [eX7_judge_40, eX7_judge_41, eX7_judge_44, eX7_judge_45, eX7_judge_46, eX7_judge_47, eX7_judge_48, eX7_judge_49, eX7_judge_50, pe_bin, pe_callS_1, pe_const, pe_iclt, pe_iload_1, pe_iload_2, pe_iload_3, c1, eN, eS, hget_hset, ia_l, ia_s, vin, opl, onl, Int32.reduceLT, Int32.reduceLE, Int32.reduceAdd, Int32.reduceSub, Nat.reduceLT, Nat.reduceAdd, Nat.reduceEqDiff, ↓reduceIte, true_and, and_true, List.length_nil, List.length_cons, Nat.reduceLeDiff, Nat.zero_le]
          refine sp_tenTo (by omega) ?_
          simp only [eX7_judge_53, eX7_judge_54, eX7_judge_56, eX7_judge_57, eX7_judge_59, eX7_judge_60, eX7_judge_61, pe_aload_0, pe_callV_1, pe_const, pe_idiv, pe_irem, pe_istore_4, hd0, hd1, hd2, ef, e10, y0, m_o, not_false_eq_true, hget_hset, ia_l, ia_s, vin, opl, onl, Int32.reduceLT, Int32.reduceLE, Int32.reduceAdd, Int32.reduceSub, Nat.reduceLT, Nat.reduceAdd, Nat.reduceEqDiff, ↓reduceIte, true_and, and_true, List.length_nil, List.length_cons, Nat.reduceLeDiff, Nat.zero_le]
          refine sp_mwet (L := 1) rfl (by omega) k1.1 k1.2.1 k3 ?_
          rw [aWe_n hn6 k4, k5]
          generalize jF N R i = fg at *
          have stop : ∀ G' w', mW G' q sd K w' → sM K w' 0 t → fM G G' → ¬ (stO K fg = true ∧ aWe (stS K s fg) 6 = aWe t 6) → Q (some (.int (nI i))) G' := by
            intro G' w' a1 a2 a3 a4
            rw [if_neg a4] at k7
            have := hQ G' ⟨w', a1, a2⟩ a3
            rw [← k7] at this
            exact this
          have next : ∀ G' w' o4, mW G' q sd K w' → sM K w' 0 t → sM K w' 1 (stS K s fg) → fM G G' → stO K fg = true → pr (d + 4) 121 (G.1 + 0, G.2.1 + 0) Q 115 [some (.ref 124), some (.int (nI N)), some (.int (nI R)), some (.int (nI i)), o4, some (.int (aWe t 6))] [] G' := by
            intro G' w' o4 a1 a2 a3 a4 a5
            have z0 := a1.1.1
            have ok' := okT_st hv k4 fg
            simp only [eX7_judge_115, eX7_judge_116, eX7_judge_117, pe_aload_0, pe_callV_1, pe_const, z0, m_o, hget_hset, ia_l, ia_s, vin, opl, onl, Int32.reduceLT, Int32.reduceLE, Int32.reduceAdd, Int32.reduceSub, Nat.reduceLT, Nat.reduceAdd, Nat.reduceEqDiff, ↓reduceIte, true_and, and_true, List.length_nil, List.length_cons, Nat.reduceLeDiff, Nat.zero_le]
            refine sp_mwet (L := 1) rfl (by omega) a1.1 a1.2.1 a3 ?_
            rw [aWe_n hn6 ok']
            simp only [eX7_judge_120, eX7_judge_122, eX7_judge_125, eX7_judge_126, eX7_judge_127, eX7_judge_130, pe_goto, pe_iceq, pe_iinc_3, pe_iload_3, pe_iload_5, pe_iret, nisw, hget_hset, ia_l, ia_s, vin, opl, onl, Int32.reduceLT, Int32.reduceLE, Int32.reduceAdd, Int32.reduceSub, Nat.reduceLT, Nat.reduceAdd, Nat.reduceEqDiff, ↓reduceIte, true_and, and_true, List.length_nil, List.length_cons, Nat.reduceLeDiff, Nat.zero_le]
            split
            · rename_i v
              rw [if_pos ⟨a5, v⟩] at k7
              exact ih (i + 1) G' w' _ _ _ (by omega) a1 a2 a3 ok' v a4 k7
            · rename_i v
              exact stop G' w' a1 a2 a4 (fun z => v z.2)
          have pass6 : fg = 6 → pr (d + 4) 121 (G.1 + 0, G.2.1 + 0) Q 84 [some (.ref 124), some (.int (nI N)), some (.int (nI R)), some (.int (nI i)), some (.int fg), some (.int (aWe t 6))] [] H := by
            intro e6
            simp only [eX7_judge_84, eX7_judge_86, eX7_judge_88, eX7_judge_91, eX7_judge_92, eX7_judge_93, eX7_judge_94, pe_aload_0, pe_callV_2, pe_const, pe_iceq, pe_iload_4, e6, y0, m_o, hget_hset, ia_l, ia_s, vin, opl, onl, Int32.reduceLT, Int32.reduceLE, Int32.reduceAdd, Int32.reduceSub, Nat.reduceLT, Nat.reduceAdd, Nat.reduceEqDiff, ↓reduceIte, true_and, and_true, List.length_nil, List.length_cons, Nat.reduceLeDiff, Nat.zero_le]
            refine sp_mpass' (L := 1) (xx := 0) rfl (by omega) rfl (by omega) k1 hv hvf k3 k4 ?_
            intro G2 w2 g1 g2 g3 g4
            simp only [eX7_judge_97, eX7_judge_98, pe_goto, pe_pop_i, hget_hset, ia_l, ia_s, vin, opl, onl, Int32.reduceLT, Int32.reduceLE, Int32.reduceAdd, Int32.reduceSub, Nat.reduceLT, Nat.reduceAdd, Nat.reduceEqDiff, ↓reduceIte, true_and, and_true, List.length_nil, List.length_cons, Nat.reduceLeDiff, Nat.zero_le]
            refine next G2 w2 _ g1 (k2.fL g3 (by omega)) ?_ (k6.tr g4) (by simp [stO, e6])
            rw [stS, if_pos e6]
            exact g2
          simp only [eX7_judge_64, eX7_judge_66, eX7_judge_68, eX7_judge_70, eX7_judge_73, eX7_judge_74, eX7_judge_76, pe_aload_0, pe_callV_1, pe_const, pe_iceq, pe_iload_4, pe_istore_5, y0, m_o, hget_hset, ia_l, ia_s, vin, opl, onl, Int32.reduceLT, Int32.reduceLE, Int32.reduceAdd, Int32.reduceSub, Nat.reduceLT, Nat.reduceAdd, Nat.reduceEqDiff, ↓reduceIte, true_and, and_true, List.length_nil, List.length_cons, Nat.reduceLeDiff, Nat.zero_le]
          split
          · rename_i e6
            exact pass6 e6
          · rename_i e6
            refine sp_isDitch k1.1 ?_
            simp only [eX7_judge_79, eX7_judge_82, eX7_judge_83, pe_ifeq, pe_iload_3, pe_iret, zB_0, hget_hset, ia_l, ia_s, vin, opl, onl, Int32.reduceLT, Int32.reduceLE, Int32.reduceAdd, Int32.reduceSub, Nat.reduceLT, Nat.reduceAdd, Nat.reduceEqDiff, ↓reduceIte, true_and, and_true, List.length_nil, List.length_cons, Nat.reduceLeDiff, Nat.zero_le]
            split
            · rename_i v
              exact stop H w' k1 k2 k6 (fun z => by
                have := z.1
                simp [stO, e6, v] at this)
            · rename_i v
              have y3 := k1.2.1
              have c38 : (38 : Int32).toNatClampNeg = 38 := by decide
              have g38 : w' 38 = s 18 := k3 18 (by omega)
              simp only [eX7_judge_84, eX7_judge_86, eX7_judge_88, eX7_judge_91, eX7_judge_92, eX7_judge_93, eX7_judge_94, eX7_judge_97, eX7_judge_98, eX7_judge_101, eX7_judge_102, eX7_judge_105, eX7_judge_107, eX7_judge_108, eX7_judge_109, eX7_judge_110, eX7_judge_112, eX7_judge_113, eX7_judge_114, pe_aload_0, pe_bin, pe_callV_2, pe_const, pe_dup2_ir, pe_getf, pe_goto, pe_iald, pe_iast, pe_iceq, pe_iload_4, pe_pop_i, e6, y0, y3, m_g15, c38, g38, hget_hset, ia_l, ia_s, vin, opl, onl, Int32.reduceLT, Int32.reduceLE, Int32.reduceAdd, Int32.reduceSub, Nat.reduceLT, Nat.reduceAdd, Nat.reduceEqDiff, ↓reduceIte, true_and, and_true, List.length_nil, List.length_cons, Nat.reduceLeDiff, Nat.zero_le]
              have f3 : fM H (hset H 135 (c_ia 160 (upd w' 38 (s 18 ^^^ 1 <<< (fg &&& 31))))) := fun k a b => hget_ne a
              refine next _ (upd w' 38 (s 18 ^^^ 1 <<< (fg &&& 31))) _ ⟨k1.1.fM f3, hget_self _ _ _, by obtain ⟨ff, hff⟩ := k1.2.2; exact ⟨ff, (hget_ne (by omega)).trans hff⟩⟩ (k2.kept (fun j a b => if_neg (by omega))) ?_ (k6.tr f3) (by simp [stO, nt v])
              rw [stS, if_neg e6]
              intro j hj
              unfold so upd
              by_cases e : j = 18
              · rw [if_pos (by omega), if_pos e]
              · rw [if_neg (by omega), if_neg e]
                exact k3 j hj
      simp only [eX7_judge_37, eX7_judge_38, pe_const, pe_istore_3, hget_hset, ia_l, ia_s, vin, opl, onl, Int32.reduceLT, Int32.reduceLE, Int32.reduceAdd, Int32.reduceSub, Nat.reduceLT, Nat.reduceAdd, Nat.reduceEqDiff, ↓reduceIte, true_and, and_true, List.length_nil, List.length_cons, Nat.reduceLeDiff, Nat.zero_le]
      exact key N 0 G1 w1 t _ _ (by omega) hW1 (ht.fL e3 (by omega)) e2 hok rfl f1 rfl
end MJ
