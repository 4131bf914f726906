/-! ===== judge of the class, once more: the row of turns stays ===== -/
set_option maxRecDepth 100000 in
theorem sp_judge2 {d c : Nat} {G : px_H} {le : Int32} {la dr : Nat} {ke : Int32} {sd : Int64} {K : Ld} {n row : Int32} {t st : Nat → Int32} {Q : px_Q} (hr : rX G le la dr ke sd K t) (h95 : hget G 95 = some (c_ia 8 st)) (hv : vK K) (hok : okT K c t) (hQ : ∀ G', rX G' le la dr ke sd K t → (∃ st', hget G' 95 = some (c_ia 8 st')) → frZ G G' 86 96 → hget G' 94 = hget G 94 → Q (some (.int (aJu K t n row))) G') : pcal (d + 4) 52 [.ref 2, .int n, .int row] G Q := by
  have x0 := hr.x
  refine inX6_judge ?_
  have bad : (n < 1 ∨ 8 < n ∨ row < 0 ∨ ¬ row.toNatClampNeg / 10 ^ n.toNatClampNeg = 0) → ∀ H, rX H le la dr ke sd K t → (∃ st', hget H 95 = some (c_ia 8 st')) → frZ G H 86 96 → hget H 94 = hget G 94 → pr (d + 3) 52 (G.1 + 0, G.2.1 + 0) Q 24 [some (.ref 2), some (.int n), some (.int row), none, none] [] H := by
    intro u H k1 k2 k3 k4
    simp only [eX6_judge_24, eX6_judge_26, pe_const, pe_iret, hget_hset, ia_l, ia_s, vin, opl, onl, Int32.reduceLT, Int32.reduceLE, Int32.reduceAdd, Int32.reduceSub, Nat.reduceLT, Nat.reduceAdd, Nat.reduceEqDiff, ↓reduceIte, true_and, and_true, List.length_nil, List.length_cons, Nat.reduceLeDiff, Nat.zero_le]
    have := hQ H k1 k2 k3 k4
    rw [aJu, if_pos u] at this
    exact this
  simp only [eX6_judge_0, eX6_judge_1, eX6_judge_2, pe_const, pe_iclt, pe_iload_1, hget_hset, ia_l, ia_s, vin, opl, onl, Int32.reduceLT, Int32.reduceLE, Int32.reduceAdd, Int32.reduceSub, Nat.reduceLT, Nat.reduceAdd, Nat.reduceEqDiff, ↓reduceIte, true_and, and_true, List.length_nil, List.length_cons, Nat.reduceLeDiff, Nat.zero_le]
  split
  · rename_i u1
    exact bad (Or.inl u1) G hr ⟨st, h95⟩ frZ.rf rfl
  · rename_i u1
    simp only [eX6_judge_5, eX6_judge_6, eX6_judge_8, pe_const, pe_icgt, pe_iload_1, hget_hset, ia_l, ia_s, vin, opl, onl, Int32.reduceLT, Int32.reduceLE, Int32.reduceAdd, Int32.reduceSub, Nat.reduceLT, Nat.reduceAdd, Nat.reduceEqDiff, ↓reduceIte, true_and, and_true, List.length_nil, List.length_cons, Nat.reduceLeDiff, Nat.zero_le]
    split
    · rename_i u2
      exact bad (Or.inr (Or.inl u2)) G hr ⟨st, h95⟩ frZ.rf rfl
    · rename_i u2
      simp only [eX6_judge_11, eX6_judge_12, pe_iflt, pe_iload_2, hget_hset, ia_l, ia_s, vin, opl, onl, Int32.reduceLT, Int32.reduceLE, Int32.reduceAdd, Int32.reduceSub, Nat.reduceLT, Nat.reduceAdd, Nat.reduceEqDiff, ↓reduceIte, true_and, and_true, List.length_nil, List.length_cons, Nat.reduceLeDiff, Nat.zero_le]
      split
      · rename_i u3
        exact bad (Or.inr (Or.inr (Or.inl u3))) G hr ⟨st, h95⟩ frZ.rf rfl
      · rename_i u3
        obtain ⟨N, hN, rfl⟩ := nI_of2 (M := 8) (n := 8) (x := n) (by decide) (fun z => u1 (Int32.lt_trans z (by decide))) (Int32.not_lt.mp u2)
        obtain ⟨R, hR, rfl⟩ := nI_of (x := row) u3
        have hNc : (nI N).toNatClampNeg = N := nI_clamp (by omega)
        have hRc : (nI R).toNatClampNeg = R := nI_clamp hR
        simp only [eX6_judge_15, eX6_judge_16, eX6_judge_17, eX6_judge_18, pe_aload_0, pe_callV_2, pe_iload_1, pe_iload_2, x0, x_o, hget_hset, ia_l, ia_s, vin, opl, onl, Int32.reduceLT, Int32.reduceLE, Int32.reduceAdd, Int32.reduceSub, Nat.reduceLT, Nat.reduceAdd, Nat.reduceEqDiff, ↓reduceIte, true_and, and_true, List.length_nil, List.length_cons, Nat.reduceLeDiff, Nat.zero_le]
        refine sp_readSteps x0 h95 hN hR ?_
        intro G1 st1 e1 e2 e3
        have fz1 : frZ G G1 95 96 := fun k a b => e3 k (by omega)
        have z1 : isZ G1 17 := hr.1.2.2.2.kept (e3 _ (by omega)) (e3 _ (by omega))
        have r1 : rX G1 le la dr ke sd K t := ⟨hr.1.fr fz1 (by omega) z1, hr.2.1.frZ fz1 (by omega) (by omega), hr.2.2.1.elim (fun u hu => ⟨u, hu.frZ fz1 (by omega) (by omega)⟩), hr.2.2.2.elim (fun u hu => ⟨u, hu.frZ fz1 (by omega) (by omega)⟩)⟩
        simp only [eX6_judge_21, pe_ifeq, zB_0, decide_eq_false_iff_not, hget_hset, ia_l, ia_s, vin, opl, onl, Int32.reduceLT, Int32.reduceLE, Int32.reduceAdd, Int32.reduceSub, Nat.reduceLT, Nat.reduceAdd, Nat.reduceEqDiff, ↓reduceIte, true_and, and_true, List.length_nil, List.length_cons, Nat.reduceLeDiff, Nat.zero_le]
        split
        · rename_i u4
          exact bad (Or.inr (Or.inr (Or.inr (by rw [hNc, hRc]; exact u4)))) G1 r1 ⟨st1, e1⟩ (fz1.wd (by omega) (by omega)) (e3 _ (by omega))
        · rename_i u4
          have good : ¬ (nI N < 1 ∨ 8 < nI N ∨ nI R < 0 ∨ ¬ R / 10 ^ N = 0) := by rintro (z | z | z | z) <;> contradiction
          obtain ⟨v1, v2, ⟨tu, v3⟩, mv, v4⟩ := id r1
          have y0 := r1.x
          have t0 := v3.obj
          simp only [eX6_judge_27, eX6_judge_28, eX6_judge_31, eX6_judge_32, eX6_judge_35, pe_aload_0, pe_callV_1, pe_getf, y0, t0, x_g6, x_g12, sc_g0, sc_g1, sc_g2, sc_g3, sc_g4, sc_p3, sc_p4, sc_o, hget_hset, ia_l, ia_s, vin, opl, onl, Int32.reduceLT, Int32.reduceLE, Int32.reduceAdd, Int32.reduceSub, Nat.reduceLT, Nat.reduceAdd, Nat.reduceEqDiff, ↓reduceIte, true_and, and_true, List.length_nil, List.length_cons, Nat.reduceLeDiff, Nat.zero_le]
          refine sp_copy v3 v2 (by omega) ?_
          intro G2 g1 g2
          have fz2 : frZ G G2 86 96 := (fz1.wd (by omega) (by omega)).tr (fun k a b => g2 k (by omega))
          have z2 : isZ G2 17 := z1.kept (g2 _ (by omega)) (g2 _ (by omega))
          have w2 : wX G2 le la dr ke sd K := hr.1.fr fz2 (by omega) z2
          have y2 := w2.1
          have t2 := g1.obj
          simp only [eX6_judge_38, eX6_judge_39, eX6_judge_42, pe_aload_0, pe_callV_0, pe_getf, y2, t2, x_g12, sc_g0, sc_g1, sc_g2, sc_g3, sc_g4, sc_p3, sc_p4, sc_o, hget_hset, ia_l, ia_s, vin, opl, onl, Int32.reduceLT, Int32.reduceLE, Int32.reduceAdd, Int32.reduceSub, Nat.reduceLT, Nat.reduceAdd, Nat.reduceEqDiff, ↓reduceIte, true_and, and_true, List.length_nil, List.length_cons, Nat.reduceLeDiff, Nat.zero_le]
          refine sp_wetTowns g1 ?_
          simp only [eX6_judge_45, eX6_judge_46, eX6_judge_47, pe_const, pe_istore_3, pe_istore_4, hget_hset, ia_l, ia_s, vin, opl, onl, Int32.reduceLT, Int32.reduceLE, Int32.reduceAdd, Int32.reduceSub, Nat.reduceLT, Nat.reduceAdd, Nat.reduceEqDiff, ↓reduceIte, true_and, and_true, List.length_nil, List.length_cons, Nat.reduceLeDiff, Nat.zero_le]
          have e95 : hget G2 95 = some (c_ia 8 st1) := (g2 _ (by omega)).trans e1
          have m2 : isS G2 90 mv := v4.kept (fun k a b => g2 k (by omega))
          have fin : ∀ H s e, wX H le la dr ke sd K → isS H 86 s → frZ G2 H 86 90 → e = jG K (aWe t 6) (jF N R) N 0 t → Q (some (.int e)) H := by
            intro H s e k1 k2 k3 k4
            have fzH := fz2.tr (k3.wd (by omega) (by omega))
            have := hQ H ⟨k1, hr.2.1.frZ fzH (by omega) (by omega), ⟨s, k2⟩, mv, m2.frZ k3 (by omega) (by omega)⟩ ⟨st1, (k3 _ (by omega) (by omega)).trans e95⟩ fzH (((k3 _ (by omega) (by omega)).trans (g2 _ (by omega))).trans (e3 _ (by omega)))
            rw [aJu, hNc, hRc, if_neg good, ← k4] at this
            exact this
          have key : ∀ j i H s, i + j = N → wX H le la dr ke sd K → isS H 86 s → okT K c s → frZ G2 H 86 90 → jG K (aWe t 6) st1 j i s = jG K (aWe t 6) st1 N 0 t → pr (d + 3) 52 (G.1 + 0, G.2.1 + 0) Q 49 [some (.ref 2), some (.int (nI N)), some (.int (nI R)), some (.int (aWe t 6)), some (.int (nI i))] [] H := by
            have eJ : jG K (aWe t 6) st1 N 0 t = jG K (aWe t 6) (jF N R) N 0 t := jG_e (fun i hi => e2 i hi) N 0 t (by omega)
            intro j
            induction j with
            | zero =>
              intro i H s hij k1 k2 k3 k4 k5
              obtain rfl : i = N := by omega
              simp only [eX6_judge_49, eX6_judge_51, eX6_judge_52, eX6_judge_93, eX6_judge_95, pe_const, pe_iclt, pe_iload_1, pe_iload_4, pe_iret, niE, hget_hset, ia_l, ia_s, vin, opl, onl, Int32.reduceLT, Int32.reduceLE, Int32.reduceAdd, Int32.reduceSub, Nat.reduceLT, Nat.reduceAdd, Nat.reduceEqDiff, ↓reduceIte, true_and, and_true, List.length_nil, List.length_cons, Nat.reduceLeDiff, Nat.zero_le]
              exact fin H s _ k1 k2 k4 (by rw [← eJ, ← k5]; rfl)
            | succ j ih =>
              intro i H s hij k1 k2 k3 k4 k5
              have c1 := niK (i := i) (n := N) (by omega) (by omega)
              have c2 : (nI i).toNatClampNeg = i := nI_clamp (by omega)
              have c3 : 0 ≤ nI i := nI_pos' (by omega)
              have c4 : i < 8 := by omega
              have h0 := k1.1
              have h9 : hget H 95 = some (c_ia 8 st1) := (k4 _ (by omega) (by omega)).trans e95
              simp only [eX6_judge_49, eX6_judge_51, eX6_judge_52, eX6_judge_55, eX6_judge_56, eX6_judge_57, eX6_judge_60, eX6_judge_61, eX6_judge_64, eX6_judge_66, eX6_judge_67, pe_aload_0, pe_callV_2, pe_getf, pe_iald, pe_iclt, pe_iload_1, pe_iload_4, h0, h9, x_g12, x_g15, x_o, c1, c2, c3, c4, hget_hset, ia_l, ia_s, vin, opl, onl, Int32.reduceLT, Int32.reduceLE, Int32.reduceAdd, Int32.reduceSub, Nat.reduceLT, Nat.reduceAdd, Nat.reduceEqDiff, ↓reduceIte, true_and, and_true, List.length_nil, List.length_cons, Nat.reduceLeDiff, Nat.zero_le]
              refine sp_canStep k1 k2 hv k3 ?_
              intro G3 s3 a0 a1 a2 a3
              simp only [eX6_judge_70, pe_ifeq, zB_0, hget_hset, ia_l, ia_s, vin, opl, onl, Int32.reduceLT, Int32.reduceLE, Int32.reduceAdd, Int32.reduceSub, Nat.reduceLT, Nat.reduceAdd, Nat.reduceEqDiff, ↓reduceIte, true_and, and_true, List.length_nil, List.length_cons, Nat.reduceLeDiff, Nat.zero_le]
              rw [jG] at k5
              split
              · rename_i u5
                rw [if_neg (fun z => by rw [z.1] at u5; cases u5)] at k5
                simp only [eX6_judge_84, eX6_judge_86, pe_iload_4, pe_iret, hget_hset, ia_l, ia_s, vin, opl, onl, Int32.reduceLT, Int32.reduceLE, Int32.reduceAdd, Int32.reduceSub, Nat.reduceLT, Nat.reduceAdd, Nat.reduceEqDiff, ↓reduceIte, true_and, and_true, List.length_nil, List.length_cons, Nat.reduceLeDiff, Nat.zero_le]
                exact fin G3 s3 _ a1 a2 (k4.tr a3) (by rw [← eJ, ← k5])
              · rename_i u5
                have u5' : stO K (st1 i) = true := by cases h : stO K (st1 i) with | true => rfl | false => exact absurd h u5
                have a0' := a0 u5'
                subst a0'
                have h3 := a1.1
                have s3o := a2.obj
                simp only [eX6_judge_73, eX6_judge_74, eX6_judge_77, pe_aload_0, pe_callV_0, pe_getf, h3, s3o, x_g12, sc_g0, sc_g1, sc_g2, sc_g3, sc_g4, sc_p3, sc_p4, sc_o, hget_hset, ia_l, ia_s, vin, opl, onl, Int32.reduceLT, Int32.reduceLE, Int32.reduceAdd, Int32.reduceSub, Nat.reduceLT, Nat.reduceAdd, Nat.reduceEqDiff, ↓reduceIte, true_and, and_true, List.length_nil, List.length_cons, Nat.reduceLeDiff, Nat.zero_le]
                refine sp_wetTowns a2 ?_
                simp only [eX6_judge_80, eX6_judge_81, pe_iceq, pe_iload_3, hget_hset, ia_l, ia_s, vin, opl, onl, Int32.reduceLT, Int32.reduceLE, Int32.reduceAdd, Int32.reduceSub, Nat.reduceLT, Nat.reduceAdd, Nat.reduceEqDiff, ↓reduceIte, true_and, and_true, List.length_nil, List.length_cons, Nat.reduceLeDiff, Nat.zero_le]
                split
                · rename_i u6
                  rw [if_pos ⟨u5', u6⟩] at k5
                  simp only [eX6_judge_87, eX6_judge_90, pe_goto, pe_iinc_4, nisw, hget_hset, ia_l, ia_s, vin, opl, onl, Int32.reduceLT, Int32.reduceLE, Int32.reduceAdd, Int32.reduceSub, Nat.reduceLT, Nat.reduceAdd, Nat.reduceEqDiff, ↓reduceIte, true_and, and_true, List.length_nil, List.length_cons, Nat.reduceLeDiff, Nat.zero_le]
                  exact ih (i + 1) G3 _ (by omega) a1 a2 (okT_st hv k3 _) (k4.tr a3) k5
                · rename_i u6
                  rw [if_neg (fun z => u6 z.2)] at k5
                  simp only [eX6_judge_84, eX6_judge_86, pe_iload_4, pe_iret, hget_hset, ia_l, ia_s, vin, opl, onl, Int32.reduceLT, Int32.reduceLE, Int32.reduceAdd, Int32.reduceSub, Nat.reduceLT, Nat.reduceAdd, Nat.reduceEqDiff, ↓reduceIte, true_and, and_true, List.length_nil, List.length_cons, Nat.reduceLeDiff, Nat.zero_le]
                  exact fin G3 _ _ a1 a2 (k4.tr a3) (by rw [← eJ, ← k5])
          exact key N 0 G2 t (by omega) w2 g1 hok frZ.rf rfl
