/-! ===== begin of the class, once more: nothing is made ===== -/
def fr2 (G H : px_H) (lo hi : Nat) : Prop := fr G H lo hi ∧ H.1 = G.1 ∧ H.2.1 = G.2.1
set_option maxRecDepth 100000 in
theorem sp_begin2 {d a l : Nat} {G : px_H} {t : Nat → Int32} {K : Ld} {Q : px_Q} (hs : isS G a t) (hl : isL G l K) (hla : l + 6 ≤ a ∨ a + 4 ≤ l) (hQ : ∀ G', isS G' a (aBg K) → fr G G' a (a + 4) → G'.1 = G.1 → G'.2.1 = G.2.1 → Q none G') : pcal (d + 1) 25 [.ref a, .ref l] G Q := by
  obtain ⟨f0, f1, f2, h0, h1, h2, h3, -⟩ := hs
  obtain ⟨l0, l1, l2, l3, l4, l5, l6, l7⟩ := hl
  refine inX3_begin ?_
  have ne_la_0_0 : ¬ (l = a) := by omega
  have ne_la_0_1 : ¬ (l = a + 1) := by omega
  have ne_la_0_2 : ¬ (l = a + 2) := by omega
  have ne_la_0_3 : ¬ (l = a + 3) := by omega
  have ne_la_1_0 : ¬ (l + 1 = a) := by omega
  have ne_la_1_1 : ¬ (l + 1 = a + 1) := by omega
  have ne_la_1_2 : ¬ (l + 1 = a + 2) := by omega
  have ne_la_1_3 : ¬ (l + 1 = a + 3) := by omega
  have ne_la_2_0 : ¬ (l + 2 = a) := by omega
  have ne_la_2_1 : ¬ (l + 2 = a + 1) := by omega
  have ne_la_2_2 : ¬ (l + 2 = a + 2) := by omega
  have ne_la_2_3 : ¬ (l + 2 = a + 3) := by omega
  have ne_la_3_0 : ¬ (l + 3 = a) := by omega
  have ne_la_3_1 : ¬ (l + 3 = a + 1) := by omega
  have ne_la_3_2 : ¬ (l + 3 = a + 2) := by omega
  have ne_la_3_3 : ¬ (l + 3 = a + 3) := by omega
  have ne_la_4_0 : ¬ (l + 4 = a) := by omega
  have ne_la_4_1 : ¬ (l + 4 = a + 1) := by omega
  have ne_la_4_2 : ¬ (l + 4 = a + 2) := by omega
  have ne_la_4_3 : ¬ (l + 4 = a + 3) := by omega
  have ne_la_5_0 : ¬ (l + 5 = a) := by omega
  have ne_la_5_1 : ¬ (l + 5 = a + 1) := by omega
  have ne_la_5_2 : ¬ (l + 5 = a + 2) := by omega
  have ne_la_5_3 : ¬ (l + 5 = a + 3) := by omega
  have ne_aa_0_1 : ¬ (a = a + 1) := by omega
  have ne_aa_0_2 : ¬ (a = a + 2) := by omega
  have ne_aa_0_3 : ¬ (a = a + 3) := by omega
  have ne_aa_1_0 : ¬ (a + 1 = a) := by omega
  have ne_aa_1_2 : ¬ (a + 1 = a + 2) := by omega
  have ne_aa_1_3 : ¬ (a + 1 = a + 3) := by omega
  have ne_aa_2_0 : ¬ (a + 2 = a) := by omega
  have ne_aa_2_1 : ¬ (a + 2 = a + 1) := by omega
  have ne_aa_2_3 : ¬ (a + 2 = a + 3) := by omega
  have ne_aa_3_0 : ¬ (a + 3 = a) := by omega
  have ne_aa_3_1 : ¬ (a + 3 = a + 1) := by omega
  have ne_aa_3_2 : ¬ (a + 3 = a + 2) := by omega
  have key : ∀ k i H g0 g1 g2 o3, i + k = 6 → hget H a = some (c_sc a (t 18) (t 19)) → hget H (a + 1) = some (c_ia 6 g0) → hget H (a + 2) = some (c_ia 6 g1) → hget H (a + 3) = some (c_ia 6 g2) → fr2 G H a (a + 4) → (∀ p, p < i → g0 p = aBg K p ∧ g1 p = aBg K (6 + p) ∧ g2 p = aBg K (12 + p)) → pr d 25 (G.1 + 0, G.2.1 + 0) Q 2 [some (.ref a), some (.ref l), some (.int (nI i)), o3] [] H := by
    intro k
    induction k with
    | zero =>
      intro i H g0 g1 g2 o3 hi k0 k1 k2 k3 k4 k5
      obtain rfl : i = 6 := by omega
      have m0 : hget H l = some (c_ld l K.oa (nI K.n) (nI K.m)) := (k4.1 l (by omega)).trans l0
      simp only [eX3_begin_2, eX3_begin_3, eX3_begin_5, eX3_begin_82, eX3_begin_83, eX3_begin_84, eX3_begin_87, eX3_begin_90, eX3_begin_91, eX3_begin_92, eX3_begin_95, pe_aload_0, pe_aload_1, pe_const, pe_getf, pe_iclt, pe_iload_2, pe_putf, pe_vret, m0, k0, ni66, sc_g0, sc_g1, sc_g2, sc_g3, sc_g4, sc_p3, sc_p4, sc_o, ld_g0, ld_g1, ld_g2, ld_g3, ld_g4, ld_g5, ld_g6, ld_g7, ld_p5, ld_p6, ld_p7, ld_o, ne_la_0_0, ne_la_0_1, ne_la_0_2, ne_la_0_3, ne_la_1_0, ne_la_1_1, ne_la_1_2, ne_la_1_3, ne_la_2_0, ne_la_2_1, ne_la_2_2, ne_la_2_3, ne_la_3_0, ne_la_3_1, ne_la_3_2, ne_la_3_3, ne_la_4_0, ne_la_4_1, ne_la_4_2, ne_la_4_3, ne_la_5_0, ne_la_5_1, ne_la_5_2, ne_la_5_3, ne_aa_0_1, ne_aa_0_2, ne_aa_0_3, ne_aa_1_0, ne_aa_1_2, ne_aa_1_3, ne_aa_2_0, ne_aa_2_1, ne_aa_2_3, ne_aa_3_0, ne_aa_3_1, ne_aa_3_2, hget_hset, ia_l, ia_s, vin, opl, onl, Int32.reduceLT, Int32.reduceLE, Int32.reduceAdd, Int32.reduceSub, Nat.reduceLT, Nat.reduceAdd, Nat.reduceEqDiff, ↓reduceIte, true_and, and_true, List.length_nil, List.length_cons, Nat.reduceLeDiff, Nat.zero_le]
      refine hQ _ ⟨g0, g1, g2, ?_, ?_, ?_, ?_, k5⟩ ?_ k4.2.1 k4.2.2
      · rw [hget_self]; rfl
      · rw [hget_ne (by omega), hget_ne (by omega)]; exact k1
      · rw [hget_ne (by omega), hget_ne (by omega)]; exact k2
      · rw [hget_ne (by omega), hget_ne (by omega)]; exact k3
      · intro k hk
        rw [hget_ne (by omega), hget_ne (by omega)]; exact k4.1 k hk
    | succ k ih =>
      intro i H g0 g1 g2 o3 hi k0 k1 k2 k3 k4 k5
      obtain ⟨c1, c2, c3⟩ := ni6 (i := i) (by omega)
      have c4 : i < 6 := by omega
      have m0 : hget H l = some (c_ld l K.oa (nI K.n) (nI K.m)) := (k4.1 l (by omega)).trans l0
      have m1 : hget H (l + 1) = some (c_ia 6 K.kd) := (k4.1 _ (by omega)).trans l1
      have m2 : hget H (l + 2) = some (c_ia 6 K.st) := (k4.1 _ (by omega)).trans l2
      have go : ∀ (st x y : Int32), st = (if i < K.n then K.st i else 0) → x = (if K.kd i = 0 then st else 0) → y = (if K.kd i = 1 then st else 0) → ∀ H', hget H' a = some (c_sc a (t 18) (t 19)) → hget H' (a + 1) = some (c_ia 6 (upd g0 i x)) → hget H' (a + 2) = some (c_ia 6 (upd g1 i y)) → hget H' (a + 3) = some (c_ia 6 (upd g2 i (-9))) → fr2 G H' a (a + 4) → pr d 25 (G.1 + 0, G.2.1 + 0) Q 2 [some (.ref a), some (.ref l), some (.int (nI (i + 1))), some (.int st)] [] H' := by
        intro st x y e1 e2 e3 H' q0 q1 q2 q3 q4
        refine ih (i + 1) H' _ _ _ _ (by omega) q0 q1 q2 q3 q4 (fun p hp => ?_)
        by_cases hpi : p = i
        · subst hpi
          have a1 : ¬ (6 + p < 6) := by omega
          have a2 : 6 + p < 12 := by omega
          have a3 : ¬ (12 + p < 6) := by omega
          have a4 : ¬ (12 + p < 12) := by omega
          have a5 : 12 + p < 18 := by omega
          have a6 : 6 + p - 6 = p := by omega
          simp only [upd, ↓reduceIte, aBg, c4, a1, a2, a3, a4, a5, a6, e2, e3, e1]
          refine ⟨?_, ?_, trivial⟩
          · by_cases u1 : p < K.n <;> by_cases u2 : K.kd p = 0 <;> simp [u1, u2]
          · by_cases u1 : p < K.n <;> by_cases u2 : K.kd p = 1 <;> simp [u1, u2]
        · simp only [upd, hpi, ↓reduceIte]
          exact k5 p (by omega)
      have frs : ∀ (e1 e2 e3 : px_E), fr2 G (hset (hset (hset H (a + 1) e1) (a + 2) e2) (a + 3) e3) a (a + 4) := by
        intro e1 e2 e3
        refine ⟨fun k hk => ?_, k4.2.1, k4.2.2⟩
        rw [hget_ne (by omega), hget_ne (by omega), hget_ne (by omega)]
        exact k4.1 k hk
      rw [eX3_begin_2]
      simp only [eX3_begin_3, eX3_begin_5, eX3_begin_8, eX3_begin_9, eX3_begin_10, eX3_begin_13, eX3_begin_16, eX3_begin_17, eX3_begin_20, eX3_begin_21, eX3_begin_22, eX3_begin_25, eX3_begin_26, pe_aload_1, pe_const, pe_getf, pe_goto, pe_iald, pe_iclt, pe_iload_2, pe_istore_3, m0, m2, c1, c2, c3, c4, nlt6 c4 l6, ld_g0, ld_g1, ld_g2, ld_g3, ld_g4, ld_g5, ld_g6, ld_g7, ld_p5, ld_p6, ld_p7, ld_o, hget_hset, ia_l, ia_s, vin, opl, onl, Int32.reduceLT, Int32.reduceLE, Int32.reduceAdd, Int32.reduceSub, Nat.reduceLT, Nat.reduceAdd, Nat.reduceEqDiff, ↓reduceIte, true_and, and_true, List.length_nil, List.length_cons, Nat.reduceLeDiff, Nat.zero_le]
      by_cases u1 : i < K.n
      · rw [if_pos u1]
        simp only [eX3_begin_26, eX3_begin_27, eX3_begin_28, eX3_begin_31, eX3_begin_32, eX3_begin_33, eX3_begin_36, eX3_begin_37, eX3_begin_38, eX3_begin_47, eX3_begin_48, eX3_begin_51, eX3_begin_52, eX3_begin_53, pe_aload_0, pe_aload_1, pe_getf, pe_iald, pe_ifeq, pe_iload_2, pe_istore_3, m0, m1, k0, k1, ld_g0, ld_g1, ld_g2, ld_g3, ld_g4, ld_g5, ld_g6, ld_g7, ld_p5, ld_p6, ld_p7, ld_o, sc_g0, sc_g1, sc_g2, sc_g3, sc_g4, sc_p3, sc_p4, sc_o, c1, c2, c4, ne_la_0_0, ne_la_0_1, ne_la_0_2, ne_la_0_3, ne_la_1_0, ne_la_1_1, ne_la_1_2, ne_la_1_3, ne_la_2_0, ne_la_2_1, ne_la_2_2, ne_la_2_3, ne_la_3_0, ne_la_3_1, ne_la_3_2, ne_la_3_3, ne_la_4_0, ne_la_4_1, ne_la_4_2, ne_la_4_3, ne_la_5_0, ne_la_5_1, ne_la_5_2, ne_la_5_3, ne_aa_0_1, ne_aa_0_2, ne_aa_0_3, ne_aa_1_0, ne_aa_1_2, ne_aa_1_3, ne_aa_2_0, ne_aa_2_1, ne_aa_2_3, ne_aa_3_0, ne_aa_3_1, ne_aa_3_2, hget_hset, ia_l, ia_s, vin, opl, onl, Int32.reduceLT, Int32.reduceLE, Int32.reduceAdd, Int32.reduceSub, Nat.reduceLT, Nat.reduceAdd, Nat.reduceEqDiff, ↓reduceIte, true_and, and_true, List.length_nil, List.length_cons, Nat.reduceLeDiff, Nat.zero_le]
        by_cases u2 : K.kd i = 0
        · have u3 : ¬ K.kd i = 1 := by rw [u2]; decide
          rw [if_pos u2]
          simp only [eX3_begin_41, eX3_begin_42, eX3_begin_45, eX3_begin_46, eX3_begin_47, eX3_begin_48, eX3_begin_51, eX3_begin_52, eX3_begin_53, eX3_begin_56, eX3_begin_57, eX3_begin_58, eX3_begin_59, eX3_begin_62, eX3_begin_63, eX3_begin_66, eX3_begin_67, eX3_begin_68, eX3_begin_69, eX3_begin_72, eX3_begin_73, eX3_begin_75, eX3_begin_76, eX3_begin_79, pe_aload_0, pe_aload_1, pe_const, pe_getf, pe_goto, pe_iald, pe_iast, pe_iceq, pe_iinc_2, pe_iload_2, pe_iload_3, m0, m1, k0, k1, k2, k3, ld_g0, ld_g1, ld_g2, ld_g3, ld_g4, ld_g5, ld_g6, ld_g7, ld_p5, ld_p6, ld_p7, ld_o, sc_g0, sc_g1, sc_g2, sc_g3, sc_g4, sc_p3, sc_p4, sc_o, c1, c2, c4, u3, nisw, ne_la_0_0, ne_la_0_1, ne_la_0_2, ne_la_0_3, ne_la_1_0, ne_la_1_1, ne_la_1_2, ne_la_1_3, ne_la_2_0, ne_la_2_1, ne_la_2_2, ne_la_2_3, ne_la_3_0, ne_la_3_1, ne_la_3_2, ne_la_3_3, ne_la_4_0, ne_la_4_1, ne_la_4_2, ne_la_4_3, ne_la_5_0, ne_la_5_1, ne_la_5_2, ne_la_5_3, ne_aa_0_1, ne_aa_0_2, ne_aa_0_3, ne_aa_1_0, ne_aa_1_2, ne_aa_1_3, ne_aa_2_0, ne_aa_2_1, ne_aa_2_3, ne_aa_3_0, ne_aa_3_1, ne_aa_3_2, hget_hset, ia_l, ia_s, vin, opl, onl, Int32.reduceLT, Int32.reduceLE, Int32.reduceAdd, Int32.reduceSub, Nat.reduceLT, Nat.reduceAdd, Nat.reduceEqDiff, ↓reduceIte, true_and, and_true, List.length_nil, List.length_cons, Nat.reduceLeDiff, Nat.zero_le]
          refine go _ (K.st i) 0 ?_ ?_ ?_ _ ?_ ?_ ?_ ?_ (frs _ _ _)
          · rw [if_pos u1]
          · rw [if_pos u2]
          · rw [if_neg u3]
          all_goals simp only [ne_aa_0_1, ne_aa_0_2, ne_aa_0_3, ne_aa_1_0, ne_aa_1_2, ne_aa_1_3, ne_aa_2_0, ne_aa_2_1, ne_aa_2_3, ne_aa_3_0, ne_aa_3_1, ne_aa_3_2, hget_hset, ia_l, ia_s, vin, opl, onl, Int32.reduceLT, Int32.reduceLE, Int32.reduceAdd, Int32.reduceSub, Nat.reduceLT, Nat.reduceAdd, Nat.reduceEqDiff, ↓reduceIte, true_and, and_true, List.length_nil, List.length_cons, Nat.reduceLeDiff, Nat.zero_le, k0]
        · rw [if_neg u2]
          simp only [eX3_begin_45, eX3_begin_46, eX3_begin_47, eX3_begin_48, eX3_begin_51, eX3_begin_52, eX3_begin_53, eX3_begin_56, eX3_begin_57, eX3_begin_58, eX3_begin_59, pe_aload_0, pe_aload_1, pe_const, pe_getf, pe_iald, pe_iast, pe_iceq, pe_iload_2, m0, m1, k0, k1, k2, k3, ld_g0, ld_g1, ld_g2, ld_g3, ld_g4, ld_g5, ld_g6, ld_g7, ld_p5, ld_p6, ld_p7, ld_o, sc_g0, sc_g1, sc_g2, sc_g3, sc_g4, sc_p3, sc_p4, sc_o, c1, c2, c4, ne_la_0_0, ne_la_0_1, ne_la_0_2, ne_la_0_3, ne_la_1_0, ne_la_1_1, ne_la_1_2, ne_la_1_3, ne_la_2_0, ne_la_2_1, ne_la_2_2, ne_la_2_3, ne_la_3_0, ne_la_3_1, ne_la_3_2, ne_la_3_3, ne_la_4_0, ne_la_4_1, ne_la_4_2, ne_la_4_3, ne_la_5_0, ne_la_5_1, ne_la_5_2, ne_la_5_3, ne_aa_0_1, ne_aa_0_2, ne_aa_0_3, ne_aa_1_0, ne_aa_1_2, ne_aa_1_3, ne_aa_2_0, ne_aa_2_1, ne_aa_2_3, ne_aa_3_0, ne_aa_3_1, ne_aa_3_2, hget_hset, ia_l, ia_s, vin, opl, onl, Int32.reduceLT, Int32.reduceLE, Int32.reduceAdd, Int32.reduceSub, Nat.reduceLT, Nat.reduceAdd, Nat.reduceEqDiff, ↓reduceIte, true_and, and_true, List.length_nil, List.length_cons, Nat.reduceLeDiff, Nat.zero_le]
          by_cases u3 : K.kd i = 1
          · rw [if_pos u3]
            simp only [eX3_begin_62, eX3_begin_63, eX3_begin_66, eX3_begin_67, eX3_begin_68, eX3_begin_69, eX3_begin_72, eX3_begin_73, eX3_begin_75, eX3_begin_76, eX3_begin_79, pe_aload_0, pe_const, pe_getf, pe_goto, pe_iast, pe_iinc_2, pe_iload_2, pe_iload_3, m0, m1, k0, k1, k2, k3, ld_g0, ld_g1, ld_g2, ld_g3, ld_g4, ld_g5, ld_g6, ld_g7, ld_p5, ld_p6, ld_p7, ld_o, sc_g0, sc_g1, sc_g2, sc_g3, sc_g4, sc_p3, sc_p4, sc_o, c1, c2, c4, nisw, ne_la_0_0, ne_la_0_1, ne_la_0_2, ne_la_0_3, ne_la_1_0, ne_la_1_1, ne_la_1_2, ne_la_1_3, ne_la_2_0, ne_la_2_1, ne_la_2_2, ne_la_2_3, ne_la_3_0, ne_la_3_1, ne_la_3_2, ne_la_3_3, ne_la_4_0, ne_la_4_1, ne_la_4_2, ne_la_4_3, ne_la_5_0, ne_la_5_1, ne_la_5_2, ne_la_5_3, ne_aa_0_1, ne_aa_0_2, ne_aa_0_3, ne_aa_1_0, ne_aa_1_2, ne_aa_1_3, ne_aa_2_0, ne_aa_2_1, ne_aa_2_3, ne_aa_3_0, ne_aa_3_1, ne_aa_3_2, hget_hset, ia_l, ia_s, vin, opl, onl, Int32.reduceLT, Int32.reduceLE, Int32.reduceAdd, Int32.reduceSub, Nat.reduceLT, Nat.reduceAdd, Nat.reduceEqDiff, ↓reduceIte, true_and, and_true, List.length_nil, List.length_cons, Nat.reduceLeDiff, Nat.zero_le]
            refine go _ 0 (K.st i) ?_ ?_ ?_ _ ?_ ?_ ?_ ?_ (frs _ _ _)
            · rw [if_pos u1]
            · rw [if_neg u2]
            · rw [if_pos u3]
            all_goals simp only [ne_aa_0_1, ne_aa_0_2, ne_aa_0_3, ne_aa_1_0, ne_aa_1_2, ne_aa_1_3, ne_aa_2_0, ne_aa_2_1, ne_aa_2_3, ne_aa_3_0, ne_aa_3_1, ne_aa_3_2, hget_hset, ia_l, ia_s, vin, opl, onl, Int32.reduceLT, Int32.reduceLE, Int32.reduceAdd, Int32.reduceSub, Nat.reduceLT, Nat.reduceAdd, Nat.reduceEqDiff, ↓reduceIte, true_and, and_true, List.length_nil, List.length_cons, Nat.reduceLeDiff, Nat.zero_le, k0]
          · rw [if_neg u3]
            simp only [eX3_begin_66, eX3_begin_67, eX3_begin_68, eX3_begin_69, eX3_begin_72, eX3_begin_73, eX3_begin_75, eX3_begin_76, eX3_begin_79, pe_aload_0, pe_const, pe_getf, pe_goto, pe_iast, pe_iinc_2, pe_iload_2, m0, m1, k0, k1, k2, k3, ld_g0, ld_g1, ld_g2, ld_g3, ld_g4, ld_g5, ld_g6, ld_g7, ld_p5, ld_p6, ld_p7, ld_o, sc_g0, sc_g1, sc_g2, sc_g3, sc_g4, sc_p3, sc_p4, sc_o, c1, c2, c4, nisw, ne_la_0_0, ne_la_0_1, ne_la_0_2, ne_la_0_3, ne_la_1_0, ne_la_1_1, ne_la_1_2, ne_la_1_3, ne_la_2_0, ne_la_2_1, ne_la_2_2, ne_la_2_3, ne_la_3_0, ne_la_3_1, ne_la_3_2, ne_la_3_3, ne_la_4_0, ne_la_4_1, ne_la_4_2, ne_la_4_3, ne_la_5_0, ne_la_5_1, ne_la_5_2, ne_la_5_3, ne_aa_0_1, ne_aa_0_2, ne_aa_0_3, ne_aa_1_0, ne_aa_1_2, ne_aa_1_3, ne_aa_2_0, ne_aa_2_1, ne_aa_2_3, ne_aa_3_0, ne_aa_3_1, ne_aa_3_2, hget_hset, ia_l, ia_s, vin, opl, onl, Int32.reduceLT, Int32.reduceLE, Int32.reduceAdd, Int32.reduceSub, Nat.reduceLT, Nat.reduceAdd, Nat.reduceEqDiff, ↓reduceIte, true_and, and_true, List.length_nil, List.length_cons, Nat.reduceLeDiff, Nat.zero_le]
            refine go _ 0 0 ?_ ?_ ?_ _ ?_ ?_ ?_ ?_ (frs _ _ _)
            · rw [if_pos u1]
            · rw [if_neg u2]
            · rw [if_neg u3]
            all_goals simp only [ne_aa_0_1, ne_aa_0_2, ne_aa_0_3, ne_aa_1_0, ne_aa_1_2, ne_aa_1_3, ne_aa_2_0, ne_aa_2_1, ne_aa_2_3, ne_aa_3_0, ne_aa_3_1, ne_aa_3_2, hget_hset, ia_l, ia_s, vin, opl, onl, Int32.reduceLT, Int32.reduceLE, Int32.reduceAdd, Int32.reduceSub, Nat.reduceLT, Nat.reduceAdd, Nat.reduceEqDiff, ↓reduceIte, true_and, and_true, List.length_nil, List.length_cons, Nat.reduceLeDiff, Nat.zero_le, k0]
      · rw [if_neg u1]
        simp only [eX3_begin_26, eX3_begin_27, eX3_begin_28, eX3_begin_31, eX3_begin_32, eX3_begin_33, eX3_begin_36, eX3_begin_37, eX3_begin_38, eX3_begin_47, eX3_begin_48, eX3_begin_51, eX3_begin_52, eX3_begin_53, pe_aload_0, pe_aload_1, pe_getf, pe_iald, pe_ifeq, pe_iload_2, pe_istore_3, m0, m1, k0, k1, ld_g0, ld_g1, ld_g2, ld_g3, ld_g4, ld_g5, ld_g6, ld_g7, ld_p5, ld_p6, ld_p7, ld_o, sc_g0, sc_g1, sc_g2, sc_g3, sc_g4, sc_p3, sc_p4, sc_o, c1, c2, c4, ne_la_0_0, ne_la_0_1, ne_la_0_2, ne_la_0_3, ne_la_1_0, ne_la_1_1, ne_la_1_2, ne_la_1_3, ne_la_2_0, ne_la_2_1, ne_la_2_2, ne_la_2_3, ne_la_3_0, ne_la_3_1, ne_la_3_2, ne_la_3_3, ne_la_4_0, ne_la_4_1, ne_la_4_2, ne_la_4_3, ne_la_5_0, ne_la_5_1, ne_la_5_2, ne_la_5_3, ne_aa_0_1, ne_aa_0_2, ne_aa_0_3, ne_aa_1_0, ne_aa_1_2, ne_aa_1_3, ne_aa_2_0, ne_aa_2_1, ne_aa_2_3, ne_aa_3_0, ne_aa_3_1, ne_aa_3_2, hget_hset, ia_l, ia_s, vin, opl, onl, Int32.reduceLT, Int32.reduceLE, Int32.reduceAdd, Int32.reduceSub, Nat.reduceLT, Nat.reduceAdd, Nat.reduceEqDiff, ↓reduceIte, true_and, and_true, List.length_nil, List.length_cons, Nat.reduceLeDiff, Nat.zero_le]
        by_cases u2 : K.kd i = 0
        · have u3 : ¬ K.kd i = 1 := by rw [u2]; decide
          rw [if_pos u2]
          simp only [eX3_begin_41, eX3_begin_42, eX3_begin_45, eX3_begin_46, eX3_begin_47, eX3_begin_48, eX3_begin_51, eX3_begin_52, eX3_begin_53, eX3_begin_56, eX3_begin_57, eX3_begin_58, eX3_begin_59, eX3_begin_62, eX3_begin_63, eX3_begin_66, eX3_begin_67, eX3_begin_68, eX3_begin_69, eX3_begin_72, eX3_begin_73, eX3_begin_75, eX3_begin_76, eX3_begin_79, pe_aload_0, pe_aload_1, pe_const, pe_getf, pe_goto, pe_iald, pe_iast, pe_iceq, pe_iinc_2, pe_iload_2, pe_iload_3, m0, m1, k0, k1, k2, k3, ld_g0, ld_g1, ld_g2, ld_g3, ld_g4, ld_g5, ld_g6, ld_g7, ld_p5, ld_p6, ld_p7, ld_o, sc_g0, sc_g1, sc_g2, sc_g3, sc_g4, sc_p3, sc_p4, sc_o, c1, c2, c4, u3, nisw, ne_la_0_0, ne_la_0_1, ne_la_0_2, ne_la_0_3, ne_la_1_0, ne_la_1_1, ne_la_1_2, ne_la_1_3, ne_la_2_0, ne_la_2_1, ne_la_2_2, ne_la_2_3, ne_la_3_0, ne_la_3_1, ne_la_3_2, ne_la_3_3, ne_la_4_0, ne_la_4_1, ne_la_4_2, ne_la_4_3, ne_la_5_0, ne_la_5_1, ne_la_5_2, ne_la_5_3, ne_aa_0_1, ne_aa_0_2, ne_aa_0_3, ne_aa_1_0, ne_aa_1_2, ne_aa_1_3, ne_aa_2_0, ne_aa_2_1, ne_aa_2_3, ne_aa_3_0, ne_aa_3_1, ne_aa_3_2, hget_hset, ia_l, ia_s, vin, opl, onl, Int32.reduceLT, Int32.reduceLE, Int32.reduceAdd, Int32.reduceSub, Nat.reduceLT, Nat.reduceAdd, Nat.reduceEqDiff, ↓reduceIte, true_and, and_true, List.length_nil, List.length_cons, Nat.reduceLeDiff, Nat.zero_le]
          refine go _ 0 0 ?_ ?_ ?_ _ ?_ ?_ ?_ ?_ (frs _ _ _)
          · rw [if_neg u1]
          · rw [if_pos u2]
          · rw [if_neg u3]
          all_goals simp only [ne_aa_0_1, ne_aa_0_2, ne_aa_0_3, ne_aa_1_0, ne_aa_1_2, ne_aa_1_3, ne_aa_2_0, ne_aa_2_1, ne_aa_2_3, ne_aa_3_0, ne_aa_3_1, ne_aa_3_2, hget_hset, ia_l, ia_s, vin, opl, onl, Int32.reduceLT, Int32.reduceLE, Int32.reduceAdd, Int32.reduceSub, Nat.reduceLT, Nat.reduceAdd, Nat.reduceEqDiff, ↓reduceIte, true_and, and_true, List.length_nil, List.length_cons, Nat.reduceLeDiff, Nat.zero_le, k0]
        · rw [if_neg u2]
          simp only [eX3_begin_45, eX3_begin_46, eX3_begin_47, eX3_begin_48, eX3_begin_51, eX3_begin_52, eX3_begin_53, eX3_begin_56, eX3_begin_57, eX3_begin_58, eX3_begin_59, pe_aload_0, pe_aload_1, pe_const, pe_getf, pe_iald, pe_iast, pe_iceq, pe_iload_2, m0, m1, k0, k1, k2, k3, ld_g0, ld_g1, ld_g2, ld_g3, ld_g4, ld_g5, ld_g6, ld_g7, ld_p5, ld_p6, ld_p7, ld_o, sc_g0, sc_g1, sc_g2, sc_g3, sc_g4, sc_p3, sc_p4, sc_o, c1, c2, c4, ne_la_0_0, ne_la_0_1, ne_la_0_2, ne_la_0_3, ne_la_1_0, ne_la_1_1, ne_la_1_2, ne_la_1_3, ne_la_2_0, ne_la_2_1, ne_la_2_2, ne_la_2_3, ne_la_3_0, ne_la_3_1, ne_la_3_2, ne_la_3_3, ne_la_4_0, ne_la_4_1, ne_la_4_2, ne_la_4_3, ne_la_5_0, ne_la_5_1, ne_la_5_2, ne_la_5_3, ne_aa_0_1, ne_aa_0_2, ne_aa_0_3, ne_aa_1_0, ne_aa_1_2, ne_aa_1_3, ne_aa_2_0, ne_aa_2_1, ne_aa_2_3, ne_aa_3_0, ne_aa_3_1, ne_aa_3_2, hget_hset, ia_l, ia_s, vin, opl, onl, Int32.reduceLT, Int32.reduceLE, Int32.reduceAdd, Int32.reduceSub, Nat.reduceLT, Nat.reduceAdd, Nat.reduceEqDiff, ↓reduceIte, true_and, and_true, List.length_nil, List.length_cons, Nat.reduceLeDiff, Nat.zero_le]
          by_cases u3 : K.kd i = 1
          · rw [if_pos u3]
            simp only [eX3_begin_62, eX3_begin_63, eX3_begin_66, eX3_begin_67, eX3_begin_68, eX3_begin_69, eX3_begin_72, eX3_begin_73, eX3_begin_75, eX3_begin_76, eX3_begin_79, pe_aload_0, pe_const, pe_getf, pe_goto, pe_iast, pe_iinc_2, pe_iload_2, pe_iload_3, m0, m1, k0, k1, k2, k3, ld_g0, ld_g1, ld_g2, ld_g3, ld_g4, ld_g5, ld_g6, ld_g7, ld_p5, ld_p6, ld_p7, ld_o, sc_g0, sc_g1, sc_g2, sc_g3, sc_g4, sc_p3, sc_p4, sc_o, c1, c2, c4, nisw, ne_la_0_0, ne_la_0_1, ne_la_0_2, ne_la_0_3, ne_la_1_0, ne_la_1_1, ne_la_1_2, ne_la_1_3, ne_la_2_0, ne_la_2_1, ne_la_2_2, ne_la_2_3, ne_la_3_0, ne_la_3_1, ne_la_3_2, ne_la_3_3, ne_la_4_0, ne_la_4_1, ne_la_4_2, ne_la_4_3, ne_la_5_0, ne_la_5_1, ne_la_5_2, ne_la_5_3, ne_aa_0_1, ne_aa_0_2, ne_aa_0_3, ne_aa_1_0, ne_aa_1_2, ne_aa_1_3, ne_aa_2_0, ne_aa_2_1, ne_aa_2_3, ne_aa_3_0, ne_aa_3_1, ne_aa_3_2, hget_hset, ia_l, ia_s, vin, opl, onl, Int32.reduceLT, Int32.reduceLE, Int32.reduceAdd, Int32.reduceSub, Nat.reduceLT, Nat.reduceAdd, Nat.reduceEqDiff, ↓reduceIte, true_and, and_true, List.length_nil, List.length_cons, Nat.reduceLeDiff, Nat.zero_le]
            refine go _ 0 0 ?_ ?_ ?_ _ ?_ ?_ ?_ ?_ (frs _ _ _)
            · rw [if_neg u1]
            · rw [if_neg u2]
            · rw [if_pos u3]
            all_goals simp only [ne_aa_0_1, ne_aa_0_2, ne_aa_0_3, ne_aa_1_0, ne_aa_1_2, ne_aa_1_3, ne_aa_2_0, ne_aa_2_1, ne_aa_2_3, ne_aa_3_0, ne_aa_3_1, ne_aa_3_2, hget_hset, ia_l, ia_s, vin, opl, onl, Int32.reduceLT, Int32.reduceLE, Int32.reduceAdd, Int32.reduceSub, Nat.reduceLT, Nat.reduceAdd, Nat.reduceEqDiff, ↓reduceIte, true_and, and_true, List.length_nil, List.length_cons, Nat.reduceLeDiff, Nat.zero_le, k0]
          · rw [if_neg u3]
            simp only [eX3_begin_66, eX3_begin_67, eX3_begin_68, eX3_begin_69, eX3_begin_72, eX3_begin_73, eX3_begin_75, eX3_begin_76, eX3_begin_79, pe_aload_0, pe_const, pe_getf, pe_goto, pe_iast, pe_iinc_2, pe_iload_2, m0, m1, k0, k1, k2, k3, ld_g0, ld_g1, ld_g2, ld_g3, ld_g4, ld_g5, ld_g6, ld_g7, ld_p5, ld_p6, ld_p7, ld_o, sc_g0, sc_g1, sc_g2, sc_g3, sc_g4, sc_p3, sc_p4, sc_o, c1, c2, c4, nisw, ne_la_0_0, ne_la_0_1, ne_la_0_2, ne_la_0_3, ne_la_1_0, ne_la_1_1, ne_la_1_2, ne_la_1_3, ne_la_2_0, ne_la_2_1, ne_la_2_2, ne_la_2_3, ne_la_3_0, ne_la_3_1, ne_la_3_2, ne_la_3_3, ne_la_4_0, ne_la_4_1, ne_la_4_2, ne_la_4_3, ne_la_5_0, ne_la_5_1, ne_la_5_2, ne_la_5_3, ne_aa_0_1, ne_aa_0_2, ne_aa_0_3, ne_aa_1_0, ne_aa_1_2, ne_aa_1_3, ne_aa_2_0, ne_aa_2_1, ne_aa_2_3, ne_aa_3_0, ne_aa_3_1, ne_aa_3_2, hget_hset, ia_l, ia_s, vin, opl, onl, Int32.reduceLT, Int32.reduceLE, Int32.reduceAdd, Int32.reduceSub, Nat.reduceLT, Nat.reduceAdd, Nat.reduceEqDiff, ↓reduceIte, true_and, and_true, List.length_nil, List.length_cons, Nat.reduceLeDiff, Nat.zero_le]
            refine go _ 0 0 ?_ ?_ ?_ _ ?_ ?_ ?_ ?_ (frs _ _ _)
            · rw [if_neg u1]
            · rw [if_neg u2]
            · rw [if_neg u3]
            all_goals simp only [ne_aa_0_1, ne_aa_0_2, ne_aa_0_3, ne_aa_1_0, ne_aa_1_2, ne_aa_1_3, ne_aa_2_0, ne_aa_2_1, ne_aa_2_3, ne_aa_3_0, ne_aa_3_1, ne_aa_3_2, hget_hset, ia_l, ia_s, vin, opl, onl, Int32.reduceLT, Int32.reduceLE, Int32.reduceAdd, Int32.reduceSub, Nat.reduceLT, Nat.reduceAdd, Nat.reduceEqDiff, ↓reduceIte, true_and, and_true, List.length_nil, List.length_cons, Nat.reduceLeDiff, Nat.zero_le, k0]
  simp only [eX3_begin_0, eX3_begin_1, pe_const, pe_istore_2, hget_hset, ia_l, ia_s, vin, opl, onl, Int32.reduceLT, Int32.reduceLE, Int32.reduceAdd, Int32.reduceSub, Nat.reduceLT, Nat.reduceAdd, Nat.reduceEqDiff, ↓reduceIte, true_and, and_true, List.length_nil, List.length_cons, Nat.reduceLeDiff, Nat.zero_le]
  exact key 6 0 G f0 f1 f2 none rfl h0 h1 h2 h3 ⟨fun _ _ => rfl, rfl, rfl⟩ (fun p hp => by omega)
