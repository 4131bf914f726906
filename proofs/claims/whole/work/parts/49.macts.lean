/-! ===== the reference: place, ditch, its row of acts ===== -/
section ME
variable {d : Nat} {G : px_H} {q : Nat → Int32} {sd : Int64} {K : Ld} {t : Nat → Int32} {c o : Nat} {Q : px_Q}
theorem sM0 {w : Nat → Int32} (h : sM K w 0 t) : ∀ j, (j < 20 ∧ (¬ K.n = 0 ∨ j < 12 ∨ 18 ≤ j)) → w j = t j := fun j hj => by
  have := h j hj
  rw [Nat.mul_zero, Nat.zero_add] at this
  exact this
set_option maxRecDepth 100000 in
theorem sp_mplace {p x : Int32} (hm : rM G q sd K t) (hQ : Q (some (.int (aPl K t p x))) G) : pcal (d + 3) 106 [.ref 124, .int p, .int x] G Q := by
  obtain ⟨w, hw, ht⟩ := hm
  obtain ⟨m0, m1, m2, m3, m4, kd, ms, fm, tt, a1, a2, a3, a4, a5, a6⟩ := id hw.1
  have hw0 := hw.2.1
  have s0 := sM0 ht
  refine inX7_place ?_
  simp only [eX7_place_0, eX7_place_1, eX7_place_2, pe_aload_0, pe_callV_1, pe_iload_1, m0, m_o, hget_hset, ia_l, ia_s, vin, opl, onl, Int32.reduceLT, Int32.reduceLE, Int32.reduceAdd, Int32.reduceSub, Nat.reduceLT, Nat.reduceAdd, Nat.reduceEqDiff, ↓reduceIte, true_and, and_true, List.length_nil, List.length_cons, Nat.reduceLeDiff, Nat.zero_le]
  refine sp_isPlace hw.1 ?_
  simp only [eX7_place_5, eX7_place_8, eX7_place_9, pe_const, pe_ifeq, pe_iret, zB_0, hget_hset, ia_l, ia_s, vin, opl, onl, Int32.reduceLT, Int32.reduceLE, Int32.reduceAdd, Int32.reduceSub, Nat.reduceLT, Nat.reduceAdd, Nat.reduceEqDiff, ↓reduceIte, true_and, and_true, List.length_nil, List.length_cons, Nat.reduceLeDiff, Nat.zero_le]
  rw [aPl] at hQ
  split
  · rename_i u0
    rw [if_pos u0] at hQ
    exact hQ
  · rename_i u0
    rw [if_neg u0] at hQ
    obtain ⟨i, hi, rfl⟩ := hP_nI m3 (nt u0)
    obtain ⟨c1, c2, c3, c4⟩ := niL (i := i) (n := K.n) hi m3
    obtain ⟨f3, f4⟩ := a5 i hi
    have n6 : (6 : Int32) + nI i = nI (6 + i) := nI_add 6 i
    have n12 : (12 : Int32) + nI i = nI (12 + i) := nI_add 12 i
    obtain ⟨b1, b2⟩ := ni160 (i := 6 + i) (by omega)
    obtain ⟨b3, b4⟩ := ni160 (i := 12 + i) (by omega)
    have b5 : 6 + i < 160 := by omega
    have b6 : 12 + i < 160 := by omega
    have b7 : i < 160 := by omega
    have g1 := s0 i (by omega)
    have g2 := s0 (6 + i) (by omega)
    have g3 := s0 (12 + i) (by omega)
    rw [c1] at hQ
    simp only [eX7_place_10, eX7_place_11, pe_iload_2, pe_switch, px_sw, hget_hset, ia_l, ia_s, vin, opl, onl, Int32.reduceLT, Int32.reduceLE, Int32.reduceAdd, Int32.reduceSub, Nat.reduceLT, Nat.reduceAdd, Nat.reduceEqDiff, ↓reduceIte, true_and, and_true, List.length_nil, List.length_cons, Nat.reduceLeDiff, Nat.zero_le]
    by_cases w0 : x = 0
    · rw [if_pos w0]; rw [if_pos w0] at hQ
      simp only [eX7_place_48, eX7_place_49, eX7_place_52, eX7_place_53, eX7_place_54, pe_aload_0, pe_getf, pe_iald, pe_iload_1, pe_iret, m0, m_g9, a1, c1, c2, c4, f3, hget_hset, ia_l, ia_s, vin, opl, onl, Int32.reduceLT, Int32.reduceLE, Int32.reduceAdd, Int32.reduceSub, Nat.reduceLT, Nat.reduceAdd, Nat.reduceEqDiff, ↓reduceIte, true_and, and_true, List.length_nil, List.length_cons, Nat.reduceLeDiff, Nat.zero_le]
      exact hQ
    · rw [if_neg w0]; rw [if_neg w0] at hQ
      by_cases w1 : x = 1
      · rw [if_pos w1]; rw [if_pos w1] at hQ
        simp only [eX7_place_55, eX7_place_56, eX7_place_59, eX7_place_60, eX7_place_61, pe_aload_0, pe_getf, pe_iald, pe_iload_1, pe_iret, m0, m_g15, hw0, c1, c2, b7, g1, hget_hset, ia_l, ia_s, vin, opl, onl, Int32.reduceLT, Int32.reduceLE, Int32.reduceAdd, Int32.reduceSub, Nat.reduceLT, Nat.reduceAdd, Nat.reduceEqDiff, ↓reduceIte, true_and, and_true, List.length_nil, List.length_cons, Nat.reduceLeDiff, Nat.zero_le]
        exact hQ
      · rw [if_neg w1]; rw [if_neg w1] at hQ
        by_cases w2 : x = 2
        · rw [if_pos w2]; rw [if_pos w2] at hQ
          simp only [eX7_place_62, eX7_place_63, eX7_place_66, eX7_place_68, eX7_place_69, eX7_place_70, eX7_place_71, pe_aload_0, pe_bin, pe_const, pe_getf, pe_iald, pe_iload_1, pe_iret, m0, m_g15, hw0, n6, b1, b2, b5, g2, hget_hset, ia_l, ia_s, vin, opl, onl, Int32.reduceLT, Int32.reduceLE, Int32.reduceAdd, Int32.reduceSub, Nat.reduceLT, Nat.reduceAdd, Nat.reduceEqDiff, ↓reduceIte, true_and, and_true, List.length_nil, List.length_cons, Nat.reduceLeDiff, Nat.zero_le]
          exact hQ
        · rw [if_neg w2]; rw [if_neg w2] at hQ
          by_cases w3 : x = 3
          · rw [if_pos w3]; rw [if_pos w3] at hQ
            simp only [eX7_place_72, eX7_place_73, eX7_place_76, eX7_place_77, eX7_place_78, pe_aload_0, pe_getf, pe_iald, pe_iload_1, pe_iret, m0, m_g10, a2, c1, c2, c4, f4, hget_hset, ia_l, ia_s, vin, opl, onl, Int32.reduceLT, Int32.reduceLE, Int32.reduceAdd, Int32.reduceSub, Nat.reduceLT, Nat.reduceAdd, Nat.reduceEqDiff, ↓reduceIte, true_and, and_true, List.length_nil, List.length_cons, Nat.reduceLeDiff, Nat.zero_le]
            exact hQ
          · rw [if_neg w3]; rw [if_neg w3] at hQ
            by_cases w4 : x = 4
            · rw [if_pos w4]; rw [if_pos w4] at hQ
              simp only [eX7_place_79, eX7_place_80, eX7_place_83, eX7_place_85, eX7_place_86, eX7_place_87, eX7_place_88, pe_aload_0, pe_bin, pe_const, pe_getf, pe_iald, pe_iload_1, pe_iret, m0, m_g15, hw0, n12, b3, b4, b6, g3, hget_hset, ia_l, ia_s, vin, opl, onl, Int32.reduceLT, Int32.reduceLE, Int32.reduceAdd, Int32.reduceSub, Nat.reduceLT, Nat.reduceAdd, Nat.reduceEqDiff, ↓reduceIte, true_and, and_true, List.length_nil, List.length_cons, Nat.reduceLeDiff, Nat.zero_le]
              exact hQ
            · rw [if_neg w4]; rw [if_neg w4] at hQ
              by_cases w5 : x = 5
              · rw [if_pos w5]; rw [if_pos w5] at hQ
                simp only [eX7_place_89, eX7_place_90, eX7_place_91, eX7_place_92, pe_aload_0, pe_callV_2, pe_const, pe_iload_1, m0, m_o, hget_hset, ia_l, ia_s, vin, opl, onl, Int32.reduceLT, Int32.reduceLE, Int32.reduceAdd, Int32.reduceSub, Nat.reduceLT, Nat.reduceAdd, Nat.reduceEqDiff, ↓reduceIte, true_and, and_true, List.length_nil, List.length_cons, Nat.reduceLeDiff, Nat.zero_le]
                refine sp_mleastOpen (L := 0) rfl (by omega) hw.1 hw0 ht ?_
                simp only [eX7_place_95, pe_iret, hget_hset, ia_l, ia_s, vin, opl, onl, Int32.reduceLT, Int32.reduceLE, Int32.reduceAdd, Int32.reduceSub, Nat.reduceLT, Nat.reduceAdd, Nat.reduceEqDiff, ↓reduceIte, true_and, and_true, List.length_nil, List.length_cons, Nat.reduceLeDiff, Nat.zero_le]
                exact hQ
              · rw [if_neg w5]; rw [if_neg w5] at hQ
                simp only [eX7_place_96, eX7_place_98, pe_const, pe_iret, hget_hset, ia_l, ia_s, vin, opl, onl, Int32.reduceLT, Int32.reduceLE, Int32.reduceAdd, Int32.reduceSub, Nat.reduceLT, Nat.reduceAdd, Nat.reduceEqDiff, ↓reduceIte, true_and, and_true, List.length_nil, List.length_cons, Nat.reduceLeDiff, Nat.zero_le]
                exact hQ
set_option maxRecDepth 100000 in
theorem sp_mditch {p x : Int32} (hm : rM G q sd K t) (hQ : Q (some (.int (aDi K t p x))) G) : pcal (d + 3) 107 [.ref 124, .int p, .int x] G Q := by
  obtain ⟨w, hw, ht⟩ := hm
  obtain ⟨m0, m1, m2, m3, m4, kd, ms, fm, tt, a1, a2, a3, a4, a5, a6⟩ := id hw.1
  have hw0 := hw.2.1
  have g18 := sM0 ht 18 (by omega)
  have c18 : (18 : Int32).toNatClampNeg = 18 := by decide
  refine inX7_ditch ?_
  simp only [eX7_ditch_0, eX7_ditch_1, eX7_ditch_2, pe_aload_0, pe_callV_1, pe_iload_1, m0, m_o, hget_hset, ia_l, ia_s, vin, opl, onl, Int32.reduceLT, Int32.reduceLE, Int32.reduceAdd, Int32.reduceSub, Nat.reduceLT, Nat.reduceAdd, Nat.reduceEqDiff, ↓reduceIte, true_and, and_true, List.length_nil, List.length_cons, Nat.reduceLeDiff, Nat.zero_le]
  refine sp_isDitch hw.1 ?_
  simp only [eX7_ditch_5, eX7_ditch_8, eX7_ditch_9, pe_const, pe_ifeq, pe_iret, zB_0, hget_hset, ia_l, ia_s, vin, opl, onl, Int32.reduceLT, Int32.reduceLE, Int32.reduceAdd, Int32.reduceSub, Nat.reduceLT, Nat.reduceAdd, Nat.reduceEqDiff, ↓reduceIte, true_and, and_true, List.length_nil, List.length_cons, Nat.reduceLeDiff, Nat.zero_le]
  rw [aDi] at hQ
  split
  · rename_i u0
    rw [if_pos u0] at hQ
    exact hQ
  · rename_i u0
    rw [if_neg u0] at hQ
    obtain ⟨i, hi, rfl⟩ := hP_nI m4 (nt u0)
    obtain ⟨c1, c2, c3, c4⟩ := niL (i := i) (n := K.m) hi m4
    obtain ⟨f3, f4⟩ := a6 i hi
    rw [c1] at hQ
    simp only [eX7_ditch_10, eX7_ditch_11, pe_iload_2, pe_switch, px_sw, hget_hset, ia_l, ia_s, vin, opl, onl, Int32.reduceLT, Int32.reduceLE, Int32.reduceAdd, Int32.reduceSub, Nat.reduceLT, Nat.reduceAdd, Nat.reduceEqDiff, ↓reduceIte, true_and, and_true, List.length_nil, List.length_cons, Nat.reduceLeDiff, Nat.zero_le]
    by_cases w0 : x = 0
    · rw [if_pos w0]; rw [if_pos w0] at hQ
      simp only [eX7_ditch_36, eX7_ditch_37, eX7_ditch_40, eX7_ditch_41, eX7_ditch_42, pe_aload_0, pe_getf, pe_iald, pe_iload_1, pe_iret, m0, m_g11, a3, c1, c2, c4, f3, hget_hset, ia_l, ia_s, vin, opl, onl, Int32.reduceLT, Int32.reduceLE, Int32.reduceAdd, Int32.reduceSub, Nat.reduceLT, Nat.reduceAdd, Nat.reduceEqDiff, ↓reduceIte, true_and, and_true, List.length_nil, List.length_cons, Nat.reduceLeDiff, Nat.zero_le]
      exact hQ
    · rw [if_neg w0]; rw [if_neg w0] at hQ
      by_cases w1 : x = 1
      · rw [if_pos w1]; rw [if_pos w1] at hQ
        simp only [eX7_ditch_43, eX7_ditch_44, eX7_ditch_47, eX7_ditch_48, eX7_ditch_49, pe_aload_0, pe_getf, pe_iald, pe_iload_1, pe_iret, m0, m_g12, a4, c1, c2, c4, f4, hget_hset, ia_l, ia_s, vin, opl, onl, Int32.reduceLT, Int32.reduceLE, Int32.reduceAdd, Int32.reduceSub, Nat.reduceLT, Nat.reduceAdd, Nat.reduceEqDiff, ↓reduceIte, true_and, and_true, List.length_nil, List.length_cons, Nat.reduceLeDiff, Nat.zero_le]
        exact hQ
      · rw [if_neg w1]; rw [if_neg w1] at hQ
        by_cases w2 : x = 2
        · rw [if_pos w2]; rw [if_pos w2] at hQ
          simp only [eX7_ditch_50, eX7_ditch_51, eX7_ditch_54, eX7_ditch_56, eX7_ditch_57, eX7_ditch_58, eX7_ditch_59, eX7_ditch_60, eX7_ditch_61, pe_aload_0, pe_bin, pe_const, pe_getf, pe_iald, pe_iload_1, pe_iret, m0, m_g15, hw0, c18, g18, hget_hset, ia_l, ia_s, vin, opl, onl, Int32.reduceLT, Int32.reduceLE, Int32.reduceAdd, Int32.reduceSub, Nat.reduceLT, Nat.reduceAdd, Nat.reduceEqDiff, ↓reduceIte, true_and, and_true, List.length_nil, List.length_cons, Nat.reduceLeDiff, Nat.zero_le]
          exact hQ
        · rw [if_neg w2]; rw [if_neg w2] at hQ
          simp only [eX7_ditch_62, eX7_ditch_64, pe_const, pe_iret, hget_hset, ia_l, ia_s, vin, opl, onl, Int32.reduceLT, Int32.reduceLE, Int32.reduceAdd, Int32.reduceSub, Nat.reduceLT, Nat.reduceAdd, Nat.reduceEqDiff, ↓reduceIte, true_and, and_true, List.length_nil, List.length_cons, Nat.reduceLeDiff, Nat.zero_le]
          exact hQ
/-- the reference's row of acts: fourteen levels in a ring -/
def mA (K : Ld) (G : px_H) (q : Nat → Int32) (sz : Nat) (T : Nat → Nat → Int32) : Prop := sz ≤ 14 ∧ q 21 = nI sz ∧ ∃ nx rw', nx < 14 ∧ q 22 = nI nx ∧ hget G 138 = some (c_ia 280 rw') ∧ ∀ i, i < sz → sM K rw' ((nx + 14 - sz + i) % 14) (T i)
theorem mA.kept {G' : px_H} {q' : Nat → Int32} {sz : Nat} {T : Nat → Nat → Int32} (h : mA K G q sz T) (h1 : hget G' 138 = hget G 138) (h2 : q' 21 = q 21) (h3 : q' 22 = q 22) : mA K G' q' sz T := by
  unfold mA at h ⊢
  rw [h1, h2, h3]
  exact h
theorem ni280 {i : Nat} (h : i < 280) : (nI i).toNatClampNeg = i ∧ 0 ≤ nI i := ⟨nI_clamp (by omega), nI_pos' (by omega)⟩
theorem rem14 {a : Nat} (h : a < 1000) : nI a - nI a / 14 * 14 = nI (a % 14) := pk_rem (d := 14) (by omega) (by omega) (by omega)
set_option maxRecDepth 100000 in
theorem sp_keepAct {sz : Nat} {T : Nat → Nat → Int32} {w : Nat → Int32} (m0 : hget G 124 = some (c_m q sd)) (hw : hget G 135 = some (c_ia 160 w)) (ht : sM K w 0 t) (hA : mA K G q sz T)
    (hQ : ∀ G' q', hget G' 124 = some (c_m q' sd) → (∀ k, k ≠ 21 → k ≠ 22 → q' k = q k) → mA K G' q' (rowS sz) (rowT sz T t) → (∀ k, k ≠ 124 → k ≠ 138 → hget G' k = hget G k) → Q none G') : pcal (d + 1) 115 [.ref 124] G Q := by
  obtain ⟨hsz, h21, nx, rw', hnx, h22, h138, hT⟩ := hA
  have s0 := sM0 ht
  refine inX7_keepAct ?_
  have key : ∀ k i H r, i + k = 20 → hget H 138 = some (c_ia 280 r) → (∀ j, j < i → r (20 * nx + j) = w j) → fL rw' r nx → (∀ k, k ≠ 138 → hget H k = hget G k) → pr d 115 (G.1 + 0, G.2.1 + 0) Q 2 [some (.ref 124), some (.int (nI i))] [] H := by
    intro k
    induction k with
    | zero =>
      intro i H r hi k1 k2 k3 k4
      obtain rfl : i = 20 := by omega
      have y0 : hget H 124 = some (c_m q sd) := (k4 _ (by omega)).trans m0
      have c1 : ¬ nI 20 < 20 := by decide
      have e14 : ¬ (14 : Int32) = 0 := by decide
      have u1 : ∀ v, upd q 22 v 21 = q 21 := fun v => if_neg (by decide)
      have r14 := rem14 (a := nx + 1) (by omega)
      have fin : ∀ v, v = nI (rowS sz) → Q none (hset (hset H 124 (c_m (upd q 22 (nI ((nx + 1) % 14))) sd)) 124 (c_m (upd (upd q 22 (nI ((nx + 1) % 14))) 21 v) sd)) := by
        intro v hv
        refine hQ _ (upd (upd q 22 (nI ((nx + 1) % 14))) 21 v) (hget_self _ _ _) (fun k q1 q2 => by simp only [upd, q1, q2, ↓reduceIte]) ⟨by unfold rowS; split <;> omega, by simp only [upd, ↓reduceIte]; exact hv, (nx + 1) % 14, r, Nat.mod_lt _ (by omega), by simp only [upd, Nat.reduceEqDiff, ↓reduceIte], by rw [hget_ne (by omega), hget_ne (by omega)]; exact k1, ?_⟩ (fun k q1 q2 => by rw [hget_ne q1, hget_ne q1]; exact k4 k q2)
        intro i hi
        have old : ∀ l, l < 14 → l ≠ nx → ∀ u, sM K rw' l u → sM K r l u := fun l h1 h2 u hu => hu.fL k3 h2
        have new : sM K r nx t := fun j hj => (k2 j hj.1).trans (s0 j hj)
        unfold rowS at hi ⊢
        unfold rowT
        by_cases c : sz < 14
        · simp only [c, ↓reduceIte] at hi ⊢
          by_cases e : i = sz
          · rw [if_pos e, show ((nx + 1) % 14 + 14 - (sz + 1) + i) % 14 = nx by omega]
            exact new
          · rw [if_neg e]
            have := hT i (by omega)
            rw [show ((nx + 1) % 14 + 14 - (sz + 1) + i) % 14 = (nx + 14 - sz + i) % 14 by omega]
            exact old _ (Nat.mod_lt _ (by omega)) (by omega) _ this
        · simp only [c, ↓reduceIte] at hi ⊢
          by_cases e : i = 13
          · rw [if_pos e, show ((nx + 1) % 14 + 14 - 14 + i) % 14 = nx by omega]
            exact new
          · rw [if_neg e]
            have := hT (i + 1) (by omega)
            rw [show ((nx + 1) % 14 + 14 - 14 + i) % 14 = (nx + 14 - sz + (i + 1)) % 14 by omega]
            exact old _ (Nat.mod_lt _ (by omega)) (by omega) _ this
      simp only [eX7_keepAct_0, eX7_keepAct_1, eX7_keepAct_2, eX7_keepAct_3, eX7_keepAct_5, eX7_keepAct_8, eX7_keepAct_9, eX7_keepAct_12, eX7_keepAct_14, eX7_keepAct_15, eX7_keepAct_18, eX7_keepAct_19, eX7_keepAct_20, eX7_keepAct_21, eX7_keepAct_22, eX7_keepAct_25, eX7_keepAct_26, eX7_keepAct_27, eX7_keepAct_28, eX7_keepAct_31, eX7_keepAct_34, eX7_keepAct_35, eX7_keepAct_36, eX7_keepAct_39, eX7_keepAct_40, eX7_keepAct_41, eX7_keepAct_43, eX7_keepAct_44, eX7_keepAct_47, eX7_keepAct_48, eX7_keepAct_49, eX7_keepAct_52, eX7_keepAct_54, eX7_keepAct_57, eX7_keepAct_58, eX7_keepAct_61, eX7_keepAct_62, eX7_keepAct_63, eX7_keepAct_66, eX7_keepAct_68, eX7_keepAct_71, pe_aload_0, pe_bin, pe_const, pe_getf, pe_goto, pe_iald, pe_iast, pe_iclt, pe_iinc_1, pe_iload_1, pe_irem, pe_istore_1, pe_putf, pe_vret, y0, m_g21, m_g22, m_p21, m_p22, h21, h22, u1, c1, e14, nisw, r14, not_false_eq_true, hget_hset, ia_l, ia_s, vin, opl, onl, Int32.reduceLT, Int32.reduceLE, Int32.reduceAdd, Int32.reduceSub, Nat.reduceLT, Nat.reduceAdd, Nat.reduceEqDiff, ↓reduceIte, true_and, and_true, List.length_nil, List.length_cons, Nat.reduceLeDiff, Nat.zero_le]
      split
      · rename_i z
        refine fin _ ?_
        have : sz < 14 := (nI_ltI (b := 14) (by omega) (by omega)).mp z
        unfold rowS
        rw [if_pos this]
      · rename_i z
        refine fin _ ?_
        have : ¬ sz < 14 := fun y => z ((nI_ltI (b := 14) (by omega) (by omega)).mpr y)
        unfold rowS
        rw [if_neg this]
        rfl
    | succ k ih =>
      intro i H r hi k1 k2 k3 k4
      have y0 : hget H 124 = some (c_m q sd) := (k4 _ (by omega)).trans m0
      have y1 : hget H 135 = some (c_ia 160 w) := (k4 _ (by omega)).trans hw
      have c1 : nI i < 20 := nI_lt (b := 20) (by omega) (by omega)
      obtain ⟨c2, c3⟩ := ni280 (i := 20 * nx + i) (by omega)
      obtain ⟨c4, c5⟩ := ni160 (i := i) (by omega)
      have c6 : 20 * nx + i < 280 := by omega
      have c7 : i < 160 := by omega
      rw [eX7_keepAct_2]
      simp only [eX7_keepAct_3, eX7_keepAct_5, eX7_keepAct_8, eX7_keepAct_9, eX7_keepAct_12, eX7_keepAct_14, eX7_keepAct_15, eX7_keepAct_18, eX7_keepAct_19, eX7_keepAct_20, eX7_keepAct_21, eX7_keepAct_22, eX7_keepAct_25, eX7_keepAct_26, eX7_keepAct_27, eX7_keepAct_28, eX7_keepAct_31, pe_aload_0, pe_bin, pe_const, pe_getf, pe_goto, pe_iald, pe_iast, pe_iclt, pe_iinc_1, pe_iload_1, y0, y1, k1, m_g15, m_g22, m_g23, h22, nI_m20, nI_add, c1, c2, c3, c4, c5, c6, c7, nisw, hget_hset, ia_l, ia_s, vin, opl, onl, Int32.reduceLT, Int32.reduceLE, Int32.reduceAdd, Int32.reduceSub, Nat.reduceLT, Nat.reduceAdd, Nat.reduceEqDiff, ↓reduceIte, true_and, and_true, List.length_nil, List.length_cons, Nat.reduceLeDiff, Nat.zero_le]
      refine ih (i + 1) _ _ (by omega) (hget_self _ _ _) (fun j hj => ?_) (fun j hj => ?_) (fun k hk => by rw [hget_ne hk]; exact k4 k hk)
      · by_cases e : j = i
        · rw [e]; simp only [upd, ↓reduceIte]
        · simp only [upd, show ¬ 20 * nx + j = 20 * nx + i by omega, ↓reduceIte]
          exact k2 j (by omega)
      · simp only [upd, show ¬ j = 20 * nx + i by omega, ↓reduceIte]
        exact k3 j hj
  simp only [eX7_keepAct_0, eX7_keepAct_1, pe_const, pe_istore_1, hget_hset, ia_l, ia_s, vin, opl, onl, Int32.reduceLT, Int32.reduceLE, Int32.reduceAdd, Int32.reduceSub, Nat.reduceLT, Nat.reduceAdd, Nat.reduceEqDiff, ↓reduceIte, true_and, and_true, List.length_nil, List.length_cons, Nat.reduceLeDiff, Nat.zero_le]
  exact key 20 0 G rw' rfl h138 (fun j hj => by omega) (fun _ _ => rfl) (fun _ _ => rfl)
end ME
