/-! ===== scenes of the reference: twenty numbers a level ===== -/
def sM (K : Ld) (w : Nat → Int32) (L : Nat) (t : Nat → Int32) : Prop := ∀ j, (j < 20 ∧ (¬ K.n = 0 ∨ j < 12 ∨ 18 ≤ j)) → w (20 * L + j) = t j
theorem nI_m20 (L : Nat) : (20 : Int32) * nI L = nI (20 * L) := (Int32.ofNat_mul 20 L).symm
theorem nI_c6 (a : Nat) : nI a + 6 = nI (a + 6) := nI_add a 6
theorem nI_c12 (a : Nat) : nI a + 12 = nI (a + 12) := nI_add a 12
theorem nI_c18 (a : Nat) : nI a + 18 = nI (a + 18) := nI_add a 18
theorem nI_c19 (a : Nat) : nI a + 19 = nI (a + 19) := nI_add a 19
theorem ni160 {i : Nat} (h : i < 160) : (nI i).toNatClampNeg = i ∧ 0 ≤ nI i := ⟨nI_clamp (by omega), nI_pos' (by omega)⟩
theorem sM.kept {K : Ld} {w w' : Nat → Int32} {L : Nat} {t : Nat → Int32} (h : sM K w L t) (hk : ∀ j, 20 * L ≤ j → j < 20 * L + 20 → w' j = w j) : sM K w' L t := fun j hj => by rw [hk _ (by omega) (by omega)]; exact h j hj
/-- only level L of the row has changed -/
def fL (w w' : Nat → Int32) (L : Nat) : Prop := ∀ j, (j < 20 * L ∨ 20 * L + 20 ≤ j) → w' j = w j
theorem sM.fL {K : Ld} {w w' : Nat → Int32} {L M : Nat} {t : Nat → Int32} (h : sM K w L t) (hf : fL w w' M) (hd : L ≠ M) : sM K w' L t := h.kept (fun j a b => hf j (by omega))
theorem fL.tr {w w' w'' : Nat → Int32} {L : Nat} (h : fL w w' L) (h' : fL w' w'' L) : fL w w'' L := fun j hj => (h' j hj).trans (h j hj)
set_option maxRecDepth 100000 in
theorem sp_lay {K : Ld} {d A B : Nat} {a b : Int32} {G : px_H} {q : Nat → Int32} {sd : Int64} {w t : Nat → Int32} {Q : px_Q} (ha : a = nI A) (hb : b = nI B) (hA : A < 8) (hB : B < 8) (hAB : A ≠ B) (m0 : hget G 124 = some (c_m q sd)) (hw : hget G 135 = some (c_ia 160 w)) (ht : sM K w A t) (hQ : ∀ G' w', hget G' 135 = some (c_ia 160 w') → sM K w' B t → fL w w' B → (∀ k, k ≠ 135 → hget G' k = hget G k) → Q none G') : pcal (d + 1) 114 [.ref 124, .int a, .int b] G Q := by
  subst ha hb
  refine inX7_lay ?_
  have key : ∀ k i H w', i + k = 20 → hget H 135 = some (c_ia 160 w') → (∀ j, j < i → w' (20 * B + j) = w (20 * A + j)) → fL w w' B → (∀ k, k ≠ 135 → hget H k = hget G k) → pr d 114 (G.1 + 0, G.2.1 + 0) Q 2 [some (.ref 124), some (.int (nI A)), some (.int (nI B)), some (.int (nI i))] [] H := by
    intro k
    induction k with
    | zero =>
      intro i H w' hi k1 k2 k3 k4
      obtain rfl : i = 20 := by omega
      have c1 : ¬ nI 20 < 20 := by decide
      simp only [eX7_lay_0, eX7_lay_1, eX7_lay_2, eX7_lay_3, eX7_lay_5, eX7_lay_8, eX7_lay_9, eX7_lay_12, eX7_lay_14, eX7_lay_15, eX7_lay_16, eX7_lay_17, eX7_lay_18, eX7_lay_19, eX7_lay_22, eX7_lay_24, eX7_lay_25, eX7_lay_26, eX7_lay_27, eX7_lay_28, eX7_lay_29, eX7_lay_30, eX7_lay_33, eX7_lay_36, pe_aload_0, pe_bin, pe_const, pe_getf, pe_goto, pe_iald, pe_iast, pe_iclt, pe_iinc_3, pe_iload_1, pe_iload_2, pe_iload_3, pe_istore_3, pe_vret, c1, hget_hset, ia_l, ia_s, vin, opl, onl, Int32.reduceLT, Int32.reduceLE, Int32.reduceAdd, Int32.reduceSub, Nat.reduceLT, Nat.reduceAdd, Nat.reduceEqDiff, ↓reduceIte, true_and, and_true, List.length_nil, List.length_cons, Nat.reduceLeDiff, Nat.zero_le]
      exact hQ H w' k1 (fun j hj => (k2 j hj.1).trans (ht j hj)) k3 k4
    | succ k ih =>
      intro i H w' hi k1 k2 k3 k4
      have y0 : hget H 124 = some (c_m q sd) := (k4 _ (by omega)).trans m0
      have c1 : nI i < 20 := nI_lt (b := 20) (by omega) (by omega)
      obtain ⟨c2, c3⟩ := ni160 (i := 20 * B + i) (by omega)
      obtain ⟨c4, c5⟩ := ni160 (i := 20 * A + i) (by omega)
      have c6 : 20 * B + i < 160 := by omega
      have c7 : 20 * A + i < 160 := by omega
      rw [eX7_lay_2]
      simp only [eX7_lay_0, eX7_lay_1, eX7_lay_3, eX7_lay_5, eX7_lay_8, eX7_lay_9, eX7_lay_12, eX7_lay_14, eX7_lay_15, eX7_lay_16, eX7_lay_17, eX7_lay_18, eX7_lay_19, eX7_lay_22, eX7_lay_24, eX7_lay_25, eX7_lay_26, eX7_lay_27, eX7_lay_28, eX7_lay_29, eX7_lay_30, eX7_lay_33, eX7_lay_36, pe_aload_0, pe_bin, pe_const, pe_getf, pe_goto, pe_iald, pe_iast, pe_iclt, pe_iinc_3, pe_iload_1, pe_iload_2, pe_iload_3, pe_istore_3, pe_vret, y0, k1, m_g15, nI_m20, nI_add, c1, c2, c3, c4, c5, c6, c7, nisw, hget_hset, ia_l, ia_s, vin, opl, onl, Int32.reduceLT, Int32.reduceLE, Int32.reduceAdd, Int32.reduceSub, Nat.reduceLT, Nat.reduceAdd, Nat.reduceEqDiff, ↓reduceIte, true_and, and_true, List.length_nil, List.length_cons, Nat.reduceLeDiff, Nat.zero_le]
      refine ih (i + 1) _ _ (by omega) (hget_self _ _ _) (fun j hj => ?_) (fun j hj => ?_) (fun k hk => by rw [hget_ne hk]; exact k4 k hk)
      · by_cases e : j = i
        · subst e
          simp only [upd, ↓reduceIte]
          exact k3 _ (by omega)
        · simp only [upd, show ¬ 20 * B + j = 20 * B + i by omega, ↓reduceIte]
          exact k2 j (by omega)
      · simp only [upd, show ¬ j = 20 * B + i by omega, ↓reduceIte]
        exact k3 j hj
  simp only [eX7_lay_0, eX7_lay_1, pe_const, pe_istore_3, hget_hset, ia_l, ia_s, vin, opl, onl, Int32.reduceLT, Int32.reduceLE, Int32.reduceAdd, Int32.reduceSub, Nat.reduceLT, Nat.reduceAdd, Nat.reduceEqDiff, ↓reduceIte, true_and, and_true, List.length_nil, List.length_cons, Nat.reduceLeDiff, Nat.zero_le]
  exact key 20 0 G w rfl hw (fun j hj => by omega) (fun _ _ => rfl) (fun _ _ => rfl)
set_option maxRecDepth 100000 in
theorem sp_mleastOpen {d L : Nat} {l x : Int32} {G : px_H} {q : Nat → Int32} {sd : Int64} {K : Ld} {w t : Nat → Int32} {Q : px_Q} (hL : l = nI L) (hL8 : L < 8) (hm : mK G q sd K) (hw : hget G 135 = some (c_ia 160 w)) (ht : sM K w L t) (hQ : Q (some (.int (lo K.fm (t 18) x 0 K.m))) G) : pcal (d + 2) 105 [.ref 124, .int l, .int x] G Q := by
  subst hL
  obtain ⟨m0, m1, m2, m3, m4, kd, ms, fm, tt, a1, a2, a3, a4, a5, a6⟩ := hm
  refine inX7_leastOpen ?_
  have key : ∀ k i, i + k = K.m → lo K.fm (t 18) x i k = lo K.fm (t 18) x 0 K.m → pr (d + 1) 105 (G.1 + 0, G.2.1 + 0) Q 2 [some (.ref 124), some (.int (nI L)), some (.int x), some (.int (nI i))] [] G := by
    intro k
    induction k with
    | zero =>
      intro i hi hacc
      obtain rfl : i = K.m := by omega
      simp only [eX7_leastOpen_0, eX7_leastOpen_1, eX7_leastOpen_2, eX7_leastOpen_3, eX7_leastOpen_4, eX7_leastOpen_7, eX7_leastOpen_10, eX7_leastOpen_11, eX7_leastOpen_14, eX7_leastOpen_15, eX7_leastOpen_16, eX7_leastOpen_17, eX7_leastOpen_20, eX7_leastOpen_21, eX7_leastOpen_24, eX7_leastOpen_26, eX7_leastOpen_27, eX7_leastOpen_28, eX7_leastOpen_30, eX7_leastOpen_31, eX7_leastOpen_32, eX7_leastOpen_33, eX7_leastOpen_36, eX7_leastOpen_39, eX7_leastOpen_40, eX7_leastOpen_41, eX7_leastOpen_44, eX7_leastOpen_47, eX7_leastOpen_49, pe_aload_0, pe_bin, pe_callS_2, pe_const, pe_getf, pe_goto, pe_iald, pe_iceq, pe_iclt, pe_ifeq, pe_iinc_3, pe_iload_1, pe_iload_2, pe_iload_3, pe_iret, pe_istore_3, m0, m_g14, m2, niE, hget_hset, ia_l, ia_s, vin, opl, onl, Int32.reduceLT, Int32.reduceLE, Int32.reduceAdd, Int32.reduceSub, Nat.reduceLT, Nat.reduceAdd, Nat.reduceEqDiff, ↓reduceIte, true_and, and_true, List.length_nil, List.length_cons, Nat.reduceLeDiff, Nat.zero_le]
      rw [← hacc] at hQ
      exact hQ
    | succ k ih =>
      intro i hi hacc
      obtain ⟨c1, c2, c3, c4⟩ := niL (i := i) (n := K.m) (by omega) m4
      obtain ⟨c5, c6⟩ := ni160 (i := 20 * L + 18) (by omega)
      have c7 : 20 * L + 18 < 160 := by omega
      have f1 := (a6 i (by omega)).1
      have f2 : w (20 * L + 18) = t 18 := ht 18 (by omega)
      rw [lo] at hacc
      rw [eX7_leastOpen_2]
      simp only [eX7_leastOpen_3, eX7_leastOpen_4, eX7_leastOpen_7, eX7_leastOpen_10, eX7_leastOpen_11, eX7_leastOpen_14, eX7_leastOpen_15, eX7_leastOpen_16, eX7_leastOpen_17, eX7_leastOpen_20, eX7_leastOpen_21, eX7_leastOpen_24, eX7_leastOpen_26, eX7_leastOpen_27, eX7_leastOpen_28, eX7_leastOpen_30, eX7_leastOpen_31, eX7_leastOpen_32, eX7_leastOpen_33, pe_aload_0, pe_bin, pe_callS_2, pe_const, pe_getf, pe_iald, pe_iceq, pe_iclt, pe_iload_1, pe_iload_2, pe_iload_3, m0, m_g14, m_g11, m_g15, m2, a3, hw, nI_m20, nI_c18, c1, c2, c3, c4, c5, c6, c7, f1, f2, hget_hset, ia_l, ia_s, vin, opl, onl, Int32.reduceLT, Int32.reduceLE, Int32.reduceAdd, Int32.reduceSub, Nat.reduceLT, Nat.reduceAdd, Nat.reduceEqDiff, ↓reduceIte, true_and, and_true, List.length_nil, List.length_cons, Nat.reduceLeDiff, Nat.zero_le]
      split
      · rename_i hc
        refine sp_has ?_
        simp only [eX7_leastOpen_36, eX7_leastOpen_39, eX7_leastOpen_40, eX7_leastOpen_41, eX7_leastOpen_44, pe_goto, pe_ifeq, pe_iinc_3, pe_iload_3, pe_iret, bt_e, nisw, hget_hset, ia_l, ia_s, vin, opl, onl, Int32.reduceLT, Int32.reduceLE, Int32.reduceAdd, Int32.reduceSub, Nat.reduceLT, Nat.reduceAdd, Nat.reduceEqDiff, ↓reduceIte, true_and, and_true, List.length_nil, List.length_cons, Nat.reduceLeDiff, Nat.zero_le]
        by_cases hc2 : bt (t 18) i = 1
        · rw [if_pos ⟨hc, hc2⟩] at hacc
          simp only [hc2, zB, decide_true, ↓reduceIte, ie_1_0]
          rw [← hacc] at hQ
          exact hQ
        · rw [if_neg (fun z => hc2 z.2)] at hacc
          simp only [hc2, zB, decide_false, ↓reduceIte, Bool.false_eq_true]
          exact ih (i + 1) (by omega) hacc
      · rename_i hc
        rw [if_neg (fun z => hc z.1)] at hacc
        simp only [eX7_leastOpen_41, eX7_leastOpen_44, pe_goto, pe_iinc_3, nisw, hget_hset, ia_l, ia_s, vin, opl, onl, Int32.reduceLT, Int32.reduceLE, Int32.reduceAdd, Int32.reduceSub, Nat.reduceLT, Nat.reduceAdd, Nat.reduceEqDiff, ↓reduceIte, true_and, and_true, List.length_nil, List.length_cons, Nat.reduceLeDiff, Nat.zero_le]
        exact ih (i + 1) (by omega) hacc
  simp only [eX7_leastOpen_0, eX7_leastOpen_1, pe_const, pe_istore_3, hget_hset, ia_l, ia_s, vin, opl, onl, Int32.reduceLT, Int32.reduceLE, Int32.reduceAdd, Int32.reduceSub, Nat.reduceLT, Nat.reduceAdd, Nat.reduceEqDiff, ↓reduceIte, true_and, and_true, List.length_nil, List.length_cons, Nat.reduceLeDiff, Nat.zero_le]
  exact key K.m 0 (by omega) rfl
set_option maxRecDepth 100000 in
theorem sp_mwet {d L : Nat} {l : Int32} {G : px_H} {q : Nat → Int32} {sd : Int64} {K : Ld} {w t : Nat → Int32} {Q : px_Q} (hL : l = nI L) (hL8 : L < 8) (hm : mK G q sd K) (hw : hget G 135 = some (c_ia 160 w)) (ht : sM K w L t) (hQ : Q (some (.int (aWe t K.n))) G) : pcal (d + 1) 110 [.ref 124, .int l] G Q := by
  subst hL
  obtain ⟨m0, m1, m2, m3, m4, kd, ms, fm, tt, a1, a2, a3, a4, a5, a6⟩ := hm
  refine inX7_wet ?_
  have key : ∀ k i acc, i + k = K.n → acc = aWe t i → pr d 110 (G.1 + 0, G.2.1 + 0) Q 4 [some (.ref 124), some (.int (nI L)), some (.int acc), some (.int (nI i))] [] G := by
    intro k
    induction k with
    | zero =>
      intro i acc hi hacc
      obtain rfl : i = K.n := by omega
      simp only [eX7_wet_0, eX7_wet_1, eX7_wet_2, eX7_wet_3, eX7_wet_4, eX7_wet_5, eX7_wet_6, eX7_wet_9, eX7_wet_12, eX7_wet_13, eX7_wet_14, eX7_wet_17, eX7_wet_19, eX7_wet_20, eX7_wet_21, eX7_wet_23, eX7_wet_24, eX7_wet_25, eX7_wet_26, eX7_wet_27, eX7_wet_29, eX7_wet_32, eX7_wet_33, eX7_wet_34, eX7_wet_35, eX7_wet_38, eX7_wet_39, eX7_wet_40, eX7_wet_41, eX7_wet_44, eX7_wet_47, eX7_wet_48, pe_aload_0, pe_bin, pe_const, pe_getf, pe_goto, pe_iald, pe_iceq, pe_iclt, pe_iinc_3, pe_iload_1, pe_iload_2, pe_iload_3, pe_iret, pe_istore_2, pe_istore_3, m0, m_g13, m1, niE, hget_hset, ia_l, ia_s, vin, opl, onl, Int32.reduceLT, Int32.reduceLE, Int32.reduceAdd, Int32.reduceSub, Nat.reduceLT, Nat.reduceAdd, Nat.reduceEqDiff, ↓reduceIte, true_and, and_true, List.length_nil, List.length_cons, Nat.reduceLeDiff, Nat.zero_le]
      rw [hacc]
      exact hQ
    | succ k ih =>
      intro i acc hi hacc
      obtain ⟨c1, c2, c3, c4⟩ := niL (i := i) (n := K.n) (by omega) m3
      obtain ⟨c5, c6⟩ := ni160 (i := 20 * L + 12 + i) (by omega)
      have c7 : 20 * L + 12 + i < 160 := by omega
      have f2 : w (20 * L + 12 + i) = t (12 + i) := by rw [Nat.add_assoc]; exact ht (12 + i) (by omega)
      rw [eX7_wet_4]
      simp only [eX7_wet_0, eX7_wet_1, eX7_wet_2, eX7_wet_3, eX7_wet_5, eX7_wet_6, eX7_wet_9, eX7_wet_12, eX7_wet_13, eX7_wet_14, eX7_wet_17, eX7_wet_19, eX7_wet_20, eX7_wet_21, eX7_wet_23, eX7_wet_24, eX7_wet_25, eX7_wet_26, eX7_wet_27, eX7_wet_29, eX7_wet_32, eX7_wet_33, eX7_wet_34, eX7_wet_35, eX7_wet_38, eX7_wet_39, eX7_wet_40, eX7_wet_41, eX7_wet_44, eX7_wet_47, eX7_wet_48, pe_aload_0, pe_bin, pe_const, pe_getf, pe_goto, pe_iald, pe_iceq, pe_iclt, pe_iinc_3, pe_iload_1, pe_iload_2, pe_iload_3, pe_iret, pe_istore_2, pe_istore_3, m0, m_g13, m_g15, m1, hw, nI_m20, nI_c12, nI_add, c1, c2, c3, c4, c5, c6, c7, f2, nisw, b1_e, hget_hset, ia_l, ia_s, vin, opl, onl, Int32.reduceLT, Int32.reduceLE, Int32.reduceAdd, Int32.reduceSub, Nat.reduceLT, Nat.reduceAdd, Nat.reduceEqDiff, ↓reduceIte, true_and, and_true, List.length_nil, List.length_cons, Nat.reduceLeDiff, Nat.zero_le]
      split
      · rename_i hc
        exact ih (i + 1) _ (by omega) (by rw [hacc, aWe, aWe, ob, if_pos hc])
      · rename_i hc
        exact ih (i + 1) _ (by omega) (by rw [hacc, aWe, aWe, ob, if_neg hc])
  simp only [eX7_wet_0, eX7_wet_1, eX7_wet_2, eX7_wet_3, eX7_wet_5, eX7_wet_6, eX7_wet_9, eX7_wet_12, eX7_wet_13, eX7_wet_14, eX7_wet_17, eX7_wet_19, eX7_wet_20, eX7_wet_21, eX7_wet_23, eX7_wet_24, eX7_wet_25, eX7_wet_26, eX7_wet_27, eX7_wet_29, eX7_wet_32, eX7_wet_33, eX7_wet_34, eX7_wet_35, eX7_wet_38, eX7_wet_39, eX7_wet_40, eX7_wet_41, eX7_wet_44, eX7_wet_47, eX7_wet_48, pe_aload_0, pe_bin, pe_const, pe_getf, pe_goto, pe_iald, pe_iceq, pe_iclt, pe_iinc_3, pe_iload_1, pe_iload_2, pe_iload_3, pe_iret, pe_istore_2, pe_istore_3, hget_hset, ia_l, ia_s, vin, opl, onl, Int32.reduceLT, Int32.reduceLE, Int32.reduceAdd, Int32.reduceSub, Nat.reduceLT, Nat.reduceAdd, Nat.reduceEqDiff, ↓reduceIte, true_and, and_true, List.length_nil, List.length_cons, Nat.reduceLeDiff, Nat.zero_le]
  exact key K.n 0 0 (by omega) rfl
set_option maxRecDepth 100000 in
theorem sp_mallDung {d L : Nat} {l : Int32} {G : px_H} {q : Nat → Int32} {sd : Int64} {K : Ld} {w t : Nat → Int32} {Q : px_Q} (hL : l = nI L) (hL8 : L < 8) (hm : mK G q sd K) (hw : hget G 135 = some (c_ia 160 w)) (ht : sM K w L t) (hQ : Q (some (.int (aDu t K.n))) G) : pcal (d + 1) 111 [.ref 124, .int l] G Q := by
  subst hL
  obtain ⟨m0, m1, m2, m3, m4, kd, ms, fm, tt, a1, a2, a3, a4, a5, a6⟩ := hm
  refine inX7_allDung ?_
  have key : ∀ k i acc, i + k = K.n → acc = aDu t i → pr d 111 (G.1 + 0, G.2.1 + 0) Q 4 [some (.ref 124), some (.int (nI L)), some (.int acc), some (.int (nI i))] [] G := by
    intro k
    induction k with
    | zero =>
      intro i acc hi hacc
      obtain rfl : i = K.n := by omega
      simp only [eX7_allDung_0, eX7_allDung_1, eX7_allDung_2, eX7_allDung_3, eX7_allDung_4, eX7_allDung_5, eX7_allDung_6, eX7_allDung_9, eX7_allDung_12, eX7_allDung_13, eX7_allDung_14, eX7_allDung_17, eX7_allDung_19, eX7_allDung_20, eX7_allDung_21, eX7_allDung_23, eX7_allDung_24, eX7_allDung_25, eX7_allDung_26, eX7_allDung_27, eX7_allDung_28, eX7_allDung_29, eX7_allDung_32, eX7_allDung_35, eX7_allDung_36, pe_aload_0, pe_bin, pe_const, pe_getf, pe_goto, pe_iald, pe_iclt, pe_iinc_3, pe_iload_1, pe_iload_2, pe_iload_3, pe_iret, pe_istore_2, pe_istore_3, m0, m_g13, m1, niE, hget_hset, ia_l, ia_s, vin, opl, onl, Int32.reduceLT, Int32.reduceLE, Int32.reduceAdd, Int32.reduceSub, Nat.reduceLT, Nat.reduceAdd, Nat.reduceEqDiff, ↓reduceIte, true_and, and_true, List.length_nil, List.length_cons, Nat.reduceLeDiff, Nat.zero_le]
      rw [hacc]
      exact hQ
    | succ k ih =>
      intro i acc hi hacc
      obtain ⟨c1, c2, c3, c4⟩ := niL (i := i) (n := K.n) (by omega) m3
      obtain ⟨c5, c6⟩ := ni160 (i := 20 * L + 6 + i) (by omega)
      have c7 : 20 * L + 6 + i < 160 := by omega
      have f2 : w (20 * L + 6 + i) = t (6 + i) := by rw [Nat.add_assoc]; exact ht (6 + i) (by omega)
      rw [eX7_allDung_4]
      simp only [eX7_allDung_0, eX7_allDung_1, eX7_allDung_2, eX7_allDung_3, eX7_allDung_5, eX7_allDung_6, eX7_allDung_9, eX7_allDung_12, eX7_allDung_13, eX7_allDung_14, eX7_allDung_17, eX7_allDung_19, eX7_allDung_20, eX7_allDung_21, eX7_allDung_23, eX7_allDung_24, eX7_allDung_25, eX7_allDung_26, eX7_allDung_27, eX7_allDung_28, eX7_allDung_29, eX7_allDung_32, eX7_allDung_35, eX7_allDung_36, pe_aload_0, pe_bin, pe_const, pe_getf, pe_goto, pe_iald, pe_iclt, pe_iinc_3, pe_iload_1, pe_iload_2, pe_iload_3, pe_iret, pe_istore_2, pe_istore_3, m0, m_g13, m_g15, m1, hw, nI_m20, nI_c6, nI_add, c1, c2, c3, c4, c5, c6, c7, f2, nisw, hget_hset, ia_l, ia_s, vin, opl, onl, Int32.reduceLT, Int32.reduceLE, Int32.reduceAdd, Int32.reduceSub, Nat.reduceLT, Nat.reduceAdd, Nat.reduceEqDiff, ↓reduceIte, true_and, and_true, List.length_nil, List.length_cons, Nat.reduceLeDiff, Nat.zero_le]
      exact ih (i + 1) _ (by omega) (by rw [hacc, aDu, aDu, sm])
  simp only [eX7_allDung_0, eX7_allDung_1, eX7_allDung_2, eX7_allDung_3, eX7_allDung_5, eX7_allDung_6, eX7_allDung_9, eX7_allDung_12, eX7_allDung_13, eX7_allDung_14, eX7_allDung_17, eX7_allDung_19, eX7_allDung_20, eX7_allDung_21, eX7_allDung_23, eX7_allDung_24, eX7_allDung_25, eX7_allDung_26, eX7_allDung_27, eX7_allDung_28, eX7_allDung_29, eX7_allDung_32, eX7_allDung_35, eX7_allDung_36, pe_aload_0, pe_bin, pe_const, pe_getf, pe_goto, pe_iald, pe_iclt, pe_iinc_3, pe_iload_1, pe_iload_2, pe_iload_3, pe_iret, pe_istore_2, pe_istore_3, hget_hset, ia_l, ia_s, vin, opl, onl, Int32.reduceLT, Int32.reduceLE, Int32.reduceAdd, Int32.reduceSub, Nat.reduceLT, Nat.reduceAdd, Nat.reduceEqDiff, ↓reduceIte, true_and, and_true, List.length_nil, List.length_cons, Nat.reduceLeDiff, Nat.zero_le]
  exact key K.n 0 0 (by omega) rfl
set_option maxRecDepth 100000 in
theorem sp_mworth {d L : Nat} {l : Int32} {G : px_H} {q : Nat → Int32} {sd : Int64} {K : Ld} {w t : Nat → Int32} {Q : px_Q} (hL : l = nI L) (hL8 : L < 8) (hm : mK G q sd K) (hw : hget G 135 = some (c_ia 160 w)) (ht : sM K w L t) (hQ : Q (some (.int (aWo K t K.n))) G) : pcal (d + 1) 112 [.ref 124, .int l] G Q := by
  subst hL
  obtain ⟨m0, m1, m2, m3, m4, kd, ms, fm, tt, a1, a2, a3, a4, a5, a6⟩ := hm
  refine inX7_worth ?_
  have key : ∀ k i acc, i + k = K.n → acc = aWo K t i → pr d 112 (G.1 + 0, G.2.1 + 0) Q 4 [some (.ref 124), some (.int (nI L)), some (.int acc), some (.int (nI i))] [] G := by
    intro k
    induction k with
    | zero =>
      intro i acc hi hacc
      obtain rfl : i = K.n := by omega
      simp only [eX7_worth_0, eX7_worth_1, eX7_worth_2, eX7_worth_3, eX7_worth_4, eX7_worth_5, eX7_worth_6, eX7_worth_9, eX7_worth_12, eX7_worth_13, eX7_worth_14, eX7_worth_17, eX7_worth_18, eX7_worth_19, eX7_worth_20, eX7_worth_23, eX7_worth_24, eX7_worth_27, eX7_worth_28, eX7_worth_29, eX7_worth_30, eX7_worth_33, eX7_worth_35, eX7_worth_36, eX7_worth_37, eX7_worth_38, eX7_worth_39, eX7_worth_40, eX7_worth_41, eX7_worth_44, eX7_worth_45, eX7_worth_46, eX7_worth_47, eX7_worth_50, eX7_worth_53, eX7_worth_54, pe_aload_0, pe_bin, pe_const, pe_getf, pe_goto, pe_iald, pe_iceq, pe_iclt, pe_iinc_3, pe_iload_1, pe_iload_2, pe_iload_3, pe_iret, pe_istore_2, pe_istore_3, m0, m_g13, m1, niE, hget_hset, ia_l, ia_s, vin, opl, onl, Int32.reduceLT, Int32.reduceLE, Int32.reduceAdd, Int32.reduceSub, Nat.reduceLT, Nat.reduceAdd, Nat.reduceEqDiff, ↓reduceIte, true_and, and_true, List.length_nil, List.length_cons, Nat.reduceLeDiff, Nat.zero_le]
      rw [hacc]
      exact hQ
    | succ k ih =>
      intro i acc hi hacc
      obtain ⟨c1, c2, c3, c4⟩ := niL (i := i) (n := K.n) (by omega) m3
      obtain ⟨c5, c6⟩ := ni160 (i := 20 * L + i) (by omega)
      have c7 : 20 * L + i < 160 := by omega
      have f2 : w (20 * L + i) = t i := ht i (by omega)
      obtain ⟨f3, f4⟩ := a5 i (by omega)
      rw [eX7_worth_4]
      simp only [eX7_worth_0, eX7_worth_1, eX7_worth_2, eX7_worth_3, eX7_worth_5, eX7_worth_6, eX7_worth_9, eX7_worth_12, eX7_worth_13, eX7_worth_14, eX7_worth_17, eX7_worth_18, eX7_worth_19, eX7_worth_20, eX7_worth_23, eX7_worth_24, eX7_worth_27, eX7_worth_28, eX7_worth_29, eX7_worth_30, eX7_worth_33, eX7_worth_35, eX7_worth_36, eX7_worth_37, eX7_worth_38, eX7_worth_39, eX7_worth_40, eX7_worth_41, eX7_worth_44, eX7_worth_45, eX7_worth_46, eX7_worth_47, eX7_worth_50, eX7_worth_53, eX7_worth_54, pe_aload_0, pe_bin, pe_const, pe_getf, pe_goto, pe_iald, pe_iceq, pe_iclt, pe_iinc_3, pe_iload_1, pe_iload_2, pe_iload_3, pe_iret, pe_istore_2, pe_istore_3, m0, m_g9, m_g10, m_g13, m_g15, m1, a1, a2, hw, nI_m20, nI_add, c1, c2, c3, c4, c5, c6, c7, f2, f3, f4, nisw, hget_hset, ia_l, ia_s, vin, opl, onl, Int32.reduceLT, Int32.reduceLE, Int32.reduceAdd, Int32.reduceSub, Nat.reduceLT, Nat.reduceAdd, Nat.reduceEqDiff, ↓reduceIte, true_and, and_true, List.length_nil, List.length_cons, Nat.reduceLeDiff, Nat.zero_le]
      split
      · rename_i hc
        exact ih (i + 1) _ (by omega) (by rw [hacc, aWo, aWo, sm, if_pos hc, Int32.mul_comm (K.ms i)])
      · rename_i hc
        exact ih (i + 1) _ (by omega) (by rw [hacc, aWo, aWo, sm, if_neg hc])
  simp only [eX7_worth_0, eX7_worth_1, eX7_worth_2, eX7_worth_3, eX7_worth_5, eX7_worth_6, eX7_worth_9, eX7_worth_12, eX7_worth_13, eX7_worth_14, eX7_worth_17, eX7_worth_18, eX7_worth_19, eX7_worth_20, eX7_worth_23, eX7_worth_24, eX7_worth_27, eX7_worth_28, eX7_worth_29, eX7_worth_30, eX7_worth_33, eX7_worth_35, eX7_worth_36, eX7_worth_37, eX7_worth_38, eX7_worth_39, eX7_worth_40, eX7_worth_41, eX7_worth_44, eX7_worth_45, eX7_worth_46, eX7_worth_47, eX7_worth_50, eX7_worth_53, eX7_worth_54, pe_aload_0, pe_bin, pe_const, pe_getf, pe_goto, pe_iald, pe_iceq, pe_iclt, pe_iinc_3, pe_iload_1, pe_iload_2, pe_iload_3, pe_iret, pe_istore_2, pe_istore_3, hget_hset, ia_l, ia_s, vin, opl, onl, Int32.reduceLT, Int32.reduceLE, Int32.reduceAdd, Int32.reduceSub, Nat.reduceLT, Nat.reduceAdd, Nat.reduceEqDiff, ↓reduceIte, true_and, and_true, List.length_nil, List.length_cons, Nat.reduceLeDiff, Nat.zero_le]
  exact key K.n 0 0 (by omega) rfl
set_option maxRecDepth 100000 in
theorem sp_mdoes {d L : Nat} {l : Int32} {G : px_H} {q : Nat → Int32} {sd : Int64} {K : Ld} {w t : Nat → Int32} {Q : px_Q} (hL : l = nI L) (hL8 : L < 8) (hm : mK G q sd K) (hw : hget G 135 = some (c_ia 160 w)) (ht : sM K w L t) (hQ : Q (some (.int (zB (aDo t K.n)))) G) : pcal (d + 2) 113 [.ref 124, .int l] G Q := by
  have m0 := hm.1
  refine inX7_does ?_
  simp only [eX7_does_0, eX7_does_1, eX7_does_2, pe_aload_0, pe_callV_1, pe_iload_1, m0, m_o, hget_hset, ia_l, ia_s, vin, opl, onl, Int32.reduceLT, Int32.reduceLE, Int32.reduceAdd, Int32.reduceSub, Nat.reduceLT, Nat.reduceAdd, Nat.reduceEqDiff, ↓reduceIte, true_and, and_true, List.length_nil, List.length_cons, Nat.reduceLeDiff, Nat.zero_le]
  refine sp_mallDung hL hL8 hm hw ht ?_
  simp only [eX7_does_0, eX7_does_1, eX7_does_2, eX7_does_5, eX7_does_8, eX7_does_9, eX7_does_10, eX7_does_13, eX7_does_16, eX7_does_17, eX7_does_20, eX7_does_21, pe_aload_0, pe_callV_1, pe_const, pe_goto, pe_ifeq, pe_iload_1, pe_zret, m0, m_o, hget_hset, ia_l, ia_s, vin, opl, onl, Int32.reduceLT, Int32.reduceLE, Int32.reduceAdd, Int32.reduceSub, Nat.reduceLT, Nat.reduceAdd, Nat.reduceEqDiff, ↓reduceIte, true_and, and_true, List.length_nil, List.length_cons, Nat.reduceLeDiff, Nat.zero_le]
  split
  · rename_i c1
    refine sp_mwet hL hL8 hm hw ht ?_
    simp only [eX7_does_0, eX7_does_1, eX7_does_2, eX7_does_5, eX7_does_8, eX7_does_9, eX7_does_10, eX7_does_13, eX7_does_16, eX7_does_17, eX7_does_20, eX7_does_21, pe_aload_0, pe_callV_1, pe_const, pe_goto, pe_ifeq, pe_iload_1, pe_zret, hget_hset, ia_l, ia_s, vin, opl, onl, Int32.reduceLT, Int32.reduceLE, Int32.reduceAdd, Int32.reduceSub, Nat.reduceLT, Nat.reduceAdd, Nat.reduceEqDiff, ↓reduceIte, true_and, and_true, List.length_nil, List.length_cons, Nat.reduceLeDiff, Nat.zero_le]
    split
    · rename_i c2
      simp only [eX7_does_0, eX7_does_1, eX7_does_2, eX7_does_5, eX7_does_8, eX7_does_9, eX7_does_10, eX7_does_13, eX7_does_16, eX7_does_17, eX7_does_20, eX7_does_21, pe_aload_0, pe_callV_1, pe_const, pe_goto, pe_ifeq, pe_iload_1, pe_zret, hget_hset, ia_l, ia_s, vin, opl, onl, Int32.reduceLT, Int32.reduceLE, Int32.reduceAdd, Int32.reduceSub, Nat.reduceLT, Nat.reduceAdd, Nat.reduceEqDiff, ↓reduceIte, true_and, and_true, List.length_nil, List.length_cons, Nat.reduceLeDiff, Nat.zero_le, or_true]
      simpa [aDo, zB, c1, c2] using hQ
    · rename_i c2
      simp only [eX7_does_0, eX7_does_1, eX7_does_2, eX7_does_5, eX7_does_8, eX7_does_9, eX7_does_10, eX7_does_13, eX7_does_16, eX7_does_17, eX7_does_20, eX7_does_21, pe_aload_0, pe_callV_1, pe_const, pe_goto, pe_ifeq, pe_iload_1, pe_zret, hget_hset, ia_l, ia_s, vin, opl, onl, Int32.reduceLT, Int32.reduceLE, Int32.reduceAdd, Int32.reduceSub, Nat.reduceLT, Nat.reduceAdd, Nat.reduceEqDiff, ↓reduceIte, true_and, and_true, List.length_nil, List.length_cons, Nat.reduceLeDiff, Nat.zero_le, true_or]
      simpa [aDo, zB, c1, c2] using hQ
  · rename_i c1
    simp only [eX7_does_0, eX7_does_1, eX7_does_2, eX7_does_5, eX7_does_8, eX7_does_9, eX7_does_10, eX7_does_13, eX7_does_16, eX7_does_17, eX7_does_20, eX7_does_21, pe_aload_0, pe_callV_1, pe_const, pe_goto, pe_ifeq, pe_iload_1, pe_zret, hget_hset, ia_l, ia_s, vin, opl, onl, Int32.reduceLT, Int32.reduceLE, Int32.reduceAdd, Int32.reduceSub, Nat.reduceLT, Nat.reduceAdd, Nat.reduceEqDiff, ↓reduceIte, true_and, and_true, List.length_nil, List.length_cons, Nat.reduceLeDiff, Nat.zero_le, true_or]
    simpa [aDo, zB, c1] using hQ
