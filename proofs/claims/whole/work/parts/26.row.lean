/-! ===== the row of acts, what was seen ===== -/
def isA (G : px_H) (sz : Nat) (T : Nat → Nat → Int32) : Prop := hget G 23 = some (c_ac 23 (nI sz)) ∧ sz ≤ 14 ∧ ∃ (r : Nat → Option Nat) (pm : Nat → Nat), hget G 24 = some (c_ra 14 r) ∧ (∀ i, i < 14 → r i = some (25 + 4 * pm i) ∧ pm i < 14 ∧ ∃ t, isS G (25 + 4 * pm i) t) ∧ (∀ i j, i < 14 → j < 14 → pm i = pm j → i = j) ∧ ∀ i, i < sz → isS G (25 + 4 * pm i) (T i)
theorem isA.kept {G G' : px_H} {sz : Nat} {T : Nat → Nat → Int32} (h : isA G sz T) (hk : ∀ k, 23 ≤ k → k < 81 → hget G' k = hget G k) : isA G' sz T := by
  obtain ⟨h1, h2, r, pm, h3, h4, h5, h6⟩ := h
  refine ⟨by rw [hk _ (by omega) (by omega)]; exact h1, h2, r, pm, by rw [hk _ (by omega) (by omega)]; exact h3, fun i hi => ?_, h5, fun i hi => ?_⟩
  · obtain ⟨q1, q2, t, q3⟩ := h4 i hi
    exact ⟨q1, q2, t, q3.kept (fun k a b => hk k (by omega) (by omega))⟩
  · obtain ⟨q1, q2, -⟩ := h4 i (by omega)
    exact (h6 i hi).kept (fun k a b => hk k (by omega) (by omega))
theorem isS.obj {G : px_H} {a : Nat} {t : Nat → Int32} (h : isS G a t) : hget G a = some (c_sc a (t 18) (t 19)) := by
  obtain ⟨f0, f1, f2, h0, -⟩ := h
  exact h0
theorem ni14 {i : Nat} (h : i < 14) : (nI i).toNatClampNeg = i ∧ 0 ≤ nI i ∧ nI i < 14 := ⟨nI_clamp (by omega), nI_pos' (by omega), nI_lt (b := 14) h (by omega)⟩
theorem ni1414 : ¬ nI 14 < 14 := by decide
set_option maxRecDepth 100000 in
theorem sp_forget {d : Nat} {G : px_H} {z : Int32} {Q : px_Q} (h23 : hget G 23 = some (c_ac 23 z)) (hQ : Q none (hset G 23 (c_ac 23 0))) : pcal (d + 1) 1 [.ref 23] G Q := by
  refine inX0_forget ?_
  simp only [eX0_forget_0, eX0_forget_1, eX0_forget_2, eX0_forget_5, pe_aload_0, pe_const, pe_putf, pe_vret, h23, ac_p1, hget_hset, ia_l, ia_s, vin, opl, onl, Int32.reduceLT, Int32.reduceLE, Int32.reduceAdd, Int32.reduceSub, Nat.reduceLT, Nat.reduceAdd, Nat.reduceEqDiff, ↓reduceIte, true_and, and_true, List.length_nil, List.length_cons, Nat.reduceLeDiff, Nat.zero_le]
  exact hQ
set_option maxRecDepth 100000 in
theorem sp_dropFirst {d : Nat} {G : px_H} {z : Int32} {r : Nat → Option Nat} {q : Nat → Nat} {Q : px_Q} (h23 : hget G 23 = some (c_ac 23 z)) (h24 : hget G 24 = some (c_ra 14 r)) (hr : ∀ i, i < 14 → r i = some (q i) ∧ q i ≠ 24 ∧ ∃ op hr, hget G (q i) = some (c_sc (q i) op hr))
    (hQ : ∀ G' r', hget G' 23 = some (c_ac 23 13) → hget G' 24 = some (c_ra 14 r') → (∀ i, i < 13 → r' i = r (i + 1)) → r' 13 = r 0 → (∀ k, k ≠ 23 → k ≠ 24 → hget G' k = hget G k) → Q none G') : pcal (d + 1) 3 [.ref 23] G Q := by
  refine inX0_dropFirst ?_
  obtain ⟨a1, a2, op0, hr0, a3⟩ := hr 0 (by omega)
  have key : ∀ k i H r', i + k = 13 → hget H 24 = some (c_ra 14 r') → (∀ k, k ≠ 24 → hget H k = hget G k) → (∀ j, j < 14 → r' j = if j < i then r (j + 1) else r j) → pr d 3 (G.1 + 0, G.2.1 + 0) Q 9 [some (.ref 23), some (.ref (q 0)), some (.int (nI (i + 1)))] [] H := by
    intro k
    induction k with
    | zero =>
      intro i H r' hi k1 k2 k3
      obtain rfl : i = 13 := by omega
      have m0 : hget H 23 = some (c_ac 23 z) := (k2 _ (by omega)).trans h23
      have m1 : hget H (q 0) = some (c_sc (q 0) op0 hr0) := (k2 _ a2).trans a3
      simp only [eX0_dropFirst_9, eX0_dropFirst_10, eX0_dropFirst_12, eX0_dropFirst_35, eX0_dropFirst_36, eX0_dropFirst_39, eX0_dropFirst_41, eX0_dropFirst_42, eX0_dropFirst_43, eX0_dropFirst_44, eX0_dropFirst_46, eX0_dropFirst_49, pe_aast, pe_aload_0, pe_aload_1, pe_const, pe_getf, pe_iclt, pe_iload_2, pe_putf, pe_vret, ni1414, m0, m1, k1, ac_g0, ac_p1, ra_s, Int32.reduceToNatClampNeg, hget_hset, ia_l, ia_s, vin, opl, onl, Int32.reduceLT, Int32.reduceLE, Int32.reduceAdd, Int32.reduceSub, Nat.reduceLT, Nat.reduceAdd, Nat.reduceEqDiff, ↓reduceIte, true_and, and_true, List.length_nil, List.length_cons, Nat.reduceLeDiff, Nat.zero_le]
      refine hQ _ (va_up r' 13 (some (q 0))) ?_ ?_ ?_ ?_ ?_
      · rw [hget_self]
      · rw [hget_ne (by omega), hget_self]
      · intro i hi
        simp only [va_up, show ¬ i = 13 by omega, ↓reduceIte]
        rw [k3 i (by omega), if_pos hi]
      · simp [va_up, a1]
      · intro k q1 q2
        rw [hget_ne q1, hget_ne q2]
        exact k2 k q2
    | succ k ih =>
      intro i H r' hi k1 k2 k3
      obtain ⟨c1, c2, c3⟩ := ni14 (i := i + 1) (by omega)
      obtain ⟨d1, d2, d3⟩ := ni14 (i := i) (by omega)
      have c4 : i + 1 < 14 := by omega
      have d4 : i < 14 := by omega
      obtain ⟨b1, b2, op1, hr1, b3⟩ := hr (i + 1) (by omega)
      have m0 : hget H 23 = some (c_ac 23 z) := (k2 _ (by omega)).trans h23
      have m1 : hget H (q (i + 1)) = some (c_sc (q (i + 1)) op1 hr1) := (k2 _ b2).trans b3
      have m2 : r' (i + 1) = some (q (i + 1)) := by rw [k3 _ (by omega), if_neg (by omega)]; exact b1
      rw [eX0_dropFirst_9]
      simp only [eX0_dropFirst_10, eX0_dropFirst_12, eX0_dropFirst_15, eX0_dropFirst_16, eX0_dropFirst_19, eX0_dropFirst_20, eX0_dropFirst_21, eX0_dropFirst_22, eX0_dropFirst_23, eX0_dropFirst_26, eX0_dropFirst_27, eX0_dropFirst_28, eX0_dropFirst_29, eX0_dropFirst_32, pe_aald, pe_aast, pe_aload_0, pe_bin, pe_const, pe_getf, pe_goto, pe_iclt, pe_iinc_2, pe_iload_2, m0, m1, m2, k1, ac_g0, ra_g, ra_s, pog_e, c1, c2, c3, c4, d1, d2, d4, nI_pred, nisw, hget_hset, ia_l, ia_s, vin, opl, onl, Int32.reduceLT, Int32.reduceLE, Int32.reduceAdd, Int32.reduceSub, Nat.reduceLT, Nat.reduceAdd, Nat.reduceEqDiff, ↓reduceIte, true_and, and_true, List.length_nil, List.length_cons, Nat.reduceLeDiff, Nat.zero_le]
      refine ih (i + 1) _ _ (by omega) (hget_self _ _ _) (fun k hk => by rw [hget_ne hk]; exact k2 k hk) (fun j hj => ?_)
      by_cases hji : j = i
      · subst hji
        simp only [va_up, ↓reduceIte, show j < j + 1 by omega, b1]
      · simp only [va_up, hji, ↓reduceIte, show (j < i + 1) = (j < i) by apply propext; omega]
        exact k3 j hj
  simp only [eX0_dropFirst_0, eX0_dropFirst_1, eX0_dropFirst_4, eX0_dropFirst_5, eX0_dropFirst_6, eX0_dropFirst_7, eX0_dropFirst_8, pe_aald, pe_aload_0, pe_astore_1, pe_const, pe_getf, pe_istore_2, h23, h24, ac_g0, ra_g, a1, pog_e, Int32.reduceToNatClampNeg, hget_hset, ia_l, ia_s, vin, opl, onl, Int32.reduceLT, Int32.reduceLE, Int32.reduceAdd, Int32.reduceSub, Nat.reduceLT, Nat.reduceAdd, Nat.reduceEqDiff, ↓reduceIte, true_and, and_true, List.length_nil, List.length_cons, Nat.reduceLeDiff, Nat.zero_le]
  exact key 13 0 G r rfl h24 (fun _ _ => rfl) (fun j hj => by rw [if_neg (by omega)])
/-- the row behind one act more -/
def rowS (sz : Nat) : Nat := if sz < 14 then sz + 1 else 14
def rowT (sz : Nat) (T : Nat → Nat → Int32) (t : Nat → Int32) : Nat → Nat → Int32 := fun i => if sz < 14 then (if i = sz then t else T i) else (if i = 13 then t else T (i + 1))
set_option maxRecDepth 100000 in
theorem sp_remember {d a sz : Nat} {G : px_H} {T : Nat → Nat → Int32} {t : Nat → Int32} {Q : px_Q} (hA : isA G sz T) (ht : isS G a t) (ha : a + 4 ≤ 23 ∨ 81 ≤ a) (hQ : ∀ G', isA G' (rowS sz) (rowT sz T t) → fr G G' 23 81 → Q none G') : pcal (d + 2) 2 [.ref 23, .ref a] G Q := by
  obtain ⟨h23, hsz, r, pm, h24, h3, h4, h5⟩ := hA
  refine inX0_remember ?_
  -- from pc 13 on, with room for one more
  have rest : ∀ (H : px_H) (n : Nat) (r' : Nat → Option Nat) (pm' : Nat → Nat), n < 14 → hget H 23 = some (c_ac 23 (nI n)) → hget H 24 = some (c_ra 14 r') → (∀ i, i < 14 → r' i = some (25 + 4 * pm' i) ∧ pm' i < 14 ∧ ∃ t, isS H (25 + 4 * pm' i) t) → (∀ i j, i < 14 → j < 14 → pm' i = pm' j → i = j) → fr G H 23 81 → (∀ i, i < n → isS H (25 + 4 * pm' i) (rowT sz T t i)) → n + 1 = rowS sz → rowT sz T t n = t → pr (d + 1) 2 (G.1 + 0, G.2.1 + 0) Q 13 [some (.ref 23), some (.ref a)] [] H := by
    intro H n r' pm' hn k0 k1 k2 k3 k4 k5 k6 k7
    obtain ⟨c1, c2, c3⟩ := ni14 hn
    obtain ⟨b1, b2, tn, b3⟩ := k2 n hn
    have b4 := b3.obj
    simp only [eX0_remember_13, eX0_remember_14, eX0_remember_17, eX0_remember_18, eX0_remember_21, eX0_remember_22, eX0_remember_23, pe_aald, pe_aload_0, pe_aload_1, pe_callV_1, pe_getf, k0, k1, ac_g0, ac_g1, ra_g, b1, b4, pog_e, c1, c2, hn, sc_g0, sc_g1, sc_g2, sc_g3, sc_g4, sc_p3, sc_p4, sc_o, hget_hset, ia_l, ia_s, vin, opl, onl, Int32.reduceLT, Int32.reduceLE, Int32.reduceAdd, Int32.reduceSub, Nat.reduceLT, Nat.reduceAdd, Nat.reduceEqDiff, ↓reduceIte, true_and, and_true, List.length_nil, List.length_cons, Nat.reduceLeDiff, Nat.zero_le]
    refine sp_copy b3 (ht.fr k4 (by omega)) (by omega) ?_
    intro G' e1 e2
    have m0 : hget G' 23 = some (c_ac 23 (nI n)) := (e2 _ (by omega)).trans k0
    simp only [eX0_remember_26, eX0_remember_27, eX0_remember_28, eX0_remember_31, eX0_remember_32, eX0_remember_33, eX0_remember_36, pe_aload_0, pe_bin, pe_const, pe_dup_i, pe_dup_r, pe_getf, pe_putf, pe_vret, m0, ac_g1, ac_p1, nisw, hget_hset, ia_l, ia_s, vin, opl, onl, Int32.reduceLT, Int32.reduceLE, Int32.reduceAdd, Int32.reduceSub, Nat.reduceLT, Nat.reduceAdd, Nat.reduceEqDiff, ↓reduceIte, true_and, and_true, List.length_nil, List.length_cons, Nat.reduceLeDiff, Nat.zero_le]
    refine hQ _ ⟨?_, ?_, r', pm', ?_, ?_, k3, ?_⟩ ?_
    · rw [hget_self, k6]
    · unfold rowS; split <;> omega
    · rw [hget_ne (by omega), e2 _ (by omega)]; exact k1
    · intro i hi
      obtain ⟨q1, q2, t', q3⟩ := k2 i hi
      refine ⟨q1, q2, ?_⟩
      by_cases hin : i = n
      · subst hin
        exact ⟨t, e1.kept (fun k z1 z2 => by rw [hget_ne (by omega)])⟩
      · have hne : pm' i ≠ pm' n := fun e => hin (k3 i n hi hn e)
        exact ⟨t', q3.kept (fun k z1 z2 => by rw [hget_ne (by omega), e2 k (by omega)])⟩
    · intro i hi
      rw [← k6] at hi
      by_cases hin : i = n
      · subst hin
        rw [k7]
        exact e1.kept (fun k z1 z2 => by rw [hget_ne (by omega)])
      · have hne : pm' i ≠ pm' n := fun e => hin (k3 i n (by omega) hn e)
        exact (k5 i (by omega)).kept (fun k z1 z2 => by rw [hget_ne (by omega), e2 k (by omega)])
    · intro k hk
      rw [hget_ne (by omega), e2 k (by omega)]
      exact k4 k hk
  by_cases hlt : sz < 14
  · obtain ⟨c1, c2, c3⟩ := ni14 hlt
    simp only [eX0_remember_0, eX0_remember_1, eX0_remember_4, eX0_remember_6, pe_aload_0, pe_const, pe_getf, pe_iclt, h23, ac_g1, c3, hget_hset, ia_l, ia_s, vin, opl, onl, Int32.reduceLT, Int32.reduceLE, Int32.reduceAdd, Int32.reduceSub, Nat.reduceLT, Nat.reduceAdd, Nat.reduceEqDiff, ↓reduceIte, true_and, and_true, List.length_nil, List.length_cons, Nat.reduceLeDiff, Nat.zero_le]
    refine rest G sz r pm hlt h23 h24 h3 h4 (fun _ _ => rfl) (fun i hi => ?_) ?_ ?_
    · simp only [rowT, hlt, ↓reduceIte, show ¬ i = sz by omega]
      exact h5 i hi
    · simp [rowS, hlt]
    · simp [rowT, hlt]
  · obtain rfl : sz = 14 := by omega
    simp only [eX0_remember_0, eX0_remember_1, eX0_remember_4, eX0_remember_6, eX0_remember_9, eX0_remember_10, pe_aload_0, pe_callV_0, pe_const, pe_getf, pe_iclt, h23, ac_g1, ac_o, ni1414, hget_hset, ia_l, ia_s, vin, opl, onl, Int32.reduceLT, Int32.reduceLE, Int32.reduceAdd, Int32.reduceSub, Nat.reduceLT, Nat.reduceAdd, Nat.reduceEqDiff, ↓reduceIte, true_and, and_true, List.length_nil, List.length_cons, Nat.reduceLeDiff, Nat.zero_le]
    refine sp_dropFirst h23 h24 (q := fun i => 25 + 4 * pm i) (fun i hi => ?_) ?_
    · obtain ⟨q1, q2, t', q3⟩ := h3 i hi
      exact ⟨q1, by omega, _, _, q3.obj⟩
    · intro G' r' e1 e2 e3 e4 e5
      simp only [hget_hset, ia_l, ia_s, vin, opl, onl, Int32.reduceLT, Int32.reduceLE, Int32.reduceAdd, Int32.reduceSub, Nat.reduceLT, Nat.reduceAdd, Nat.reduceEqDiff, ↓reduceIte, true_and, and_true, List.length_nil, List.length_cons, Nat.reduceLeDiff, Nat.zero_le]
      refine rest G' 13 r' (fun i => if i < 13 then pm (i + 1) else pm 0) (by omega) e1 e2 (fun i hi => ?_) (fun i j hi hj he => ?_) (fun k hk => e5 k (by omega) (by omega)) (fun i hi => ?_) ?_ ?_
      · by_cases h13 : i < 13
        · obtain ⟨q1, q2, t', q3⟩ := h3 (i + 1) (by omega)
          simp only [h13, ↓reduceIte]
          exact ⟨(e3 i h13).trans q1, q2, t', q3.kept (fun k z1 z2 => e5 k (by omega) (by omega))⟩
        · obtain ⟨q1, q2, t', q3⟩ := h3 0 (by omega)
          obtain rfl : i = 13 := by omega
          simp only [h13, ↓reduceIte]
          exact ⟨e4.trans q1, q2, t', q3.kept (fun k z1 z2 => e5 k (by omega) (by omega))⟩
      · have i1 := h4 (i + 1) (j + 1)
        have i2 := h4 (i + 1) 0
        have i3 := h4 0 (j + 1)
        split at he <;> split at he
        · have := i1 (by omega) (by omega) he; omega
        · have := i2 (by omega) (by omega) he; omega
        · have := i3 (by omega) (by omega) he; omega
        · omega
      · simp only [rowT, show ¬ (14 < 14) by omega, show ¬ i = 13 by omega, hi, ↓reduceIte]
        exact (h5 (i + 1) (by omega)).kept (fun k z1 z2 => e5 k (by omega) (by omega))
      · simp [rowS]
      · simp [rowT]
set_option maxRecDepth 100000 in
theorem sp_takeBack {d a sz : Nat} {G : px_H} {T : Nat → Nat → Int32} {t : Nat → Int32} {Q : px_Q} (hA : isA G (sz + 1) T) (ht : isS G a t) (ha : a + 4 ≤ 23 ∨ 81 ≤ a) (hQ : ∀ G', isA G' sz T → isS G' a (T sz) → (∀ k, k ≠ 23 → (k < a ∨ a + 4 ≤ k) → hget G' k = hget G k) → Q none G') : pcal (d + 2) 4 [.ref 23, .ref a] G Q := by
  obtain ⟨h23, hsz, r, pm, h24, h3, h4, h5⟩ := id hA
  obtain ⟨c1, c2, c3⟩ := ni14 (i := sz) (by omega)
  have c4 : sz < 14 := by omega
  have c5 : 0 < nI (sz + 1) := nI_lt (a := 0) (by omega) (by omega)
  obtain ⟨b1, b2, -⟩ := h3 sz c4
  have b3 := h5 sz (by omega)
  have b4 := ht.obj
  refine inX0_takeBack ?_
  simp only [eX0_takeBack_0, eX0_takeBack_1, eX0_takeBack_4, eX0_takeBack_7, eX0_takeBack_8, eX0_takeBack_9, eX0_takeBack_12, eX0_takeBack_13, eX0_takeBack_14, eX0_takeBack_17, eX0_takeBack_18, eX0_takeBack_19, eX0_takeBack_22, eX0_takeBack_23, eX0_takeBack_26, eX0_takeBack_27, pe_aald, pe_aload_0, pe_aload_1, pe_bin, pe_callV_1, pe_const, pe_dup_i, pe_dup_r, pe_getf, pe_ifgt, pe_putf, h23, h24, c5, ac_g0, ac_g1, ac_p1, ra_g, b1, pog_e, c1, c2, c4, nI_pred, hget_hset, ia_l, ia_s, vin, opl, onl, Int32.reduceLT, Int32.reduceLE, Int32.reduceAdd, Int32.reduceSub, Nat.reduceLT, Nat.reduceAdd, Nat.reduceEqDiff, ↓reduceIte, true_and, and_true, List.length_nil, List.length_cons, Nat.reduceLeDiff, Nat.zero_le]
  have b5 : ¬ a = 23 := by omega
  simp only [b5, ↓reduceIte, b4, sc_o]
  refine sp_copy (a := a) (b := 25 + 4 * pm sz) (t := t) (u := T sz) (ht.kept (fun k z1 z2 => by rw [hget_ne (by omega)])) (b3.kept (fun k z1 z2 => by rw [hget_ne (by omega)])) (by omega) ?_
  intro G' e1 e2
  simp only [eX0_takeBack_30, pe_vret, hget_hset, ia_l, ia_s, vin, opl, onl, Int32.reduceLT, Int32.reduceLE, Int32.reduceAdd, Int32.reduceSub, Nat.reduceLT, Nat.reduceAdd, Nat.reduceEqDiff, ↓reduceIte, true_and, and_true, List.length_nil, List.length_cons, Nat.reduceLeDiff, Nat.zero_le]
  refine hQ _ ⟨?_, by omega, r, pm, ?_, ?_, h4, ?_⟩ e1 ?_
  · rw [e2 _ (by omega), hget_self]
  · rw [e2 _ (by omega), hget_ne (by omega)]; exact h24
  · intro i hi
    obtain ⟨q1, q2, t', q3⟩ := h3 i hi
    exact ⟨q1, q2, t', q3.kept (fun k z1 z2 => by rw [e2 k (by omega), hget_ne (by omega)])⟩
  · intro i hi
    obtain ⟨q1, q2, -⟩ := h3 i (by omega)
    exact (h5 i (by omega)).kept (fun k z1 z2 => by rw [e2 k (by omega), hget_ne (by omega)])
  · intro k z1 z2
    rw [e2 k z2, hget_ne z1]
/-! what was seen -/
def isV (G : px_H) (n : Nat) (pp tm mn : Nat → Int32) : Prop := hget G 81 = some (c_sg 81 (nI n)) ∧ hget G 82 = some (c_ia 6 pp) ∧ hget G 83 = some (c_ia 6 tm) ∧ hget G 84 = some (c_ia 6 mn) ∧ n ≤ 6
theorem isV.kept {G G' : px_H} {n : Nat} {pp tm mn : Nat → Int32} (h : isV G n pp tm mn) (hk : ∀ k, 81 ≤ k → k < 85 → hget G' k = hget G k) : isV G' n pp tm mn := by
  obtain ⟨h1, h2, h3, h4, h5⟩ := h
  exact ⟨by rw [hk _ (by omega) (by omega)]; exact h1, by rw [hk _ (by omega) (by omega)]; exact h2, by rw [hk _ (by omega) (by omega)]; exact h3, by rw [hk _ (by omega) (by omega)]; exact h4, h5⟩
set_option maxRecDepth 100000 in
theorem sp_note {d n : Nat} {G : px_H} {pp tm mn : Nat → Int32} {p t k : Int32} {Q : px_Q} (hV : isV G n pp tm mn) (hn : n < 6) (hQ : ∀ G', isV G' (n + 1) (upd pp n p) (upd tm n t) (upd mn n k) → fr G G' 81 85 → Q none G') : pcal (d + 1) 35 [.ref 81, .int p, .int t, .int k] G Q := by
  obtain ⟨h1, h2, h3, h4, h5⟩ := hV
  obtain ⟨c1, c2, c3⟩ := ni6 hn
  refine inX4_note ?_
  simp only [eX4_note_0, eX4_note_1, eX4_note_4, eX4_note_6, eX4_note_9, eX4_note_10, eX4_note_13, eX4_note_14, eX4_note_17, eX4_note_18, eX4_note_19, eX4_note_20, eX4_note_23, eX4_note_24, eX4_note_27, eX4_note_28, eX4_note_29, eX4_note_30, eX4_note_33, eX4_note_34, eX4_note_37, eX4_note_38, eX4_note_39, eX4_note_40, eX4_note_41, eX4_note_44, eX4_note_45, eX4_note_46, eX4_note_49, pe_aload_0, pe_bin, pe_const, pe_dup_i, pe_dup_r, pe_getf, pe_iast, pe_iclt, pe_iload_1, pe_iload_2, pe_iload_3, pe_putf, pe_vret, h1, h2, h3, h4, c1, c2, c3, hn, sg_g0, sg_g1, sg_g2, sg_g3, sg_p3, nisw, hget_hset, ia_l, ia_s, vin, opl, onl, Int32.reduceLT, Int32.reduceLE, Int32.reduceAdd, Int32.reduceSub, Nat.reduceLT, Nat.reduceAdd, Nat.reduceEqDiff, ↓reduceIte, true_and, and_true, List.length_nil, List.length_cons, Nat.reduceLeDiff, Nat.zero_le]
  refine hQ _ ⟨?_, ?_, ?_, ?_, by omega⟩ ?_
  · simp only [hget_hset, ia_l, ia_s, vin, opl, onl, Int32.reduceLT, Int32.reduceLE, Int32.reduceAdd, Int32.reduceSub, Nat.reduceLT, Nat.reduceAdd, Nat.reduceEqDiff, ↓reduceIte, true_and, and_true, List.length_nil, List.length_cons, Nat.reduceLeDiff, Nat.zero_le]
  · simp only [hget_hset, ia_l, ia_s, vin, opl, onl, Int32.reduceLT, Int32.reduceLE, Int32.reduceAdd, Int32.reduceSub, Nat.reduceLT, Nat.reduceAdd, Nat.reduceEqDiff, ↓reduceIte, true_and, and_true, List.length_nil, List.length_cons, Nat.reduceLeDiff, Nat.zero_le]
  · simp only [hget_hset, ia_l, ia_s, vin, opl, onl, Int32.reduceLT, Int32.reduceLE, Int32.reduceAdd, Int32.reduceSub, Nat.reduceLT, Nat.reduceAdd, Nat.reduceEqDiff, ↓reduceIte, true_and, and_true, List.length_nil, List.length_cons, Nat.reduceLeDiff, Nat.zero_le]
  · simp only [hget_hset, ia_l, ia_s, vin, opl, onl, Int32.reduceLT, Int32.reduceLE, Int32.reduceAdd, Int32.reduceSub, Nat.reduceLT, Nat.reduceAdd, Nat.reduceEqDiff, ↓reduceIte, true_and, and_true, List.length_nil, List.length_cons, Nat.reduceLeDiff, Nat.zero_le]
  · intro k hk
    rw [hget_ne (by omega), hget_ne (by omega), hget_ne (by omega), hget_ne (by omega)]
def mxI (x y : Int32) : Int32 := if x < y then y else x
def lT (tm : Nat → Int32) : Nat → Int32
  | 0 => 0
  | k + 1 => mxI (lT tm k) (tm k)
set_option maxRecDepth 100000 in
theorem sp_lastTime {d n : Nat} {G : px_H} {pp tm mn : Nat → Int32} {Q : px_Q} (hV : isV G n pp tm mn) (hQ : Q (some (.int (lT tm n))) G) : pcal (d + 1) 36 [.ref 81] G Q := by
  obtain ⟨h1, h2, h3, h4, h5⟩ := hV
  refine inX4_lastTime ?_
  have key : ∀ k i acc, i + k = n → acc = lT tm i → pr d 36 (G.1 + 0, G.2.1 + 0) Q 4 [some (.ref 81), some (.int acc), some (.int (nI i))] [] G := by
    intro k
    induction k with
    | zero =>
      intro i acc hi hacc
      obtain rfl : i = n := by omega
      simp only [eX4_lastTime_0, eX4_lastTime_1, eX4_lastTime_2, eX4_lastTime_3, eX4_lastTime_4, eX4_lastTime_5, eX4_lastTime_6, eX4_lastTime_9, eX4_lastTime_12, eX4_lastTime_13, eX4_lastTime_14, eX4_lastTime_17, eX4_lastTime_18, eX4_lastTime_19, eX4_lastTime_22, eX4_lastTime_23, eX4_lastTime_26, eX4_lastTime_29, eX4_lastTime_30, pe_aload_0, pe_const, pe_getf, pe_goto, pe_iald, pe_iclt, pe_iinc_2, pe_iload_1, pe_iload_2, pe_iret, pe_istore_1, pe_istore_2, pe_mmax, h1, sg_g3, niE, hget_hset, ia_l, ia_s, vin, opl, onl, Int32.reduceLT, Int32.reduceLE, Int32.reduceAdd, Int32.reduceSub, Nat.reduceLT, Nat.reduceAdd, Nat.reduceEqDiff, ↓reduceIte, true_and, and_true, List.length_nil, List.length_cons, Nat.reduceLeDiff, Nat.zero_le]
      rw [hacc]
      exact hQ
    | succ k ih =>
      intro i acc hi hacc
      obtain ⟨c1, c2, c3, c4⟩ := niL (i := i) (n := n) (by omega) h5
      rw [eX4_lastTime_4]
      simp only [eX4_lastTime_0, eX4_lastTime_1, eX4_lastTime_2, eX4_lastTime_3, eX4_lastTime_5, eX4_lastTime_6, eX4_lastTime_9, eX4_lastTime_12, eX4_lastTime_13, eX4_lastTime_14, eX4_lastTime_17, eX4_lastTime_18, eX4_lastTime_19, eX4_lastTime_22, eX4_lastTime_23, eX4_lastTime_26, eX4_lastTime_29, eX4_lastTime_30, pe_aload_0, pe_const, pe_getf, pe_goto, pe_iald, pe_iclt, pe_iinc_2, pe_iload_1, pe_iload_2, pe_iret, pe_istore_1, pe_istore_2, pe_mmax, h1, h3, sg_g1, sg_g3, c1, c2, c3, c4, nisw, hget_hset, ia_l, ia_s, vin, opl, onl, Int32.reduceLT, Int32.reduceLE, Int32.reduceAdd, Int32.reduceSub, Nat.reduceLT, Nat.reduceAdd, Nat.reduceEqDiff, ↓reduceIte, true_and, and_true, List.length_nil, List.length_cons, Nat.reduceLeDiff, Nat.zero_le]
      exact ih (i + 1) _ (by omega) (by rw [hacc, lT]; rfl)
  simp only [eX4_lastTime_0, eX4_lastTime_1, eX4_lastTime_2, eX4_lastTime_3, eX4_lastTime_5, eX4_lastTime_6, eX4_lastTime_9, eX4_lastTime_12, eX4_lastTime_13, eX4_lastTime_14, eX4_lastTime_17, eX4_lastTime_18, eX4_lastTime_19, eX4_lastTime_22, eX4_lastTime_23, eX4_lastTime_26, eX4_lastTime_29, eX4_lastTime_30, pe_aload_0, pe_const, pe_getf, pe_goto, pe_iald, pe_iclt, pe_iinc_2, pe_iload_1, pe_iload_2, pe_iret, pe_istore_1, pe_istore_2, pe_mmax, hget_hset, ia_l, ia_s, vin, opl, onl, Int32.reduceLT, Int32.reduceLE, Int32.reduceAdd, Int32.reduceSub, Nat.reduceLT, Nat.reduceAdd, Nat.reduceEqDiff, ↓reduceIte, true_and, and_true, List.length_nil, List.length_cons, Nat.reduceLeDiff, Nat.zero_le]
  exact key n 0 0 (by omega) rfl
/-- all that was seen behind t hours is so -/
def aAg (n : Nat) (pp tm mn : Nat → Int32) (t : Int32) (s : Nat → Int32) : Nat → Bool
  | 0 => true
  | k + 1 => aAg n pp tm mn t s k && !(decide (tm k = t) && hP n (pp k) && !(decide (s (pp k).toNatClampNeg = mn k)))
theorem hP_of {n : Nat} {x : Int32} (hn : n ≤ 6) (h : hP n x = true) : 0 ≤ x ∧ x.toNatClampNeg < n ∧ x.toNatClampNeg < 6 ∧ x = nI x.toNatClampNeg := by
  unfold hP at h
  simp only [Bool.and_eq_true, decide_eq_true_eq] at h
  obtain ⟨j, hj, e⟩ := nI_of (Int32.not_lt.mpr h.1)
  rw [e] at h ⊢
  have h2 := (nI_ltI hj (by omega)).mp h.2
  rw [nI_clamp hj]
  exact ⟨h.1, h2, by omega, rfl⟩
set_option maxRecDepth 100000 in
theorem sp_agree {d n a l : Nat} {G : px_H} {K : Ld} {pp tm mn s : Nat → Int32} {t : Int32} {Q : px_Q} (hV : isV G n pp tm mn) (hl : isL G l K) (hs : isS G a s) (hQ : Q (some (.int (zB (aAg K.n pp tm mn t s n)))) G) : pcal (d + 2) 37 [.ref 81, .ref l, .ref a, .int t] G Q := by
  obtain ⟨h1, h2, h3, h4, h5⟩ := hV
  obtain ⟨f0, f1, f2, g0, g1, g2, g3, g4⟩ := hs
  obtain ⟨l0, l1, l2, l3, l4, l5, l6, l7⟩ := id hl
  refine inX4_agree ?_
  have bad : ∀ k i, i + k = n → aAg K.n pp tm mn t s i = false → aAg K.n pp tm mn t s n = false := by
    intro k
    induction k with
    | zero => intro i hi h; obtain rfl : i = n := by omega
              exact h
    | succ k ih => intro i hi h; exact ih (i + 1) (by omega) (by rw [aAg, h]; rfl)
  have key : ∀ k i, i + k = n → aAg K.n pp tm mn t s i = true → pr (d + 1) 37 (G.1 + 0, G.2.1 + 0) Q 3 [some (.ref 81), some (.ref l), some (.ref a), some (.int t), some (.int (nI i))] [] G := by
    intro k
    induction k with
    | zero =>
      intro i hi hacc
      obtain rfl : i = n := by omega
      simp only [eX4_agree_3, eX4_agree_5, eX4_agree_6, eX4_agree_9, eX4_agree_67, eX4_agree_68, pe_aload_0, pe_const, pe_getf, pe_iclt, pe_iload_4, pe_zret, h1, sg_g3, niE, or_true, hget_hset, ia_l, ia_s, vin, opl, onl, Int32.reduceLT, Int32.reduceLE, Int32.reduceAdd, Int32.reduceSub, Nat.reduceLT, Nat.reduceAdd, Nat.reduceEqDiff, ↓reduceIte, true_and, and_true, List.length_nil, List.length_cons, Nat.reduceLeDiff, Nat.zero_le]
      rw [hacc] at hQ
      exact hQ
    | succ k ih =>
      intro i hi hacc
      obtain ⟨c1, c2, c3, c4⟩ := niL (i := i) (n := n) (by omega) h5
      rw [eX4_agree_3]
      simp only [eX4_agree_5, eX4_agree_6, eX4_agree_9, eX4_agree_12, eX4_agree_13, eX4_agree_16, eX4_agree_18, eX4_agree_19, eX4_agree_20, eX4_agree_23, eX4_agree_24, eX4_agree_25, eX4_agree_28, eX4_agree_30, eX4_agree_31, eX4_agree_61, eX4_agree_64, pe_aload_0, pe_aload_1, pe_callV_1, pe_getf, pe_goto, pe_iald, pe_iceq, pe_iclt, pe_iinc_4, pe_iload_3, pe_iload_4, h1, h2, h3, l0, sg_g0, sg_g1, sg_g3, ld_o, c1, c2, c3, c4, nisw, hget_hset, ia_l, ia_s, vin, opl, onl, Int32.reduceLT, Int32.reduceLE, Int32.reduceAdd, Int32.reduceSub, Nat.reduceLT, Nat.reduceAdd, Nat.reduceEqDiff, ↓reduceIte, true_and, and_true, List.length_nil, List.length_cons, Nat.reduceLeDiff, Nat.zero_le]
      split
      · rename_i u1
        refine sp_hasPlace hl ?_
        simp only [eX4_agree_34, eX4_agree_61, eX4_agree_64, pe_goto, pe_ifeq, pe_iinc_4, zB_0, nisw, hget_hset, ia_l, ia_s, vin, opl, onl, Int32.reduceLT, Int32.reduceLE, Int32.reduceAdd, Int32.reduceSub, Nat.reduceLT, Nat.reduceAdd, Nat.reduceEqDiff, ↓reduceIte, true_and, and_true, List.length_nil, List.length_cons, Nat.reduceLeDiff, Nat.zero_le]
        split
        · rename_i u2
          refine ih (i + 1) (by omega) ?_
          have u2' : hP K.n (pp i) = false := u2
          rw [aAg, hacc, u2']
          simp
        · rename_i u2
          have u2' : hP K.n (pp i) = true := by
            cases h : hP K.n (pp i) with
            | true => rfl
            | false => exact absurd h u2
          obtain ⟨v1, v2, v3, v4⟩ := hP_of l6 u2'
          simp only [eX4_agree_37, eX4_agree_38, eX4_agree_41, eX4_agree_42, eX4_agree_45, eX4_agree_47, eX4_agree_48, eX4_agree_49, eX4_agree_50, eX4_agree_53, eX4_agree_55, eX4_agree_56, eX4_agree_59, eX4_agree_60, eX4_agree_61, eX4_agree_64, pe_aload_0, pe_aload_2, pe_const, pe_getf, pe_goto, pe_iald, pe_iceq, pe_iinc_4, pe_iload_4, pe_zret, h1, h2, h4, g0, g1, sg_g0, sg_g2, sc_g0, sc_g1, sc_g2, sc_g3, sc_g4, sc_p3, sc_p4, sc_o, c1, c2, c4, v1, v3, nisw, hget_hset, ia_l, ia_s, vin, opl, onl, Int32.reduceLT, Int32.reduceLE, Int32.reduceAdd, Int32.reduceSub, Nat.reduceLT, Nat.reduceAdd, Nat.reduceEqDiff, ↓reduceIte, true_and, and_true, List.length_nil, List.length_cons, Nat.reduceLeDiff, Nat.zero_le]
          rw [(g4 _ v3).1]
          split
          · rename_i u3
            refine ih (i + 1) (by omega) ?_
            rw [aAg, hacc]
            simp [u3]
          · rename_i u3
            simp only [true_or, true_and]
            have e : aAg K.n pp tm mn t s (i + 1) = false := by
              rw [aAg, hacc]
              simp [u1, u2', u3]
            rw [bad k (i + 1) (by omega) e] at hQ
            exact hQ
      · rename_i u1
        refine ih (i + 1) (by omega) ?_
        rw [aAg, hacc]
        simp [u1]
  simp only [eX4_agree_0, eX4_agree_1, pe_const, pe_istore_4, hget_hset, ia_l, ia_s, vin, opl, onl, Int32.reduceLT, Int32.reduceLE, Int32.reduceAdd, Int32.reduceSub, Nat.reduceLT, Nat.reduceAdd, Nat.reduceEqDiff, ↓reduceIte, true_and, and_true, List.length_nil, List.length_cons, Nat.reduceLeDiff, Nat.zero_le]
  exact key n 0 (by omega) rfl
