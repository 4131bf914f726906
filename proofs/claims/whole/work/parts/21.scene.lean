/-! ===== scenes ===== -/
/-- the Scene at role a holds t: buckets 0 to 5, dung 6 to 11, wet 12 to 17, open 18, hour 19 -/
def isS (G : px_H) (a : Nat) (t : Nat → Int32) : Prop := ∃ f0 f1 f2 : Nat → Int32, hget G a = some (c_sc a (t 18) (t 19)) ∧ hget G (a + 1) = some (c_ia 6 f0) ∧ hget G (a + 2) = some (c_ia 6 f1) ∧ hget G (a + 3) = some (c_ia 6 f2) ∧ ∀ p, p < 6 → f0 p = t p ∧ f1 p = t (6 + p) ∧ f2 p = t (12 + p)
/-- outside lo to hi nothing has changed -/
def fr (G G' : px_H) (lo hi : Nat) : Prop := ∀ k, k < lo ∨ hi ≤ k → hget G' k = hget G k
theorem isS.kept {G G' : px_H} {a : Nat} {t : Nat → Int32} (h : isS G a t) (hk : ∀ k, a ≤ k → k < a + 4 → hget G' k = hget G k) : isS G' a t := by
  obtain ⟨f0, f1, f2, h0, h1, h2, h3, h4⟩ := h
  exact ⟨f0, f1, f2, by rw [hk _ (by omega) (by omega)]; exact h0, by rw [hk _ (by omega) (by omega)]; exact h1, by rw [hk _ (by omega) (by omega)]; exact h2, by rw [hk _ (by omega) (by omega)]; exact h3, h4⟩
theorem isS.fr {G G' : px_H} {a lo hi : Nat} {t : Nat → Int32} (h : isS G a t) (hf : fr G G' lo hi) (hd : a + 4 ≤ lo ∨ hi ≤ a) : isS G' a t := h.kept (fun k h1 h2 => hf k (by omega))
theorem isS.to {G : px_H} {a : Nat} {t u : Nat → Int32} (h : isS G a t) (hu : ∀ j, j < 20 → t j = u j) : isS G a u := by
  obtain ⟨f0, f1, f2, h0, h1, h2, h3, h4⟩ := h
  refine ⟨f0, f1, f2, by rw [← hu 18 (by omega), ← hu 19 (by omega)]; exact h0, h1, h2, h3, fun p hp => ?_⟩
  rw [← hu p (by omega), ← hu (6 + p) (by omega), ← hu (12 + p) (by omega)]
  exact h4 p hp
/-- a land at role l -/
abbrev Ld : Type := (Nat → Int32) × (Nat → Int32) × (Nat → Int32) × (Nat → Int32) × (Nat → Int32) × Int32 × Nat × Nat
abbrev Ld.kd (K : Ld) : Nat → Int32 := K.1
abbrev Ld.st (K : Ld) : Nat → Int32 := K.2.1
abbrev Ld.ms (K : Ld) : Nat → Int32 := K.2.2.1
abbrev Ld.fm (K : Ld) : Nat → Int32 := K.2.2.2.1
abbrev Ld.tt (K : Ld) : Nat → Int32 := K.2.2.2.2.1
abbrev Ld.oa (K : Ld) : Int32 := K.2.2.2.2.2.1
abbrev Ld.n (K : Ld) : Nat := K.2.2.2.2.2.2.1
abbrev Ld.m (K : Ld) : Nat := K.2.2.2.2.2.2.2
def isL (G : px_H) (l : Nat) (K : Ld) : Prop := hget G l = some (c_ld l K.oa (nI K.n) (nI K.m)) ∧ hget G (l + 1) = some (c_ia 6 K.kd) ∧ hget G (l + 2) = some (c_ia 6 K.st) ∧ hget G (l + 3) = some (c_ia 6 K.ms) ∧ hget G (l + 4) = some (c_ia 6 K.fm) ∧ hget G (l + 5) = some (c_ia 6 K.tt) ∧ K.n ≤ 6 ∧ K.m ≤ 6
theorem isL.kept {G G' : px_H} {a : Nat} {K : Ld} (h : isL G a K) (hk : ∀ k, a ≤ k → k < a + 6 → hget G' k = hget G k) : isL G' a K := by
  obtain ⟨h0, h1, h2, h3, h4, h5, h6⟩ := h
  exact ⟨by rw [hk _ (by omega) (by omega)]; exact h0, by rw [hk _ (by omega) (by omega)]; exact h1, by rw [hk _ (by omega) (by omega)]; exact h2, by rw [hk _ (by omega) (by omega)]; exact h3, by rw [hk _ (by omega) (by omega)]; exact h4, by rw [hk _ (by omega) (by omega)]; exact h5, h6⟩
theorem isL.fr {G G' : px_H} {a lo hi : Nat} {K : Ld} (h : isL G a K) (hf : fr G G' lo hi) (hd : a + 6 ≤ lo ∨ hi ≤ a) : isL G' a K := h.kept (fun k h1 h2 => hf k (by omega))
theorem lt6 {P : Nat → Prop} (h0 : P 0) (h1 : P 1) (h2 : P 2) (h3 : P 3) (h4 : P 4) (h5 : P 5) : ∀ p, p < 6 → P p := by
  intro p hp
  rcases (show p = 0 ∨ p = 1 ∨ p = 2 ∨ p = 3 ∨ p = 4 ∨ p = 5 by omega) with rfl | rfl | rfl | rfl | rfl | rfl <;> assumption
set_option maxRecDepth 100000 in
theorem sp_copy {d a b : Nat} {G : px_H} {t u : Nat → Int32} {Q : px_Q} (ht : isS G a t) (hu : isS G b u) (hab : a + 4 ≤ b ∨ b + 4 ≤ a) (hQ : ∀ G', isS G' a u → fr G G' a (a + 4) → Q none G') : pcal (d + 1) 26 [.ref a, .ref b] G Q := by
  obtain ⟨f0, f1, f2, a0, a1, a2, a3, -⟩ := ht
  obtain ⟨g0, g1, g2, b0, b1, b2, b3, b4⟩ := hu
  have ne_ba_0_0 : ¬ (b = a) := by omega
  have ne_ba_0_1 : ¬ (b = a + 1) := by omega
  have ne_ba_0_2 : ¬ (b = a + 2) := by omega
  have ne_ba_0_3 : ¬ (b = a + 3) := by omega
  have ne_ba_1_0 : ¬ (b + 1 = a) := by omega
  have ne_ba_1_1 : ¬ (b + 1 = a + 1) := by omega
  have ne_ba_1_2 : ¬ (b + 1 = a + 2) := by omega
  have ne_ba_1_3 : ¬ (b + 1 = a + 3) := by omega
  have ne_ba_2_0 : ¬ (b + 2 = a) := by omega
  have ne_ba_2_1 : ¬ (b + 2 = a + 1) := by omega
  have ne_ba_2_2 : ¬ (b + 2 = a + 2) := by omega
  have ne_ba_2_3 : ¬ (b + 2 = a + 3) := by omega
  have ne_ba_3_0 : ¬ (b + 3 = a) := by omega
  have ne_ba_3_1 : ¬ (b + 3 = a + 1) := by omega
  have ne_ba_3_2 : ¬ (b + 3 = a + 2) := by omega
  have ne_ba_3_3 : ¬ (b + 3 = a + 3) := by omega
  have ne_aa_0_1 : ¬ (a = a + 1) := by omega
  have ne_aa_0_2 : ¬ (a = a + 2) := by omega
  have ne_aa_0_3 : ¬ (a = a + 3) := by omega
  have ne_aa_1_0 : ¬ (a + 1 = a) := by omega
  have ne_aa_1_2 : ¬ (a + 1 = a + 2) := by omega
  have ne_aa_1_3 : ¬ (a + 1 = a + 3) := by omega
  have ne_aa_2_0 : ¬ (a + 2 = a) := by omega
  have ne_aa_2_1 : ¬ (a + 2 = a + 1) := by omega
  have ne_aa_2_3 : ¬ (a + 2 = a + 3) := by omega
  have ne_aa_3_0 : ¬ (a + 3 = a) := by omega
  have ne_aa_3_1 : ¬ (a + 3 = a + 1) := by omega
  have ne_aa_3_2 : ¬ (a + 3 = a + 2) := by omega
  refine inX3_copy ?_
  simp only [eX3_copy_0, eX3_copy_1, eX3_copy_2, eX3_copy_3, eX3_copy_5, eX3_copy_8, eX3_copy_9, eX3_copy_12, eX3_copy_13, eX3_copy_14, eX3_copy_17, eX3_copy_18, eX3_copy_19, eX3_copy_20, eX3_copy_21, eX3_copy_24, eX3_copy_25, eX3_copy_26, eX3_copy_29, eX3_copy_30, eX3_copy_31, eX3_copy_32, eX3_copy_33, eX3_copy_36, eX3_copy_37, eX3_copy_38, eX3_copy_41, eX3_copy_42, eX3_copy_43, eX3_copy_44, eX3_copy_47, eX3_copy_50, eX3_copy_51, eX3_copy_52, eX3_copy_55, eX3_copy_58, eX3_copy_59, eX3_copy_60, eX3_copy_63, eX3_copy_66, pe_aload_0, pe_aload_1, pe_const, pe_getf, pe_goto, pe_iald, pe_iast, pe_iclt, pe_iinc_2, pe_iload_2, pe_istore_2, pe_putf, pe_vret, a0, a1, a2, a3, b0, b1, b2, b3, sc_g0, sc_g1, sc_g2, sc_g3, sc_g4, sc_p3, sc_p4, sc_o, cl_0, cl_1, cl_2, cl_3, cl_4, cl_5, cl_6, ne_ba_0_0, ne_ba_0_1, ne_ba_0_2, ne_ba_0_3, ne_ba_1_0, ne_ba_1_1, ne_ba_1_2, ne_ba_1_3, ne_ba_2_0, ne_ba_2_1, ne_ba_2_2, ne_ba_2_3, ne_ba_3_0, ne_ba_3_1, ne_ba_3_2, ne_ba_3_3, ne_aa_0_1, ne_aa_0_2, ne_aa_0_3, ne_aa_1_0, ne_aa_1_2, ne_aa_1_3, ne_aa_2_0, ne_aa_2_1, ne_aa_2_3, ne_aa_3_0, ne_aa_3_1, ne_aa_3_2, hget_hset, ia_l, ia_s, vin, opl, onl, Int32.reduceLT, Int32.reduceLE, Int32.reduceAdd, Int32.reduceSub, Nat.reduceLT, Nat.reduceAdd, Nat.reduceEqDiff, ↓reduceIte, true_and, and_true, List.length_nil, List.length_cons, Nat.reduceLeDiff, Nat.zero_le]
  refine hQ _ ?_ ?_
  · refine ⟨_, _, _, by simp only [ne_aa_0_1, ne_aa_0_2, ne_aa_0_3, ne_aa_1_0, ne_aa_1_2, ne_aa_1_3, ne_aa_2_0, ne_aa_2_1, ne_aa_2_3, ne_aa_3_0, ne_aa_3_1, ne_aa_3_2, hget_hset, ia_l, ia_s, vin, opl, onl, Int32.reduceLT, Int32.reduceLE, Int32.reduceAdd, Int32.reduceSub, Nat.reduceLT, Nat.reduceAdd, Nat.reduceEqDiff, ↓reduceIte, true_and, and_true, List.length_nil, List.length_cons, Nat.reduceLeDiff, Nat.zero_le], by simp only [ne_aa_0_1, ne_aa_0_2, ne_aa_0_3, ne_aa_1_0, ne_aa_1_2, ne_aa_1_3, ne_aa_2_0, ne_aa_2_1, ne_aa_2_3, ne_aa_3_0, ne_aa_3_1, ne_aa_3_2, hget_hset, ia_l, ia_s, vin, opl, onl, Int32.reduceLT, Int32.reduceLE, Int32.reduceAdd, Int32.reduceSub, Nat.reduceLT, Nat.reduceAdd, Nat.reduceEqDiff, ↓reduceIte, true_and, and_true, List.length_nil, List.length_cons, Nat.reduceLeDiff, Nat.zero_le]; rfl, by simp only [ne_aa_0_1, ne_aa_0_2, ne_aa_0_3, ne_aa_1_0, ne_aa_1_2, ne_aa_1_3, ne_aa_2_0, ne_aa_2_1, ne_aa_2_3, ne_aa_3_0, ne_aa_3_1, ne_aa_3_2, hget_hset, ia_l, ia_s, vin, opl, onl, Int32.reduceLT, Int32.reduceLE, Int32.reduceAdd, Int32.reduceSub, Nat.reduceLT, Nat.reduceAdd, Nat.reduceEqDiff, ↓reduceIte, true_and, and_true, List.length_nil, List.length_cons, Nat.reduceLeDiff, Nat.zero_le]; rfl, by simp only [ne_aa_0_1, ne_aa_0_2, ne_aa_0_3, ne_aa_1_0, ne_aa_1_2, ne_aa_1_3, ne_aa_2_0, ne_aa_2_1, ne_aa_2_3, ne_aa_3_0, ne_aa_3_1, ne_aa_3_2, hget_hset, ia_l, ia_s, vin, opl, onl, Int32.reduceLT, Int32.reduceLE, Int32.reduceAdd, Int32.reduceSub, Nat.reduceLT, Nat.reduceAdd, Nat.reduceEqDiff, ↓reduceIte, true_and, and_true, List.length_nil, List.length_cons, Nat.reduceLeDiff, Nat.zero_le]; rfl, ?_⟩
    exact lt6 ⟨by simp [upd, (b4 0 (by omega))], by simp [upd, (b4 0 (by omega))], by simp [upd, (b4 0 (by omega))]⟩ ⟨by simp [upd, (b4 1 (by omega))], by simp [upd, (b4 1 (by omega))], by simp [upd, (b4 1 (by omega))]⟩ ⟨by simp [upd, (b4 2 (by omega))], by simp [upd, (b4 2 (by omega))], by simp [upd, (b4 2 (by omega))]⟩ ⟨by simp [upd, (b4 3 (by omega))], by simp [upd, (b4 3 (by omega))], by simp [upd, (b4 3 (by omega))]⟩ ⟨by simp [upd, (b4 4 (by omega))], by simp [upd, (b4 4 (by omega))], by simp [upd, (b4 4 (by omega))]⟩ ⟨by simp [upd, (b4 5 (by omega))], by simp [upd, (b4 5 (by omega))], by simp [upd, (b4 5 (by omega))]⟩
  · intro k hk
    have e0 : ¬ k = a := by omega
    have e1 : ¬ k = a + 1 := by omega
    have e2 : ¬ k = a + 2 := by omega
    have e3 : ¬ k = a + 3 := by omega
    simp only [hget_hset, e0, e1, e2, e3, ↓reduceIte]
