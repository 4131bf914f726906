/-! ===== bits of six, as numbers below 64 ===== -/
def pcn (j : Nat) : Nat := j % 2 + j / 2 % 2 + j / 4 % 2 + j / 8 % 2 + j / 16 % 2 + j / 32 % 2
theorem all64 {P : Nat → Prop} [∀ i, Decidable (P i)] (h : (List.range 64).all (fun i => decide (P i)) = true) : ∀ i, i < 64 → P i := by
  intro i hi
  have := List.all_eq_true.mp h i (List.mem_range.mpr hi)
  simpa using this
theorem all64x {P : Nat → Nat → Prop} [∀ i j, Decidable (P i j)] (h : (List.range 64).all (fun i => (List.range 64).all (fun j => decide (P i j))) = true) : ∀ i j, i < 64 → j < 64 → P i j := by
  intro i j hi hj
  have h1 := List.all_eq_true.mp h i (List.mem_range.mpr hi)
  have := List.all_eq_true.mp h1 j (List.mem_range.mpr hj)
  simpa using this
theorem bcN : ∀ j, j < 64 → bc (nI j) = nI (pcn j) ∧ pcn j ≤ 6 := all64 (by decide +kernel)
theorem nI_and : ∀ i j, i < 64 → j < 64 → nI i &&& nI j = nI (i &&& j) ∧ i &&& j < 64 := all64x (by decide +kernel)
theorem nI_or : ∀ i j, i < 64 → j < 64 → nI i ||| nI j = nI (i ||| j) ∧ i ||| j < 64 := all64x (by decide +kernel)
theorem nI_xor : ∀ i j, i < 64 → j < 64 → nI i ^^^ nI j = nI (i ^^^ j) ∧ i ^^^ j < 64 := all64x (by decide +kernel)
/-- i without j -/
def wo (i j : Nat) : Nat := i - (i &&& j)
theorem nI_wo : ∀ i j, i < 64 → j < 64 → nI i &&& (nI j ^^^ -1) = nI (wo i j) ∧ wo i j < 64 := all64x (by decide +kernel)
theorem wo_sub : ∀ i j, i < 64 → j < 64 → wo i j = 0 → i ≤ j ∧ pcn i ≤ pcn j ∧ pcn (wo j i) = pcn j - pcn i := all64x (by decide +kernel)
theorem bt_lt : ∀ i p, i < 64 → p < 64 → (bt (nI i) p = 0 ∨ bt (nI i) p = 1) ∧ (p < 6 → i < 2 ^ p → bt (nI i) p = 0) := all64x (by decide +kernel)
theorem b1N : ∀ p, p < 6 → b1 p = nI (2 ^ p) ∧ 2 ^ p < 64 := by decide +kernel
theorem ob_lt {f : Nat → Int32} (h : ∀ p, p < 6 → f p = 0 ∨ f p = b1 p) : ∀ n, n ≤ 6 → ∃ D, D < 2 ^ n ∧ ob f n = nI D
  | 0, _ => ⟨0, by decide, rfl⟩
  | n + 1, hn => by
    obtain ⟨D, h1, h2⟩ := ob_lt h n (by omega)
    have hp : 2 ^ n ≤ 32 := by
      rcases (show n = 0 ∨ n = 1 ∨ n = 2 ∨ n = 3 ∨ n = 4 ∨ n = 5 by omega) with rfl | rfl | rfl | rfl | rfl | rfl <;> decide
    have hs : 2 ^ (n + 1) = 2 * 2 ^ n := by rw [Nat.pow_succ]; omega
    rw [ob, h2]
    rcases h n (by omega) with e | e
    · refine ⟨D, by omega, ?_⟩
      rw [e]
      exact (nI_or D 0 (by omega) (by omega)).1.trans (by simp)
    · obtain ⟨b2, b3⟩ := b1N n (by omega)
      refine ⟨D ||| 2 ^ n, ?_, ?_⟩
      · exact Nat.or_lt_two_pow (by omega) (by omega)
      · rw [e, b2]
        exact (nI_or D (2 ^ n) (by omega) b3).1
theorem aOf_lt (K : Ld) (x : Int32) {n : Nat} (hn : n ≤ 6) : ∃ D, D < 2 ^ n ∧ aOf K x n = nI D := by
  refine ob_lt (fun p _ => ?_) n hn
  split
  · exact Or.inr rfl
  · exact Or.inl rfl
theorem okT_ad {K : Ld} {c : Nat} {t : Nat → Int32} (h : okT K c t) (hc : c ≤ 999990) {r : Nat} (hn : K.n ≤ 6) (hr : r < 2 ^ K.n) : okT K (c + 6) (aAd (nI r) t) := by
  obtain ⟨h0, h1, h2, h3, h4, h5⟩ := h
  have h64 := (p2m hn).2
  have hbt : ∀ p, p < 6 → 0 ≤ (bt (nI r) p).toInt ∧ (bt (nI r) p).toInt ≤ 1 := by
    intro p hp
    rcases (bt_lt r p (by omega) (by omega)).1 with e | e <;> rw [e] <;> decide
  have nb : nn6 (fun p => bt (nI r) p) := fun p hp => (hbt p hp).1
  have sb : s6 (fun p => bt (nI r) p) ≤ 6 := by
    unfold s6
    have a0 := hbt 0 (by omega); have a1 := hbt 1 (by omega); have a2 := hbt 2 (by omega); have a3 := hbt 3 (by omega); have a4 := hbt 4 (by omega); have a5 := hbt 5 (by omega)
    dsimp only
    omega
  obtain ⟨q1, q2⟩ := s6_add (h := aAd (nI r) t) h1 nb (by omega) (fun p hp => by simp [aAd, hp])
  refine ⟨by omega, q1, by omega, fun p a b => ⟨?_, ?_, ?_⟩, fun p hp => ?_, fun p hp hk => ?_⟩
  · have e : bt (nI r) p = 0 := (bt_lt r p (by omega) (by omega)).2 b (Nat.lt_of_lt_of_le hr (Nat.pow_le_pow_right (by omega) a))
    simp only [aAd, b, ↓reduceIte, e, (h3 p a b).1]
    rfl
  · rw [aAd, if_neg (by omega)]; exact (h3 p a b).2.1
  · rw [aAd, if_neg (by omega)]; exact (h3 p a b).2.2
  · rw [aAd, if_neg (by omega)]; exact h4 p hp
  · rw [aAd, if_neg (by omega)]; exact h5 p hp hk
/-! ===== powers, fractions ===== -/
def pwr (x : Int32) : Nat → Int32
  | 0 => 1
  | k + 1 => pwr x k * x
set_option maxRecDepth 100000 in
theorem sp_power {d k : Nat} {G : px_H} {x : Int32} {Q : px_Q} (hk : k ≤ 1000) (hQ : Q (some (.int (pwr x k))) G) : pcal (d + 1) 75 [.int x, .int (nI k)] G Q := by
  refine inX6_power ?_
  have key : ∀ j i acc, i + j = k → acc = pwr x i → pr d 75 (G.1 + 0, G.2.1 + 0) Q 4 [some (.int x), some (.int (nI k)), some (.int acc), some (.int (nI i))] [] G := by
    intro j
    induction j with
    | zero =>
      intro i acc hi hacc
      obtain rfl : i = k := by omega
      simp only [eX6_power_4, eX6_power_5, eX6_power_6, eX6_power_19, eX6_power_20, pe_iclt, pe_iload_1, pe_iload_2, pe_iload_3, pe_iret, niE, hget_hset, ia_l, ia_s, vin, opl, onl, Int32.reduceLT, Int32.reduceLE, Int32.reduceAdd, Int32.reduceSub, Nat.reduceLT, Nat.reduceAdd, Nat.reduceEqDiff, ↓reduceIte, true_and, and_true, List.length_nil, List.length_cons, Nat.reduceLeDiff, Nat.zero_le]
      rw [hacc]
      exact hQ
    | succ j ih =>
      intro i acc hi hacc
      have c1 := niK (i := i) (n := k) (by omega) (by omega)
      rw [eX6_power_4]
      simp only [eX6_power_0, eX6_power_1, eX6_power_2, eX6_power_3, eX6_power_5, eX6_power_6, eX6_power_9, eX6_power_10, eX6_power_11, eX6_power_12, eX6_power_13, eX6_power_16, eX6_power_19, eX6_power_20, pe_bin, pe_const, pe_goto, pe_iclt, pe_iinc_3, pe_iload_0, pe_iload_1, pe_iload_2, pe_iload_3, pe_iret, pe_istore_2, pe_istore_3, c1, nisw, hget_hset, ia_l, ia_s, vin, opl, onl, Int32.reduceLT, Int32.reduceLE, Int32.reduceAdd, Int32.reduceSub, Nat.reduceLT, Nat.reduceAdd, Nat.reduceEqDiff, ↓reduceIte, true_and, and_true, List.length_nil, List.length_cons, Nat.reduceLeDiff, Nat.zero_le]
      exact ih (i + 1) _ (by omega) (by rw [hacc, pwr])
  simp only [eX6_power_0, eX6_power_1, eX6_power_2, eX6_power_3, pe_const, pe_istore_2, pe_istore_3, hget_hset, ia_l, ia_s, vin, opl, onl, Int32.reduceLT, Int32.reduceLE, Int32.reduceAdd, Int32.reduceSub, Nat.reduceLT, Nat.reduceAdd, Nat.reduceEqDiff, ↓reduceIte, true_and, and_true, List.length_nil, List.length_cons, Nat.reduceLeDiff, Nat.zero_le]
  exact key k 0 1 (by omega) rfl
/-- how likely it rains on just r of D -/
def wt (r D : Nat) (x : Int32) : Int32 := pwr x (pcn r) * pwr (10 - x) (pcn (wo D r))
set_option maxRecDepth 100000 in
theorem sp_weightOf {d r D : Nat} {G : px_H} {x : Int32} {Q : px_Q} (hr : r < 64) (hD : D < 64) (hQ : Q (some (.int (wt r D x))) G) : pcal (d + 2) 74 [.int (nI r), .int (nI D), .int x] G Q := by
  obtain ⟨a1, a2⟩ := nI_wo D r hD hr
  obtain ⟨b1, b2⟩ := bcN r hr
  obtain ⟨c1, c2⟩ := bcN _ a2
  refine inX6_weightOf ?_
  simp only [eX6_weightOf_0, eX6_weightOf_1, eX6_weightOf_2, eX6_weightOf_3, eX6_weightOf_4, eX6_weightOf_5, eX6_weightOf_6, eX6_weightOf_7, eX6_weightOf_8, pe_bin, pe_callS_1, pe_const, pe_iload_0, pe_iload_1, pe_iload_2, pe_istore_3, a1, hget_hset, ia_l, ia_s, vin, opl, onl, Int32.reduceLT, Int32.reduceLE, Int32.reduceAdd, Int32.reduceSub, Nat.reduceLT, Nat.reduceAdd, Nat.reduceEqDiff, ↓reduceIte, true_and, and_true, List.length_nil, List.length_cons, Nat.reduceLeDiff, Nat.zero_le]
  refine sp_bitCount ?_
  simp only [eX6_weightOf_11, pe_callS_2, b1, hget_hset, ia_l, ia_s, vin, opl, onl, Int32.reduceLT, Int32.reduceLE, Int32.reduceAdd, Int32.reduceSub, Nat.reduceLT, Nat.reduceAdd, Nat.reduceEqDiff, ↓reduceIte, true_and, and_true, List.length_nil, List.length_cons, Nat.reduceLeDiff, Nat.zero_le]
  refine sp_power (by omega) ?_
  simp only [eX6_weightOf_14, eX6_weightOf_16, eX6_weightOf_17, eX6_weightOf_18, eX6_weightOf_19, pe_bin, pe_callS_1, pe_const, pe_iload_2, pe_iload_3, hget_hset, ia_l, ia_s, vin, opl, onl, Int32.reduceLT, Int32.reduceLE, Int32.reduceAdd, Int32.reduceSub, Nat.reduceLT, Nat.reduceAdd, Nat.reduceEqDiff, ↓reduceIte, true_and, and_true, List.length_nil, List.length_cons, Nat.reduceLeDiff, Nat.zero_le]
  refine sp_bitCount ?_
  simp only [eX6_weightOf_22, pe_callS_2, c1, hget_hset, ia_l, ia_s, vin, opl, onl, Int32.reduceLT, Int32.reduceLE, Int32.reduceAdd, Int32.reduceSub, Nat.reduceLT, Nat.reduceAdd, Nat.reduceEqDiff, ↓reduceIte, true_and, and_true, List.length_nil, List.length_cons, Nat.reduceLeDiff, Nat.zero_le]
  refine sp_power (by omega) ?_
  simp only [eX6_weightOf_25, eX6_weightOf_26, pe_bin, pe_iret, hget_hset, ia_l, ia_s, vin, opl, onl, Int32.reduceLT, Int32.reduceLE, Int32.reduceAdd, Int32.reduceSub, Nat.reduceLT, Nat.reduceAdd, Nat.reduceEqDiff, ↓reduceIte, true_and, and_true, List.length_nil, List.length_cons, Nat.reduceLeDiff, Nat.zero_le]
  exact hQ
def abI (x : Int32) : Int32 := if 0 ≤ x then x else 0 - x
def gD : Nat → Int32 → Int32 → Int32
  | 0, l, _ => l
  | k + 1, l, s => if s = 0 then l else gD k s (l - l / s * s)
set_option maxRecDepth 100000 in
theorem sp_greatestDivisor {d : Nat} {G : px_H} {a b : Int32} {Q : px_Q} (hQ : Q (some (.int (gD 64 (abI a) (abI b)))) G) : pcal (d + 1) 77 [.int a, .int b] G Q := by
  refine inX6_greatestDivisor ?_
  have key : ∀ j i l s o5, i + j = 64 → gD j l s = gD 64 (abI a) (abI b) → pr d 77 (G.1 + 0, G.2.1 + 0) Q 13 [some (.int a), some (.int b), some (.int l), some (.int s), some (.int (nI i)), o5] [] G := by
    intro j
    induction j with
    | zero =>
      intro i l s o5 hi hacc
      obtain rfl : i = 64 := by omega
      have c1 : ¬ nI 64 < 64 := by decide
      simp only [eX6_greatestDivisor_13, eX6_greatestDivisor_15, eX6_greatestDivisor_17, eX6_greatestDivisor_40, eX6_greatestDivisor_41, pe_const, pe_iclt, pe_iload_2, pe_iload_4, pe_iret, c1, hget_hset, ia_l, ia_s, vin, opl, onl, Int32.reduceLT, Int32.reduceLE, Int32.reduceAdd, Int32.reduceSub, Nat.reduceLT, Nat.reduceAdd, Nat.reduceEqDiff, ↓reduceIte, true_and, and_true, List.length_nil, List.length_cons, Nat.reduceLeDiff, Nat.zero_le]
      rw [← hacc] at hQ
      exact hQ
    | succ j ih =>
      intro i l s o5 hi hacc
      have c1 : nI i < 64 := nI_lt (b := 64) (by omega) (by omega)
      rw [eX6_greatestDivisor_13]
      simp only [eX6_greatestDivisor_0, eX6_greatestDivisor_1, eX6_greatestDivisor_4, eX6_greatestDivisor_5, eX6_greatestDivisor_6, eX6_greatestDivisor_9, eX6_greatestDivisor_10, eX6_greatestDivisor_11, eX6_greatestDivisor_15, eX6_greatestDivisor_17, eX6_greatestDivisor_20, eX6_greatestDivisor_21, eX6_greatestDivisor_24, eX6_greatestDivisor_25, eX6_greatestDivisor_26, eX6_greatestDivisor_27, eX6_greatestDivisor_29, eX6_greatestDivisor_30, eX6_greatestDivisor_31, eX6_greatestDivisor_33, eX6_greatestDivisor_34, eX6_greatestDivisor_37, eX6_greatestDivisor_40, eX6_greatestDivisor_41, pe_const, pe_goto, pe_iclt, pe_ifeq, pe_iinc_4, pe_iload_0, pe_iload_1, pe_iload_2, pe_iload_3, pe_iload_4, pe_iload_5, pe_irem, pe_iret, pe_istore_2, pe_istore_3, pe_istore_4, pe_istore_5, pe_mabs, c1, nisw, hget_hset, ia_l, ia_s, vin, opl, onl, Int32.reduceLT, Int32.reduceLE, Int32.reduceAdd, Int32.reduceSub, Nat.reduceLT, Nat.reduceAdd, Nat.reduceEqDiff, ↓reduceIte, true_and, and_true, List.length_nil, List.length_cons, Nat.reduceLeDiff, Nat.zero_le]
      rw [gD] at hacc
      split
      · rename_i u1
        rw [if_pos u1] at hacc
        rw [← hacc] at hQ
        exact hQ
      · rename_i u1
        rw [if_neg u1] at hacc
        exact ⟨u1, ih (i + 1) _ _ _ (by omega) hacc⟩
  simp only [eX6_greatestDivisor_0, eX6_greatestDivisor_1, eX6_greatestDivisor_4, eX6_greatestDivisor_5, eX6_greatestDivisor_6, eX6_greatestDivisor_9, eX6_greatestDivisor_10, eX6_greatestDivisor_11, pe_const, pe_iload_0, pe_iload_1, pe_istore_2, pe_istore_3, pe_istore_4, pe_mabs, hget_hset, ia_l, ia_s, vin, opl, onl, Int32.reduceLT, Int32.reduceLE, Int32.reduceAdd, Int32.reduceSub, Nat.reduceLT, Nat.reduceAdd, Nat.reduceEqDiff, ↓reduceIte, true_and, and_true, List.length_nil, List.length_cons, Nat.reduceLeDiff, Nat.zero_le]
  exact key 64 0 _ _ none (by omega) rfl
def aFr (a b up : Int32) : Int32 := if gD 64 (abI a) (abI b) < 1 then (if up = 0 then b else a) else (if up = 0 then b / gD 64 (abI a) (abI b) else a / gD 64 (abI a) (abI b))
set_option maxRecDepth 100000 in
theorem sp_fraction {d : Nat} {G : px_H} {a b up : Int32} {Q : px_Q} (hQ : Q (some (.int (aFr a b up))) G) : pcal (d + 2) 76 [.int a, .int b, .int up] G Q := by
  refine inX6_fraction ?_
  simp only [eX6_fraction_0, eX6_fraction_1, eX6_fraction_2, pe_callS_2, pe_iload_0, pe_iload_1, hget_hset, ia_l, ia_s, vin, opl, onl, Int32.reduceLT, Int32.reduceLE, Int32.reduceAdd, Int32.reduceSub, Nat.reduceLT, Nat.reduceAdd, Nat.reduceEqDiff, ↓reduceIte, true_and, and_true, List.length_nil, List.length_cons, Nat.reduceLeDiff, Nat.zero_le]
  refine sp_greatestDivisor ?_
  rw [aFr] at hQ
  generalize gD 64 (abI a) (abI b) = g at hQ ⊢
  simp only [eX6_fraction_5, eX6_fraction_6, eX6_fraction_7, eX6_fraction_8, pe_const, pe_iclt, pe_iload_3, pe_istore_3, hget_hset, ia_l, ia_s, vin, opl, onl, Int32.reduceLT, Int32.reduceLE, Int32.reduceAdd, Int32.reduceSub, Nat.reduceLT, Nat.reduceAdd, Nat.reduceEqDiff, ↓reduceIte, true_and, and_true, List.length_nil, List.length_cons, Nat.reduceLeDiff, Nat.zero_le]
  split
  · rename_i u1
    rw [if_pos u1] at hQ
    simp only [eX6_fraction_11, eX6_fraction_12, pe_ifeq, pe_iload_2, hget_hset, ia_l, ia_s, vin, opl, onl, Int32.reduceLT, Int32.reduceLE, Int32.reduceAdd, Int32.reduceSub, Nat.reduceLT, Nat.reduceAdd, Nat.reduceEqDiff, ↓reduceIte, true_and, and_true, List.length_nil, List.length_cons, Nat.reduceLeDiff, Nat.zero_le]
    split
    · rename_i u2
      rw [if_pos u2] at hQ
      simp only [eX6_fraction_19, eX6_fraction_20, pe_iload_1, pe_iret, hget_hset, ia_l, ia_s, vin, opl, onl, Int32.reduceLT, Int32.reduceLE, Int32.reduceAdd, Int32.reduceSub, Nat.reduceLT, Nat.reduceAdd, Nat.reduceEqDiff, ↓reduceIte, true_and, and_true, List.length_nil, List.length_cons, Nat.reduceLeDiff, Nat.zero_le]
      exact hQ
    · rename_i u2
      rw [if_neg u2] at hQ
      simp only [eX6_fraction_15, eX6_fraction_16, eX6_fraction_19, eX6_fraction_20, pe_goto, pe_iload_0, pe_iload_1, pe_iret, hget_hset, ia_l, ia_s, vin, opl, onl, Int32.reduceLT, Int32.reduceLE, Int32.reduceAdd, Int32.reduceSub, Nat.reduceLT, Nat.reduceAdd, Nat.reduceEqDiff, ↓reduceIte, true_and, and_true, List.length_nil, List.length_cons, Nat.reduceLeDiff, Nat.zero_le]
      exact hQ
  · rename_i u1
    rw [if_neg u1] at hQ
    have u0 : ¬ g = 0 := fun e => u1 (by rw [e]; decide)
    simp only [eX6_fraction_21, eX6_fraction_22, pe_ifeq, pe_iload_2, hget_hset, ia_l, ia_s, vin, opl, onl, Int32.reduceLT, Int32.reduceLE, Int32.reduceAdd, Int32.reduceSub, Nat.reduceLT, Nat.reduceAdd, Nat.reduceEqDiff, ↓reduceIte, true_and, and_true, List.length_nil, List.length_cons, Nat.reduceLeDiff, Nat.zero_le]
    split
    · rename_i u2
      rw [if_pos u2] at hQ
      simp only [eX6_fraction_31, eX6_fraction_32, eX6_fraction_33, eX6_fraction_34, pe_idiv, pe_iload_1, pe_iload_3, pe_iret, u0, not_false_eq_true, hget_hset, ia_l, ia_s, vin, opl, onl, Int32.reduceLT, Int32.reduceLE, Int32.reduceAdd, Int32.reduceSub, Nat.reduceLT, Nat.reduceAdd, Nat.reduceEqDiff, ↓reduceIte, true_and, and_true, List.length_nil, List.length_cons, Nat.reduceLeDiff, Nat.zero_le]
      exact hQ
    · rename_i u2
      rw [if_neg u2] at hQ
      simp only [eX6_fraction_25, eX6_fraction_26, eX6_fraction_27, eX6_fraction_28, eX6_fraction_31, eX6_fraction_32, eX6_fraction_33, eX6_fraction_34, pe_goto, pe_idiv, pe_iload_0, pe_iload_1, pe_iload_3, pe_iret, u0, not_false_eq_true, hget_hset, ia_l, ia_s, vin, opl, onl, Int32.reduceLT, Int32.reduceLE, Int32.reduceAdd, Int32.reduceSub, Nat.reduceLT, Nat.reduceAdd, Nat.reduceEqDiff, ↓reduceIte, true_and, and_true, List.length_nil, List.length_cons, Nat.reduceLeDiff, Nat.zero_le]
      exact hQ
/-- the sum over rains below r -/
def oS (K : Ld) (t : Nat → Int32) (k D : Nat) (x od : Int32) : Nat → Int32
  | 0 => 0
  | r + 1 => if wo r D = 0 ∧ 0 < wt r D x then oS K t k D x od r + wt r D x * (if od = 0 then zB (aDo (aH K 0 k (aAd (nI r) t)) 6) else aDu (aH K 0 k (aAd (nI r) t)) 6) else oS K t k D x od r
theorem nI_0' {j : Nat} (h : j < 64) : (nI j = 0) = (j = 0) := by
  apply propext
  exact nI_eq (b := 0) (by omega) (by omega)
set_option maxRecDepth 100000 in
theorem sp_overRains {d k D : Nat} {G : px_H} {le : Int32} {la dr : Nat} {ke : Int32} {sd : Int64} {K : Ld} {c : Nat} {x up od : Int32} {t : Nat → Int32} {Q : px_Q} (hr : rX G le la dr ke sd K t) (hv : vK K) (hok : okT K c t) (hc : c ≤ 999990) (hk : k ≤ 12) (hD : D < 2 ^ K.n) (hD2 : aOf K 0 K.n = nI D) (hQ : ∀ G', rX G' le la dr ke sd K t → frZ G G' 86 94 → Q (some (.int (aFr (oS K t k D x od 64) (pwr 10 (pcn D)) up))) G') : pcal (d + 5) 73 [.ref 2, .int x, .int (nI k), .int up, .int od] G Q := by
  have hn := hv.1.1
  have h64 := (p2m hn).2
  have hD6 : D < 64 := by omega
  refine inX6_overRains ?_
  have x0 := hr.x
  have l0 := hr.lo
  simp only [eX6_overRains_0, eX6_overRains_1, eX6_overRains_4, eX6_overRains_5, pe_aload_0, pe_callV_1, pe_const, pe_getf, x0, l0, x_g3, ld_o, hget_hset, ia_l, ia_s, vin, opl, onl, Int32.reduceLT, Int32.reduceLE, Int32.reduceAdd, Int32.reduceSub, Nat.reduceLT, Nat.reduceAdd, Nat.reduceEqDiff, ↓reduceIte, true_and, and_true, List.length_nil, List.length_cons, Nat.reduceLeDiff, Nat.zero_le]
  refine sp_placesOf hr.l ?_
  simp only [eX6_overRains_8, eX6_overRains_10, eX6_overRains_11, eX6_overRains_13, eX6_overRains_14, pe_const, pe_istore_5, pe_istore_6, pe_istore_7, hD2, hget_hset, ia_l, ia_s, vin, opl, onl, Int32.reduceLT, Int32.reduceLE, Int32.reduceAdd, Int32.reduceSub, Nat.reduceLT, Nat.reduceAdd, Nat.reduceEqDiff, ↓reduceIte, true_and, and_true, List.length_nil, List.length_cons, Nat.reduceLeDiff, Nat.zero_le]
  have key : ∀ j i H s o8 o9, i + j = 64 → rX H le la dr ke sd K t → frZ G H 86 94 → s = oS K t k D x od i → pr (d + 4) 73 (G.1 + 0, G.2.1 + 0) Q 16 [some (.ref 2), some (.int x), some (.int (nI k)), some (.int up), some (.int od), some (.int (nI D)), some (.int s), some (.int (nI i)), o8, o9] [] H := by
    intro j
    induction j with
    | zero =>
      intro i H s o8 o9 hi k1 k2 k3
      obtain rfl : i = 64 := by omega
      have c1 : ¬ nI 64 < 64 := by decide
      simp only [eX6_overRains_16, eX6_overRains_18, eX6_overRains_20, eX6_overRains_130, eX6_overRains_132, eX6_overRains_134, eX6_overRains_136, pe_callS_1, pe_const, pe_iclt, pe_iload_5, pe_iload_6, pe_iload_7, c1, hget_hset, ia_l, ia_s, vin, opl, onl, Int32.reduceLT, Int32.reduceLE, Int32.reduceAdd, Int32.reduceSub, Nat.reduceLT, Nat.reduceAdd, Nat.reduceEqDiff, ↓reduceIte, true_and, and_true, List.length_nil, List.length_cons, Nat.reduceLeDiff, Nat.zero_le]
      refine sp_bitCount ?_
      simp only [eX6_overRains_139, pe_callS_2, (bcN D hD6).1, hget_hset, ia_l, ia_s, vin, opl, onl, Int32.reduceLT, Int32.reduceLE, Int32.reduceAdd, Int32.reduceSub, Nat.reduceLT, Nat.reduceAdd, Nat.reduceEqDiff, ↓reduceIte, true_and, and_true, List.length_nil, List.length_cons, Nat.reduceLeDiff, Nat.zero_le]
      refine sp_power (by have := (bcN D hD6).2; omega) ?_
      simp only [eX6_overRains_142, eX6_overRains_143, pe_callS_3, pe_iload_3, hget_hset, ia_l, ia_s, vin, opl, onl, Int32.reduceLT, Int32.reduceLE, Int32.reduceAdd, Int32.reduceSub, Nat.reduceLT, Nat.reduceAdd, Nat.reduceEqDiff, ↓reduceIte, true_and, and_true, List.length_nil, List.length_cons, Nat.reduceLeDiff, Nat.zero_le]
      refine sp_fraction ?_
      simp only [eX6_overRains_146, pe_iret, hget_hset, ia_l, ia_s, vin, opl, onl, Int32.reduceLT, Int32.reduceLE, Int32.reduceAdd, Int32.reduceSub, Nat.reduceLT, Nat.reduceAdd, Nat.reduceEqDiff, ↓reduceIte, true_and, and_true, List.length_nil, List.length_cons, Nat.reduceLeDiff, Nat.zero_le]
      have := hQ H k1 k2
      rw [← k3] at this
      exact this
    | succ j ih =>
      intro i H s o8 o9 hi k1 k2 k3
      have c1 : nI i < 64 := nI_lt (b := 64) (by omega) (by omega)
      obtain ⟨w1, w2⟩ := nI_wo i D (by omega) hD6
      have skip : ∀ (H' : px_H) (o8 o9 : Option Value), rX H' le la dr ke sd K t → frZ G H' 86 94 → ¬ (wo i D = 0 ∧ 0 < wt i D x) → pr (d + 4) 73 (G.1 + 0, G.2.1 + 0) Q 124 [some (.ref 2), some (.int x), some (.int (nI k)), some (.int up), some (.int od), some (.int (nI D)), some (.int s), some (.int (nI i)), o8, o9] [] H' := by
        intro H' o8 o9 q1 q2 q3
        simp only [eX6_overRains_124, eX6_overRains_127, pe_goto, pe_iinc_7, nisw, hget_hset, ia_l, ia_s, vin, opl, onl, Int32.reduceLT, Int32.reduceLE, Int32.reduceAdd, Int32.reduceSub, Nat.reduceLT, Nat.reduceAdd, Nat.reduceEqDiff, ↓reduceIte, true_and, and_true, List.length_nil, List.length_cons, Nat.reduceLeDiff, Nat.zero_le]
        refine ih (i + 1) H' _ _ _ (by omega) q1 q2 ?_
        rw [oS, if_neg q3, ← k3]
      simp only [eX6_overRains_16, eX6_overRains_18, eX6_overRains_20, eX6_overRains_23, eX6_overRains_25, eX6_overRains_27, eX6_overRains_28, eX6_overRains_29, eX6_overRains_30, pe_bin, pe_const, pe_iclt, pe_ifeq, pe_iload_5, pe_iload_7, c1, w1, nI_0' w2, hget_hset, ia_l, ia_s, vin, opl, onl, Int32.reduceLT, Int32.reduceLE, Int32.reduceAdd, Int32.reduceSub, Nat.reduceLT, Nat.reduceAdd, Nat.reduceEqDiff, ↓reduceIte, true_and, and_true, List.length_nil, List.length_cons, Nat.reduceLeDiff, Nat.zero_le]
      split
      · rename_i u1
        simp only [eX6_overRains_33, eX6_overRains_35, eX6_overRains_37, eX6_overRains_38, pe_callS_3, pe_iload_1, pe_iload_5, pe_iload_7, hget_hset, ia_l, ia_s, vin, opl, onl, Int32.reduceLT, Int32.reduceLE, Int32.reduceAdd, Int32.reduceSub, Nat.reduceLT, Nat.reduceAdd, Nat.reduceEqDiff, ↓reduceIte, true_and, and_true, List.length_nil, List.length_cons, Nat.reduceLeDiff, Nat.zero_le]
        refine sp_weightOf (by omega) hD6 ?_
        simp only [eX6_overRains_41, eX6_overRains_44, eX6_overRains_45, eX6_overRains_47, eX6_overRains_49, pe_const, pe_goto, pe_ifgt, pe_iload_8, pe_istore_8, hget_hset, ia_l, ia_s, vin, opl, onl, Int32.reduceLT, Int32.reduceLE, Int32.reduceAdd, Int32.reduceSub, Nat.reduceLT, Nat.reduceAdd, Nat.reduceEqDiff, ↓reduceIte, true_and, and_true, List.length_nil, List.length_cons, Nat.reduceLeDiff, Nat.zero_le]
        split
        · rename_i u2
          have hri : i < 2 ^ K.n := Nat.lt_of_le_of_lt (wo_sub i D (by omega) hD6 u1).1 hD
          obtain ⟨v1, v2, ⟨tu, v3⟩, mv, v4⟩ := id k1
          have y0 := k1.x
          have t0 := v3.obj
          simp only [eX6_overRains_52, eX6_overRains_53, eX6_overRains_56, eX6_overRains_57, eX6_overRains_60, pe_aload_0, pe_callV_1, pe_getf, y0, t0, x_g6, x_g12, sc_g0, sc_g1, sc_g2, sc_g3, sc_g4, sc_p3, sc_p4, sc_o, hget_hset, ia_l, ia_s, vin, opl, onl, Int32.reduceLT, Int32.reduceLE, Int32.reduceAdd, Int32.reduceSub, Nat.reduceLT, Nat.reduceAdd, Nat.reduceEqDiff, ↓reduceIte, true_and, and_true, List.length_nil, List.length_cons, Nat.reduceLeDiff, Nat.zero_le]
          refine sp_copy v3 v2 (by omega) ?_
          intro G1 e1 e2
          have f1 : hget G1 2 = some (c_x le la dr ke sd) := (e2 _ (by omega)).trans y0
          have f2 := e1.obj
          simp only [eX6_overRains_63, eX6_overRains_64, eX6_overRains_67, eX6_overRains_69, pe_aload_0, pe_callV_1, pe_getf, pe_iload_7, f1, f2, x_g12, sc_g0, sc_g1, sc_g2, sc_g3, sc_g4, sc_p3, sc_p4, sc_o, hget_hset, ia_l, ia_s, vin, opl, onl, Int32.reduceLT, Int32.reduceLE, Int32.reduceAdd, Int32.reduceSub, Nat.reduceLT, Nat.reduceAdd, Nat.reduceEqDiff, ↓reduceIte, true_and, and_true, List.length_nil, List.length_cons, Nat.reduceLeDiff, Nat.zero_le]
          refine sp_addOneTo e1 ?_
          intro G2 g1 g2
          have fz : frZ H G2 86 90 := fun q q1 q2 => (g2 q (by omega)).trans (e2 q (by omega))
          have z2 : isZ G2 17 := v1.2.2.2.kept (fz _ (by omega) (by omega)) ((g2 _ (by omega)).trans (e2 _ (by omega)))
          have f3 : hget G2 2 = some (c_x le la dr ke sd) := (fz _ (by omega) (by omega)).trans y0
          simp only [eX6_overRains_72, eX6_overRains_73, eX6_overRains_74, eX6_overRains_77, eX6_overRains_78, eX6_overRains_79, pe_aload_0, pe_callV_3, pe_const, pe_getf, pe_iload_2, f3, x_g12, x_o, hget_hset, ia_l, ia_s, vin, opl, onl, Int32.reduceLT, Int32.reduceLE, Int32.reduceAdd, Int32.reduceSub, Nat.reduceLT, Nat.reduceAdd, Nat.reduceEqDiff, ↓reduceIte, true_and, and_true, List.length_nil, List.length_cons, Nat.reduceLeDiff, Nat.zero_le]
          refine sp_passHours (t := aAd (nI i) t) (c := c + 6) (v1.fr fz (by omega) z2) hv g1 (okT_ad hok hc hn hri) (by omega) (by omega) ?_
          intro G3 a1 a2 a3
          have fz3 : frZ H G3 86 90 := fz.tr a3
          have r3 : rX G3 le la dr ke sd K t := k1.fr (fz3.wd (by omega) (by omega)) a2 a1 (v4.frZ fz3 (by omega) (by omega))
          have y3 := r3.x
          have t3 := a1.obj
          simp only [eX6_overRains_82, eX6_overRains_83, eX6_overRains_86, pe_aload_0, pe_callV_0, pe_getf, y3, t3, x_g12, sc_g0, sc_g1, sc_g2, sc_g3, sc_g4, sc_p3, sc_p4, sc_o, hget_hset, ia_l, ia_s, vin, opl, onl, Int32.reduceLT, Int32.reduceLE, Int32.reduceAdd, Int32.reduceSub, Nat.reduceLT, Nat.reduceAdd, Nat.reduceEqDiff, ↓reduceIte, true_and, and_true, List.length_nil, List.length_cons, Nat.reduceLeDiff, Nat.zero_le]
          refine sp_isDone a1 ?_
          simp only [eX6_overRains_89, pe_ifeq, zB_0, hget_hset, ia_l, ia_s, vin, opl, onl, Int32.reduceLT, Int32.reduceLE, Int32.reduceAdd, Int32.reduceSub, Nat.reduceLT, Nat.reduceAdd, Nat.reduceEqDiff, ↓reduceIte, true_and, and_true, List.length_nil, List.length_cons, Nat.reduceLeDiff, Nat.zero_le]
          have back : ∀ (z : Int32), z = zB (aDo (aH K 0 k (aAd (nI i) t)) 6) → pr (d + 4) 73 (G.1 + 0, G.2.1 + 0) Q 99 [some (.ref 2), some (.int x), some (.int (nI k)), some (.int up), some (.int od), some (.int (nI D)), some (.int s), some (.int (nI i)), some (.int (wt i D x)), some (.int z)] [] G3 := by
            intro z hz
            simp only [eX6_overRains_99, eX6_overRains_101, eX6_overRains_103, eX6_overRains_105, pe_ifeq, pe_iload_4, pe_iload_6, pe_iload_8, hget_hset, ia_l, ia_s, vin, opl, onl, Int32.reduceLT, Int32.reduceLE, Int32.reduceAdd, Int32.reduceSub, Nat.reduceLT, Nat.reduceAdd, Nat.reduceEqDiff, ↓reduceIte, true_and, and_true, List.length_nil, List.length_cons, Nat.reduceLeDiff, Nat.zero_le]
            split
            · rename_i u3
              simp only [eX6_overRains_118, eX6_overRains_120, eX6_overRains_121, eX6_overRains_122, eX6_overRains_124, eX6_overRains_127, pe_bin, pe_goto, pe_iinc_7, pe_iload_9, pe_istore_6, nisw, hget_hset, ia_l, ia_s, vin, opl, onl, Int32.reduceLT, Int32.reduceLE, Int32.reduceAdd, Int32.reduceSub, Nat.reduceLT, Nat.reduceAdd, Nat.reduceEqDiff, ↓reduceIte, true_and, and_true, List.length_nil, List.length_cons, Nat.reduceLeDiff, Nat.zero_le]
              refine ih (i + 1) G3 _ _ _ (by omega) r3 (k2.tr (fz3.wd (by omega) (by omega))) ?_
              rw [oS, if_pos ⟨u1, u2⟩, if_pos u3, ← k3, hz]
            · rename_i u3
              simp only [eX6_overRains_108, eX6_overRains_109, eX6_overRains_112, pe_aload_0, pe_callV_0, pe_getf, y3, t3, x_g12, sc_g0, sc_g1, sc_g2, sc_g3, sc_g4, sc_p3, sc_p4, sc_o, hget_hset, ia_l, ia_s, vin, opl, onl, Int32.reduceLT, Int32.reduceLE, Int32.reduceAdd, Int32.reduceSub, Nat.reduceLT, Nat.reduceAdd, Nat.reduceEqDiff, ↓reduceIte, true_and, and_true, List.length_nil, List.length_cons, Nat.reduceLeDiff, Nat.zero_le]
              refine sp_allDung a1 ?_
              simp only [eX6_overRains_115, eX6_overRains_118, eX6_overRains_120, eX6_overRains_121, eX6_overRains_122, eX6_overRains_124, eX6_overRains_127, pe_bin, pe_goto, pe_iinc_7, pe_iload_9, pe_istore_6, nisw, hget_hset, ia_l, ia_s, vin, opl, onl, Int32.reduceLT, Int32.reduceLE, Int32.reduceAdd, Int32.reduceSub, Nat.reduceLT, Nat.reduceAdd, Nat.reduceEqDiff, ↓reduceIte, true_and, and_true, List.length_nil, List.length_cons, Nat.reduceLeDiff, Nat.zero_le]
              refine ih (i + 1) G3 _ _ _ (by omega) r3 (k2.tr (fz3.wd (by omega) (by omega))) ?_
              rw [oS, if_pos ⟨u1, u2⟩, if_neg u3, ← k3]
          split
          · rename_i u3
            simp only [eX6_overRains_96, eX6_overRains_97, pe_const, pe_istore_9, hget_hset, ia_l, ia_s, vin, opl, onl, Int32.reduceLT, Int32.reduceLE, Int32.reduceAdd, Int32.reduceSub, Nat.reduceLT, Nat.reduceAdd, Nat.reduceEqDiff, ↓reduceIte, true_and, and_true, List.length_nil, List.length_cons, Nat.reduceLeDiff, Nat.zero_le]
            exact back 0 (by rw [u3]; rfl)
          · rename_i u3
            simp only [eX6_overRains_92, eX6_overRains_93, eX6_overRains_96, eX6_overRains_97, pe_const, pe_goto, pe_istore_9, hget_hset, ia_l, ia_s, vin, opl, onl, Int32.reduceLT, Int32.reduceLE, Int32.reduceAdd, Int32.reduceSub, Nat.reduceLT, Nat.reduceAdd, Nat.reduceEqDiff, ↓reduceIte, true_and, and_true, List.length_nil, List.length_cons, Nat.reduceLeDiff, Nat.zero_le]
            exact back 1 (by cases h : aDo (aH K 0 k (aAd (nI i) t)) 6 with | true => rfl | false => exact absurd h u3)
        · rename_i u2
          exact skip H _ _ k1 k2 (fun z => u2 z.2)
      · rename_i u1
        simp only [eX6_overRains_44, eX6_overRains_45, eX6_overRains_47, eX6_overRains_49, pe_const, pe_ifgt, pe_iload_8, pe_istore_8, hget_hset, ia_l, ia_s, vin, opl, onl, Int32.reduceLT, Int32.reduceLE, Int32.reduceAdd, Int32.reduceSub, Nat.reduceLT, Nat.reduceAdd, Nat.reduceEqDiff, ↓reduceIte, true_and, and_true, List.length_nil, List.length_cons, Nat.reduceLeDiff, Nat.zero_le]
        exact skip H _ _ k1 k2 (fun z => u1 z.1)
  exact key 64 0 G 0 none none (by omega) hr frZ.rf rfl
def aCh (K : Ld) (t : Nat → Int32) (D : Nat) (x h up od : Int32) : Int32 := if x < 0 ∨ 10 < x ∨ aHr h = false then -2 else aFr (oS K t h.toNatClampNeg D x od 64) (pwr 10 (pcn D)) up
set_option maxRecDepth 100000 in
theorem sp_chance {d D : Nat} {G : px_H} {le : Int32} {la dr : Nat} {ke : Int32} {sd : Int64} {K : Ld} {c : Nat} {x h up : Int32} {t : Nat → Int32} {Q : px_Q} (hr : rX G le la dr ke sd K t) (hv : vK K) (hok : okT K c t) (hc : c ≤ 999990) (hD : D < 2 ^ K.n) (hD2 : aOf K 0 K.n = nI D) (hQ : ∀ G', rX G' le la dr ke sd K t → frZ G G' 86 94 → Q (some (.int (aCh K t D x h up 0))) G') : pcal (d + 6) 70 [.ref 2, .int x, .int h, .int up] G Q := by
  refine inX6_chance ?_
  have bad : (x < 0 ∨ 10 < x ∨ aHr h = false) → pr (d + 5) 70 (G.1 + 0, G.2.1 + 0) Q 17 [some (.ref 2), some (.int x), some (.int h), some (.int up)] [] G := by
    intro u
    simp only [eX6_chance_17, eX6_chance_19, pe_const, pe_iret, hget_hset, ia_l, ia_s, vin, opl, onl, Int32.reduceLT, Int32.reduceLE, Int32.reduceAdd, Int32.reduceSub, Nat.reduceLT, Nat.reduceAdd, Nat.reduceEqDiff, ↓reduceIte, true_and, and_true, List.length_nil, List.length_cons, Nat.reduceLeDiff, Nat.zero_le]
    have := hQ G hr frZ.rf
    rw [aCh, if_pos u] at this
    exact this
  simp only [eX6_chance_0, eX6_chance_1, pe_iflt, pe_iload_1, hget_hset, ia_l, ia_s, vin, opl, onl, Int32.reduceLT, Int32.reduceLE, Int32.reduceAdd, Int32.reduceSub, Nat.reduceLT, Nat.reduceAdd, Nat.reduceEqDiff, ↓reduceIte, true_and, and_true, List.length_nil, List.length_cons, Nat.reduceLeDiff, Nat.zero_le]
  split
  · rename_i u1
    exact bad (Or.inl u1)
  · rename_i u1
    simp only [eX6_chance_4, eX6_chance_5, eX6_chance_7, pe_const, pe_icgt, pe_iload_1, hget_hset, ia_l, ia_s, vin, opl, onl, Int32.reduceLT, Int32.reduceLE, Int32.reduceAdd, Int32.reduceSub, Nat.reduceLT, Nat.reduceAdd, Nat.reduceEqDiff, ↓reduceIte, true_and, and_true, List.length_nil, List.length_cons, Nat.reduceLeDiff, Nat.zero_le]
    split
    · rename_i u2
      exact bad (Or.inr (Or.inl u2))
    · rename_i u2
      simp only [eX6_chance_10, eX6_chance_11, pe_callS_1, pe_iload_2, hget_hset, ia_l, ia_s, vin, opl, onl, Int32.reduceLT, Int32.reduceLE, Int32.reduceAdd, Int32.reduceSub, Nat.reduceLT, Nat.reduceAdd, Nat.reduceEqDiff, ↓reduceIte, true_and, and_true, List.length_nil, List.length_cons, Nat.reduceLeDiff, Nat.zero_le]
      refine sp_areHours ?_
      simp only [eX6_chance_14, pe_ifeq, zB_0, hget_hset, ia_l, ia_s, vin, opl, onl, Int32.reduceLT, Int32.reduceLE, Int32.reduceAdd, Int32.reduceSub, Nat.reduceLT, Nat.reduceAdd, Nat.reduceEqDiff, ↓reduceIte, true_and, and_true, List.length_nil, List.length_cons, Nat.reduceLeDiff, Nat.zero_le]
      split
      · rename_i u3
        exact bad (Or.inr (Or.inr u3))
      · rename_i u3
        obtain ⟨k, hk, rfl⟩ := aHr_of (by cases e : aHr h with | true => rfl | false => exact absurd e u3)
        have hkc : (nI k).toNatClampNeg = k := nI_clamp (by omega)
        have x0 := hr.x
        simp only [eX6_chance_20, eX6_chance_21, eX6_chance_22, eX6_chance_23, eX6_chance_24, eX6_chance_25, pe_aload_0, pe_callV_4, pe_const, pe_iload_1, pe_iload_2, pe_iload_3, x0, x_o, hget_hset, ia_l, ia_s, vin, opl, onl, Int32.reduceLT, Int32.reduceLE, Int32.reduceAdd, Int32.reduceSub, Nat.reduceLT, Nat.reduceAdd, Nat.reduceEqDiff, ↓reduceIte, true_and, and_true, List.length_nil, List.length_cons, Nat.reduceLeDiff, Nat.zero_le]
        refine sp_overRains hr hv hok hc hk hD hD2 ?_
        intro G1 a1 a2
        simp only [eX6_chance_28, pe_iret, hget_hset, ia_l, ia_s, vin, opl, onl, Int32.reduceLT, Int32.reduceLE, Int32.reduceAdd, Int32.reduceSub, Nat.reduceLT, Nat.reduceAdd, Nat.reduceEqDiff, ↓reduceIte, true_and, and_true, List.length_nil, List.length_cons, Nat.reduceLeDiff, Nat.zero_le]
        have := hQ G1 a1 a2
        rw [aCh, if_neg (by rintro (z | z | z) <;> contradiction), hkc] at this
        exact this
set_option maxRecDepth 100000 in
theorem sp_mean {d D : Nat} {G : px_H} {le : Int32} {la dr : Nat} {ke : Int32} {sd : Int64} {K : Ld} {c : Nat} {x h up : Int32} {t : Nat → Int32} {Q : px_Q} (hr : rX G le la dr ke sd K t) (hv : vK K) (hok : okT K c t) (hc : c ≤ 999990) (hD : D < 2 ^ K.n) (hD2 : aOf K 0 K.n = nI D) (hQ : ∀ G', rX G' le la dr ke sd K t → frZ G G' 86 94 → Q (some (.int (aCh K t D x h up 1))) G') : pcal (d + 6) 71 [.ref 2, .int x, .int h, .int up] G Q := by
  refine inX6_mean ?_
  have bad : (x < 0 ∨ 10 < x ∨ aHr h = false) → pr (d + 5) 71 (G.1 + 0, G.2.1 + 0) Q 17 [some (.ref 2), some (.int x), some (.int h), some (.int up)] [] G := by
    intro u
    simp only [eX6_mean_17, eX6_mean_19, pe_const, pe_iret, hget_hset, ia_l, ia_s, vin, opl, onl, Int32.reduceLT, Int32.reduceLE, Int32.reduceAdd, Int32.reduceSub, Nat.reduceLT, Nat.reduceAdd, Nat.reduceEqDiff, ↓reduceIte, true_and, and_true, List.length_nil, List.length_cons, Nat.reduceLeDiff, Nat.zero_le]
    have := hQ G hr frZ.rf
    rw [aCh, if_pos u] at this
    exact this
  simp only [eX6_mean_0, eX6_mean_1, pe_iflt, pe_iload_1, hget_hset, ia_l, ia_s, vin, opl, onl, Int32.reduceLT, Int32.reduceLE, Int32.reduceAdd, Int32.reduceSub, Nat.reduceLT, Nat.reduceAdd, Nat.reduceEqDiff, ↓reduceIte, true_and, and_true, List.length_nil, List.length_cons, Nat.reduceLeDiff, Nat.zero_le]
  split
  · rename_i u1
    exact bad (Or.inl u1)
  · rename_i u1
    simp only [eX6_mean_4, eX6_mean_5, eX6_mean_7, pe_const, pe_icgt, pe_iload_1, hget_hset, ia_l, ia_s, vin, opl, onl, Int32.reduceLT, Int32.reduceLE, Int32.reduceAdd, Int32.reduceSub, Nat.reduceLT, Nat.reduceAdd, Nat.reduceEqDiff, ↓reduceIte, true_and, and_true, List.length_nil, List.length_cons, Nat.reduceLeDiff, Nat.zero_le]
    split
    · rename_i u2
      exact bad (Or.inr (Or.inl u2))
    · rename_i u2
      simp only [eX6_mean_10, eX6_mean_11, pe_callS_1, pe_iload_2, hget_hset, ia_l, ia_s, vin, opl, onl, Int32.reduceLT, Int32.reduceLE, Int32.reduceAdd, Int32.reduceSub, Nat.reduceLT, Nat.reduceAdd, Nat.reduceEqDiff, ↓reduceIte, true_and, and_true, List.length_nil, List.length_cons, Nat.reduceLeDiff, Nat.zero_le]
      refine sp_areHours ?_
      simp only [eX6_mean_14, pe_ifeq, zB_0, hget_hset, ia_l, ia_s, vin, opl, onl, Int32.reduceLT, Int32.reduceLE, Int32.reduceAdd, Int32.reduceSub, Nat.reduceLT, Nat.reduceAdd, Nat.reduceEqDiff, ↓reduceIte, true_and, and_true, List.length_nil, List.length_cons, Nat.reduceLeDiff, Nat.zero_le]
      split
      · rename_i u3
        exact bad (Or.inr (Or.inr u3))
      · rename_i u3
        obtain ⟨k, hk, rfl⟩ := aHr_of (by cases e : aHr h with | true => rfl | false => exact absurd e u3)
        have hkc : (nI k).toNatClampNeg = k := nI_clamp (by omega)
        have x0 := hr.x
        simp only [eX6_mean_20, eX6_mean_21, eX6_mean_22, eX6_mean_23, eX6_mean_24, eX6_mean_25, pe_aload_0, pe_callV_4, pe_const, pe_iload_1, pe_iload_2, pe_iload_3, x0, x_o, hget_hset, ia_l, ia_s, vin, opl, onl, Int32.reduceLT, Int32.reduceLE, Int32.reduceAdd, Int32.reduceSub, Nat.reduceLT, Nat.reduceAdd, Nat.reduceEqDiff, ↓reduceIte, true_and, and_true, List.length_nil, List.length_cons, Nat.reduceLeDiff, Nat.zero_le]
        refine sp_overRains hr hv hok hc hk hD hD2 ?_
        intro G1 a1 a2
        simp only [eX6_mean_28, pe_iret, hget_hset, ia_l, ia_s, vin, opl, onl, Int32.reduceLT, Int32.reduceLE, Int32.reduceAdd, Int32.reduceSub, Nat.reduceLT, Nat.reduceAdd, Nat.reduceEqDiff, ↓reduceIte, true_and, and_true, List.length_nil, List.length_cons, Nat.reduceLeDiff, Nat.zero_le]
        have := hQ G1 a1 a2
        rw [aCh, if_neg (by rintro (z | z | z) <;> contradiction), hkc] at this
        exact this
/-- the sum of what dam p adds, over the sets of others below r -/
def hS (K : Ld) (t : Nat → Int32) (k D o : Nat) : Nat → Int32
  | 0 => 0
  | r + 1 => if wo r o = 0 then hS K t k D o r + px_fac (pcn r) * px_fac (pcn o - pcn r) * (aDu (aH K (nI (wo D r)) k t) 6 - aDu (aH K (nI (wo o r)) k t) 6) else hS K t k D o r
def aSh (K : Ld) (t : Nat → Int32) (D : Nat) (p h up : Int32) : Int32 :=
  if hP K.n p = false then -1 else if aHr h = false then -2 else if K.kd p.toNatClampNeg = 0 then aFr (hS K t h.toNatClampNeg D (wo D (2 ^ p.toNatClampNeg)) 64) (px_fac (pcn (wo D (2 ^ p.toNatClampNeg)) + 1)) up else -3
theorem pcn_wo : ∀ D p, D < 64 → p < 64 → p < 6 → pcn (wo D (2 ^ p)) ≤ 5 ∧ wo D (2 ^ p) < 64 := all64x (by decide +kernel)
theorem ni7 {i : Nat} (h : i < 7) : (nI i).toNatClampNeg = i ∧ 0 ≤ nI i := ⟨nI_clamp (by omega), nI_pos' (by omega)⟩
set_option maxRecDepth 100000 in
theorem sp_share {d D : Nat} {G : px_H} {le : Int32} {la dr : Nat} {ke : Int32} {sd : Int64} {K : Ld} {c : Nat} {p h up : Int32} {t : Nat → Int32} {Q : px_Q} (hr : rX G le la dr ke sd K t) (hF : hget G 1 = some (c_ro 7 px_fac)) (hv : vK K) (hok : okT K c t) (hD : D < 2 ^ K.n) (hD2 : aOf K 0 K.n = nI D) (hQ : ∀ G', rX G' le la dr ke sd K t → frZ G G' 86 94 → Q (some (.int (aSh K t D p h up))) G') : pcal (d + 5) 69 [.ref 2, .int p, .int h, .int up] G Q := by
  have hn := hv.1.1
  have h64 := (p2m hn).2
  have hD6 : D < 64 := by omega
  refine inX6_share ?_
  have x0 := hr.x
  have l0 := hr.lo
  simp only [eX6_share_0, eX6_share_1, eX6_share_4, eX6_share_5, pe_aload_0, pe_callV_1, pe_getf, pe_iload_1, x0, l0, x_g3, ld_o, hget_hset, ia_l, ia_s, vin, opl, onl, Int32.reduceLT, Int32.reduceLE, Int32.reduceAdd, Int32.reduceSub, Nat.reduceLT, Nat.reduceAdd, Nat.reduceEqDiff, ↓reduceIte, true_and, and_true, List.length_nil, List.length_cons, Nat.reduceLeDiff, Nat.zero_le]
  refine sp_hasPlace hr.l ?_
  simp only [eX6_share_8, eX6_share_11, eX6_share_12, pe_const, pe_ifeq, pe_iret, zB_0, hget_hset, ia_l, ia_s, vin, opl, onl, Int32.reduceLT, Int32.reduceLE, Int32.reduceAdd, Int32.reduceSub, Nat.reduceLT, Nat.reduceAdd, Nat.reduceEqDiff, ↓reduceIte, true_and, and_true, List.length_nil, List.length_cons, Nat.reduceLeDiff, Nat.zero_le]
  split
  · rename_i u0
    have := hQ G hr frZ.rf
    rw [aSh, if_pos u0] at this
    exact this
  · rename_i u0
    obtain ⟨p1, p2, p3, p4⟩ := hP_of (n := K.n) (x := p) hn (by cases e : hP K.n p with | true => rfl | false => exact absurd e u0)
    simp only [eX6_share_13, eX6_share_14, pe_callS_1, pe_iload_2, hget_hset, ia_l, ia_s, vin, opl, onl, Int32.reduceLT, Int32.reduceLE, Int32.reduceAdd, Int32.reduceSub, Nat.reduceLT, Nat.reduceAdd, Nat.reduceEqDiff, ↓reduceIte, true_and, and_true, List.length_nil, List.length_cons, Nat.reduceLeDiff, Nat.zero_le]
    refine sp_areHours ?_
    simp only [eX6_share_17, eX6_share_20, eX6_share_22, pe_const, pe_ifeq, pe_iret, zB_0, hget_hset, ia_l, ia_s, vin, opl, onl, Int32.reduceLT, Int32.reduceLE, Int32.reduceAdd, Int32.reduceSub, Nat.reduceLT, Nat.reduceAdd, Nat.reduceEqDiff, ↓reduceIte, true_and, and_true, List.length_nil, List.length_cons, Nat.reduceLeDiff, Nat.zero_le]
    split
    · rename_i u1
      have := hQ G hr frZ.rf
      rw [aSh, if_neg u0, if_pos u1] at this
      exact this
    · rename_i u1
      obtain ⟨k, hk, rfl⟩ := aHr_of (by cases e : aHr h with | true => rfl | false => exact absurd e u1)
      have hkc : (nI k).toNatClampNeg = k := nI_clamp (by omega)
      have l1 := hr.l.2.1
      simp only [eX6_share_23, eX6_share_24, eX6_share_27, eX6_share_30, eX6_share_31, eX6_share_32, pe_aload_0, pe_getf, pe_iald, pe_ifeq, pe_iload_1, x0, l0, l1, x_g3, ld_g0, ld_g1, ld_g2, ld_g3, ld_g4, ld_g5, ld_g6, ld_g7, ld_p5, ld_p6, ld_p7, ld_o, p1, p3, hget_hset, ia_l, ia_s, vin, opl, onl, Int32.reduceLT, Int32.reduceLE, Int32.reduceAdd, Int32.reduceSub, Nat.reduceLT, Nat.reduceAdd, Nat.reduceEqDiff, ↓reduceIte, true_and, and_true, List.length_nil, List.length_cons, Nat.reduceLeDiff, Nat.zero_le]
      split
      · rename_i u2
        simp only [eX6_share_38, eX6_share_39, eX6_share_42, eX6_share_43, pe_aload_0, pe_callV_1, pe_const, pe_getf, x0, l0, x_g3, ld_o, hget_hset, ia_l, ia_s, vin, opl, onl, Int32.reduceLT, Int32.reduceLE, Int32.reduceAdd, Int32.reduceSub, Nat.reduceLT, Nat.reduceAdd, Nat.reduceEqDiff, ↓reduceIte, true_and, and_true, List.length_nil, List.length_cons, Nat.reduceLeDiff, Nat.zero_le]
        refine sp_placesOf hr.l ?_
        generalize hpp : p.toNatClampNeg = pn at *
        have e1 : (1 : Int32) <<< (p &&& 31) = nI (2 ^ pn) := by rw [p4]; exact (b1N pn p3).1
        obtain ⟨q1, q2⟩ := nI_wo D (2 ^ pn) hD6 (b1N pn p3).2
        obtain ⟨o1, o2⟩ := pcn_wo D pn hD6 (by omega) p3
        simp only [eX6_share_46, eX6_share_48, eX6_share_50, eX6_share_51, eX6_share_52, eX6_share_53, eX6_share_54, eX6_share_55, eX6_share_56, eX6_share_58, eX6_share_60, pe_bin, pe_callS_1, pe_const, pe_iload_1, pe_iload_4, pe_iload_5, pe_istore_4, pe_istore_5, hD2, e1, q1, hget_hset, ia_l, ia_s, vin, opl, onl, Int32.reduceLT, Int32.reduceLE, Int32.reduceAdd, Int32.reduceSub, Nat.reduceLT, Nat.reduceAdd, Nat.reduceEqDiff, ↓reduceIte, true_and, and_true, List.length_nil, List.length_cons, Nat.reduceLeDiff, Nat.zero_le]
        refine sp_bitCount ?_
        generalize hoo : wo D (2 ^ pn) = o at *
        simp only [eX6_share_63, eX6_share_65, eX6_share_66, eX6_share_68, eX6_share_69, pe_const, pe_istore_6, pe_istore_7, pe_istore_8, (bcN o o2).1, hget_hset, ia_l, ia_s, vin, opl, onl, Int32.reduceLT, Int32.reduceLE, Int32.reduceAdd, Int32.reduceSub, Nat.reduceLT, Nat.reduceAdd, Nat.reduceEqDiff, ↓reduceIte, true_and, and_true, List.length_nil, List.length_cons, Nat.reduceLeDiff, Nat.zero_le]
        have key : ∀ j i H s o9 o10 o11, i + j = 64 → rX H le la dr ke sd K t → frZ G H 86 94 → s = hS K t k D o i → pr (d + 4) 69 (G.1 + 0, G.2.1 + 0) Q 71 [some (.ref 2), some (.int p), some (.int (nI k)), some (.int up), some (.int (nI D)), some (.int (nI o)), some (.int (nI (pcn o))), some (.int s), some (.int (nI i)), o9, o10, o11] [] H := by
          intro j
          induction j with
          | zero =>
            intro i H s o9 o10 o11 hi k1 k2 k3
            obtain rfl : i = 64 := by omega
            have c1 : ¬ nI 64 < 64 := by decide
            have f0 : hget H 1 = some (c_ro 7 px_fac) := (k2 _ (by omega) (by omega)).trans hF
            obtain ⟨n1, n2⟩ := ni7 (i := pcn o + 1) (by omega)
            have n3 : pcn o + 1 < 7 := by omega
            simp only [eX6_share_71, eX6_share_73, eX6_share_75, eX6_share_156, eX6_share_158, eX6_share_161, eX6_share_163, eX6_share_164, eX6_share_165, eX6_share_166, eX6_share_167, pe_bin, pe_callS_3, pe_const, pe_gets, pe_iald, pe_iclt, pe_iload_3, pe_iload_6, pe_iload_7, pe_iload_8, c1, f0, ro_l, nisw, n1, n2, n3, hget_hset, ia_l, ia_s, vin, opl, onl, Int32.reduceLT, Int32.reduceLE, Int32.reduceAdd, Int32.reduceSub, Nat.reduceLT, Nat.reduceAdd, Nat.reduceEqDiff, ↓reduceIte, true_and, and_true, List.length_nil, List.length_cons, Nat.reduceLeDiff, Nat.zero_le]
            refine sp_fraction ?_
            simp only [eX6_share_170, pe_iret, hget_hset, ia_l, ia_s, vin, opl, onl, Int32.reduceLT, Int32.reduceLE, Int32.reduceAdd, Int32.reduceSub, Nat.reduceLT, Nat.reduceAdd, Nat.reduceEqDiff, ↓reduceIte, true_and, and_true, List.length_nil, List.length_cons, Nat.reduceLeDiff, Nat.zero_le]
            have := hQ H k1 k2
            rw [aSh, if_neg u0, if_neg u1, hkc, hpp, if_pos u2, hoo, ← k3] at this
            exact this
          | succ j ih =>
            intro i H s o9 o10 o11 hi k1 k2 k3
            have c1 : nI i < 64 := nI_lt (b := 64) (by omega) (by omega)
            obtain ⟨w1, w2⟩ := nI_wo i o (by omega) o2
            have f0 : hget H 1 = some (c_ro 7 px_fac) := (k2 _ (by omega) (by omega)).trans hF
            simp only [eX6_share_71, eX6_share_73, eX6_share_75, eX6_share_78, eX6_share_80, eX6_share_82, eX6_share_83, eX6_share_84, eX6_share_85, pe_bin, pe_const, pe_iclt, pe_ifeq, pe_iload_5, pe_iload_8, c1, w1, nI_0' w2, hget_hset, ia_l, ia_s, vin, opl, onl, Int32.reduceLT, Int32.reduceLE, Int32.reduceAdd, Int32.reduceSub, Nat.reduceLT, Nat.reduceAdd, Nat.reduceEqDiff, ↓reduceIte, true_and, and_true, List.length_nil, List.length_cons, Nat.reduceLeDiff, Nat.zero_le]
            split
            · rename_i u3
              obtain ⟨-, s1, s2⟩ := wo_sub i o (by omega) o2 u3
              obtain ⟨n1, n2⟩ := ni7 (i := pcn i) (by omega)
              obtain ⟨m1, m2⟩ := ni7 (i := pcn o - pcn i) (by omega)
              have n3 : pcn i < 7 := by omega
              have m3 : pcn o - pcn i < 7 := by omega
              have e2 : nI (pcn o) - nI (pcn i) = nI (pcn o - pcn i) := pk_sub s1
              obtain ⟨d1, d2⟩ := nI_wo D i hD6 (by omega)
              obtain ⟨d3, d4⟩ := nI_wo o i o2 (by omega)
              simp only [eX6_share_88, eX6_share_90, pe_callS_1, pe_iload_8, hget_hset, ia_l, ia_s, vin, opl, onl, Int32.reduceLT, Int32.reduceLE, Int32.reduceAdd, Int32.reduceSub, Nat.reduceLT, Nat.reduceAdd, Nat.reduceEqDiff, ↓reduceIte, true_and, and_true, List.length_nil, List.length_cons, Nat.reduceLeDiff, Nat.zero_le]
              refine sp_bitCount ?_
              have y0 := k1.x
              simp only [eX6_share_93, eX6_share_95, eX6_share_98, eX6_share_100, eX6_share_101, eX6_share_104, eX6_share_106, eX6_share_108, eX6_share_109, eX6_share_110, eX6_share_111, eX6_share_113, eX6_share_114, eX6_share_115, eX6_share_117, eX6_share_119, eX6_share_120, eX6_share_121, eX6_share_122, pe_aload_0, pe_bin, pe_callV_2, pe_const, pe_gets, pe_iald, pe_iload_2, pe_iload_4, pe_iload_6, pe_iload_8, pe_iload_9, pe_istore_10, pe_istore_9, f0, ro_l, (bcN i (by omega)).1, e2, n1, n2, n3, m1, m2, m3, y0, x_o, d1, hget_hset, ia_l, ia_s, vin, opl, onl, Int32.reduceLT, Int32.reduceLE, Int32.reduceAdd, Int32.reduceSub, Nat.reduceLT, Nat.reduceAdd, Nat.reduceEqDiff, ↓reduceIte, true_and, and_true, List.length_nil, List.length_cons, Nat.reduceLeDiff, Nat.zero_le]
              obtain ⟨v1, v2, ⟨tu, v3⟩, mv, v4⟩ := id k1
              refine sp_dungHalting v1 hv v2 v3 hok (by omega) ?_
              intro G1 t1 a1 a2 a3
              have r1 : rX G1 le la dr ke sd K t := k1.fr (a3.wd (by omega) (by omega)) a2 a1 (v4.frZ a3 (by omega) (by omega))
              have y1 := r1.x
              simp only [eX6_share_125, eX6_share_126, eX6_share_127, eX6_share_129, eX6_share_131, eX6_share_132, eX6_share_133, eX6_share_134, pe_aload_0, pe_bin, pe_callV_2, pe_const, pe_iload_2, pe_iload_5, pe_iload_8, y1, x_o, d3, hget_hset, ia_l, ia_s, vin, opl, onl, Int32.reduceLT, Int32.reduceLE, Int32.reduceAdd, Int32.reduceSub, Nat.reduceLT, Nat.reduceAdd, Nat.reduceEqDiff, ↓reduceIte, true_and, and_true, List.length_nil, List.length_cons, Nat.reduceLeDiff, Nat.zero_le]
              refine sp_dungHalting r1.1 hv r1.2.1 a1 hok (by omega) ?_
              intro G2 t2 b1 b2 b3
              have r2 : rX G2 le la dr ke sd K t := r1.fr (b3.wd (by omega) (by omega)) b2 b1 ((v4.frZ a3 (by omega) (by omega)).frZ b3 (by omega) (by omega))
              simp only [eX6_share_137, eX6_share_138, eX6_share_140, eX6_share_142, eX6_share_144, eX6_share_146, eX6_share_147, eX6_share_148, eX6_share_150, eX6_share_153, pe_bin, pe_goto, pe_iinc_8, pe_iload_10, pe_iload_11, pe_iload_7, pe_istore_11, pe_istore_7, nisw, hget_hset, ia_l, ia_s, vin, opl, onl, Int32.reduceLT, Int32.reduceLE, Int32.reduceAdd, Int32.reduceSub, Nat.reduceLT, Nat.reduceAdd, Nat.reduceEqDiff, ↓reduceIte, true_and, and_true, List.length_nil, List.length_cons, Nat.reduceLeDiff, Nat.zero_le]
              refine ih (i + 1) G2 _ _ _ _ (by omega) r2 (k2.tr ((a3.tr b3).wd (by omega) (by omega))) ?_
              rw [hS, if_pos u3, ← k3]
            · rename_i u3
              simp only [eX6_share_150, eX6_share_153, pe_goto, pe_iinc_8, nisw, hget_hset, ia_l, ia_s, vin, opl, onl, Int32.reduceLT, Int32.reduceLE, Int32.reduceAdd, Int32.reduceSub, Nat.reduceLT, Nat.reduceAdd, Nat.reduceEqDiff, ↓reduceIte, true_and, and_true, List.length_nil, List.length_cons, Nat.reduceLeDiff, Nat.zero_le]
              refine ih (i + 1) H _ _ _ _ (by omega) k1 k2 ?_
              rw [hS, if_neg u3, ← k3]
        exact key 64 0 G 0 none none none (by omega) hr frZ.rf rfl
      · rename_i u2
        simp only [eX6_share_35, eX6_share_37, pe_const, pe_iret, hget_hset, ia_l, ia_s, vin, opl, onl, Int32.reduceLT, Int32.reduceLE, Int32.reduceAdd, Int32.reduceSub, Nat.reduceLT, Nat.reduceAdd, Nat.reduceEqDiff, ↓reduceIte, true_and, and_true, List.length_nil, List.length_cons, Nat.reduceLeDiff, Nat.zero_le]
        have := hQ G hr frZ.rf
        rw [aSh, if_neg u0, if_neg u1, if_neg u2] at this
        exact this
