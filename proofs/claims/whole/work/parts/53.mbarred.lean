/-! ===== the reference: barred ===== -/
theorem bt_tb : ∀ i, i < 64 → ∀ p, p < 6 → bt (nI i) p = if i.testBit p then 1 else 0 := by decide +kernel
theorem lt64_tb {i : Nat} (h : i < 64) : ∀ p, 6 ≤ p → i.testBit p = false := fun p hp => Nat.testBit_lt_two_pow (Nat.lt_of_lt_of_le h (by have := Nat.pow_le_pow_right (n := 2) (by omega) hp; omega))
/-- bits gathered on top of a -/
def og (a : Int32) (f : Nat → Int32) : Nat → Int32
  | 0 => a
  | k + 1 => og a f k ||| f k
theorem og_bits {a : Nat} (ha : a < 64) (cond : Nat → Bool) : ∀ k, k ≤ 6 → ∃ j, j < 64 ∧ og (nI a) (fun p => if cond p = true then b1 p else 0) k = nI j ∧ ∀ p, p < 6 → j.testBit p = (a.testBit p || (decide (p < k) && cond p))
  | 0, _ => ⟨a, ha, rfl, fun p _ => by simp⟩
  | k + 1, hk => by
    obtain ⟨j, h1, h2, h3⟩ := og_bits ha cond k (by omega)
    rw [og, h2]
    cases hc : cond k with
    | false =>
      refine ⟨j, h1, by simp, fun p hp => ?_⟩
      rw [h3 p hp]
      by_cases e : p = k
      · subst e; simp [hc]
      · have : (p < k + 1) = (p < k) := by apply propext; omega
        simp only [this]
    | true =>
      obtain ⟨e1, e2⟩ := b1_64 k (by omega)
      obtain ⟨e3, e4⟩ := nI_or j (2 ^ k) h1 e2
      refine ⟨j ||| 2 ^ k, e4, by simp only [↓reduceIte]; rw [e1, e3], fun p hp => ?_⟩
      rw [Nat.testBit_or, h3 p hp, Nat.testBit_two_pow]
      by_cases e : p = k
      · subst e; simp [hc]
      · have : (p < k + 1) = (p < k) := by apply propext; omega
        have e' : ¬ k = p := fun z => e z.symm
        simp only [this, e', decide_false, Bool.or_false]
theorem ob_og {f : Nat → Int32} : ∀ k, ob f k = og 0 f k
  | 0 => rfl
  | k + 1 => by rw [ob, og, ob_og k]
theorem ob_bits (cond : Nat → Bool) {f : Nat → Int32} (hf : ∀ p, f p = if cond p = true then b1 p else 0) (k : Nat) (hk : k ≤ 6) : ∃ j, j < 64 ∧ ob f k = nI j ∧ ∀ p, p < 6 → j.testBit p = (decide (p < k) && cond p) := by
  obtain ⟨j, h1, h2, h3⟩ := og_bits (a := 0) (by omega) cond k hk
  refine ⟨j, h1, ?_, fun p hp => by rw [h3 p hp]; simp⟩
  rw [ob_og, show f = fun p => if cond p = true then b1 p else 0 from funext hf]
  exact h2
/-- never clean, by bits -/
theorem nS_bits {K : Ld} {t : Nat → Int32} {k : Nat} (hn : K.n ≤ 6) : ∀ u, ∃ j, j < 64 ∧ nS K t k u = nI j ∧ ∀ p, p < 6 → (j.testBit p = true ↔ (p < K.n ∧ K.kd p = 1 ∧ ∀ v, v < u → 0 < sT K t k (nI v) (6 + p)))
  | 0 => by
    obtain ⟨j, h1, h2, h3⟩ := ob_bits (fun p => decide (K.kd p = 1)) (f := fun p => if K.kd p = 1 then b1 p else 0) (fun p => by simp) K.n hn
    refine ⟨j, h1, h2, fun p hp => ?_⟩
    rw [h3 p hp]
    simp
  | u + 1 => by
    obtain ⟨j, h1, h2, h3⟩ := nS_bits (K := K) (t := t) (k := k) hn u
    obtain ⟨i, g1, g2, g3⟩ := ob_bits (fun p => decide (0 < sT K t k (nI u) (6 + p))) (f := fun p => if 0 < sT K t k (nI u) (6 + p) then b1 p else 0) (fun p => by simp) 6 (by omega)
    obtain ⟨e1, e2⟩ := nI_and j i h1 g1
    refine ⟨j &&& i, e2, ?_, fun p hp => ?_⟩
    · rw [nS, h2, ← e1, ← g2]; rfl
    · rw [Nat.testBit_and, Bool.and_eq_true, h3 p hp, g3 p hp]
      simp only [hp, decide_true, Bool.true_and, decide_eq_true_eq]
      constructor
      · rintro ⟨⟨a1, a2, a3⟩, a4⟩
        refine ⟨a1, a2, fun v hv => ?_⟩
        by_cases e : v = u
        · rw [e]; exact a4
        · exact a3 v (by omega)
      · rintro ⟨a1, a2, a3⟩
        exact ⟨⟨a1, a2, fun v hv => a3 v (by omega)⟩, a3 u (by omega)⟩
/-- the clean ones, as the reference gathers them -/
def mC (K : Ld) (t : Nat → Int32) (k : Nat) : Nat → Int32
  | 0 => 0
  | u + 1 => og (mC K t k u) (fun p => if sT K t k (nI u) (6 + p) = 0 then b1 p else 0) K.n
theorem mC_bits {K : Ld} {t : Nat → Int32} {k : Nat} (hn : K.n ≤ 6) : ∀ u, ∃ j, j < 64 ∧ mC K t k u = nI j ∧ ∀ p, p < K.n → (j.testBit p = true ↔ ∃ v, v < u ∧ sT K t k (nI v) (6 + p) = 0)
  | 0 => ⟨0, by omega, rfl, fun p _ => by simp⟩
  | u + 1 => by
    obtain ⟨j, h1, h2, h3⟩ := mC_bits (K := K) (t := t) (k := k) hn u
    obtain ⟨i, g1, g2, g3⟩ := og_bits h1 (fun p => decide (sT K t k (nI u) (6 + p) = 0)) K.n hn
    refine ⟨i, g1, ?_, fun p hp => ?_⟩
    · rw [mC, h2, ← g2]
      congr 1
      funext p
      simp
    · rw [g3 p (by omega), Bool.or_eq_true, h3 p hp]
      simp only [hp, decide_true, Bool.true_and, decide_eq_true_eq]
      constructor
      · rintro (⟨v, a1, a2⟩ | a)
        · exact ⟨v, by omega, a2⟩
        · exact ⟨u, by omega, a⟩
      · rintro ⟨v, a1, a2⟩
        by_cases e : v = u
        · rw [e] at a2; exact Or.inr a2
        · exact Or.inl ⟨v, by omega, a2⟩
/-- the first place that is never clean -/
def lC (K : Ld) (cl : Int32) : Nat → Nat → Int32
  | _, 0 => -9
  | p, k + 1 => if K.kd p = 1 ∧ ¬ bt cl p = 1 then nI p else lC K cl (p + 1) k
theorem lB_0 {x : Int32} : ∀ k p, (∀ r, p ≤ r → r < p + k → ¬ bt x r = 1) → lB x p k = -9
  | 0, _, _ => rfl
  | k + 1, p, h => by
    rw [lB, if_neg (h p (by omega) (by omega))]
    exact lB_0 k (p + 1) (fun r a b => h r (by omega) (by omega))
theorem lB_lC {K : Ld} {x cl : Int32} (h1 : ∀ p, p < K.n → (bt x p = 1 ↔ (K.kd p = 1 ∧ ¬ bt cl p = 1))) (h2 : ∀ p, K.n ≤ p → p < 6 → ¬ bt x p = 1) : ∀ k p, p + k = K.n → K.n ≤ 6 → lB x p (k + (6 - K.n)) = lC K cl p k
  | 0, p, hp, hn => by
    rw [Nat.zero_add, lC]
    exact lB_0 _ _ (fun r a b => h2 r (by omega) (by omega))
  | k + 1, p, hp, hn => by
    rw [show k + 1 + (6 - K.n) = k + (6 - K.n) + 1 by omega, lB, lC]
    by_cases c : bt x p = 1
    · rw [if_pos c, if_pos ((h1 p (by omega)).mp c)]
    · rw [if_neg c, if_neg (fun z => c ((h1 p (by omega)).mpr z))]
      exact lB_lC h1 h2 k (p + 1) (by omega) hn
theorem bar_eq {K : Ld} {t : Nat → Int32} {k c : Nat} (hn : K.n ≤ 6) (hok : ∀ v, okT K c (sT K t k (nI v))) (u : Nat) : lC K (mC K t k u) 0 K.n = lB (nS K t k u) 0 6 := by
  obtain ⟨j, h1, h2, h3⟩ := nS_bits (K := K) (t := t) (k := k) hn u
  obtain ⟨i, g1, g2, g3⟩ := mC_bits (K := K) (t := t) (k := k) hn u
  have := lB_lC (K := K) (x := nS K t k u) (cl := mC K t k u) ?_ ?_ K.n 0 (by omega) hn
  · rw [show K.n + (6 - K.n) = 6 by omega] at this
    exact this.symm
  · intro p hp
    rw [h2, g2, bt_tb j h1 p (by omega), bt_tb i g1 p (by omega)]
    have a := h3 p (by omega)
    have b := g3 p hp
    have e : ((if j.testBit p then (1 : Int32) else 0) = 1) = (j.testBit p = true) := by cases j.testBit p <;> simp
    have e' : ((if i.testBit p then (1 : Int32) else 0) = 1) = (i.testBit p = true) := by cases i.testBit p <;> simp
    rw [e, e', a, b]
    constructor
    · rintro ⟨-, a2, a3⟩
      refine ⟨a2, fun ⟨v, b1, b2⟩ => ?_⟩
      have := a3 v b1
      rw [b2] at this
      exact absurd this (by decide)
    · rintro ⟨a2, a3⟩
      refine ⟨hp, a2, fun v hv => ?_⟩
      have z := ((hok v).2.2.2.2.1 p (by omega)).1
      have n0 : ¬ sT K t k (nI v) (6 + p) = 0 := fun y => a3 ⟨v, hv, y⟩
      rw [i_lt, i_0]
      have n1 : ¬ (sT K t k (nI v) (6 + p)).toInt = 0 := fun y => n0 (Int32.toInt_inj.mp (by rw [y]; rfl))
      omega
  · intro p hp h6
    rw [h2, bt_tb j h1 p h6]
    have a := h3 p h6
    have : ¬ j.testBit p = true := fun z => by have := (a.mp z).1; omega
    simp [this]
