/-! ===== weights of the rains, place by place ===== -/
def cb (j : Nat) : Nat → Nat
  | 0 => 0
  | k + 1 => cb j k + (if j.testBit k then 1 else 0)
theorem cb_6 : ∀ j, j < 64 → cb j 6 = pcn j := by decide +kernel
theorem cb_n {j n : Nat} : ∀ k, (∀ p, n ≤ p → p < n + k → j.testBit p = false) → cb j (n + k) = cb j n
  | 0, _ => rfl
  | k + 1, h => by
    rw [← Nat.add_assoc, cb, cb_n k (fun p a b => h p a (by omega)), h (n + k) (by omega) (by omega)]
    rfl
theorem wo_tb : ∀ i j, i < 64 → j < 64 → ((wo i j).testBit 0 = (i.testBit 0 && !j.testBit 0)) ∧ ((wo i j).testBit 1 = (i.testBit 1 && !j.testBit 1)) ∧ ((wo i j).testBit 2 = (i.testBit 2 && !j.testBit 2)) ∧ ((wo i j).testBit 3 = (i.testBit 3 && !j.testBit 3)) ∧ ((wo i j).testBit 4 = (i.testBit 4 && !j.testBit 4)) ∧ ((wo i j).testBit 5 = (i.testBit 5 && !j.testBit 5)) := all64x (by decide +kernel)
theorem wo_t {i j : Nat} (hi : i < 64) (hj : j < 64) : ∀ p, p < 6 → (wo i j).testBit p = (i.testBit p && !j.testBit p) := by
  obtain ⟨h0, h1, h2, h3, h4, h5⟩ := wo_tb i j hi hj
  exact lt6 h0 h1 h2 h3 h4 h5
theorem pwr_n {X : Nat} : ∀ k, pwr (nI X) k = nI (X ^ k)
  | 0 => rfl
  | k + 1 => by
    rw [pwr, pwr_n k, Nat.pow_succ]
    exact (Int32.ofNat_mul _ _).symm
/-- the weight behind k places -/
def wK (K : Ld) (r : Nat) (x : Int32) : Nat → Int32
  | 0 => 1
  | k + 1 => wK K r x k * (if K.kd k = 0 then (if bt (nI r) k = 1 then x else 10 - x) else 1)
theorem wK_n {K : Ld} {r D X : Nat} (hn : K.n ≤ 6) (hr : r < 64) (hD : D < 64) (hX : X ≤ 10) (hDt : ∀ p, p < 6 → (D.testBit p = true ↔ (p < K.n ∧ K.kd p = 0))) (hs : wo r D = 0) : ∀ k, k ≤ K.n → wK K r (nI X) k = nI (X ^ cb r k * (10 - X) ^ cb (wo D r) k)
  | 0, _ => rfl
  | k + 1, hk => by
    have ih := wK_n hn hr hD hX hDt hs k (by omega)
    have e10 : (10 : Int32) - nI X = nI (10 - X) := nI_sb (a := 10) hX (by omega)
    have t1 := wo_t hD hr k (by omega)
    have t2 := wo_t hr hD k (by omega)
    rw [hs, Nat.zero_testBit] at t2
    have t3 := bt_tb r hr k (by omega)
    rw [wK, ih, cb, cb, t1, t3, e10]
    have mul : ∀ a b : Nat, nI a * nI b = nI (a * b) := fun a b => (Int32.ofNat_mul a b).symm
    by_cases kz : K.kd k = 0
    · have dT : D.testBit k = true := (hDt k (by omega)).mpr ⟨by omega, kz⟩
      rw [if_pos kz, dT]
      cases rb : r.testBit k with
      | true =>
        simp only [↓reduceIte, Bool.not_true, Bool.and_false, Bool.false_eq_true, Nat.add_zero, Nat.pow_succ]
        rw [mul]
        congr 1
        rw [Nat.mul_right_comm]
      | false =>
        simp only [↓reduceIte, Bool.not_false, Bool.and_true, Bool.false_eq_true, Nat.add_zero, Nat.pow_succ, ie_0_1]
        rw [mul]
        congr 1
        rw [Nat.mul_assoc]
    · have dT : D.testBit k = false := by
        cases e : D.testBit k with
        | false => rfl
        | true => exact absurd ((hDt k (by omega)).mp e).2 kz
      rw [dT] at t2
      have rb : r.testBit k = false := by
        cases e : r.testBit k with
        | false => rfl
        | true => rw [e] at t2; exact absurd t2 (by decide)
      rw [if_neg kz, dT, rb]
      simp only [Bool.false_and, Bool.false_eq_true, ↓reduceIte, Nat.add_zero]
      rw [Int32.mul_one]
/-- the reference's weight is the class's weight -/
theorem wK_wt {K : Ld} {r D X : Nat} (hn : K.n ≤ 6) (hr : r < 64) (hD : D < 64) (hX : X ≤ 10) (hDt : ∀ p, p < 6 → (D.testBit p = true ↔ (p < K.n ∧ K.kd p = 0))) (hs : wo r D = 0) : wK K r (nI X) K.n = wt r D (nI X) := by
  have hw : wo D r < 64 := (nI_wo D r hD hr).2
  have z1 : ∀ p, K.n ≤ p → p < K.n + (6 - K.n) → D.testBit p = false := by
    intro p h1 h2
    cases e : D.testBit p with
    | false => rfl
    | true => have := ((hDt p (by omega)).mp e).1; omega
  have c1 : cb r K.n = pcn r := by
    have := cb_n (j := r) (n := K.n) (6 - K.n) (fun p h1 h2 => by
      have t2 := wo_t hr hD p (by omega)
      rw [hs, Nat.zero_testBit, z1 p h1 h2] at t2
      cases e : r.testBit p with
      | false => rfl
      | true => rw [e] at t2; exact absurd t2 (by decide))
    rw [show K.n + (6 - K.n) = 6 by omega, cb_6 r hr] at this
    exact this.symm
  have c2 : cb (wo D r) K.n = pcn (wo D r) := by
    have := cb_n (j := wo D r) (n := K.n) (6 - K.n) (fun p h1 h2 => by
      rw [wo_t hD hr p (by omega), z1 p h1 h2]
      rfl)
    rw [show K.n + (6 - K.n) = 6 by omega, cb_6 _ hw] at this
    exact this.symm
  have e10 : (10 : Int32) - nI X = nI (10 - X) := nI_sb (a := 10) hX (by omega)
  rw [wK_n hn hr hD hX hDt hs K.n (Nat.le_refl _), c1, c2, wt, e10, pwr_n, pwr_n]
  exact Int32.ofNat_mul _ _
