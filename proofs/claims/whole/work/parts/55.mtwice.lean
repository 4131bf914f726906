/-! ===== the reference: twice ===== -/
theorem aWe_0 {s : Nat → Int32} : aWe s 6 = 0 ↔ ∀ p, p < 6 → s (12 + p) = -9 := by
  obtain ⟨j, h1, h2, h3⟩ := ob_bits (fun p => !decide (s (12 + p) = -9)) (f := fun p => if s (12 + p) = -9 then 0 else b1 p) (fun p => by by_cases e : s (12 + p) = -9 <;> simp [e]) 6 (by omega)
  have e : aWe s 6 = nI j := h2
  rw [e, nI_0' h1]
  constructor
  · intro hj p hp
    have := h3 p hp
    rw [hj] at this
    simp [hp] at this
    exact this
  · intro h
    apply Nat.eq_of_testBit_eq
    intro p
    rw [Nat.zero_testBit]
    by_cases hp : p < 6
    · rw [h3 p hp, h p hp]; simp
    · exact lt64_tb h1 p (by omega)
theorem aH_hr {K : Ld} {x : Int32} {s : Nat → Int32} (h0 : 0 ≤ (s 19).toInt) (h1 : (s 19).toInt ≤ 1000000) : ∀ k, k ≤ 1000 → (aH K x k s 19).toInt = (s 19).toInt + k
  | 0, _ => by simp [aH]
  | k + 1, hk => by
    have ih := aH_hr (K := K) (x := x) h0 h1 k (by omega)
    rw [aH]
    have e : aP K x (aH K x k s) 19 = aH K x k s 19 + 1 := gl_19
    have i1 : (1 : Int32).toInt = 1 := by decide
    rw [e, i_add (by omega) (by omega) (by omega), ih, i1]
    omega
theorem aH_wet {K : Ld} {x : Int32} {s : Nat → Int32} (h0 : 0 ≤ (s 19).toInt) (h1 : (s 19).toInt ≤ 1000000) {p : Nat} (hp : p < 6) (hw : ¬ s (12 + p) = -9) : ∀ k, k ≤ 1000 → ¬ aH K x k s (12 + p) = -9
  | 0, _ => hw
  | k + 1, hk => by
    have ih := aH_wet (K := K) (x := x) h0 h1 hp hw k (by omega)
    have hr := aH_hr (K := K) (x := x) h0 h1 k (by omega)
    rw [aH]
    unfold aP
    rw [gl_w hp]
    refine aG_wet (w := fun p => aH K x k s (12 + p)) (p := p) ?_ ih K.n
    intro e
    have := congrArg Int32.toInt e
    have i1 : (1 : Int32).toInt = 1 := by decide
    have i9 : (-9 : Int32).toInt = -9 := by decide
    rw [i_add (by omega) (by omega) (by omega)] at this
    omega
theorem nI_sb {a b : Nat} (h : b ≤ a) (ha : a < 1000) : nI a - nI b = nI (a - b) := by
  apply Int32.toInt_inj.mp
  have e1 := nI_toInt (n := a) (by omega)
  have e2 := nI_toInt (n := b) (by omega)
  have e3 := nI_toInt (n := a - b) (by omega)
  rw [i_sub (by omega) (by omega), e1, e2, e3]
  omega
theorem bS_in {K : Ld} {mid : Nat → Int32} {r a i z : Nat} (ha : a ≤ 6) (hi : i < 64) (hz : z ≤ 13) : ∀ u, u ≤ 64 → ∃ y, y ≤ z ∧ bS K mid r (nI a) (nI i) (nI z) u = nI y
  | 0, _ => ⟨z, Nat.le_refl _, rfl⟩
  | u + 1, hu => by
    obtain ⟨y, h1, h2⟩ := bS_in (K := K) (mid := mid) (r := r) ha hi hz u (by omega)
    obtain ⟨x1, x2, x3⟩ := xor64 i u hi (by omega)
    rw [bS, h2, x1, nI_add]
    split
    · rename_i c
      have := (nI_ltI (by omega) (by omega)).mp c.1
      exact ⟨_, by omega, rfl⟩
    · exact ⟨y, h1, rfl⟩
theorem bS_no {K : Ld} {mid : Nat → Int32} {r : Nat} {tn fi bd : Int32} (N : Nat) (h : ∀ u, u < N → ¬ (tn + bc (fi ^^^ nI u) < bd ∧ aDo (aH K 0 r (so mid (nI u))) 6 = true)) : ∀ u, u ≤ N → bS K mid r tn fi bd u = bd
  | 0, _ => rfl
  | u + 1, hu => by
    have ih := bS_no (K := K) (mid := mid) (r := r) N h u (by omega)
    rw [bS, ih, if_neg (h u (by omega))]
/-- what the class leaves out can not be less -/
theorem fB_bS {K : Ld} {t : Nat → Int32} {k r i o z : Nat} (hm6 : K.m ≤ 6) (hi : i < 64) (ho : t 18 = nI o) (o64 : o < 64) (hz : z ≤ 13) (hr : r ≤ 12) (hk : k ≤ 12) (h0 : 0 ≤ (t 19).toInt) (h1 : (t 19).toInt ≤ 999000) : fB K t k r (nI i) (nI z) = bS K (sT K t k (nI i)) r (bc (nI i ^^^ t 18)) (nI i) (nI z) (2 ^ K.m) := by
  have p2 := (b1_2 K.m hm6).2
  obtain ⟨x1, x2, x3⟩ := xor64 i o hi o64
  unfold fB
  rw [ho, x1]
  by_cases c1 : nI (pcn (i ^^^ o)) < nI z
  · rw [if_pos c1]
    by_cases c2 : aWe (sT K t k (nI i)) 6 = 0
    · rw [if_pos c2]
    · rw [if_neg c2, bS_no (2 ^ K.m) _ (2 ^ K.m) (Nat.le_refl _)]
      rintro u hu ⟨-, hd⟩
      apply c2
      rw [aWe_0]
      intro p hp
      apply Classical.byContradiction
      intro hw
      have hs0 : (sT K t k (nI i) 19).toInt = (t 19).toInt + k := aH_hr (s := so t (nI i)) h0 (by have : so t (nI i) 19 = t 19 := rfl; rw [this]; omega) k (by omega)
      have := aH_wet (K := K) (x := 0) (s := so (sT K t k (nI i)) (nI u)) (p := p) (by show 0 ≤ (sT K t k (nI i) 19).toInt; omega) (by show (sT K t k (nI i) 19).toInt ≤ 1000000; omega) hp (by have e : so (sT K t k (nI i)) (nI u) (12 + p) = sT K t k (nI i) (12 + p) := if_neg (by omega); rw [e]; exact hw) r (by omega)
      unfold aDo at hd
      simp only [Bool.and_eq_true, decide_eq_true_eq] at hd
      exact this (aWe_0.mp hd.2 p hp)
  · rw [if_neg c1, bS_no (2 ^ K.m) _ (2 ^ K.m) (Nat.le_refl _)]
    rintro u hu ⟨hl, -⟩
    obtain ⟨y1, y2, y3⟩ := xor64 i u hi (by omega)
    rw [y1, nI_add, nI_ltI (by omega) (by omega)] at hl
    rw [nI_ltI (by omega) (by omega)] at c1
    omega
/-- the least so far, as the reference keeps it -/
def mm (v : Int32) : Int32 := if v = 13 then -9 else v
theorem mm_lt {y s : Nat} (hy : y ≤ 13) (hs : s ≤ 12) : (mm (nI y) = -9 ∨ nI s < mm (nI y)) ↔ nI s < nI y := by
  unfold mm
  have e : nI y = 13 ↔ y = 13 := nI_eq (b := 13) (by omega) (by omega)
  by_cases c : y = 13
  · rw [if_pos (e.mpr c), c]
    exact ⟨fun _ => nI_lt (by omega) (by omega), fun _ => Or.inl rfl⟩
  · rw [if_neg (fun z => c (e.mp z))]
    exact ⟨fun z => z.elim (fun z => absurd z (m9_nI (by omega))) id, fun z => Or.inr z⟩
theorem tS_in {K : Ld} {t : Nat → Int32} {k r o : Nat} (hm6 : K.m ≤ 6) (ho : t 18 = nI o) (o64 : o < 64) (hr : r ≤ 12) (hk : k ≤ 12) (h0 : 0 ≤ (t 19).toInt) (h1 : (t 19).toInt ≤ 999000) : ∀ u, u ≤ 64 → ∃ y, y ≤ 13 ∧ tS K t k r u = nI y
  | 0, _ => ⟨13, by omega, rfl⟩
  | u + 1, hu => by
    obtain ⟨y, e1, e2⟩ := tS_in (K := K) (k := k) hm6 ho o64 hr hk h0 h1 u (by omega)
    obtain ⟨x1, x2, x3⟩ := xor64 u o (by omega) o64
    rw [tS, e2, fB_bS hm6 (by omega) ho o64 e1 hr hk h0 h1, ho, x1]
    obtain ⟨z, z1, z2⟩ := bS_in (K := K) (mid := sT K t k (nI u)) (r := r) x3 (i := u) (by omega) e1 (2 ^ K.m) (b1_2 K.m hm6).2
    exact ⟨z, by omega, z2⟩
