/-! ===== one dam more that flows never leaves more dung ===== -/
def mR (K : Ld) (p : Nat) (a b : Nat → Int32) : Prop := a 18 = b 18 ∧ (∀ q, q < K.n → q ≠ p → (a q).toInt ≤ (b q).toInt) ∧ ∀ q, q < K.n → (b (6 + q)).toInt ≤ (a (6 + q)).toInt
theorem sI_le' {f g : Nat → Int} : ∀ n, (∀ p, p < n → f p ≤ g p) → sI f n ≤ sI g n
  | 0, _ => Int.le_refl _
  | n + 1, h => by
    have h1 := sI_le' n (fun p hp => h p (by omega))
    have h2 := h n (by omega)
    rw [sI, sI]
    omega
theorem aP_18 {K : Ld} {x : Int32} {t : Nat → Int32} : aP K x t 18 = t 18 := gl_18
theorem lK_e {K : Ld} {a b : Nat → Int32} (h : a 18 = b 18) (k p : Nat) : lK K a k p = lK K b k p := by
  unfold lK
  rw [h]
theorem mR_step {K : Ld} (hv : vK K) {c p xx yy : Nat} {a b : Nat → Int32} (ha : okT K c a) (hb : okT K c b) (hx : xx < 64) (hy : yy < 64) (hp : p < 6) (hxp : ¬ bt (nI xx) p = 0) (hxy : ∀ q, q < 6 → q ≠ p → bt (nI xx) q = bt (nI yy) q) (h : mR K p a b) : mR K p (aP K (nI xx) a) (aP K (nI yy) b) := by
  obtain ⟨h1, h2, h3⟩ := h
  have n6 := hv.1.1
  obtain ⟨A, -⟩ := aP_pl hv ha hx
  obtain ⟨B, -⟩ := aP_pl hv hb hy
  have gE : ∀ q, q < 6 → q ≠ p → gB K (nI xx) a K.m q = gB K (nI yy) b K.m q := by
    intro q q6 qp
    unfold gB
    rw [hxy q q6 qp, lK_e h1]
  have gP : gB K (nI xx) a K.m p = false := by
    unfold gB
    simp [hxp]
  have dE : ∀ q, dK K a K.m q = dK K b K.m q := by
    intro q
    unfold dK
    rw [lK_e h1]
  have amE : ∀ q, q < K.n → q ≠ p → (am K a q).toInt ≤ (am K b q).toInt ∧ (a q).toInt - (am K a q).toInt ≤ (b q).toInt - (am K b q).toInt := by
    intro q qn qp
    have := h2 q qn qp
    unfold am
    split
    · rw [i_mn, i_mn]; omega
    · omega
  have nE : ∀ r, nW K (nI xx) a K.n r ≤ nW K (nI yy) b K.n r := by
    intro r
    refine sI_le' _ (fun q qn => ?_)
    by_cases e : q = p
    · subst e
      rw [gP]
      have := (am_num hv hb qn).1
      simp only [Bool.false_eq_true, false_and, ↓reduceIte]
      split
      · exact this
      · exact Int.le_refl _
    · rw [gE q (by omega) e, dE q]
      split
      · exact (amE q qn e).1
      · exact Int.le_refl _
  refine ⟨by rw [aP_18, aP_18]; exact h1, fun q qn qp => ?_, fun q qn => ?_⟩
  · rw [(A q qn).1, (B q qn).1]
    have e1 := nE q
    have e2 := amE q qn qp
    have e3 := h2 q qn qp
    unfold fW
    rw [gE q (by omega) qp]
    split
    · omega
    · rw [i_0]; omega
  · rw [(A q qn).2.1, (B q qn).2.1]
    have e1 := nE q
    have e2 := h3 q qn
    omega
theorem mR_H {K : Ld} (hv : vK K) {c p xx yy : Nat} {t : Nat → Int32} (ht : okT K c t) (hx : xx < 64) (hy : yy < 64) (hp : p < 6) (hxp : ¬ bt (nI xx) p = 0) (hxy : ∀ q, q < 6 → q ≠ p → bt (nI xx) q = bt (nI yy) q) : ∀ k, mR K p (aH K (nI xx) k t) (aH K (nI yy) k t)
  | 0 => ⟨rfl, fun _ _ _ => Int.le_refl _, fun _ _ => Int.le_refl _⟩
  | k + 1 => mR_step hv (okT_aH hv ht _ k) (okT_aH hv ht _ k) hx hy hp hxp hxy (mR_H hv ht hx hy hp hxp hxy k)
theorem sm_nat2 {f g : Nat → Int32} {B : Nat} : ∀ n, (∀ p, p < n → 0 ≤ (g p).toInt ∧ (g p).toInt ≤ (f p).toInt ∧ (f p).toInt ≤ B) → ∃ a b, b ≤ a ∧ a ≤ B * n ∧ sm f n = nI a ∧ sm g n = nI b
  | 0, _ => ⟨0, 0, by omega, by omega, rfl, rfl⟩
  | n + 1, h => by
    obtain ⟨a, b, h1, h2, h3, h4⟩ := sm_nat2 (f := f) (g := g) n (fun p hp => h p (by omega))
    obtain ⟨g1, g2, g3⟩ := h n (by omega)
    obtain ⟨j, hj, e⟩ := nI_of (x := f n) (fun z => by rw [i_lt, i_0] at z; omega)
    obtain ⟨i, hi, e'⟩ := nI_of (x := g n) (fun z => by rw [i_lt, i_0] at z; omega)
    rw [e, nI_toInt hj] at g2 g3
    rw [e', nI_toInt hi] at g2
    refine ⟨a + j, b + i, by omega, by rw [Nat.mul_succ]; omega, ?_, ?_⟩
    · rw [sm, h3, e, nI_add]
    · rw [sm, h4, e', nI_add]
/-- what dam p adds is no negative number -/
theorem add_nat {K : Ld} (hv : vK K) {c p xx yy k : Nat} {t : Nat → Int32} (ht : okT K c t) (hx : xx < 64) (hy : yy < 64) (hp : p < 6) (hxp : ¬ bt (nI xx) p = 0) (hxy : ∀ q, q < 6 → q ≠ p → bt (nI xx) q = bt (nI yy) q) : ∃ v, v ≤ 54 ∧ aDu (aH K (nI xx) k t) 6 - aDu (aH K (nI yy) k t) 6 = nI v := by
  have n6 := hv.1.1
  obtain ⟨-, -, m⟩ := mR_H hv ht hx hy hp hxp hxy k
  have o1 := okT_aH hv ht (nI xx) k
  have o2 := okT_aH hv ht (nI yy) k
  obtain ⟨a, b, h1, h2, h3, h4⟩ := sm_nat2 (f := fun p => aH K (nI xx) k t (6 + p)) (g := fun p => aH K (nI yy) k t (6 + p)) (B := 9) 6 (fun q hq => by
    have r1 := o1.2.2.2.2.1 q hq
    have r2 := o2.2.2.2.2.1 q hq
    refine ⟨r2.1, ?_, r1.2.1⟩
    by_cases e : q < K.n
    · exact m q e
    · have z1 := (o1.2.2.2.1 q (by omega) hq).2.1
      have z2 := (o2.2.2.2.1 q (by omega) hq).2.1
      show (aH K (nI yy) k t (6 + q)).toInt ≤ (aH K (nI xx) k t (6 + q)).toInt
      rw [z1, z2]
      exact Int.le_refl _)
  refine ⟨a - b, by omega, ?_⟩
  unfold aDu
  rw [h3, h4]
  exact pk_sub h1
/-! ===== sums of shares ===== -/
def fN (n : Nat) : Nat := match n with
  | 0 => 1
  | 1 => 1
  | 2 => 2
  | 3 => 6
  | 4 => 24
  | 5 => 120
  | _ => 720
theorem fac_n : ∀ n, n ≤ 6 → px_fac n = nI (fN n) ∧ 0 < fN n ∧ fN n ≤ 720 := by decide +kernel
def hn (o : Nat) : Nat → Nat
  | 0 => 0
  | r + 1 => hn o r + (if wo r o = 0 then fN (pcn r) * fN (pcn o - pcn r) else 0)
theorem hn_64' : ∀ o, o < 64 → hn o 64 ≤ 5040 := all64 (by decide +kernel)
theorem hn_mono {o : Nat} : ∀ k i, hn o i ≤ hn o (i + k)
  | 0, i => Nat.le_refl _
  | k + 1, i => by
    have := hn_mono (o := o) k i
    rw [← Nat.add_assoc, hn]
    omega
theorem hn_64 {o i : Nat} (ho : o < 64) (hi : i ≤ 64) : hn o i ≤ 5040 := by
  have h1 := hn_mono (o := o) (64 - i) i
  rw [show i + (64 - i) = 64 by omega] at h1
  have := hn_64' o ho
  omega
theorem sh_bits {D r p : Nat} (hD : D < 64) (hr : r < 64) (hp : p < 6) (hDp : D.testBit p = true) (h0 : wo r (wo D (2 ^ p)) = 0) : ¬ bt (nI (wo D r)) p = 0 ∧ (∀ q, q < 6 → q ≠ p → bt (nI (wo D r)) q = bt (nI (wo (wo D (2 ^ p)) r)) q) := by
  have b3 := (b1N p hp).2
  have o2 := (nI_wo D (2 ^ p) hD b3).2
  have r0 : ∀ q, q < 6 → (r.testBit q && !(wo D (2 ^ p)).testBit q) = false := by
    intro q hq
    rw [← wo_t hr o2 q hq, h0, Nat.zero_testBit]
  have rp : r.testBit p = false := by
    have := r0 p hp
    rw [wo_t hD b3 p hp, Nat.testBit_two_pow] at this
    simpa using this
  refine ⟨?_, fun q hq qp => ?_⟩
  · rw [bt_tb _ (nI_wo D r hD hr).2 p hp, wo_t hD hr p hp, hDp, rp]
    decide
  · rw [bt_tb _ (nI_wo D r hD hr).2 q hq, bt_tb _ (nI_wo _ r o2 hr).2 q hq, wo_t hD hr q hq, wo_t o2 hr q hq, wo_t hD b3 q hq, Nat.testBit_two_pow]
    have e : ¬ p = q := fun z => qp z.symm
    simp [e]
theorem hS_nat {K : Ld} (hv : vK K) {c p k D : Nat} {t : Nat → Int32} (ht : okT K c t) (hp : p < 6) (hD : D < 64) (hDp : D.testBit p = true) : ∀ i, i ≤ 64 → ∃ s, s ≤ 54 * hn (wo D (2 ^ p)) i ∧ hS K t k D (wo D (2 ^ p)) i = nI s
  | 0, _ => ⟨0, by omega, rfl⟩
  | i + 1, hi => by
    obtain ⟨s, h1, h2⟩ := hS_nat hv (k := k) ht hp hD hDp i (by omega)
    have b3 := (b1N p hp).2
    obtain ⟨-, o2⟩ := nI_wo D (2 ^ p) hD b3
    obtain ⟨o1, -⟩ := pcn_wo D p hD (by omega) hp
    rw [hS, hn]
    by_cases w0 : wo i (wo D (2 ^ p)) = 0
    · rw [if_pos w0, if_pos w0, h2]
      obtain ⟨e1, e2⟩ := sh_bits (r := i) hD (by omega) hp hDp w0
      obtain ⟨-, s1, -⟩ := wo_sub i _ (by omega) o2 w0
      obtain ⟨v, v1, v2⟩ := add_nat (k := k) hv ht (nI_wo D i hD (by omega)).2 (nI_wo _ i o2 (by omega)).2 hp e1 e2
      rw [v2, (fac_n (pcn i) (by omega)).1, (fac_n (pcn (wo D (2 ^ p)) - pcn i) (by omega)).1]
      have mul : ∀ a b : Nat, nI a * nI b = nI (a * b) := fun a b => (Int32.ofNat_mul a b).symm
      rw [mul, mul, nI_add]
      refine ⟨_, ?_, rfl⟩
      have := Nat.mul_le_mul_left (fN (pcn i) * fN (pcn (wo D (2 ^ p)) - pcn i)) v1
      rw [Nat.mul_add]
      omega
    · rw [if_neg w0, if_neg w0]
      exact ⟨s, h1, h2⟩
