/-! ===== an hour, told by places ===== -/
theorem lo_s {fm : Nat → Int32} {op x : Int32} : ∀ k i, i + k < 1000 → lo fm op x i (k + 1) = if lo fm op x i k = -9 then (if fm (i + k) = x ∧ bt op (i + k) = 1 then nI (i + k) else -9) else lo fm op x i k
  | 0, i, h => by simp [lo]
  | k + 1, i, h => by
    have ih := lo_s (fm := fm) (op := op) (x := x) k (i + 1) (by omega)
    have hn : ¬ nI i = -9 := by
      intro e
      have := congrArg Int32.toInt e
      rw [nI_toInt (by omega)] at this
      have e9 : (-9 : Int32).toInt = -9 := by decide
      omega
    rw [lo, ih]
    conv => rhs; rw [lo]
    by_cases c : fm i = x ∧ bt op i = 1
    · simp only [c, and_self, ↓reduceIte, hn]
    · simp only [c, ↓reduceIte, show i + 1 + k = i + (k + 1) by omega]
/-- the least open ditch of place p among the first k -/
def lK (K : Ld) (t : Nat → Int32) (k p : Nat) : Int32 := lo K.fm (t 18) (nI p) 0 k
/-- what a place lets go if it does -/
def am (K : Ld) (t : Nat → Int32) (p : Nat) : Int32 := if K.kd p = 0 then mnI (t p) (K.ms p) else t p
/-- p lets go by one of the first k ditches -/
def gB (K : Ld) (x : Int32) (t : Nat → Int32) (k p : Nat) : Bool := decide (bt x p = 0) && !decide (lK K t k p = -9)
def dK (K : Ld) (t : Nat → Int32) (k p : Nat) : Nat := (K.tt (lK K t k p).toNatClampNeg).toNatClampNeg
/-- sums of whole numbers -/
def sI (f : Nat → Int) : Nat → Int
  | 0 => 0
  | k + 1 => sI f k + f k
theorem sI_e {f g : Nat → Int} : ∀ n, (∀ p, p < n → f p = g p) → sI f n = sI g n
  | 0, _ => rfl
  | n + 1, h => by rw [sI, sI, sI_e n (fun p hp => h p (by omega)), h n (by omega)]
theorem sI_1 {f g : Nat → Int} {F : Nat} : ∀ n, F < n → (∀ p, p < n → p ≠ F → f p = g p) → sI g n = sI f n - f F + g F
  | 0, h, _ => by omega
  | n + 1, h, he => by
    rw [sI, sI]
    by_cases e : F = n
    · subst e
      rw [sI_e F (f := g) (g := f) (fun p hp => (he p (by omega) (by omega)).symm)]
      omega
    · have := sI_1 (f := f) (g := g) n (by omega) (fun p hp hq => he p (by omega) hq)
      rw [this, he n (by omega) (by omega)]
      omega
theorem bt_01 : ∀ i, i < 64 → ∀ q, q < 6 → bt (nI i) q = 0 ∨ bt (nI i) q = 1 := by decide +kernel
theorem bt_b1 : ∀ i, i < 64 → ∀ F, F < 6 → ∀ q, q < 6 → bt (nI i ||| b1 F) q = if F = q then 1 else bt (nI i) q := by decide +kernel
theorem b1_64 : ∀ F, F < 6 → b1 F = nI (2 ^ F) ∧ 2 ^ F < 64 := by decide +kernel
/-- every ditch leads away from a dam or a stable -/
def vF (K : Ld) : Prop := ∀ d, d < K.m → K.kd (K.fm d).toNatClampNeg = 0 ∨ K.kd (K.fm d).toNatClampNeg = 1
theorem nI_back {x : Int32} (h : 0 ≤ x) : x = nI x.toNatClampNeg := by
  obtain ⟨j, hj, rfl⟩ := nI_of (x := x) (Int32.not_lt.mpr h)
  rw [nI_clamp hj]
theorem m9_nI {i : Nat} (h : i < 1000) : ¬ nI i = -9 := by
  intro e
  have := congrArg Int32.toInt e
  rw [nI_toInt (by omega)] at this
  have e9 : (-9 : Int32).toInt = -9 := by decide
  omega
theorem am_num {K : Ld} (hv : vK K) {c : Nat} {t : Nat → Int32} (h : okT K c t) {p : Nat} (hp : p < K.n) : 0 ≤ (am K t p).toInt ∧ (am K t p).toInt ≤ (t p).toInt := by
  have h6 := hv.1.1
  have a1 := h.2.1 p (by omega)
  have a2 := hv.2 p hp
  unfold am
  split
  · rw [i_mn]; omega
  · omega
/-- the flows of the first k ditches, told by places -/
theorem p1s_pl {K : Ld} (hv : vK K) {c : Nat} {t : Nat → Int32} (h : okT K c t) {xx : Nat} (hx : xx < 64) : ∀ k, k ≤ K.m →
    (∃ gg, gg < 64 ∧ (p1s K (t 18) k (t, fun _ => 0, nI xx)).2.2 = nI gg ∧ ∀ q, q < 6 → (bt (nI gg) q = 0 ↔ (bt (nI xx) q = 0 ∧ lK K t k q = -9))) ∧
    (∀ q, q < K.n → (p1s K (t 18) k (t, fun _ => 0, nI xx)).1 q = if gB K (nI xx) t k q then t q - am K t q else t q) ∧
    (∀ p, p < K.n → ((p1s K (t 18) k (t, fun _ => 0, nI xx)).2.1 p).toInt = sI (fun q => if gB K (nI xx) t k q ∧ dK K t k q = p then (am K t q).toInt else 0) K.n)
  | 0, _ => by
    refine ⟨⟨xx, hx, rfl, fun q _ => by simp [lK, lo]⟩, fun q _ => by simp [p1s, gB, lK, lo], fun p _ => ?_⟩
    have : ∀ n, sI (fun q => if gB K (nI xx) t 0 q ∧ dK K t 0 q = p then (am K t q).toInt else 0) n = 0 := by
      intro n
      induction n with
      | zero => rfl
      | succ n ih => rw [sI, ih]; simp [gB, lK, lo]
    rw [this]
    exact i_0
  | k + 1, hk => by
    obtain ⟨⟨gg, h1, h2, h3⟩, h4, h5⟩ := p1s_pl hv h hx k (by omega)
    have hz : nn6 (fun _ => (0 : Int32)) := fun p _ => by rw [i_0]; omega
    have hz0 : s6 (fun _ => (0 : Int32)) = 0 := by unfold s6; rw [i_0]; rfl
    obtain ⟨n1, n2, n3, n4⟩ := p1s_num hv (op := t 18) (g := nI xx) (b := t) (co := fun _ => 0) (c := c) (by have := h.1; omega) h.2.1 hz (by rw [hz0]; have := h.2.2.1; omega) k (by omega)
    obtain ⟨⟨v1, v2⟩, v3, v4⟩ := hv.1.2.2 k (by omega)
    have h6 := hv.1.1
    have hm6 := hv.1.2.1
    have hc := h.1
    have hs := h.2.2.1
    rw [hz0] at n3
    rw [p1s]
    generalize p1s K (t 18) k (t, fun _ => 0, nI xx) = s at *
    obtain ⟨b, co, g⟩ := s
    dsimp only at h2 h4 h5 n1 n2 n3
    subst h2
    have eF := nI_back v1
    generalize hF : (K.fm k).toNatClampNeg = F at *
    have hl : ∀ q, lK K t (k + 1) q = if lK K t k q = -9 then (if K.fm k = nI q ∧ bt (t 18) k = 1 then nI k else -9) else lK K t k q := by
      intro q
      have := lo_s (fm := K.fm) (op := t 18) (x := nI q) k 0 (by omega)
      simp only [Nat.zero_add] at this
      exact this
    have hq : ∀ q, q < 6 → (K.fm k = nI q ↔ q = F) := by
      intro q hq
      rw [eF, nI_eq (by omega) (by omega)]
      exact ⟨fun z => z.symm, fun z => z.symm⟩
    have hk9 : ¬ nI k = -9 := m9_nI (by omega)
    have same : ¬ (bt (t 18) k = 1 ∧ bt (nI gg) F = 0) → bt (nI xx) F = 0 → lK K t (k + 1) F = lK K t k F := by
      intro z zx
      rw [hl]
      split
      · rename_i c9
        have : bt (nI gg) F = 0 := (h3 F (by omega)).mpr ⟨zx, c9⟩
        rw [if_neg (fun y => z ⟨y.2, this⟩), c9]
      · rfl
    have oth : ∀ q, q < 6 → q ≠ F → lK K t (k + 1) q = lK K t k q := by
      intro q hq6 hqF
      rw [hl]
      split
      · rename_i c9
        rw [if_neg (fun y => hqF ((hq q hq6).mp y.1)), c9]
      · rfl
    unfold p1
    dsimp only
    rw [show nI gg >>> (K.fm k &&& 31) &&& 1 = bt (nI gg) F by rw [eF]; rfl, show (1 : Int32) <<< (K.fm k &&& 31) = b1 F by rw [eF]; rfl, hF]
    by_cases cc : bt (t 18) k = 1 ∧ bt (nI gg) F = 0
    · rw [if_pos cc]
      obtain ⟨x0, l9⟩ := (h3 F (by omega)).mp cc.2
      have lF : lK K t (k + 1) F = nI k := by rw [hl, if_pos l9, if_pos ⟨(hq F (by omega)).mpr rfl, cc.1⟩]
      have gF0 : gB K (nI xx) t k F = false := by simp [gB, l9]
      have gF1 : gB K (nI xx) t (k + 1) F = true := by simp [gB, lF, hk9, x0]
      have bF : b F = t F := by rw [h4 F (by omega), gF0]; rfl
      have aE : (if K.kd F = 0 then mnI (b F) (K.ms F) else b F) = am K t F := by rw [bF]; rfl
      have go : ∀ q, q < 6 → q ≠ F → gB K (nI xx) t (k + 1) q = gB K (nI xx) t k q ∧ dK K t (k + 1) q = dK K t k q := by
        intro q q6 qF
        unfold gB dK
        rw [oth q q6 qF]
        exact ⟨rfl, rfl⟩
      have dF : dK K t (k + 1) F = (K.tt k).toNatClampNeg := by unfold dK; rw [lF, nI_clamp (by omega)]
      dsimp only
      rw [aE]
      refine ⟨?_, ?_, ?_⟩
      · obtain ⟨e1, e2⟩ := b1_64 F (by omega)
        obtain ⟨e3, e4⟩ := nI_or gg (2 ^ F) h1 e2
        refine ⟨gg ||| 2 ^ F, e4, by rw [e1, e3], fun q q6 => ?_⟩
        have eb := bt_b1 gg h1 F (by omega) q q6
        rw [e1, e3] at eb
        rw [eb]
        by_cases e : F = q
        · subst e
          rw [if_pos rfl, lF]
          exact ⟨fun z => absurd z (by decide), fun z => absurd z.2 hk9⟩
        · rw [if_neg e, h3 q q6, oth q q6 (fun z => e z.symm)]
      · intro q hqn
        by_cases e : q = F
        · subst e
          simp only [upd, ↓reduceIte, gF1, bF]
        · simp only [upd, e, ↓reduceIte]
          rw [h4 q hqn, (go q (by omega) e).1]
      · intro p hp
        have s1 := sI_1 (f := fun q => if gB K (nI xx) t k q ∧ dK K t k q = p then (am K t q).toInt else 0) (g := fun q => if gB K (nI xx) t (k + 1) q ∧ dK K t (k + 1) q = p then (am K t q).toInt else 0) (F := F) K.n v2 (fun q q1 q2 => by rw [(go q (by omega) q2).1, (go q (by omega) q2).2])
        rw [s1, ← h5 p hp]
        simp only [gF0, gF1, dF, Bool.false_eq_true, false_and, ↓reduceIte, true_and]
        by_cases e : p = (K.tt k).toNatClampNeg
        · subst e
          have b1 := am_num hv h v2
          have b2 := n2 (K.tt k).toNatClampNeg (by omega)
          have b3 := n2.le (p := (K.tt k).toNatClampNeg) (by omega)
          have b4 := h.2.1.le (p := F) (by omega)
          have b5 := n1.s
          simp only [upd, ↓reduceIte]
          rw [i_add b2 b1.1 (by omega)]
          omega
        · simp only [upd, e, ↓reduceIte, show ¬ (K.tt k).toNatClampNeg = p from fun z => e z.symm]
          omega
    · rw [if_neg cc]
      have all : ∀ q, q < 6 → bt (nI xx) q = 0 → lK K t (k + 1) q = lK K t k q := by
        intro q q6 qx
        by_cases e : q = F
        · subst e; exact same cc qx
        · exact oth q q6 e
      have go : ∀ q, q < 6 → gB K (nI xx) t (k + 1) q = gB K (nI xx) t k q ∧ (gB K (nI xx) t k q = true → dK K t (k + 1) q = dK K t k q) := by
        intro q q6
        by_cases qx : bt (nI xx) q = 0
        · unfold gB dK
          rw [all q q6 qx]
          exact ⟨rfl, fun _ => rfl⟩
        · simp [gB, qx]
      refine ⟨⟨gg, h1, rfl, fun q q6 => ?_⟩, fun q hqn => ?_, fun p hp => ?_⟩
      · rw [h3 q q6]
        exact ⟨fun z => ⟨z.1, by rw [all q q6 z.1]; exact z.2⟩, fun z => ⟨z.1, by rw [← all q q6 z.1]; exact z.2⟩⟩
      · rw [(go q (by omega)).1]; exact h4 q hqn
      · dsimp only
        rw [h5 p hp]
        refine sI_e _ (fun q q1 => ?_)
        obtain ⟨g1, g2⟩ := go q (by omega)
        rw [g1]
        by_cases e : gB K (nI xx) t k q = true
        · rw [g2 e]
        · simp only [e, false_and, ↓reduceIte, Bool.false_eq_true]
/-- what comes to a place: what is behind it, in whole numbers -/
theorem p2s_pl {K : Ld} {hr : Int32} {co b d w : Nat → Int32} (hco : nn6 co) (hd : ∀ p, p < 6 → 0 ≤ (d p).toInt ∧ (d p).toInt ≤ 9 ∧ (K.kd p ≠ 1 → d p = 0)) : ∀ k, k ≤ 6 →
    (∀ p, p < k → (p2s K hr co k (b, d, w, 0)).1 p = b p + co p ∧ ((p2s K hr co k (b, d, w, 0)).2.1 p).toInt = (d p).toInt - min (d p).toInt (co p).toInt ∧ (p2s K hr co k (b, d, w, 0)).2.2.1 p = if K.kd p = 3 ∧ w p = -9 ∧ 0 < (co p).toInt then hr else w p) ∧
    (∀ p, k ≤ p → (p2s K hr co k (b, d, w, 0)).1 p = b p ∧ (p2s K hr co k (b, d, w, 0)).2.1 p = d p ∧ (p2s K hr co k (b, d, w, 0)).2.2.1 p = w p) ∧
    ((p2s K hr co k (b, d, w, 0)).2.2.2).toInt = sI (fun p => min (d p).toInt (co p).toInt) k ∧ 0 ≤ sI (fun p => min (d p).toInt (co p).toInt) k ∧ sI (fun p => min (d p).toInt (co p).toInt) k ≤ 9 * k
  | 0, _ => ⟨fun p hp => by omega, fun p _ => ⟨rfl, rfl, rfl⟩, i_0, Int.le_refl _, Int.le_refl _⟩
  | k + 1, hk => by
    obtain ⟨h1, h2, h3, h4, h5⟩ := p2s_pl (K := K) (hr := hr) (b := b) (w := w) hco hd k (by omega)
    rw [p2s]
    generalize p2s K hr co k (b, d, w, 0) = q at *
    obtain ⟨b', d', w', r'⟩ := q
    dsimp only at h1 h2 h3
    obtain ⟨e1, e2, e3⟩ := h2 k (Nat.le_refl _)
    have hck := hco k (by omega)
    obtain ⟨d1, d2, d3⟩ := hd k (by omega)
    rw [sI]
    unfold p2
    dsimp only
    by_cases hc : 0 < co k
    · rw [if_pos hc]
      have hc' := hc
      rw [i_lt, i_0] at hc'
      have hm := i_mn (d k) (co k)
      simp only [e1, e2, e3]
      refine ⟨fun p hp => ?_, fun p hp => ?_, ?_, ?_, ?_⟩
      · by_cases e : p = k
        · subst e
          refine ⟨by simp only [upd, ↓reduceIte], ?_, ?_⟩
          · by_cases k1 : K.kd p = 1
            · simp only [k1, ↓reduceIte, upd]
              rw [i_sub (by omega) (by omega), hm]
            · simp only [k1, ↓reduceIte]
              rw [e2, d3 k1, i_0]
              omega
          · by_cases k3 : K.kd p = 3 ∧ w p = -9
            · simp only [k3, and_self, ↓reduceIte, upd, hc']
            · rw [if_neg k3, if_neg (fun z => k3 ⟨z.1, z.2.1⟩), e3]
        · obtain ⟨f1, f2, f3⟩ := h1 p (by omega)
          refine ⟨by simp only [upd, e, ↓reduceIte]; exact f1, ?_, ?_⟩
          · split
            · simp only [upd, e, ↓reduceIte]; exact f2
            · exact f2
          · split
            · simp only [upd, e, ↓reduceIte]; exact f3
            · exact f3
      · obtain ⟨f1, f2, f3⟩ := h2 p (by omega)
        have e : ¬ p = k := by omega
        refine ⟨by simp only [upd, e, ↓reduceIte]; exact f1, ?_, ?_⟩
        · split
          · simp only [upd, e, ↓reduceIte]; exact f2
          · exact f2
        · split
          · simp only [upd, e, ↓reduceIte]; exact f3
          · exact f3
      · split
        · rw [i_add (by omega) (by omega) (by omega), hm, h3]
        · rename_i k1
          have := d3 k1
          rw [this, i_0, Int32.add_zero, h3]
          omega
      · omega
      · omega
    · rw [if_neg hc]
      have hc' := hc
      rw [i_lt, i_0] at hc'
      have ec : co k = 0 := Int32.toInt_inj.mp (by rw [i_0]; omega)
      have ec0 : (co k).toInt = 0 := by rw [ec]; exact i_0
      dsimp only
      refine ⟨fun p hp => ?_, fun p hp => h2 p (by omega), by omega, by omega, by omega⟩
      by_cases e : p = k
      · subst e
        refine ⟨by rw [e1, ec, Int32.add_zero], by rw [e2]; omega, ?_⟩
        rw [if_neg (fun z => hc' z.2.2), e3]
      · exact h1 p (by omega)
/-- what flows from place p, as the reference says it -/
def fW (K : Ld) (x : Int32) (t : Nat → Int32) (p : Nat) : Int32 := if gB K x t K.m p then am K t p else 0
/-- what has come to place p from the first j places -/
def nW (K : Ld) (x : Int32) (t : Nat → Int32) (j p : Nat) : Int := sI (fun q => if gB K x t K.m q ∧ dK K t K.m q = p then (am K t q).toInt else 0) j
/-- an hour, told by places -/
theorem aP_pl {K : Ld} (hv : vK K) {c : Nat} {t : Nat → Int32} (h : okT K c t) {xx : Nat} (hx : xx < 64) :
    (∀ p, p < K.n → (aP K (nI xx) t p).toInt = (t p).toInt - (fW K (nI xx) t p).toInt + nW K (nI xx) t K.n p ∧ (aP K (nI xx) t (6 + p)).toInt = (t (6 + p)).toInt - min (t (6 + p)).toInt (nW K (nI xx) t K.n p) ∧ aP K (nI xx) t (12 + p) = if K.kd p = 3 ∧ t (12 + p) = -9 ∧ 0 < nW K (nI xx) t K.n p then t 19 + 1 else t (12 + p)) ∧
    (aW K (nI xx) t).toInt = sI (fun p => min (t (6 + p)).toInt (nW K (nI xx) t K.n p)) K.n := by
  obtain ⟨-, q2, q3⟩ := p1s_pl hv h hx K.m (Nat.le_refl _)
  obtain ⟨n1, n2, n3, n4⟩ := aF_num hv h (nI xx)
  have h6 := hv.1.1
  obtain ⟨r1, r2, r3, -⟩ := p2s_pl (K := K) (hr := t 19 + 1) (co := (aF K (nI xx) t).2.1) (b := (aF K (nI xx) t).1) (d := fun p => t (6 + p)) (w := fun p => t (12 + p)) n2 h.2.2.2.2.1 K.n h6
  have hco : ∀ p, p < K.n → ((aF K (nI xx) t).2.1 p).toInt = nW K (nI xx) t K.n p := q3
  refine ⟨fun p hp => ⟨?_, ?_, ?_⟩, ?_⟩
  · obtain ⟨s1, -, -⟩ := r1 p hp
    have a1 := n1 p (by omega)
    have a2 := n2 p (by omega)
    have a3 := n1.le (p := p) (by omega)
    have a4 := n2.le (p := p) (by omega)
    have a5 := h.2.2.1
    have a6 := h.1
    have a7 := n1.s
    have a8 := n2.s
    unfold aP
    rw [gl_b (by omega)]
    show ((p2s K (t 19 + 1) (aF K (nI xx) t).2.1 K.n ((aF K (nI xx) t).1, fun p => t (6 + p), fun p => t (12 + p), 0)).1 p).toInt = _
    rw [s1, i_add a1 a2 (by omega), hco p hp]
    have e : (aF K (nI xx) t).1 p = if gB K (nI xx) t K.m p then t p - am K t p else t p := q2 p hp
    rw [e]
    unfold fW
    obtain ⟨b1, b2⟩ := am_num hv h hp
    split
    · rw [i_sub b1 b2]
    · rw [i_0]; omega
  · obtain ⟨-, s1, -⟩ := r1 p hp
    unfold aP
    rw [gl_d (by omega), ← hco p hp]
    exact s1
  · obtain ⟨-, -, s1⟩ := r1 p hp
    unfold aP
    rw [gl_w (by omega), ← hco p hp]
    exact s1
  · have e : (aW K (nI xx) t).toInt = sI (fun p => min (t (6 + p)).toInt ((aF K (nI xx) t).2.1 p).toInt) K.n := r3
    rw [e]
    exact sI_e _ (fun p hp => by rw [hco p hp])
