/-! ===== an hour, as the reference lets it go by ===== -/
theorem sI_le {f g : Nat → Int} : ∀ n, (∀ p, p < n → f p ≤ g p) → sI f n ≤ sI g n
  | 0, _ => Int.le_refl _
  | n + 1, h => by
    have := sI_le n (fun p hp => h p (by omega))
    have := h n (by omega)
    rw [sI, sI]
    omega
theorem sI_0 {f : Nat → Int} : ∀ n, (∀ p, p < n → 0 ≤ f p) → 0 ≤ sI f n
  | 0, _ => Int.le_refl _
  | n + 1, h => by
    have := sI_0 n (fun p hp => h p (by omega))
    have := h n (by omega)
    rw [sI]
    omega
theorem sI_9 {f : Nat → Int} : ∀ n, (∀ p, p < n → f p ≤ 9) → sI f n ≤ 9 * n
  | 0, _ => Int.le_refl _
  | n + 1, h => by
    have := sI_9 n (fun p hp => h p (by omega))
    have := h n (by omega)
    rw [sI]
    omega
theorem sI_s6 {f : Nat → Int32} (h : nn6 f) {n : Nat} (hn : n ≤ 6) : sI (fun q => (f q).toInt) n ≤ s6 f := by
  have h0 := h 0 (by omega); have h1 := h 1 (by omega); have h2 := h 2 (by omega); have h3 := h 3 (by omega); have h4 := h 4 (by omega); have h5 := h 5 (by omega)
  unfold s6
  rcases (show n = 0 ∨ n = 1 ∨ n = 2 ∨ n = 3 ∨ n = 4 ∨ n = 5 ∨ n = 6 by omega) with rfl | rfl | rfl | rfl | rfl | rfl | rfl <;> simp only [sI] <;> omega
theorem lK_in {K : Ld} {t : Nat → Int32} {p : Nat} : ∀ k, k < 1000 → lK K t k p = -9 ∨ ∃ d, d < k ∧ lK K t k p = nI d ∧ K.fm d = nI p
  | 0, _ => Or.inl rfl
  | k + 1, h => by
    have := lo_s (fm := K.fm) (op := t 18) (x := nI p) k 0 (by omega)
    simp only [Nat.zero_add] at this
    have e : lK K t (k + 1) p = if lK K t k p = -9 then (if K.fm k = nI p ∧ bt (t 18) k = 1 then nI k else -9) else lK K t k p := this
    rw [e]
    rcases lK_in (K := K) (t := t) (p := p) k (by omega) with h1 | ⟨d, h1, h2, h3⟩
    · rw [if_pos h1]
      by_cases c : K.fm k = nI p ∧ bt (t 18) k = 1
      · rw [if_pos c]; exact Or.inr ⟨k, by omega, rfl, c.1⟩
      · rw [if_neg c]; exact Or.inl rfl
    · rw [if_neg (by rw [h2]; exact m9_nI (by omega))]
      exact Or.inr ⟨d, by omega, h2, h3⟩
/-- places that are no dams and no stables let nothing go -/
theorem lK_vF {K : Ld} (hf : vF K) (hm : K.m ≤ 6) {t : Nat → Int32} {p : Nat} (hp : p < 6) (hk : ¬ K.kd p < 2) : lK K t K.m p = -9 := by
  rcases lK_in (K := K) (t := t) (p := p) K.m (by omega) with h | ⟨d, h1, -, h3⟩
  · exact h
  · exfalso
    have := hf d h1
    rw [h3, nI_clamp (by omega)] at this
    rcases this with e | e <;> rw [e] at hk <;> exact hk (by decide)
theorem dK_lt {K : Ld} (hv : vL K) {x : Int32} {t : Nat → Int32} {p : Nat} (hg : gB K x t K.m p = true) : ∃ d, d < K.m ∧ lK K t K.m p = nI d ∧ dK K t K.m p = (K.tt d).toNatClampNeg ∧ dK K t K.m p < K.n := by
  have hm := hv.2.1
  rcases lK_in (K := K) (t := t) (p := p) K.m (by omega) with h | ⟨d, h1, h2, h3⟩
  · simp [gB, h] at hg
  · have e : dK K t K.m p = (K.tt d).toNatClampNeg := by unfold dK; rw [h2, nI_clamp (by omega)]
    exact ⟨d, h1, h2, e, by rw [e]; exact (hv.2.2 d h1).2.2⟩
/-- place j of the second round of the reference's hour, told of a scene -/
def mst (K : Ld) (x : Int32) (t : Nat → Int32) (j : Nat) (s : (Nat → Int32) × Int32) : (Nat → Int32) × Int32 :=
  if 0 < fW K x t j then
    let T := dK K t K.m j
    let f := fW K x t j
    let u1 := upd s.1 j (s.1 j - f)
    let u2 := upd u1 T (u1 T + f)
    let le := if u2 (6 + T) < f then u2 (6 + T) else f
    let u3 := upd u2 (6 + T) (u2 (6 + T) - le)
    (if K.kd T = 3 ∧ u3 (12 + T) = -9 then upd u3 (12 + T) (u3 19 + 1) else u3, s.2 + le)
  else s
def msts (K : Ld) (x : Int32) (t : Nat → Int32) : Nat → (Nat → Int32) × Int32
  | 0 => (t, 0)
  | j + 1 => mst K x t j (msts K x t j)
theorem msts_pl {K : Ld} (hv : vK K) {c : Nat} {t : Nat → Int32} (h : okT K c t) {x : Int32} : ∀ j, j ≤ K.n →
    (∀ p, p < K.n → ((msts K x t j).1 p).toInt = (t p).toInt - (if p < j then (fW K x t p).toInt else 0) + nW K x t j p ∧ ((msts K x t j).1 (6 + p)).toInt = (t (6 + p)).toInt - min (t (6 + p)).toInt (nW K x t j p) ∧ (msts K x t j).1 (12 + p) = if K.kd p = 3 ∧ t (12 + p) = -9 ∧ 0 < nW K x t j p then t 19 + 1 else t (12 + p)) ∧
    (∀ p, K.n ≤ p → p < 6 → (msts K x t j).1 p = t p ∧ (msts K x t j).1 (6 + p) = t (6 + p) ∧ (msts K x t j).1 (12 + p) = t (12 + p)) ∧ (msts K x t j).1 18 = t 18 ∧ (msts K x t j).1 19 = t 19 ∧
    ((msts K x t j).2).toInt = sI (fun p => min (t (6 + p)).toInt (nW K x t j p)) K.n
  | 0, _ => by
    have h0 : ∀ n, sI (fun p => min (t (6 + p)).toInt (nW K x t 0 p)) n = sI (fun p => min (t (6 + p)).toInt 0) n := fun n => rfl
    have d0 := h.2.2.2.2.1
    have h6 := hv.1.1
    refine ⟨fun p hp => ⟨?_, ?_, ?_⟩, fun p _ _ => ⟨rfl, rfl, rfl⟩, rfl, rfl, ?_⟩
    · simp [msts, nW, sI]
    · have := d0 p (by omega)
      simp only [msts, nW, sI]
      omega
    · simp [msts, nW, sI]
    · rw [h0, sI_e (g := fun _ => 0) K.n (fun p hp => by have := d0 p (by omega); omega)]
      have : ∀ n, sI (fun _ => 0) n = 0 := by
        intro n
        induction n with
        | zero => rfl
        | succ n ih => rw [sI, ih]; rfl
      rw [this]
      exact i_0
  | j + 1, hj => by
    obtain ⟨h1, h2, h3, h4, h5⟩ := msts_pl hv h (x := x) j (by omega)
    have h6 := hv.1.1
    have hd := h.2.2.2.2.1
    have hc := h.1
    have hs := h.2.2.1
    have ab : ∀ q, q < K.n → 0 ≤ (am K t q).toInt ∧ (am K t q).toInt ≤ (t q).toInt := fun q hq => am_num hv h hq
    have fb : ∀ q, q < K.n → 0 ≤ (fW K x t q).toInt ∧ (fW K x t q).toInt ≤ (t q).toInt := by
      intro q hq
      unfold fW
      have := ab q hq
      split
      · exact this
      · rw [i_0]; omega
    have nb : ∀ p, 0 ≤ nW K x t j p ∧ nW K x t j p ≤ s6 t := by
      intro p
      constructor
      · refine sI_0 _ (fun q hq => ?_)
        have := ab q (by omega)
        split <;> omega
      · refine Int.le_trans (sI_le (g := fun q => (t q).toInt) j (fun q hq => ?_)) (sI_s6 h.2.1 (by omega))
        have := ab q (by omega)
        split <;> omega
    have tb : ∀ p, p < 6 → 0 ≤ (t p).toInt ∧ (t p).toInt ≤ s6 t := fun p hp => ⟨h.2.1 p hp, h.2.1.le hp⟩
    have nS : ∀ p, nW K x t (j + 1) p = nW K x t j p + (if gB K x t K.m j ∧ dK K t K.m j = p then (am K t j).toInt else 0) := fun p => rfl
    rw [msts]
    generalize msts K x t j = s at *
    obtain ⟨u, r⟩ := s
    dsimp only at h1 h2 h3 h4 h5
    unfold mst
    dsimp only
    by_cases c0 : 0 < fW K x t j
    · rw [if_pos c0]
      have c0' := c0
      rw [i_lt, i_0] at c0'
      have hg : gB K x t K.m j = true := by
        cases e : gB K x t K.m j with
        | true => rfl
        | false => exfalso; rw [show fW K x t j = 0 by simp [fW, e], i_0] at c0'; omega
      have hf : am K t j = fW K x t j := by simp [fW, hg]
      obtain ⟨d, -, -, -, hT⟩ := dK_lt hv.1 hg
      simp only [hg, true_and, hf] at nS
      have hfj := fb j (by omega)
      generalize dK K t K.m j = T at *
      generalize hfE : fW K x t j = f at *
      have hj1 := (h1 j (by omega)).1
      rw [if_neg (Nat.lt_irrefl j)] at hj1
      have hT1 := (h1 T hT).1
      have nj := nb j
      have nT := nb T
      have tj := tb j (by omega)
      have tT := tb T (by omega)
      have fT := fb T hT
      have s0 := h.2.1.s
      have vT : (upd u j (u j - f) T).toInt = (u T).toInt - (if T = j then f.toInt else 0) := by
        unfold upd
        by_cases e : T = j
        · rw [if_pos e, if_pos e, e]
          exact i_sub (by omega) (by omega)
        · rw [if_neg e, if_neg e]
          omega
      have vT0 : 0 ≤ (upd u j (u j - f) T).toInt ∧ (upd u j (u j - f) T).toInt ≤ 3000000 := by
        rw [vT]
        by_cases e : T = j
        · rw [if_pos e, e]
          omega
        · rw [if_neg e]
          by_cases e2 : T < j
          · rw [if_pos e2] at hT1; omega
          · rw [if_neg e2] at hT1; omega
      have vA : (upd u j (u j - f) T + f).toInt = (upd u j (u j - f) T).toInt + f.toInt := i_add vT0.1 (by omega) (by omega)
      have B1 : ∀ p, p < K.n → (upd (upd u j (u j - f)) T (upd u j (u j - f) T + f) p).toInt = (t p).toInt - (if p < j + 1 then (fW K x t p).toInt else 0) + nW K x t (j + 1) p := by
        intro p hp
        have hp1 := (h1 p hp).1
        rw [nS p]
        by_cases eT : p = T
        · rw [eT, show upd (upd u j (u j - f)) T (upd u j (u j - f) T + f) T = upd u j (u j - f) T + f from if_pos rfl, vA, vT, if_pos rfl]
          by_cases e : T = j
          · rw [if_pos e, e, if_pos (show j < j + 1 by omega), hfE]
            omega
          · rw [if_neg e]
            by_cases e2 : T < j
            · rw [if_pos e2] at hT1; rw [if_pos (show T < j + 1 by omega)]; omega
            · rw [if_neg e2] at hT1; rw [if_neg (show ¬ T < j + 1 by omega)]; omega
        · rw [show upd (upd u j (u j - f)) T (upd u j (u j - f) T + f) p = upd u j (u j - f) p from if_neg eT, if_neg (show ¬ T = p from fun z => eT z.symm)]
          by_cases e : p = j
          · rw [e, show upd u j (u j - f) j = u j - f from if_pos rfl, if_pos (show j < j + 1 by omega), hfE, i_sub (by omega) (by omega)]
            omega
          · rw [show upd u j (u j - f) p = u p from if_neg e]
            by_cases e2 : p < j
            · rw [if_pos e2] at hp1; rw [if_pos (show p < j + 1 by omega)]; omega
            · rw [if_neg e2] at hp1; rw [if_neg (show ¬ p < j + 1 by omega)]; omega
      have B2 : ∀ k, k ≠ j → k ≠ T → upd (upd u j (u j - f)) T (upd u j (u j - f) T + f) k = u k := by
        intro k k1 k2
        simp only [upd, k1, k2, ↓reduceIte]
      generalize upd (upd u j (u j - f)) T (upd u j (u j - f) T + f) = B at *
      have B6 : B (6 + T) = u (6 + T) := B2 _ (by omega) (by omega)
      rw [B6]
      have hT2 := (h1 T hT).2.1
      have hdT := hd T (by omega)
      have eL : (if u (6 + T) < f then u (6 + T) else f).toInt = min (u (6 + T)).toInt f.toInt := by
        split
        · rename_i z; rw [i_lt] at z; omega
        · rename_i z; rw [i_lt] at z; omega
      generalize (if u (6 + T) < f then u (6 + T) else f) = le at *
      have eD : (u (6 + T) - le).toInt = (u (6 + T)).toInt - le.toInt := i_sub (by omega) (by omega)
      have rb : 0 ≤ sI (fun p => min (t (6 + p)).toInt (nW K x t j p)) K.n ∧ sI (fun p => min (t (6 + p)).toInt (nW K x t j p)) K.n ≤ 9 * K.n := ⟨sI_0 _ (fun p hp => by have := hd p (by omega); have := nb p; omega), sI_9 _ (fun p hp => by have := hd p (by omega); omega)⟩
      have D6 : ∀ k, k ≠ 6 + T → upd B (6 + T) (u (6 + T) - le) k = B k := fun k hk => if_neg hk
      have D6' : upd B (6 + T) (u (6 + T) - le) (6 + T) = u (6 + T) - le := if_pos rfl
      generalize upd B (6 + T) (u (6 + T) - le) = D at *
      have D12 : D (12 + T) = u (12 + T) := (D6 _ (by omega)).trans (B2 _ (by omega) (by omega))
      have D19 : D 19 = t 19 := ((D6 _ (by omega)).trans (B2 _ (by omega) (by omega))).trans h4
      rw [D12, D19]
      have hT3 := (h1 T hT).2.2
      have nST := nS T
      rw [if_pos rfl] at nST
      have W : ∀ k, k ≠ 12 + T → (if K.kd T = 3 ∧ u (12 + T) = -9 then upd D (12 + T) (t 19 + 1) else D) k = D k := by
        intro k hk
        split
        · exact if_neg hk
        · rfl
      have W' : (if K.kd T = 3 ∧ u (12 + T) = -9 then upd D (12 + T) (t 19 + 1) else D) (12 + T) = if K.kd T = 3 ∧ t (12 + T) = -9 then t 19 + 1 else t (12 + T) := by
        by_cases k3 : K.kd T = 3
        · by_cases w9 : t (12 + T) = -9
          · rw [if_pos (show K.kd T = 3 ∧ t (12 + T) = -9 from ⟨k3, w9⟩)]
            split
            · exact if_pos rfl
            · rename_i z
              rw [D12, hT3]
              rw [hT3] at z
              by_cases n0 : 0 < nW K x t j T
              · rw [if_pos ⟨k3, w9, n0⟩]
              · exact absurd ⟨k3, by rw [if_neg (fun y => n0 y.2.2)]; exact w9⟩ z
          · rw [if_neg (fun y : K.kd T = 3 ∧ t (12 + T) = -9 => w9 y.2)]
            have : u (12 + T) = t (12 + T) := by rw [hT3, if_neg (fun y => w9 y.2.1)]
            rw [if_neg (fun y : K.kd T = 3 ∧ u (12 + T) = -9 => w9 (this.symm.trans y.2)), D12, this]
        · rw [if_neg (fun y : K.kd T = 3 ∧ u (12 + T) = -9 => k3 y.1), if_neg (fun y : K.kd T = 3 ∧ t (12 + T) = -9 => k3 y.1), D12, hT3, if_neg (fun y => k3 y.1)]
      generalize (if K.kd T = 3 ∧ u (12 + T) = -9 then upd D (12 + T) (t 19 + 1) else D) = V at *
      dsimp only
      refine ⟨fun p hp => ⟨?_, ?_, ?_⟩, fun p hp1 hp2 => ⟨?_, ?_, ?_⟩, ?_, ?_, ?_⟩
      · rw [W p (by omega), D6 p (by omega)]
        exact B1 p hp
      · rw [W (6 + p) (by omega)]
        by_cases e : p = T
        · rw [e, D6', eD, eL, nST]
          omega
        · rw [D6 _ (by omega), B2 _ (by omega) (by omega), nS p, if_neg (show ¬ T = p from fun z => e z.symm), (h1 p hp).2.1]
          omega
      · by_cases e : p = T
        · rw [e, W', nST]
          by_cases k3 : K.kd T = 3 ∧ t (12 + T) = -9
          · rw [if_pos k3, if_pos ⟨k3.1, k3.2, by omega⟩]
          · rw [if_neg k3, if_neg (fun z => k3 ⟨z.1, z.2.1⟩)]
        · rw [W _ (by omega), D6 _ (by omega), B2 _ (by omega) (by omega), nS p, if_neg (show ¬ T = p from fun z => e z.symm), (h1 p hp).2.2, Int.add_zero]
      · rw [W p (by omega), D6 p (by omega), B2 _ (by omega) (by omega)]
        exact (h2 p hp1 hp2).1
      · rw [W _ (by omega), D6 _ (by omega), B2 _ (by omega) (by omega)]
        exact (h2 p hp1 hp2).2.1
      · rw [W _ (by omega), D6 _ (by omega), B2 _ (by omega) (by omega)]
        exact (h2 p hp1 hp2).2.2
      · rw [W _ (by omega), D6 _ (by omega), B2 _ (by omega) (by omega)]
        exact h3
      · rw [W _ (by omega), D6 _ (by omega), B2 _ (by omega) (by omega)]
        exact h4
      · rw [i_add (by omega) (by omega) (by omega), h5, eL, hT2]
        have s1 := sI_1 (f := fun p => min (t (6 + p)).toInt (nW K x t j p)) (g := fun p => min (t (6 + p)).toInt (nW K x t (j + 1) p)) (F := T) K.n hT (fun p hp he => by rw [nS p, if_neg (show ¬ T = p from fun z => he z.symm), Int.add_zero])
        rw [s1, nST]
        omega
    · rw [if_neg c0]
      have c0' := c0
      rw [i_lt, i_0] at c0'
      have f0 := (fb j (by omega)).1
      have nE : ∀ p, nW K x t (j + 1) p = nW K x t j p := by
        intro p
        rw [nS]
        split
        · rename_i z
          have : fW K x t j = am K t j := by simp [fW, z.1]
          rw [← this]; omega
        · omega
      simp only [nE]
      refine ⟨fun p hp => ⟨?_, (h1 p hp).2⟩, h2, h3, h4, h5⟩
      have := (h1 p hp).1
      by_cases e : p = j
      · subst e
        simp only [Nat.lt_irrefl, ↓reduceIte, Nat.lt_succ_self] at this ⊢
        omega
      · simp only [show p < j + 1 ↔ p < j by omega]
        exact this
/-- the reference's hour comes to the class's hour -/
theorem msts_aP {K : Ld} (hv : vK K) {c : Nat} {t : Nat → Int32} (h : okT K c t) {xx : Nat} (hx : xx < 64) : (∀ p, p < 18 → (msts K (nI xx) t K.n).1 p = aP K (nI xx) t p) ∧ (msts K (nI xx) t K.n).1 18 = t 18 ∧ (msts K (nI xx) t K.n).1 19 = t 19 ∧ (msts K (nI xx) t K.n).2 = aW K (nI xx) t := by
  obtain ⟨h1, h2, h3, h4, h5⟩ := msts_pl hv h (x := nI xx) K.n (Nat.le_refl _)
  obtain ⟨a1, a2⟩ := aP_pl hv h hx
  have o := okT_aP hv h (nI xx)
  have h6 := hv.1.1
  have key : ∀ p, p < 6 → (msts K (nI xx) t K.n).1 p = aP K (nI xx) t p ∧ (msts K (nI xx) t K.n).1 (6 + p) = aP K (nI xx) t (6 + p) ∧ (msts K (nI xx) t K.n).1 (12 + p) = aP K (nI xx) t (12 + p) := by
    intro p hp
    by_cases e : p < K.n
    · obtain ⟨b1, b2, b3⟩ := h1 p e
      obtain ⟨c1, c2, c3⟩ := a1 p e
      rw [if_pos e] at b1
      exact ⟨Int32.toInt_inj.mp (by omega), Int32.toInt_inj.mp (by omega), b3.trans c3.symm⟩
    · obtain ⟨b1, b2, b3⟩ := h2 p (by omega) hp
      obtain ⟨c1, c2, c3⟩ := o.2.2.2.1 p (by omega) hp
      obtain ⟨d1, d2, d3⟩ := h.2.2.2.1 p (by omega) hp
      exact ⟨b1.trans (d1.trans c1.symm), b2.trans (d2.trans c2.symm), b3.trans (d3.trans c3.symm)⟩
  refine ⟨fun p hp => ?_, h3, h4, Int32.toInt_inj.mp (h5.trans a2.symm)⟩
  by_cases e : p < 6
  · exact (key p e).1
  · by_cases e2 : p < 12
    · have := (key (p - 6) (by omega)).2.1
      rw [show 6 + (p - 6) = p by omega] at this
      exact this
    · have := (key (p - 12) (by omega)).2.2
      rw [show 12 + (p - 12) = p by omega] at this
      exact this
