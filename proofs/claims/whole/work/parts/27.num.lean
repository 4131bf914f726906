/-! ===== numbers: nothing grows too large ===== -/
theorem i_sub {a b : Int32} (h1 : 0 ≤ b.toInt) (h2 : b.toInt ≤ a.toInt) : (a - b).toInt = a.toInt - b.toInt := by
  have ha := a.toInt_lt
  have hb := b.le_toInt
  rw [Int32.toInt_sub]
  exact Int.bmod_eq_of_le (by omega) (by omega)
theorem i_add {a b : Int32} (h1 : 0 ≤ a.toInt) (h2 : 0 ≤ b.toInt) (h3 : a.toInt + b.toInt ≤ 2000000000) : (a + b).toInt = a.toInt + b.toInt := by
  rw [Int32.toInt_add]
  exact Int.bmod_eq_of_le (by omega) (by omega)
theorem i_lt {a b : Int32} : a < b ↔ a.toInt < b.toInt := Int32.lt_iff_toInt_lt
theorem i_0 : (0 : Int32).toInt = 0 := by decide
theorem i_mn (a b : Int32) : (mnI a b).toInt = min a.toInt b.toInt := by
  unfold mnI
  split
  · rename_i h; rw [i_lt] at h; omega
  · rename_i h; rw [i_lt] at h; omega
/-- the sum of six numbers -/
def s6 (f : Nat → Int32) : Int := (f 0).toInt + (f 1).toInt + (f 2).toInt + (f 3).toInt + (f 4).toInt + (f 5).toInt
theorem s6_up {f : Nat → Int32} {k : Nat} (hk : k < 6) (x : Int32) : s6 (upd f k x) = s6 f - (f k).toInt + x.toInt := by
  unfold s6 upd
  rcases (show k = 0 ∨ k = 1 ∨ k = 2 ∨ k = 3 ∨ k = 4 ∨ k = 5 by omega) with rfl | rfl | rfl | rfl | rfl | rfl <;> simp <;> omega
theorem s6_e6 {f g : Nat → Int32} (h : e6 f g) : s6 f = s6 g := by
  unfold s6
  rw [h 0 (by omega), h 1 (by omega), h 2 (by omega), h 3 (by omega), h 4 (by omega), h 5 (by omega)]
def nn6 (f : Nat → Int32) : Prop := ∀ p, p < 6 → 0 ≤ (f p).toInt
theorem nn6.le {f : Nat → Int32} (h : nn6 f) {p : Nat} (hp : p < 6) : (f p).toInt ≤ s6 f := by
  have h0 := h 0 (by omega); have h1 := h 1 (by omega); have h2 := h 2 (by omega); have h3 := h 3 (by omega); have h4 := h 4 (by omega); have h5 := h 5 (by omega)
  unfold s6
  rcases (show p = 0 ∨ p = 1 ∨ p = 2 ∨ p = 3 ∨ p = 4 ∨ p = 5 by omega) with rfl | rfl | rfl | rfl | rfl | rfl <;> omega
theorem nn6.s {f : Nat → Int32} (h : nn6 f) : 0 ≤ s6 f := by
  have h0 := h 0 (by omega); have h1 := h.le (p := 0) (by omega); omega
theorem nn6.up {f : Nat → Int32} (h : nn6 f) {k : Nat} {x : Int32} (hx : 0 ≤ x.toInt) : nn6 (upd f k x) := by
  intro p hp
  unfold upd
  split
  · exact hx
  · exact h p hp
/-- a land whose dams let go something, and nothing else strange -/
def vK (K : Ld) : Prop := vL K ∧ ∀ p, p < K.n → 0 ≤ (K.ms p).toInt
theorem p1_num {K : Ld} (hv : vK K) {op g : Int32} {i : Nat} (hi : i < K.m) {b co : Nat → Int32} {c : Int} (hc : c ≤ 1000000) (hb : nn6 b) (hco : nn6 co) (hs : s6 b + s6 co ≤ c) : nn6 (p1 K op i (b, co, g)).1 ∧ nn6 (p1 K op i (b, co, g)).2.1 ∧ s6 (p1 K op i (b, co, g)).1 + s6 (p1 K op i (b, co, g)).2.1 = s6 b + s6 co ∧ (∀ p, K.n ≤ p → (p1 K op i (b, co, g)).2.1 p = co p ∧ (p1 K op i (b, co, g)).1 p = b p) := by
  obtain ⟨⟨v1, v2⟩, v3, v4⟩ := hv.1.2.2 i hi
  have h6 := hv.1.1
  unfold p1
  dsimp only
  split
  · generalize hF : (K.fm i).toNatClampNeg = F at *
    generalize hT : (K.tt i).toNatClampNeg = T at *
    have hbF := hb F (by omega)
    have hbl := hb.le (p := F) (by omega)
    have hcT := hco T (by omega)
    have hcl := hco.le (p := T) (by omega)
    have hms := hv.2 F v2
    generalize ham : (if K.kd F = 0 then mnI (b F) (K.ms F) else b F) = am
    have ha0 : 0 ≤ am.toInt ∧ am.toInt ≤ (b F).toInt := by
      rw [← ham]
      split
      · rw [i_mn]; omega
      · omega
    have hs0 := hb.s
    have hs1 := hco.s
    have e1 := i_sub ha0.1 ha0.2
    have e2 : (co T + am).toInt = (co T).toInt + am.toInt := i_add hcT ha0.1 (by omega)
    refine ⟨hb.up (by omega), hco.up (by omega), ?_, fun p hp => ⟨?_, ?_⟩⟩
    · rw [s6_up (by omega), s6_up (by omega), e1, e2]; omega
    · simp only [upd, show ¬ p = T by omega, ↓reduceIte]
    · simp only [upd, show ¬ p = F by omega, ↓reduceIte]
  · exact ⟨hb, hco, rfl, fun p _ => ⟨rfl, rfl⟩⟩
theorem p1s_num {K : Ld} (hv : vK K) {op g : Int32} {b co : Nat → Int32} {c : Int} (hc : c ≤ 1000000) (hb : nn6 b) (hco : nn6 co) (hs : s6 b + s6 co ≤ c) : ∀ k, k ≤ K.m → nn6 (p1s K op k (b, co, g)).1 ∧ nn6 (p1s K op k (b, co, g)).2.1 ∧ s6 (p1s K op k (b, co, g)).1 + s6 (p1s K op k (b, co, g)).2.1 = s6 b + s6 co ∧ (∀ p, K.n ≤ p → (p1s K op k (b, co, g)).2.1 p = co p ∧ (p1s K op k (b, co, g)).1 p = b p)
  | 0, _ => ⟨hb, hco, rfl, fun p _ => ⟨rfl, rfl⟩⟩
  | k + 1, hk => by
    obtain ⟨h1, h2, h3, h4⟩ := p1s_num (op := op) (g := g) hv hc hb hco hs k (by omega)
    have h := p1_num hv (op := op) (g := (p1s K op k (b, co, g)).2.2) (i := k) (by omega) hc h1 h2 (by omega)
    rw [p1s]
    refine ⟨h.1, h.2.1, h.2.2.1.trans h3, fun p hp => ⟨(h.2.2.2 p hp).1.trans (h4 p hp).1, (h.2.2.2 p hp).2.trans (h4 p hp).2⟩⟩
/-- a scene of the land K with at most c buckets in all -/
def okT (K : Ld) (c : Nat) (t : Nat → Int32) : Prop := c ≤ 1000000 ∧ nn6 t ∧ s6 t ≤ c ∧ (∀ p, K.n ≤ p → p < 6 → t p = 0 ∧ t (6 + p) = 0 ∧ t (12 + p) = -9) ∧ (∀ p, p < 6 → 0 ≤ (t (6 + p)).toInt ∧ (t (6 + p)).toInt ≤ 9 ∧ (K.kd p ≠ 1 → t (6 + p) = 0)) ∧ (∀ p, p < 6 → K.kd p ≠ 3 → t (12 + p) = -9)
theorem aF_num {K : Ld} (hv : vK K) {c : Nat} {t : Nat → Int32} (h : okT K c t) (x : Int32) : nn6 (aF K x t).1 ∧ nn6 (aF K x t).2.1 ∧ s6 (aF K x t).1 + s6 (aF K x t).2.1 = s6 t ∧ (∀ p, K.n ≤ p → (aF K x t).2.1 p = 0 ∧ (aF K x t).1 p = t p) := by
  have hz : nn6 (fun _ => (0 : Int32)) := fun p _ => by rw [i_0]; omega
  have hz0 : s6 (fun _ => (0 : Int32)) = 0 := by unfold s6; rw [i_0]; rfl
  have := p1s_num hv (op := t 18) (g := x) (b := t) (co := fun _ => 0) (c := c) (by have := h.1; omega) h.2.1 hz (by rw [hz0]; have := h.2.2.1; omega) K.m (Nat.le_refl _)
  unfold aF
  rw [hz0] at this
  exact ⟨this.1, this.2.1, by omega, this.2.2.2⟩
theorem aZ_of {K : Ld} (hv : vK K) {c : Nat} {t : Nat → Int32} (h : okT K c t) (x : Int32) : aZ K x t := by
  obtain ⟨h1, h2, h3, h4⟩ := aF_num hv h x
  intro p hp
  unfold p2c
  split
  · rfl
  · rename_i hq
    by_cases hn : p < K.n
    · have a1 := h2 p hp
      have a2 : ¬ 0 < (aF K x t).2.1 p := fun z => hq ⟨hn, z⟩
      rw [i_lt, i_0] at a2
      exact Int32.toInt_inj.mp (by rw [i_0]; omega)
    · exact (h4 p (by omega)).1
theorem p2s_num {K : Ld} {hr : Int32} {co b d w : Nat → Int32} {c : Int} (hc : c ≤ 1000000) (hco : nn6 co) (hb : nn6 b) (hs : s6 b + s6 co ≤ c) (hd : ∀ p, p < 6 → 0 ≤ (d p).toInt ∧ (d p).toInt ≤ 9 ∧ (K.kd p ≠ 1 → d p = 0)) (hw : ∀ p, p < 6 → K.kd p ≠ 3 → w p = -9) : ∀ k, k ≤ 6 →
    (∀ p, p < k → (p2s K hr co k (b, d, w, 0)).1 p = b p + co p) ∧ (∀ p, k ≤ p → (p2s K hr co k (b, d, w, 0)).1 p = b p ∧ (p2s K hr co k (b, d, w, 0)).2.1 p = d p ∧ (p2s K hr co k (b, d, w, 0)).2.2.1 p = w p) ∧ (∀ p, p < 6 → 0 ≤ ((p2s K hr co k (b, d, w, 0)).2.1 p).toInt ∧ ((p2s K hr co k (b, d, w, 0)).2.1 p).toInt ≤ 9 ∧ (K.kd p ≠ 1 → (p2s K hr co k (b, d, w, 0)).2.1 p = 0)) ∧ (∀ p, p < 6 → K.kd p ≠ 3 → (p2s K hr co k (b, d, w, 0)).2.2.1 p = -9)
  | 0, _ => ⟨fun p hp => by omega, fun p _ => ⟨rfl, rfl, rfl⟩, hd, hw⟩
  | k + 1, hk => by
    obtain ⟨h1, h2, h3, h4⟩ := p2s_num (K := K) (hr := hr) hc hco hb hs hd hw k (by omega)
    rw [p2s]
    generalize p2s K hr co k (b, d, w, 0) = q at *
    obtain ⟨b', d', w', r'⟩ := q
    dsimp only at h1 h2 h3 h4
    unfold p2
    dsimp only
    have hck := hco k (by omega)
    split
    · rename_i hp0
      dsimp only
      refine ⟨fun p hp => ?_, fun p hp => ⟨?_, ?_, ?_⟩, fun p hp => ?_, fun p hp hk3 => ?_⟩
      · by_cases e : p = k
        · subst e
          simp only [upd, ↓reduceIte]
          rw [(h2 p (by omega)).1]
        · simp only [upd, e, ↓reduceIte]
          exact h1 p (by omega)
      · simp only [upd, show ¬ p = k by omega, ↓reduceIte]; exact (h2 p (by omega)).1
      · split
        · simp only [upd, show ¬ p = k by omega, ↓reduceIte]; exact (h2 p (by omega)).2.1
        · exact (h2 p (by omega)).2.1
      · split
        · simp only [upd, show ¬ p = k by omega, ↓reduceIte]; exact (h2 p (by omega)).2.2
        · exact (h2 p (by omega)).2.2
      · split
        · rename_i hk1
          by_cases e : p = k
          · subst e
            have hd3 := h3 p hp
            have hm := i_mn (d' p) (co p)
            have hcp := hco p hp
            have e1 : (d' p - mnI (d' p) (co p)).toInt = (d' p).toInt - (mnI (d' p) (co p)).toInt := i_sub (by omega) (by omega)
            simp only [upd, ↓reduceIte]
            exact ⟨by omega, by omega, fun z => absurd hk1 z⟩
          · simp only [upd, e, ↓reduceIte]; exact h3 p hp
        · exact h3 p hp
      · split
        · rename_i hk1
          by_cases e : p = k
          · subst e; exact absurd hk1.1 hk3
          · simp only [upd, e, ↓reduceIte]; exact h4 p hp hk3
        · exact h4 p hp hk3
    · rename_i hp0
      rw [i_lt, i_0] at hp0
      have ec : co k = 0 := Int32.toInt_inj.mp (by rw [i_0]; omega)
      refine ⟨fun p hp => ?_, fun p hp => h2 p (by omega), h3, h4⟩
      by_cases e : p = k
      · subst e
        show b' p = _
        rw [(h2 p (by omega)).1, ec, Int32.add_zero]
      · exact h1 p (by omega)
theorem s6_add {f g h : Nat → Int32} (hf : nn6 f) (hg : nn6 g) (hs : s6 f + s6 g ≤ 1000000) (he : ∀ p, p < 6 → h p = f p + g p) : nn6 h ∧ s6 h = s6 f + s6 g := by
  have hh : ∀ p, p < 6 → (h p).toInt = (f p).toInt + (g p).toInt := by
    intro p hp
    rw [he p hp]
    have a1 := hf.le hp; have a2 := hg.le hp; have a3 := hf p hp; have a4 := hg p hp
    have a5 := hf.s; have a6 := hg.s
    exact i_add a3 a4 (by omega)
  refine ⟨fun p hp => ?_, ?_⟩
  · rw [hh p hp]
    have a3 := hf p hp; have a4 := hg p hp; omega
  · unfold s6
    rw [hh 0 (by omega), hh 1 (by omega), hh 2 (by omega), hh 3 (by omega), hh 4 (by omega), hh 5 (by omega)]
    omega
theorem gl_b {q : (Nat → Int32) × (Nat → Int32) × (Nat → Int32) × Int32} {op hr : Int32} {p : Nat} (h : p < 6) : gl q op hr p = q.1 p := by simp [gl, h]
theorem gl_d {q : (Nat → Int32) × (Nat → Int32) × (Nat → Int32) × Int32} {op hr : Int32} {p : Nat} (h : p < 6) : gl q op hr (6 + p) = q.2.1 p := by
  have a1 : ¬ (6 + p < 6) := by omega
  have a2 : 6 + p < 12 := by omega
  simp [gl, a1, a2]
theorem gl_w {q : (Nat → Int32) × (Nat → Int32) × (Nat → Int32) × Int32} {op hr : Int32} {p : Nat} (h : p < 6) : gl q op hr (12 + p) = q.2.2.1 p := by
  have a1 : ¬ (12 + p < 6) := by omega
  have a2 : ¬ (12 + p < 12) := by omega
  have a3 : 12 + p < 18 := by omega
  simp [gl, a1, a2, a3]
theorem gl_18 {q : (Nat → Int32) × (Nat → Int32) × (Nat → Int32) × Int32} {op hr : Int32} : gl q op hr 18 = op := by simp [gl]
theorem gl_19 {q : (Nat → Int32) × (Nat → Int32) × (Nat → Int32) × Int32} {op hr : Int32} : gl q op hr 19 = hr := by simp [gl]
/-- an hour keeps a scene in bounds -/
theorem okT_aP {K : Ld} (hv : vK K) {c : Nat} {t : Nat → Int32} (h : okT K c t) (x : Int32) : okT K c (aP K x t) := by
  obtain ⟨a1, a2, a3, a4⟩ := aF_num hv h x
  obtain ⟨h0, h1, h2, h3, h4, h5⟩ := h
  have h6 := hv.1.1
  have b := p2s_num (K := K) (hr := t 19 + 1) (b := (aF K x t).1) (co := (aF K x t).2.1) (d := fun p => t (6 + p)) (w := fun p => t (12 + p)) (c := c) (by omega) a2 a1 (by omega) h4 h5 K.n hv.1.1
  obtain ⟨b1, b2, b3, b4⟩ := b
  have key : ∀ p, p < 6 → (aG K x t).1 p = (aF K x t).1 p + (aF K x t).2.1 p := by
    intro p hp
    by_cases hn : p < K.n
    · exact b1 p hn
    · have e1 : (aG K x t).1 p = (aF K x t).1 p := (b2 p (by omega)).1
      rw [e1, (a4 p (by omega)).1, Int32.add_zero]
  obtain ⟨c1, c2⟩ := s6_add (h := (aG K x t).1) a1 a2 (by omega) key
  have e0 : e6 (aP K x t) (aG K x t).1 := fun p hp => gl_b hp
  refine ⟨h0, fun p hp => by rw [e0 p hp]; exact c1 p hp, by rw [s6_e6 e0]; omega, fun p hn hp => ⟨?_, ?_, ?_⟩, fun p hp => ?_, fun p hp hk => ?_⟩
  · rw [e0 p hp, key p hp, (a4 p hn).1, (a4 p hn).2, (h3 p hn hp).1]; rfl
  · unfold aP
    rw [gl_d hp]
    exact ((b2 p hn).2.1).trans (h3 p hn hp).2.1
  · unfold aP
    rw [gl_w hp]
    exact ((b2 p hn).2.2).trans (h3 p hn hp).2.2
  · unfold aP
    rw [gl_d hp]
    exact b3 p hp
  · unfold aP
    rw [gl_w hp]
    exact b4 p hp hk
