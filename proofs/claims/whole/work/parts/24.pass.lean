/-! ===== an hour on scenes ===== -/
def e6 (f g : Nat → Int32) : Prop := ∀ p, p < 6 → f p = g p
theorem e6.rf {f : Nat → Int32} : e6 f f := fun _ _ => rfl
theorem e6.up {f g : Nat → Int32} (h : e6 f g) (k : Nat) {x y : Int32} (hx : x = y) : e6 (upd f k x) (upd g k y) := by
  intro p hp
  unfold upd
  split
  · exact hx
  · exact h p hp
theorem p1_e6 {K : Ld} (hv : vL K) {op : Int32} {i : Nat} (hi : i < K.m) {b b' c c' : Nat → Int32} {g : Int32} (hb : e6 b b') (hc : e6 c c') : e6 (p1 K op i (b, c, g)).1 (p1 K op i (b', c', g)).1 ∧ e6 (p1 K op i (b, c, g)).2.1 (p1 K op i (b', c', g)).2.1 ∧ (p1 K op i (b, c, g)).2.2 = (p1 K op i (b', c', g)).2.2 := by
  obtain ⟨⟨v1, v2⟩, v3, v4⟩ := hv.2.2 i hi
  have h6 := hv.1
  have q1 := hb (K.fm i).toNatClampNeg (by omega)
  have q2 := hc (K.tt i).toNatClampNeg (by omega)
  unfold p1
  dsimp only
  split
  · exact ⟨hb.up _ (by rw [q1]), hc.up _ (by rw [q1, q2]), rfl⟩
  · exact ⟨hb, hc, rfl⟩
theorem p1s_e6 {K : Ld} (hv : vL K) {op g : Int32} {b b' c c' : Nat → Int32} (hb : e6 b b') (hc : e6 c c') : ∀ k, k ≤ K.m → e6 (p1s K op k (b, c, g)).1 (p1s K op k (b', c', g)).1 ∧ e6 (p1s K op k (b, c, g)).2.1 (p1s K op k (b', c', g)).2.1 ∧ (p1s K op k (b, c, g)).2.2 = (p1s K op k (b', c', g)).2.2
  | 0, _ => ⟨hb, hc, rfl⟩
  | k + 1, hk => by
    obtain ⟨h1, h2, h3⟩ := p1s_e6 (op := op) (g := g) hv hb hc k (by omega)
    have h := p1_e6 hv (op := op) (i := k) (by omega) (g := (p1s K op k (b, c, g)).2.2) h1 h2
    rw [p1s, p1s]
    have e : p1s K op k (b', c', g) = ((p1s K op k (b', c', g)).1, (p1s K op k (b', c', g)).2.1, (p1s K op k (b, c, g)).2.2) := by rw [h3]
    rw [e]
    exact h
theorem p2_e6 {K : Ld} {hr r : Int32} {co co' : Nat → Int32} {i : Nat} (hi : i < 6) (hc : e6 co co') {b b' d d' w w' : Nat → Int32} (hb : e6 b b') (hd : e6 d d') (hw : e6 w w') : e6 (p2 K hr co i (b, d, w, r)).1 (p2 K hr co' i (b', d', w', r)).1 ∧ e6 (p2 K hr co i (b, d, w, r)).2.1 (p2 K hr co' i (b', d', w', r)).2.1 ∧ e6 (p2 K hr co i (b, d, w, r)).2.2.1 (p2 K hr co' i (b', d', w', r)).2.2.1 ∧ (p2 K hr co i (b, d, w, r)).2.2.2 = (p2 K hr co' i (b', d', w', r)).2.2.2 := by
  unfold p2
  dsimp only
  simp only [hc i hi, hb i hi, hd i hi, hw i hi]
  split
  · refine ⟨hb.up _ rfl, ?_, ?_, rfl⟩
    · dsimp only
      split
      · exact hd.up _ rfl
      · exact hd
    · dsimp only
      split
      · exact hw.up _ rfl
      · exact hw
  · exact ⟨hb, hd, hw, rfl⟩
theorem p2s_e6 {K : Ld} {hr r : Int32} {co co' : Nat → Int32} (hc : e6 co co') {b b' d d' w w' : Nat → Int32} (hb : e6 b b') (hd : e6 d d') (hw : e6 w w') : ∀ k, k ≤ 6 → e6 (p2s K hr co k (b, d, w, r)).1 (p2s K hr co' k (b', d', w', r)).1 ∧ e6 (p2s K hr co k (b, d, w, r)).2.1 (p2s K hr co' k (b', d', w', r)).2.1 ∧ e6 (p2s K hr co k (b, d, w, r)).2.2.1 (p2s K hr co' k (b', d', w', r)).2.2.1 ∧ (p2s K hr co k (b, d, w, r)).2.2.2 = (p2s K hr co' k (b', d', w', r)).2.2.2
  | 0, _ => ⟨hb, hd, hw, rfl⟩
  | k + 1, hk => by
    obtain ⟨h1, h2, h3, h4⟩ := p2s_e6 (K := K) (hr := hr) (r := r) hc hb hd hw k (by omega)
    have h := p2_e6 (K := K) (hr := hr) (i := k) (r := (p2s K hr co k (b, d, w, r)).2.2.2) (by omega) hc h1 h2 h3
    rw [p2s, p2s]
    have e : p2s K hr co' k (b', d', w', r) = ((p2s K hr co' k (b', d', w', r)).1, (p2s K hr co' k (b', d', w', r)).2.1, (p2s K hr co' k (b', d', w', r)).2.2.1, (p2s K hr co k (b, d, w, r)).2.2.2) := by rw [h4]
    rw [e]
    exact h
/-- the flows of an hour: what is left, what is under way -/
def aF (K : Ld) (x : Int32) (t : Nat → Int32) : (Nat → Int32) × (Nat → Int32) × Int32 := p1s K (t 18) K.m (t, fun _ => 0, x)
def aG (K : Ld) (x : Int32) (t : Nat → Int32) : (Nat → Int32) × (Nat → Int32) × (Nat → Int32) × Int32 := p2s K (t 19 + 1) (aF K x t).2.1 K.n ((aF K x t).1, fun p => t (6 + p), fun p => t (12 + p), 0)
def gl (q : (Nat → Int32) × (Nat → Int32) × (Nat → Int32) × Int32) (op hr : Int32) : Nat → Int32 := fun j => if j < 6 then q.1 j else if j < 12 then q.2.1 (j - 6) else if j < 18 then q.2.2.1 (j - 12) else if j = 18 then op else hr
/-- the scene behind an hour, and what is washed away -/
def aP (K : Ld) (x : Int32) (t : Nat → Int32) : Nat → Int32 := gl (aG K x t) (t 18) (t 19 + 1)
def aW (K : Ld) (x : Int32) (t : Nat → Int32) : Int32 := (aG K x t).2.2.2
/-- nothing is under way behind the hour -/
def aZ (K : Ld) (x : Int32) (t : Nat → Int32) : Prop := ∀ p, p < 6 → p2c (aF K x t).2.1 K.n p = 0
def isZ (G : px_H) (s : Nat) : Prop := hget G s = some (c_sr s) ∧ ∃ c, hget G (s + 1) = some (c_ia 6 c) ∧ ∀ p, p < 6 → c p = 0
theorem isZ.kept {G G' : px_H} {s : Nat} (h : isZ G s) (h0 : hget G' s = hget G s) (h1 : hget G' (s + 1) = hget G (s + 1)) : isZ G' s := by
  obtain ⟨a, c, b⟩ := h
  exact ⟨by rw [h0]; exact a, c, by rw [h1]; exact b.1, b.2⟩
theorem sp_pass {d a l s : Nat} {G : px_H} {K : Ld} {x : Int32} {t : Nat → Int32} {Q : px_Q} (hl : isL G l K) (hv : vL K) (hz : isZ G s) (ht : isS G a t) (ha : aZ K x t) (hla : l + 6 ≤ a ∨ a + 4 ≤ l) (hls : l + 6 ≤ s ∨ s + 2 ≤ l) (has : a + 4 ≤ s ∨ s + 2 ≤ a)
    (hQ : ∀ G', isS G' a (aP K x t) → isZ G' s → (∀ k, (k < a ∨ a + 4 ≤ k) → k ≠ s + 1 → hget G' k = hget G k) → Q (some (.int (aW K x t))) G') : pcal (d + 2) 39 [.ref s, .ref l, .ref a, .int x] G Q := by
  obtain ⟨z0, c0, z1, z2⟩ := hz
  obtain ⟨f0, f1, f2, h0, h1, h2, h3, h4⟩ := ht
  refine sp_passR hl hv z0 z1 h0 h1 h2 h3 hla hls has ?_
  have e0 : e6 f0 t := fun p hp => (h4 p hp).1
  have e1 : e6 f1 (fun p => t (6 + p)) := fun p hp => (h4 p hp).2.1
  have e2 : e6 f2 (fun p => t (12 + p)) := fun p hp => (h4 p hp).2.2
  obtain ⟨q1, q2, -⟩ := p1s_e6 (op := t 18) (g := x) hv e0 (show e6 c0 (fun _ => 0) from fun p hp => z2 p hp) K.m (Nat.le_refl _)
  obtain ⟨r1, r2, r3, r4⟩ := p2s_e6 (K := K) (hr := t 19 + 1) (r := 0) q2 q1 e1 e2 K.n hv.1
  intro G' r g0 g1 g2 g3 g4 g5 g6
  have er : r = aW K x t := g0.trans r4
  rw [er]
  refine hQ G' ⟨_, _, _, g1, g2, g3, g4, fun p hp => ⟨?_, ?_, ?_⟩⟩ ⟨?_, _, g5, fun p hp => ?_⟩ g6
  · rw [r1 p hp]
    simp [aP, gl, hp]
    rfl
  · rw [r2 p hp]
    have a1 : ¬ (6 + p < 6) := by omega
    have a2 : 6 + p < 12 := by omega
    simp [aP, gl, a1, a2]
    rfl
  · rw [r3 p hp]
    have a1 : ¬ (12 + p < 6) := by omega
    have a2 : ¬ (12 + p < 12) := by omega
    have a3 : 12 + p < 18 := by omega
    simp [aP, gl, a1, a2, a3]
    rfl
  · rw [g6 s (by omega) (by omega)]
    exact z0
  · have := ha p hp
    unfold p2c at this ⊢
    rw [q2 p hp]
    exact this
