/-! ===== texts: what class and reference hold of a land that is being read ===== -/
/-- a land that a text tells, so far -/
def wfL (K : Ld) : Prop := K.n ≤ 6 ∧ K.m ≤ 6 ∧ (∀ p, p < K.n → (K.kd p = 0 ∨ K.kd p = 1 ∨ K.kd p = 2 ∨ K.kd p = 3) ∧ 0 ≤ (K.ms p).toInt ∧ (K.ms p).toInt ≤ 9 ∧ 0 ≤ (K.st p).toInt ∧ (K.st p).toInt ≤ 9 ∧ (K.kd p = 1 ∨ K.kd p = 3 → K.ms p = 0)) ∧ (∀ d, d < K.m → ((0 ≤ K.fm d ∧ (K.fm d).toNatClampNeg < K.n) ∧ (0 ≤ K.tt d ∧ (K.tt d).toNatClampNeg < K.n)) ∧ (K.kd (K.fm d).toNatClampNeg = 0 ∨ K.kd (K.fm d).toNatClampNeg = 1)) ∧ ∃ o, o < 2 ^ K.m ∧ K.oa = nI o
theorem wfL_cl (K : Ld) : wfL (clK K) := ⟨by show 0 ≤ 6; omega, by show 0 ≤ 6; omega, fun p hp => (Nat.not_lt_zero p hp).elim, fun d hd => (Nat.not_lt_zero d hd).elim, 0, by show 0 < 2 ^ 0; decide, rfl⟩
theorem adP_e {K : Ld} {k s v : Int32} (h : K.n < 6) : adP K k s v = (upd K.kd K.n k, upd K.st K.n s, upd K.ms K.n v, K.fm, K.tt, K.oa, K.n + 1, K.m) := if_pos h
theorem wfL_adP {K : Ld} (h : wfL K) (h6 : K.n < 6) {k s v : Int32} (hk : k = 0 ∨ k = 1 ∨ k = 2 ∨ k = 3) (hs : 0 ≤ s.toInt ∧ s.toInt ≤ 9) (hv : 0 ≤ v.toInt ∧ v.toInt ≤ 9) (h0 : k = 1 ∨ k = 3 → v = 0) : wfL (adP K k s v) := by
  obtain ⟨h1, h2, h3, h4, h5⟩ := h
  rw [adP_e h6]
  refine ⟨by show K.n + 1 ≤ 6; omega, h2, fun p hp => ?_, fun d hd => ?_, h5⟩
  · have hp' : p < K.n + 1 := hp
    show ((upd K.kd K.n k p = 0 ∨ upd K.kd K.n k p = 1 ∨ upd K.kd K.n k p = 2 ∨ upd K.kd K.n k p = 3) ∧ 0 ≤ (upd K.ms K.n v p).toInt ∧ (upd K.ms K.n v p).toInt ≤ 9 ∧ 0 ≤ (upd K.st K.n s p).toInt ∧ (upd K.st K.n s p).toInt ≤ 9 ∧ (upd K.kd K.n k p = 1 ∨ upd K.kd K.n k p = 3 → upd K.ms K.n v p = 0))
    unfold upd
    by_cases e : p = K.n
    · simp only [e, ↓reduceIte]
      exact ⟨hk, hv.1, hv.2, hs.1, hs.2, h0⟩
    · simp only [e, ↓reduceIte]
      exact h3 p (by omega)
  · obtain ⟨⟨a1, a2⟩, a3⟩ := h4 d hd
    refine ⟨⟨⟨a1.1, Nat.lt_succ_of_lt a1.2⟩, ⟨a2.1, Nat.lt_succ_of_lt a2.2⟩⟩, ?_⟩
    show upd K.kd K.n k (K.fm d).toNatClampNeg = 0 ∨ upd K.kd K.n k (K.fm d).toNatClampNeg = 1
    unfold upd
    rw [if_neg (by omega)]
    exact a3
theorem adD_e {K : Ld} {a b k : Int32} (h : K.m < 6) (hd : dT K a b = true) : adD K a b k = (K.kd, K.st, K.ms, upd K.fm K.m a, upd K.tt K.m b, K.oa ||| k <<< (nI K.m &&& 31), K.n, K.m + 1) := if_pos ⟨h, hd⟩
theorem dT_iff {K : Ld} {a b : Int32} : dT K a b = true ↔ (hP K.n a = true ∧ hP K.n b = true ∧ ¬ a = b ∧ (K.kd a.toNatClampNeg = 0 ∨ K.kd a.toNatClampNeg = 1) ∧ ¬ ∃ d, d < K.m ∧ K.fm d = a ∧ K.tt d = b) := by
  have e : jn K a b = true ↔ ∃ d, d < K.m ∧ K.fm d = a ∧ K.tt d = b := by
    unfold jn
    rw [exB_iff]
    simp
  unfold dT
  rw [← e]
  simp [and_assoc]
theorem open_s : ∀ m, m < 6 → ∀ o, o < 64 → o < 2 ^ m → (nI o ||| (0 : Int32) <<< (nI m &&& 31) = nI o) ∧ (nI o ||| (1 : Int32) <<< (nI m &&& 31) = nI (o ||| 2 ^ m)) ∧ o ||| 2 ^ m < 2 ^ (m + 1) ∧ o < 2 ^ (m + 1) := by decide +kernel
theorem wfL_adD {K : Ld} (h : wfL K) (h6 : K.m < 6) {a b k : Int32} (hd : dT K a b = true) (hk : k = 0 ∨ k = 1) : wfL (adD K a b k) := by
  obtain ⟨h1, h2, h3, h4, o, h5, h7⟩ := h
  obtain ⟨d1, d2, d3, d4, d5⟩ := dT_iff.mp hd
  obtain ⟨p1, p2, -, -⟩ := hP_of h1 d1
  obtain ⟨q1, q2, -, -⟩ := hP_of h1 d2
  rw [adD_e h6 hd]
  refine ⟨h1, by show K.m + 1 ≤ 6; omega, h3, fun d hd' => ?_, ?_⟩
  · have hd2 : d < K.m + 1 := hd'
    show ((0 ≤ upd K.fm K.m a d ∧ (upd K.fm K.m a d).toNatClampNeg < K.n) ∧ (0 ≤ upd K.tt K.m b d ∧ (upd K.tt K.m b d).toNatClampNeg < K.n)) ∧ (K.kd (upd K.fm K.m a d).toNatClampNeg = 0 ∨ K.kd (upd K.fm K.m a d).toNatClampNeg = 1)
    unfold upd
    by_cases e : d = K.m
    · simp only [e, ↓reduceIte]
      exact ⟨⟨⟨p1, p2⟩, ⟨q1, q2⟩⟩, d4⟩
    · simp only [e, ↓reduceIte]
      exact h4 d (by omega)
  · have p6 := (p2m h2).2
    obtain ⟨r1, r2, r3, r4⟩ := open_s K.m h6 o (by omega) h5
    show ∃ o', o' < 2 ^ (K.m + 1) ∧ K.oa ||| k <<< (nI K.m &&& 31) = nI o'
    rw [h7]
    rcases hk with e | e
    · rw [e]; exact ⟨o, r4, r1⟩
    · rw [e]; exact ⟨_, r3, r2⟩
theorem wfL_v {K : Ld} (h : wfL K) : vK K ∧ vF K ∧ vN K := by
  obtain ⟨h1, h2, h3, h4, -⟩ := h
  exact ⟨⟨⟨h1, h2, fun d hd => (h4 d hd).1⟩, fun p hp => (h3 p hp).2.1⟩, fun d hd => (h4 d hd).2, fun p hp => (h3 p hp).2.2.1⟩
/-- what the reference has read so far -/
def rdRel (K : Ld) (q rk rh rr rf rt rg : Nat → Int32) : Prop := q 6 = K.oa ∧ q 7 = nI K.n ∧ q 8 = nI K.m ∧ (∀ p, p < K.n → rk p = K.kd p ∧ (K.kd p = 0 → rh p = K.st p ∧ rr p = K.ms p) ∧ (K.kd p = 1 → rh p = K.st p) ∧ (K.kd p = 2 → rh p = K.ms p)) ∧ (∀ d, d < K.m → rf d = K.fm d ∧ rt d = K.tt d) ∧ ∀ p, p < K.n → ∃ g, g < 64 ∧ rg p = nI g ∧ ∀ b, b < 6 → (g.testBit b = true ↔ ∃ d, d < K.m ∧ K.fm d = nI p ∧ K.tt d = nI b)
theorem rdRel_adP {K : Ld} (hw : wfL K) (h6 : K.n < 6) {q q' rk rh rr rf rt rg : Nat → Int32} {k s v h r : Int32} (hr : rdRel K q rk rh rr rf rt rg) (h0 : k = 0 → h = s ∧ r = v) (h1 : k = 1 → h = s) (h2 : k = 2 → h = v) (e6 : q' 6 = q 6) (e7 : q' 7 = nI (K.n + 1)) (e8 : q' 8 = q 8) : rdRel (adP K k s v) q' (upd rk K.n k) (upd rh K.n h) (upd rr K.n r) rf rt (upd rg K.n 0) := by
  obtain ⟨a1, a2, a3, a4, a5, a6⟩ := hr
  rw [adP_e h6]
  refine ⟨e6.trans a1, e7, e8.trans a3, fun p hp => ?_, a5, fun p hp => ?_⟩
  · have hp' : p < K.n + 1 := hp
    show upd rk K.n k p = upd K.kd K.n k p ∧ (upd K.kd K.n k p = 0 → upd rh K.n h p = upd K.st K.n s p ∧ upd rr K.n r p = upd K.ms K.n v p) ∧ (upd K.kd K.n k p = 1 → upd rh K.n h p = upd K.st K.n s p) ∧ (upd K.kd K.n k p = 2 → upd rh K.n h p = upd K.ms K.n v p)
    unfold upd
    by_cases e : p = K.n
    · simp only [e, ↓reduceIte]
      exact ⟨trivial, h0, h1, h2⟩
    · simp only [e, ↓reduceIte]
      exact a4 p (by omega)
  · have hp' : p < K.n + 1 := hp
    show ∃ g, g < 64 ∧ upd rg K.n 0 p = nI g ∧ ∀ b, b < 6 → (g.testBit b = true ↔ ∃ d, d < K.m ∧ K.fm d = nI p ∧ K.tt d = nI b)
    unfold upd
    by_cases e : p = K.n
    · simp only [e, ↓reduceIte]
      refine ⟨0, by omega, rfl, fun b hb => ?_⟩
      rw [Nat.zero_testBit]
      constructor
      · intro z; exact absurd z (by decide)
      · rintro ⟨d, d1, d2, -⟩
        have := (hw.2.2.2.1 d d1).1.1.2
        rw [d2, nI_clamp (by omega)] at this
        omega
    · simp only [e, ↓reduceIte]
      exact a6 p (by omega)
theorem rdRel_adD {K : Ld} (hw : wfL K) (h6 : K.m < 6) {q q' rk rh rr rf rt rg : Nat → Int32} {a b k : Int32} {A B : Nat} (eA : a = nI A) (eB : b = nI B) (hA : A < K.n) (hB : B < K.n) (hd : dT K a b = true) (hr : rdRel K q rk rh rr rf rt rg) (e6 : q' 6 = q 6 ||| k <<< (nI K.m &&& 31)) (e7 : q' 7 = q 7) (e8 : q' 8 = nI (K.m + 1)) : rdRel (adD K a b k) q' rk rh rr (upd rf K.m a) (upd rt K.m b) (upd rg A (rg A ||| b1 B)) := by
  obtain ⟨a1, a2, a3, a4, a5, a6⟩ := hr
  have n6 := hw.1
  rw [adD_e h6 hd]
  refine ⟨by rw [e6, a1], e7.trans a2, e8, a4, fun d hd' => ?_, fun p hp => ?_⟩
  · have hd2 : d < K.m + 1 := hd'
    show upd rf K.m a d = upd K.fm K.m a d ∧ upd rt K.m b d = upd K.tt K.m b d
    unfold upd
    by_cases e : d = K.m
    · simp only [e, ↓reduceIte, and_self]
    · simp only [e, ↓reduceIte]
      exact a5 d (by omega)
  · obtain ⟨g, g1, g2, g3⟩ := a6 p hp
    have ext : ∀ b', (∃ d, d < K.m + 1 ∧ upd K.fm K.m a d = nI p ∧ upd K.tt K.m b d = nI b') ↔ ((∃ d, d < K.m ∧ K.fm d = nI p ∧ K.tt d = nI b') ∨ (a = nI p ∧ b = nI b')) := by
      intro b'
      unfold upd
      constructor
      · rintro ⟨d, d1, d2, d3⟩
        by_cases e : d = K.m
        · simp only [e, ↓reduceIte] at d2 d3
          exact Or.inr ⟨d2, d3⟩
        · simp only [e, ↓reduceIte] at d2 d3
          exact Or.inl ⟨d, by omega, d2, d3⟩
      · rintro (⟨d, d1, d2, d3⟩ | ⟨d2, d3⟩)
        · have e : ¬ d = K.m := by omega
          exact ⟨d, by omega, by simp only [e, ↓reduceIte]; exact d2, by simp only [e, ↓reduceIte]; exact d3⟩
        · exact ⟨K.m, by omega, by simp only [↓reduceIte]; exact d2, by simp only [↓reduceIte]; exact d3⟩
    have hp' : p < K.n := hp
    show ∃ g, g < 64 ∧ upd rg A (rg A ||| b1 B) p = nI g ∧ ∀ b', b' < 6 → (g.testBit b' = true ↔ ∃ d, d < K.m + 1 ∧ upd K.fm K.m a d = nI p ∧ upd K.tt K.m b d = nI b')
    by_cases e : p = A
    · subst e
      obtain ⟨b2, b3⟩ := b1N B (by omega)
      obtain ⟨o1, o2⟩ := nI_or g (2 ^ B) g1 b3
      refine ⟨g ||| 2 ^ B, o2, by simp only [upd, ↓reduceIte]; rw [g2, b2, o1], fun b' hb' => ?_⟩
      rw [ext b', Nat.testBit_or, Nat.testBit_two_pow, Bool.or_eq_true, g3 b' hb', decide_eq_true_eq]
      constructor
      · rintro (z | z)
        · exact Or.inl z
        · exact Or.inr ⟨eA, by rw [eB, z]⟩
      · rintro (z | ⟨-, z⟩)
        · exact Or.inl z
        · rw [eB] at z
          exact Or.inr ((nI_eq (by omega) (by omega)).mp z)
    · refine ⟨g, g1, by simp only [upd, e, ↓reduceIte]; exact g2, fun b' hb' => ?_⟩
      rw [ext b', g3 b' hb']
      constructor
      · intro z; exact Or.inl z
      · rintro (z | ⟨z, -⟩)
        · exact z
        · rw [eA] at z
          exact absurd ((nI_eq (by omega) (by omega)).mp z).symm e
