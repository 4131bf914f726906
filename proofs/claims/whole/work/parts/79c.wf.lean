/-! ===== what is read is a land ===== -/
def wfS (r : RS) : Prop := wfL r.2.2.2 ∧ (r.1 = 2 → r.2.2.2.n < 6) ∧ (r.1 = 3 → r.2.2.2.n < 6 ∧ 0 ≤ r.2.1.toInt ∧ r.2.1.toInt ≤ 9) ∧ (r.1 = 4 → r.2.2.2.n < 6) ∧ (r.1 = 5 → r.2.2.2.n < 6) ∧ (r.1 = 6 → r.2.2.2.m < 6) ∧ (r.1 = 7 → r.2.2.2.m < 6) ∧ (8 ≤ r.1 → r.2.2.2.m < 6 ∧ dT r.2.2.2 r.2.1 r.2.2.1 = true)
theorem wfS_1 {K : Ld} {f s : Int32} (h : wfL K) : wfS (1, f, s, K) := by
  refine ⟨h, ?_, ?_, ?_, ?_, ?_, ?_, ?_⟩ <;> (intro z; simp at z)
theorem wfS_0 {K : Ld} {f s : Int32} (h : wfL K) : wfS (0, f, s, K) := by
  refine ⟨h, ?_, ?_, ?_, ?_, ?_, ?_, ?_⟩ <;> (intro z; simp at z)
theorem wfS_t {g : Nat} {f s x : Int32} {K : Ld} (h : wfS (g, f, s, K)) (hf : fitB g f K x = true) : wfS (takeS (g, f, s, K) x) := by
  obtain ⟨h0, h2, h3, h4, h5, h6, h7, h8⟩ := h
  dsimp only at h0 h2 h3 h4 h5 h6 h7 h8
  rcases (show g = 0 ∨ g = 1 ∨ g = 2 ∨ g = 3 ∨ g = 4 ∨ g = 5 ∨ g = 6 ∨ g = 7 ∨ 8 ≤ g by omega) with rfl | rfl | rfl | rfl | rfl | rfl | rfl | rfl | hg
  · exact wfS_1 h0
  · simp only [fitB] at hf
    simp only [takeS]
    by_cases a : x = 67
    · rw [if_pos a] at hf ⊢
      have m6 : K.m < 6 := by
        unfold dG at hf
        simp only [Bool.and_eq_true, decide_eq_true_eq] at hf
        exact hf.1
      refine ⟨h0, ?_, ?_, ?_, ?_, ?_, ?_, ?_⟩
      · intro z; simp at z
      · intro z; simp at z
      · intro z; simp at z
      · intro z; simp at z
      · intro _; exact m6
      · intro z; simp at z
      · intro z; simp at z
    · rw [if_neg a] at hf ⊢
      by_cases e : x = 68 ∨ x = 77 ∨ x = 83 ∨ x = 84
      · rw [if_pos e] at hf
        have n6 : K.n < 6 := by simpa using hf
        by_cases b : x = 68
        · rw [if_pos b]
          refine ⟨h0, ?_, ?_, ?_, ?_, ?_, ?_, ?_⟩
          · intro _; exact n6
          · intro z; simp at z
          · intro z; simp at z
          · intro z; simp at z
          · intro z; simp at z
          · intro z; simp at z
          · intro z; simp at z
        · rw [if_neg b]
          by_cases c : x = 77
          · rw [if_pos c]
            refine ⟨h0, ?_, ?_, ?_, ?_, ?_, ?_, ?_⟩
            · intro z; simp at z
            · intro z; simp at z
            · intro z; simp at z
            · intro _; exact n6
            · intro z; simp at z
            · intro z; simp at z
            · intro z; simp at z
          · rw [if_neg c]
            by_cases k : x = 83
            · rw [if_pos k]
              refine ⟨h0, ?_, ?_, ?_, ?_, ?_, ?_, ?_⟩
              · intro z; simp at z
              · intro z; simp at z
              · intro _; exact n6
              · intro z; simp at z
              · intro z; simp at z
              · intro z; simp at z
              · intro z; simp at z
            · rw [if_neg k]
              exact wfS_1 (wfL_adP h0 n6 (by simp) num0 num0 (fun _ => rfl))
      · rw [if_neg e] at hf
        exact absurd hf (by decide)
  · have n6 := h2 rfl
    have fn := fig_num (x := x - 48) hf
    refine ⟨h0, ?_, ?_, ?_, ?_, ?_, ?_, ?_⟩
    · intro z; simp [takeS] at z
    · intro _; exact ⟨n6, fn.1, fn.2⟩
    · intro z; simp [takeS] at z
    · intro z; simp [takeS] at z
    · intro z; simp [takeS] at z
    · intro z; simp [takeS] at z
    · intro z; simp [takeS] at z
  · obtain ⟨n6, f1, f2⟩ := h3 rfl
    exact wfS_1 (wfL_adP h0 n6 (by simp) ⟨f1, f2⟩ (fig_num1 hf) (fun z => absurd z (by decide)))
  · exact wfS_1 (wfL_adP h0 (h4 rfl) (by simp) (fig_num hf) num0 (fun _ => rfl))
  · exact wfS_1 (wfL_adP h0 (h5 rfl) (by simp) num0 (fig_num1 hf) (fun z => absurd z (by decide)))
  · have m6 := h6 rfl
    refine ⟨h0, ?_, ?_, ?_, ?_, ?_, ?_, ?_⟩
    · intro z; simp [takeS] at z
    · intro z; simp [takeS] at z
    · intro z; simp [takeS] at z
    · intro z; simp [takeS] at z
    · intro z; simp [takeS] at z
    · intro _; exact m6
    · intro z; simp [takeS] at z
  · have m6 := h7 rfl
    refine ⟨h0, ?_, ?_, ?_, ?_, ?_, ?_, ?_⟩
    · intro z; simp [takeS] at z
    · intro z; simp [takeS] at z
    · intro z; simp [takeS] at z
    · intro z; simp [takeS] at z
    · intro z; simp [takeS] at z
    · intro z; simp [takeS] at z
    · intro _; exact ⟨m6, hf⟩
  · obtain ⟨m6, dt⟩ := h8 hg
    obtain ⟨g', rfl⟩ : ∃ g', g = g' + 8 := ⟨g - 8, by omega⟩
    have k01 : x - 48 = 0 ∨ x - 48 = 1 := by
      have : (decide (x - 48 = 0) || decide (x - 48 = 1)) = true := hf
      simpa using this
    exact wfS_1 (wfL_adD h0 m6 dt k01)
theorem rdC_wf {tx : Nat → Int32} {len : Nat} : ∀ k i r, wfS r → wfL (rdC tx len k i r).2
  | 0, i, r, h => h.1
  | k + 1, i, r, h => by
    rw [rdC]
    by_cases e : fitB r.1 r.2.1 r.2.2.2 (tx i) = true
    · rw [if_pos e]
      exact rdC_wf k (i + 1) _ (wfS_t h e)
    · rw [if_neg e]
      exact h.1
