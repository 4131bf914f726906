/-! ===== the constructor of the reference ===== -/
section CM2
variable {d b : Nat} {G : px_H} {Q : px_Q}
def q00 : Nat → Int32 := fun _ => 0
set_option maxRecDepth 100000 in
theorem ci_Model (hg : G.1 = 123) (hb : G.2.1 = b) (h : hget G 124 = some (.inr (.inr (7, [.null, .null, .null, .null, .null, .null, .int 0, .int 0, .int 0, .null, .null, .null, .null, .int 0, .int 0, .null, .null, .int 0, .int 0, .int 0, .null, .int 0, .int 0, .null, .int 0, .null, .null, .null, .null, .null, .null, .long 0, .null, .null])))) (hQ : ∀ G', G'.1 = 145 → G'.2.1 = b + 632 → hget G' 124 = some (c_m zz 0) → hget G' 125 = some (c_ia 6 zz) → hget G' 126 = some (c_ia 6 zz) → hget G' 127 = some (c_ia 6 zz) → hget G' 128 = some (c_ia 6 zz) → hget G' 129 = some (c_ia 6 zz) → hget G' 130 = some (c_ia 6 zz) → hget G' 131 = some (c_ia 6 zz) → hget G' 132 = some (c_ia 6 zz) → hget G' 133 = some (c_ia 6 zz) → hget G' 134 = some (c_ia 6 zz) → hget G' 135 = some (c_ia 160 zz) → hget G' 136 = some (c_ia 48 zz) → hget G' 137 = some (c_ia 6 zz) → hget G' 138 = some (c_ia 280 zz) → hget G' 139 = some (c_ia 6 zz) → hget G' 140 = some (c_ia 6 zz) → hget G' 141 = some (c_ia 6 zz) → hget G' 142 = some (c_ia 6 zz) → hget G' 143 = some (c_ia 6 zz) → hget G' 144 = some (c_ia 6 zz) → hget G' 145 = some (c_za 2 zz) → hget G' 146 = some (c_ia 40 zz) → (∀ k, k < 124 → hget G' k = hget G k) → Q none G') : pcal (d + 1) 90 [.ref 124] G Q := by
  refine inX7_init ?_
  have e57 : (G.1 + 22, G.2.1 + 632) = (145, b + 632) := by rw [hg, hb]
  rw [e57]
  simp only [eX7_init_0, eX7_init_1, eX7_init_4, eX7_init_5, eX7_init_7, eX7_init_9, eX7_init_12, eX7_init_13, eX7_init_15, eX7_init_17, eX7_init_20, eX7_init_21, eX7_init_23, eX7_init_25, eX7_init_28, eX7_init_29, eX7_init_31, eX7_init_33, eX7_init_36, eX7_init_37, eX7_init_39, eX7_init_41, eX7_init_44, eX7_init_45, eX7_init_47, eX7_init_49, eX7_init_52, eX7_init_53, eX7_init_55, eX7_init_57, eX7_init_60, eX7_init_61, eX7_init_63, eX7_init_65, eX7_init_68, eX7_init_69, eX7_init_71, eX7_init_73, eX7_init_76, eX7_init_77, eX7_init_79, eX7_init_81, eX7_init_84, eX7_init_85, eX7_init_88, eX7_init_90, eX7_init_93, eX7_init_94, eX7_init_96, eX7_init_98, eX7_init_101, eX7_init_102, eX7_init_104, eX7_init_106, eX7_init_109, eX7_init_110, eX7_init_113, eX7_init_115, eX7_init_118, eX7_init_119, eX7_init_121, eX7_init_123, eX7_init_126, eX7_init_127, eX7_init_129, eX7_init_131, eX7_init_134, eX7_init_135, eX7_init_137, eX7_init_139, eX7_init_142, eX7_init_143, eX7_init_145, eX7_init_147, eX7_init_150, eX7_init_151, eX7_init_153, eX7_init_155, eX7_init_158, eX7_init_159, eX7_init_161, eX7_init_163, eX7_init_166, eX7_init_167, eX7_init_168, eX7_init_170, eX7_init_173, eX7_init_174, eX7_init_176, eX7_init_178, eX7_init_181, eX7_init_182, eX7_init_183, eX7_init_186, pe_aload_0, pe_const, pe_newa, pe_oini, pe_putf, pe_vret, h, hnew_1, hnew_2, hset_1, hset_2, hget_hset, hget_hnew, put_o, fit_r, fit_i, hg, hb, Nat.add_assoc, Nat.reduceAdd, Nat.reduceEqDiff, t6, t48, t160, t280, t2, t40, Int32.reduceLT, Nat.reduceLeDiff, Nat.add_le_add_iff_left, not_false_eq_true, List.length_cons, List.length_nil, Nat.reduceLT, List.set_cons_zero, List.set_cons_succ, ↓reduceIte, true_and, and_true, Nat.zero_le]
  refine hQ _ ?_ ?_ ?_ ?_ ?_ ?_ ?_ ?_ ?_ ?_ ?_ ?_ ?_ ?_ ?_ ?_ ?_ ?_ ?_ ?_ ?_ ?_ ?_ ?_ ?_ (fun k hk => ?_)
  · simp only [hnew_1, hset_1, hg, Nat.reduceAdd]
  · simp only [hnew_2, hset_2, hb, Nat.add_assoc, Nat.reduceAdd]
  · rw [hget_self]; rfl
  · simp only [hget_hset, hget_hnew, hnew_1, hset_1, hg, Nat.reduceAdd, Nat.reduceEqDiff, ↓reduceIte]; rfl
  · simp only [hget_hset, hget_hnew, hnew_1, hset_1, hg, Nat.reduceAdd, Nat.reduceEqDiff, ↓reduceIte]; rfl
  · simp only [hget_hset, hget_hnew, hnew_1, hset_1, hg, Nat.reduceAdd, Nat.reduceEqDiff, ↓reduceIte]; rfl
  · simp only [hget_hset, hget_hnew, hnew_1, hset_1, hg, Nat.reduceAdd, Nat.reduceEqDiff, ↓reduceIte]; rfl
  · simp only [hget_hset, hget_hnew, hnew_1, hset_1, hg, Nat.reduceAdd, Nat.reduceEqDiff, ↓reduceIte]; rfl
  · simp only [hget_hset, hget_hnew, hnew_1, hset_1, hg, Nat.reduceAdd, Nat.reduceEqDiff, ↓reduceIte]; rfl
  · simp only [hget_hset, hget_hnew, hnew_1, hset_1, hg, Nat.reduceAdd, Nat.reduceEqDiff, ↓reduceIte]; rfl
  · simp only [hget_hset, hget_hnew, hnew_1, hset_1, hg, Nat.reduceAdd, Nat.reduceEqDiff, ↓reduceIte]; rfl
  · simp only [hget_hset, hget_hnew, hnew_1, hset_1, hg, Nat.reduceAdd, Nat.reduceEqDiff, ↓reduceIte]; rfl
  · simp only [hget_hset, hget_hnew, hnew_1, hset_1, hg, Nat.reduceAdd, Nat.reduceEqDiff, ↓reduceIte]; rfl
  · simp only [hget_hset, hget_hnew, hnew_1, hset_1, hg, Nat.reduceAdd, Nat.reduceEqDiff, ↓reduceIte]; rfl
  · simp only [hget_hset, hget_hnew, hnew_1, hset_1, hg, Nat.reduceAdd, Nat.reduceEqDiff, ↓reduceIte]; rfl
  · simp only [hget_hset, hget_hnew, hnew_1, hset_1, hg, Nat.reduceAdd, Nat.reduceEqDiff, ↓reduceIte]; rfl
  · simp only [hget_hset, hget_hnew, hnew_1, hset_1, hg, Nat.reduceAdd, Nat.reduceEqDiff, ↓reduceIte]; rfl
  · simp only [hget_hset, hget_hnew, hnew_1, hset_1, hg, Nat.reduceAdd, Nat.reduceEqDiff, ↓reduceIte]; rfl
  · simp only [hget_hset, hget_hnew, hnew_1, hset_1, hg, Nat.reduceAdd, Nat.reduceEqDiff, ↓reduceIte]; rfl
  · simp only [hget_hset, hget_hnew, hnew_1, hset_1, hg, Nat.reduceAdd, Nat.reduceEqDiff, ↓reduceIte]; rfl
  · simp only [hget_hset, hget_hnew, hnew_1, hset_1, hg, Nat.reduceAdd, Nat.reduceEqDiff, ↓reduceIte]; rfl
  · simp only [hget_hset, hget_hnew, hnew_1, hset_1, hg, Nat.reduceAdd, Nat.reduceEqDiff, ↓reduceIte]; rfl
  · simp only [hget_hset, hget_hnew, hnew_1, hset_1, hg, Nat.reduceAdd, Nat.reduceEqDiff, ↓reduceIte]; rfl
  · simp only [hget_hset, hget_hnew, hnew_1, hset_1, hg, Nat.reduceAdd, Nat.reduceEqDiff, ↓reduceIte]; rfl
  · simp only [hget_hset, hget_hnew, hnew_1, hset_1, hg, Nat.reduceAdd, Nat.reduceEqDiff, ↓reduceIte]; rfl
  · simp only [hget_hset, hget_hnew, hnew_1, hset_1, hg, Nat.reduceAdd, show ¬ k = 124 by omega, show ¬ k = 125 by omega, show ¬ k = 126 by omega, show ¬ k = 127 by omega, show ¬ k = 128 by omega, show ¬ k = 129 by omega, show ¬ k = 130 by omega, show ¬ k = 131 by omega, show ¬ k = 132 by omega, show ¬ k = 133 by omega, show ¬ k = 134 by omega, show ¬ k = 135 by omega, show ¬ k = 136 by omega, show ¬ k = 137 by omega, show ¬ k = 138 by omega, show ¬ k = 139 by omega, show ¬ k = 140 by omega, show ¬ k = 141 by omega, show ¬ k = 142 by omega, show ¬ k = 143 by omega, show ¬ k = 144 by omega, show ¬ k = 145 by omega, show ¬ k = 146 by omega, ↓reduceIte]
end CM2
