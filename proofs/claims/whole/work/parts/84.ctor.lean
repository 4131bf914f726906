/-! ===== the constructors ===== -/
abbrev zz : Nat → Int32 := fun _ => 0
def K00 : Ld := (zz, zz, zz, zz, zz, 0, 0, 0)
section CO
variable {G : px_H} {c : px_E} {n k ci t : Nat} {fs : List Value} {v : Value} {f : px_E → Prop}
theorem hnew_1 : (hnew G n c).1 = G.1 + 1 := rfl
theorem hnew_2 : (hnew G n c).2.1 = G.2.1 + n := rfl
theorem hset_1 : (hset G k c).1 = G.1 := rfl
theorem hset_2 : (hset G k c).2.1 = G.2.1 := rfl
theorem put_o : pput (some (.inr (.inr (ci, fs)))) ci k t v f = (pfit t v ∧ k < fs.length ∧ f (.inr (.inr (ci, fs.set k v)))) := by simp [pput, ppf]
theorem fit_r {a : Nat} : pfit 2 (.ref a) = True := rfl
theorem fit_i {x : Int32} : pfit 0 (.int x) = True := rfl
theorem get_o {j : Nat} {h : Value → Prop} {w : Value} (hw : fs[j]? = some w) : pgf (some (.inr (.inr (ci, fs)))) ci j h = h w := by simp [pgf, hw]
theorem obj_o {p : Prop} : pobj (some (.inr (.inr (ci, fs)))) ci p = p := by simp [pobj, ppf]
theorem t6 : (6 : Int32).toNatClampNeg = 6 := by decide
theorem t48 : (48 : Int32).toNatClampNeg = 48 := by decide
theorem t14 : (14 : Int32).toNatClampNeg = 14 := by decide
theorem t2 : (2 : Int32).toNatClampNeg = 2 := by decide
theorem t5 : (5 : Int32).toNatClampNeg = 5 := by decide
theorem t8 : (8 : Int32).toNatClampNeg = 8 := by decide
theorem t40 : (40 : Int32).toNatClampNeg = 40 := by decide
theorem t160 : (160 : Int32).toNatClampNeg = 160 := by decide
theorem t280 : (280 : Int32).toNatClampNeg = 280 := by decide
end CO
section CI
variable {d a g b : Nat} {G : px_H} {Q : px_Q}
set_option maxRecDepth 100000 in
theorem ci_Reader (hQ : Q none G) : pcal (d + 1) 18 [.ref a] G Q := by
  refine inX2_init ?_
  simp only [eX2_init_0, eX2_init_1, eX2_init_4, pe_aload_0, pe_oini, pe_vret, hget_hset, ia_l, ia_s, vin, opl, onl, Int32.reduceLT, Int32.reduceLE, Int32.reduceAdd, Int32.reduceSub, Nat.reduceLT, Nat.reduceAdd, Nat.reduceEqDiff, ↓reduceIte, true_and, and_true, List.length_nil, List.length_cons, Nat.reduceLeDiff, Nat.zero_le]
  exact hQ
set_option maxRecDepth 100000 in
theorem ci_Scene (hg : G.1 = g) (hb : G.2.1 = b) (h : hget G (g + 1) = some (.inr (.inr (3, [.null, .null, .null, .int 0, .int 0])))) (hQ : ∀ G', G'.1 = g + 3 → G'.2.1 = b + 18 → isS G' (g + 1) zz → (∀ k, (k < g + 1 ∨ g + 5 ≤ k) → hget G' k = hget G k) → Q none G') : pcal (d + 1) 24 [.ref (g + 1)] G Q := by
  refine inX3_init ?_
  simp only [eX3_init_0, eX3_init_1, eX3_init_4, eX3_init_5, eX3_init_7, eX3_init_9, eX3_init_12, eX3_init_13, eX3_init_15, eX3_init_17, eX3_init_20, eX3_init_21, eX3_init_23, eX3_init_25, eX3_init_28, pe_aload_0, pe_const, pe_newa, pe_oini, pe_putf, pe_vret, h, hnew_1, hnew_2, hset_1, hset_2, hget_hset, hget_hnew, put_o, fit_r, fit_i, hg, hb, Nat.add_assoc, Nat.reduceAdd, Nat.add_left_cancel_iff, Nat.reduceEqDiff, t6, Int32.reduceLT, Nat.reduceLeDiff, Nat.add_le_add_iff_left, not_false_eq_true, List.length_cons, List.length_nil, Nat.reduceLT, List.set_cons_zero, List.set_cons_succ, ↓reduceIte, true_and, and_true, Nat.zero_le, opl, onl]
  refine hQ _ ?_ ?_ ⟨zz, zz, zz, ?_, ?_, ?_, ?_, fun p _ => ⟨rfl, rfl, rfl⟩⟩ (fun k hk => ?_)
  · simp only [hnew_1, hset_1, hg, Nat.add_assoc, Nat.reduceAdd]
  · simp only [hnew_2, hset_2, hb, Nat.add_assoc, Nat.reduceAdd]
  · simp only [hget_hset, hget_hnew, hnew_1, hset_1, hg, Nat.add_assoc, Nat.reduceAdd, Nat.add_left_cancel_iff, Nat.reduceEqDiff, ↓reduceIte]; rfl
  · simp only [hget_hset, hget_hnew, hnew_1, hset_1, hg, Nat.add_assoc, Nat.reduceAdd, Nat.add_left_cancel_iff, Nat.reduceEqDiff, ↓reduceIte]; rfl
  · simp only [hget_hset, hget_hnew, hnew_1, hset_1, hg, Nat.add_assoc, Nat.reduceAdd, Nat.add_left_cancel_iff, Nat.reduceEqDiff, ↓reduceIte]; rfl
  · simp only [hget_hset, hget_hnew, hnew_1, hset_1, hg, Nat.add_assoc, Nat.reduceAdd, Nat.add_left_cancel_iff, Nat.reduceEqDiff, ↓reduceIte]; rfl
  · simp only [hget_hset, hget_hnew, hnew_1, hset_1, hg, Nat.add_assoc, Nat.reduceAdd, show ¬ k = g + 1 by omega, show ¬ k = g + 2 by omega, show ¬ k = g + 3 by omega, show ¬ k = g + 4 by omega, ↓reduceIte]
set_option maxRecDepth 100000 in
theorem ci_Land (hg : G.1 = g) (hb : G.2.1 = b) (h : hget G (g + 1) = some (.inr (.inr (1, [.null, .null, .null, .null, .null, .int 0, .int 0, .int 0])))) (hQ : ∀ G', G'.1 = g + 5 → G'.2.1 = b + 30 → isL G' (g + 1) K00 → (∀ k, (k < g + 1 ∨ g + 7 ≤ k) → hget G' k = hget G k) → Q none G') : pcal (d + 1) 5 [.ref (g + 1)] G Q := by
  refine inX1_init ?_
  simp only [eX1_init_0, eX1_init_1, eX1_init_4, eX1_init_5, eX1_init_7, eX1_init_9, eX1_init_12, eX1_init_13, eX1_init_15, eX1_init_17, eX1_init_20, eX1_init_21, eX1_init_23, eX1_init_25, eX1_init_28, eX1_init_29, eX1_init_31, eX1_init_33, eX1_init_36, eX1_init_37, eX1_init_39, eX1_init_41, eX1_init_44, pe_aload_0, pe_const, pe_newa, pe_oini, pe_putf, pe_vret, h, hnew_1, hnew_2, hset_1, hset_2, hget_hset, hget_hnew, put_o, fit_r, fit_i, hg, hb, Nat.add_assoc, Nat.reduceAdd, Nat.add_left_cancel_iff, Nat.reduceEqDiff, t6, Int32.reduceLT, Nat.reduceLeDiff, Nat.add_le_add_iff_left, not_false_eq_true, List.length_cons, List.length_nil, Nat.reduceLT, List.set_cons_zero, List.set_cons_succ, ↓reduceIte, true_and, and_true, Nat.zero_le, opl, onl]
  refine hQ _ ?_ ?_ ⟨?_, ?_, ?_, ?_, ?_, ?_, by decide, by decide⟩ (fun k hk => ?_)
  · simp only [hnew_1, hset_1, hg, Nat.add_assoc, Nat.reduceAdd]
  · simp only [hnew_2, hset_2, hb, Nat.add_assoc, Nat.reduceAdd]
  · simp only [hget_hset, hget_hnew, hnew_1, hset_1, hg, Nat.add_assoc, Nat.reduceAdd, Nat.add_left_cancel_iff, Nat.reduceEqDiff, ↓reduceIte]; rfl
  · simp only [hget_hset, hget_hnew, hnew_1, hset_1, hg, Nat.add_assoc, Nat.reduceAdd, Nat.add_left_cancel_iff, Nat.reduceEqDiff, ↓reduceIte]; rfl
  · simp only [hget_hset, hget_hnew, hnew_1, hset_1, hg, Nat.add_assoc, Nat.reduceAdd, Nat.add_left_cancel_iff, Nat.reduceEqDiff, ↓reduceIte]; rfl
  · simp only [hget_hset, hget_hnew, hnew_1, hset_1, hg, Nat.add_assoc, Nat.reduceAdd, Nat.add_left_cancel_iff, Nat.reduceEqDiff, ↓reduceIte]; rfl
  · simp only [hget_hset, hget_hnew, hnew_1, hset_1, hg, Nat.add_assoc, Nat.reduceAdd, Nat.add_left_cancel_iff, Nat.reduceEqDiff, ↓reduceIte]; rfl
  · simp only [hget_hset, hget_hnew, hnew_1, hset_1, hg, Nat.add_assoc, Nat.reduceAdd, Nat.add_left_cancel_iff, Nat.reduceEqDiff, ↓reduceIte]; rfl
  · simp only [hget_hset, hget_hnew, hnew_1, hset_1, hg, Nat.add_assoc, Nat.reduceAdd, show ¬ k = g + 1 by omega, show ¬ k = g + 2 by omega, show ¬ k = g + 3 by omega, show ¬ k = g + 4 by omega, show ¬ k = g + 5 by omega, show ¬ k = g + 6 by omega, ↓reduceIte]
set_option maxRecDepth 100000 in
theorem ci_Sight (hg : G.1 = g) (hb : G.2.1 = b) (h : hget G (g + 1) = some (.inr (.inr (4, [.null, .null, .null, .int 0])))) (hQ : ∀ G', G'.1 = g + 3 → G'.2.1 = b + 18 → (hget G' (g + 1) = some (c_sg (g + 1) 0) ∧ hget G' (g + 2) = some (c_ia 6 zz) ∧ hget G' (g + 3) = some (c_ia 6 zz) ∧ hget G' (g + 4) = some (c_ia 6 zz)) → (∀ k, (k < g + 1 ∨ g + 5 ≤ k) → hget G' k = hget G k) → Q none G') : pcal (d + 1) 34 [.ref (g + 1)] G Q := by
  refine inX4_init ?_
  simp only [eX4_init_0, eX4_init_1, eX4_init_4, eX4_init_5, eX4_init_7, eX4_init_9, eX4_init_12, eX4_init_13, eX4_init_15, eX4_init_17, eX4_init_20, eX4_init_21, eX4_init_23, eX4_init_25, eX4_init_28, pe_aload_0, pe_const, pe_newa, pe_oini, pe_putf, pe_vret, h, hnew_1, hnew_2, hset_1, hset_2, hget_hset, hget_hnew, put_o, fit_r, fit_i, hg, hb, Nat.add_assoc, Nat.reduceAdd, Nat.add_left_cancel_iff, Nat.reduceEqDiff, t6, Int32.reduceLT, Nat.reduceLeDiff, Nat.add_le_add_iff_left, not_false_eq_true, List.length_cons, List.length_nil, Nat.reduceLT, List.set_cons_zero, List.set_cons_succ, ↓reduceIte, true_and, and_true, Nat.zero_le, opl, onl]
  refine hQ _ ?_ ?_ ⟨?_, ?_, ?_, ?_⟩ (fun k hk => ?_)
  · simp only [hnew_1, hset_1, hg, Nat.add_assoc, Nat.reduceAdd]
  · simp only [hnew_2, hset_2, hb, Nat.add_assoc, Nat.reduceAdd]
  · simp only [hget_hset, hget_hnew, hnew_1, hset_1, hg, Nat.add_assoc, Nat.reduceAdd, Nat.add_left_cancel_iff, Nat.reduceEqDiff, ↓reduceIte]; rfl
  · simp only [hget_hset, hget_hnew, hnew_1, hset_1, hg, Nat.add_assoc, Nat.reduceAdd, Nat.add_left_cancel_iff, Nat.reduceEqDiff, ↓reduceIte]; rfl
  · simp only [hget_hset, hget_hnew, hnew_1, hset_1, hg, Nat.add_assoc, Nat.reduceAdd, Nat.add_left_cancel_iff, Nat.reduceEqDiff, ↓reduceIte]; rfl
  · simp only [hget_hset, hget_hnew, hnew_1, hset_1, hg, Nat.add_assoc, Nat.reduceAdd, Nat.add_left_cancel_iff, Nat.reduceEqDiff, ↓reduceIte]; rfl
  · simp only [hget_hset, hget_hnew, hnew_1, hset_1, hg, Nat.add_assoc, Nat.reduceAdd, show ¬ k = g + 1 by omega, show ¬ k = g + 2 by omega, show ¬ k = g + 3 by omega, show ¬ k = g + 4 by omega, ↓reduceIte]
set_option maxRecDepth 100000 in
theorem ci_Stream (hg : G.1 = g) (hb : G.2.1 = b) (h : hget G (g + 1) = some (.inr (.inr (5, [.null])))) (hQ : ∀ G', G'.1 = g + 1 → G'.2.1 = b + 6 → isZ G' (g + 1) → (∀ k, (k < g + 1 ∨ g + 3 ≤ k) → hget G' k = hget G k) → Q none G') : pcal (d + 1) 38 [.ref (g + 1)] G Q := by
  refine inX5_init ?_
  simp only [eX5_init_0, eX5_init_1, eX5_init_4, eX5_init_5, eX5_init_7, eX5_init_9, eX5_init_12, pe_aload_0, pe_const, pe_newa, pe_oini, pe_putf, pe_vret, h, hnew_1, hnew_2, hset_1, hset_2, hget_hset, hget_hnew, put_o, fit_r, fit_i, hg, hb, Nat.add_assoc, Nat.reduceAdd, Nat.add_left_cancel_iff, Nat.reduceEqDiff, t6, Int32.reduceLT, Nat.reduceLeDiff, Nat.add_le_add_iff_left, not_false_eq_true, List.length_cons, List.length_nil, Nat.reduceLT, List.set_cons_zero, List.set_cons_succ, ↓reduceIte, true_and, and_true, Nat.zero_le, opl, onl]
  refine hQ _ ?_ ?_ ⟨?_, zz, ?_, fun _ _ => rfl⟩ (fun k hk => ?_)
  · simp only [hnew_1, hset_1, hg, Nat.add_assoc, Nat.reduceAdd]
  · simp only [hnew_2, hset_2, hb, Nat.add_assoc, Nat.reduceAdd]
  · simp only [hget_hset, hget_hnew, hnew_1, hset_1, hg, Nat.add_assoc, Nat.reduceAdd, Nat.add_left_cancel_iff, Nat.reduceEqDiff, ↓reduceIte]; rfl
  · simp only [hget_hset, hget_hnew, hnew_1, hset_1, hg, Nat.add_assoc, Nat.reduceAdd, Nat.add_left_cancel_iff, Nat.reduceEqDiff, ↓reduceIte]; rfl
  · simp only [hget_hset, hget_hnew, hnew_1, hset_1, hg, Nat.add_assoc, Nat.reduceAdd, show ¬ k = g + 1 by omega, show ¬ k = g + 2 by omega, ↓reduceIte]
end CI
