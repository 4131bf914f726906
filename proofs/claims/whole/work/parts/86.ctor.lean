/-! ===== the constructor of the class ===== -/
/-- what stands below role n -/
def cu (G H : px_H) (n : Nat) : Prop := (∀ k, k < 2 → hget H k = hget G k) ∧ (3 < n → hget H 3 = some (c_ia 48 zz)) ∧ (4 < n → hget H 4 = some (c_rd 0 0 0)) ∧ (5 < n → isL H 5 K00) ∧ (11 < n → isL H 11 K00) ∧ (17 < n → isZ H 17) ∧ (19 < n → isS H 19 zz) ∧ (23 < n → isA H 0 (fun _ => zz)) ∧ (81 < n → isV H 0 zz zz zz) ∧ (85 < n → hget H 85 = some (c_ra 2 (fun _ => none))) ∧ (86 < n → isS H 86 zz) ∧ (90 < n → isS H 90 zz) ∧ (94 < n → hget H 94 = some (c_ra 5 (fun _ => none))) ∧ (95 < n → hget H 95 = some (c_ia 8 zz))
theorem cu.kept {G H H' : px_H} {n : Nat} (h : cu G H n) (hn : 2 < n ∧ (5 < n → 11 ≤ n) ∧ (11 < n → 17 ≤ n) ∧ (17 < n → 19 ≤ n) ∧ (19 < n → 23 ≤ n) ∧ (23 < n → 81 ≤ n) ∧ (81 < n → 85 ≤ n) ∧ (86 < n → 90 ≤ n) ∧ (90 < n → 94 ≤ n)) (hk : ∀ k, k < n → k ≠ 2 → hget H' k = hget H k) : cu G H' n := by
  obtain ⟨c0, c1, c2, c3, c4, c5, c6, c7, c8, c9, c10, c11, c12, c13⟩ := h
  exact ⟨fun k a => (hk k (by omega) (by omega)).trans (c0 k a), fun a => (hk _ (by omega) (by omega)).trans (c1 a), fun a => (hk _ (by omega) (by omega)).trans (c2 a), fun a => (c3 a).kept (fun k x y => hk k (by omega) (by omega)), fun a => (c4 a).kept (fun k x y => hk k (by omega) (by omega)), fun a => (c5 a).kept (hk _ (by omega) (by omega)) (hk _ (by omega) (by omega)), fun a => (c6 a).kept (fun k x y => hk k (by omega) (by omega)), fun a => (c7 a).kept (fun k x y => hk k (by omega) (by omega)), fun a => (c8 a).kept (fun k x y => hk k (by omega) (by omega)), fun a => (hk _ (by omega) (by omega)).trans (c9 a), fun a => (c10 a).kept (fun k x y => hk k (by omega) (by omega)), fun a => (c11 a).kept (fun k x y => hk k (by omega) (by omega)), fun a => (hk _ (by omega) (by omega)).trans (c12 a), fun a => (hk _ (by omega) (by omega)).trans (c13 a)⟩
section CK
variable {d b : Nat} {G H : px_H} {Q : px_Q}
set_option maxRecDepth 100000 in
theorem cs_3 {o1 : Option Value} (h1 : H.1 = 1) (h2 : H.2.1 = b + 0) (h3 : hget H 2 = some (.inr (.inr (6, [.null, .int 0, .null, .null, .null, .null, .null, .null, .null, .null, .int 0, .long 0, .null, .null, .null, .null])))) (hc : cu G H 3) (hn : ∀ H', H'.1 = 2 → H'.2.1 = b + 48 → hget H' 2 = some (.inr (.inr (6, [.ref 3, .int 0, .null, .null, .null, .null, .null, .null, .null, .null, .int 0, .long 0, .null, .null, .null, .null]))) → cu G H' 4 → pr (d + 2) 41 (122, b + 739) Q 12 [some (.ref 2), o1] [] H') : pr (d + 2) 41 (122, b + 739) Q 4 [some (.ref 2), o1] [] H := by
  simp only [eX6_init_4, eX6_init_5, eX6_init_7, eX6_init_9, pe_aload_0, pe_const, pe_newa, pe_putf, hnew_1, hnew_2, hset_1, hset_2, hget_hset, hget_hnew, put_o, fit_r, fit_i, h1, h2, h3, Nat.add_assoc, Nat.reduceAdd, Nat.reduceEqDiff, t48, t2, t5, t8, Int32.reduceLT, Nat.reduceLeDiff, Nat.add_le_add_iff_left, not_false_eq_true, List.length_cons, List.length_nil, Nat.reduceLT, List.set_cons_zero, List.set_cons_succ, ↓reduceIte, true_and, and_true, Nat.zero_le, opl, onl]
  refine hn _ ?_ ?_ (hget_self _ _ _) ?_
  · rw [hset_1, hnew_1, h1]
  · rw [hset_2, hnew_2, h2]
  · have kp : cu G (hset (hnew H 48 (c_ia 48 zz)) 2 (.inr (.inr (6, [.ref 3, .int 0, .null, .null, .null, .null, .null, .null, .null, .null, .int 0, .long 0, .null, .null, .null, .null])))) 3 := hc.kept (by decide) (fun k a e => by rw [hget_ne e, hget_hnew, h1]; exact if_neg (by omega))
    have nw : hget (hset (hnew H 48 (c_ia 48 zz)) 2 (.inr (.inr (6, [.ref 3, .int 0, .null, .null, .null, .null, .null, .null, .null, .null, .int 0, .long 0, .null, .null, .null, .null])))) 3 = some (c_ia 48 zz) := by rw [hget_ne (by omega), hget_hnew, h1]; exact if_pos rfl
    obtain ⟨c0, c1, c2, c3, c4, c5, c6, c7, c8, c9, c10, c11, c12, c13⟩ := kp
    exact ⟨c0, fun _ => nw, fun z => absurd z (by omega), fun z => absurd z (by omega), fun z => absurd z (by omega), fun z => absurd z (by omega), fun z => absurd z (by omega), fun z => absurd z (by omega), fun z => absurd z (by omega), fun z => absurd z (by omega), fun z => absurd z (by omega), fun z => absurd z (by omega), fun z => absurd z (by omega), fun z => absurd z (by omega)⟩
set_option maxRecDepth 100000 in
theorem cs_4 {o1 : Option Value} (h1 : H.1 = 2) (h2 : H.2.1 = b + 48) (h3 : hget H 2 = some (.inr (.inr (6, [.ref 3, .int 0, .null, .null, .null, .null, .null, .null, .null, .null, .int 0, .long 0, .null, .null, .null, .null])))) (hc : cu G H 4) (hn : ∀ H', H'.1 = 3 → H'.2.1 = b + 51 → hget H' 2 = some (.inr (.inr (6, [.ref 3, .int 0, .ref 4, .null, .null, .null, .null, .null, .null, .null, .int 0, .long 0, .null, .null, .null, .null]))) → cu G H' 5 → pr (d + 2) 41 (122, b + 739) Q 23 [some (.ref 2), o1] [] H') : pr (d + 2) 41 (122, b + 739) Q 12 [some (.ref 2), o1] [] H := by
  simp only [eX6_init_12, eX6_init_13, eX6_init_16, eX6_init_17, pe_aload_0, pe_callI_0, pe_dup_i, pe_dup_r, pe_new, hnew_1, hnew_2, hset_1, hset_2, hget_hset, hget_hnew, put_o, fit_r, fit_i, h1, h2, h3, Nat.add_assoc, Nat.reduceAdd, Nat.reduceEqDiff, t48, t2, t5, t8, Int32.reduceLT, Nat.reduceLeDiff, Nat.add_le_add_iff_left, not_false_eq_true, List.length_cons, List.length_nil, Nat.reduceLT, List.set_cons_zero, List.set_cons_succ, ↓reduceIte, true_and, and_true, Nat.zero_le, opl, onl]
  refine ci_Reader ?_
  refine ⟨by rw [hnew_1, h1], by rw [hnew_2, h2], ?_⟩
  have y3 : hget (hnew H 3 (.inr (.inr (2, [.int 0, .int 0, .int 0])))) 2 = some (.inr (.inr (6, [.ref 3, .int 0, .null, .null, .null, .null, .null, .null, .null, .null, .int 0, .long 0, .null, .null, .null, .null]))) := by rw [hget_hnew, h1, if_neg (by omega)]; exact h3
  simp only [eX6_init_20, pe_putf, y3, put_o, fit_r, List.length_cons, List.length_nil, Nat.reduceAdd, Nat.reduceLT, List.set_cons_zero, List.set_cons_succ, hget_hset, ia_l, ia_s, vin, opl, onl, Int32.reduceLT, Int32.reduceLE, Int32.reduceAdd, Int32.reduceSub, Nat.reduceLT, Nat.reduceAdd, Nat.reduceEqDiff, ↓reduceIte, true_and, and_true, List.length_nil, List.length_cons, Nat.reduceLeDiff, Nat.zero_le]
  refine hn _ ?_ ?_ (hget_self _ _ _) ?_
  · rw [hset_1, hnew_1, h1]
  · rw [hset_2, hnew_2, h2]
  · have kp : cu G (hset (hnew H 3 (.inr (.inr (2, [.int 0, .int 0, .int 0])))) 2 (.inr (.inr (6, [.ref 3, .int 0, .ref 4, .null, .null, .null, .null, .null, .null, .null, .int 0, .long 0, .null, .null, .null, .null])))) 4 := hc.kept (by decide) (fun k a e => by rw [hget_ne e, hget_hnew, h1]; exact if_neg (by omega))
    have nw : hget (hset (hnew H 3 (.inr (.inr (2, [.int 0, .int 0, .int 0])))) 2 (.inr (.inr (6, [.ref 3, .int 0, .ref 4, .null, .null, .null, .null, .null, .null, .null, .int 0, .long 0, .null, .null, .null, .null])))) 4 = some (c_rd 0 0 0) := by rw [hget_ne (by omega), hget_hnew, h1]; exact if_pos rfl
    obtain ⟨c0, c1, c2, c3, c4, c5, c6, c7, c8, c9, c10, c11, c12, c13⟩ := kp
    exact ⟨c0, fun _ => c1 (by omega), fun _ => nw, fun z => absurd z (by omega), fun z => absurd z (by omega), fun z => absurd z (by omega), fun z => absurd z (by omega), fun z => absurd z (by omega), fun z => absurd z (by omega), fun z => absurd z (by omega), fun z => absurd z (by omega), fun z => absurd z (by omega), fun z => absurd z (by omega), fun z => absurd z (by omega)⟩
set_option maxRecDepth 100000 in
theorem cs_5 {o1 : Option Value} (h1 : H.1 = 3) (h2 : H.2.1 = b + 51) (h3 : hget H 2 = some (.inr (.inr (6, [.ref 3, .int 0, .ref 4, .null, .null, .null, .null, .null, .null, .null, .int 0, .long 0, .null, .null, .null, .null])))) (hc : cu G H 5) (hn : ∀ H', H'.1 = 9 → H'.2.1 = b + 89 → hget H' 2 = some (.inr (.inr (6, [.ref 3, .int 0, .ref 4, .ref 5, .null, .null, .null, .null, .null, .null, .int 0, .long 0, .null, .null, .null, .null]))) → cu G H' 11 → pr (d + 2) 41 (122, b + 739) Q 34 [some (.ref 2), o1] [] H') : pr (d + 2) 41 (122, b + 739) Q 23 [some (.ref 2), o1] [] H := by
  simp only [eX6_init_23, eX6_init_24, eX6_init_27, eX6_init_28, pe_aload_0, pe_callI_0, pe_dup_i, pe_dup_r, pe_new, hnew_1, hnew_2, hset_1, hset_2, hget_hset, hget_hnew, put_o, fit_r, fit_i, h1, h2, h3, Nat.add_assoc, Nat.reduceAdd, Nat.reduceEqDiff, t48, t2, t5, t8, Int32.reduceLT, Nat.reduceLeDiff, Nat.add_le_add_iff_left, not_false_eq_true, List.length_cons, List.length_nil, Nat.reduceLT, List.set_cons_zero, List.set_cons_succ, ↓reduceIte, true_and, and_true, Nat.zero_le, opl, onl]
  refine ci_Land (g := 4) (b := b + 59) (by rw [hnew_1, h1]) (by rw [hnew_2, h2]) (by rw [hget_hnew, h1]; exact if_pos rfl) ?_
  intro G2 e1 e2 e3 e4
  refine ⟨e1, e2, ?_⟩
  have old : ∀ k, k < 5 → hget G2 k = hget H k := fun k hk => by
    rw [e4 k (by omega), hget_hnew, h1]
    exact if_neg (by omega)
  have y3 : hget G2 2 = some (.inr (.inr (6, [.ref 3, .int 0, .ref 4, .null, .null, .null, .null, .null, .null, .null, .int 0, .long 0, .null, .null, .null, .null]))) := (old _ (by omega)).trans h3
  simp only [eX6_init_31, pe_putf, y3, put_o, fit_r, List.length_cons, List.length_nil, Nat.reduceAdd, Nat.reduceLT, List.set_cons_zero, List.set_cons_succ, hget_hset, ia_l, ia_s, vin, opl, onl, Int32.reduceLT, Int32.reduceLE, Int32.reduceAdd, Int32.reduceSub, Nat.reduceLT, Nat.reduceAdd, Nat.reduceEqDiff, ↓reduceIte, true_and, and_true, List.length_nil, List.length_cons, Nat.reduceLeDiff, Nat.zero_le]
  refine hn _ ?_ ?_ (hget_self _ _ _) ?_
  · rw [hset_1]; exact e1
  · rw [hset_2]; exact e2
  · have kp : cu G (hset G2 2 (.inr (.inr (6, [.ref 3, .int 0, .ref 4, .ref 5, .null, .null, .null, .null, .null, .null, .int 0, .long 0, .null, .null, .null, .null])))) 5 := hc.kept (by decide) (fun k a e => by rw [hget_ne e]; exact old k a)
    obtain ⟨c0, c1, c2, c3, c4, c5, c6, c7, c8, c9, c10, c11, c12, c13⟩ := kp
    exact ⟨c0, fun _ => c1 (by omega), fun _ => c2 (by omega), fun _ => e3.kept (fun k x y => hget_ne (by omega)), fun z => absurd z (by omega), fun z => absurd z (by omega), fun z => absurd z (by omega), fun z => absurd z (by omega), fun z => absurd z (by omega), fun z => absurd z (by omega), fun z => absurd z (by omega), fun z => absurd z (by omega), fun z => absurd z (by omega), fun z => absurd z (by omega)⟩
set_option maxRecDepth 100000 in
theorem cs_11 {o1 : Option Value} (h1 : H.1 = 9) (h2 : H.2.1 = b + 89) (h3 : hget H 2 = some (.inr (.inr (6, [.ref 3, .int 0, .ref 4, .ref 5, .null, .null, .null, .null, .null, .null, .int 0, .long 0, .null, .null, .null, .null])))) (hc : cu G H 11) (hn : ∀ H', H'.1 = 15 → H'.2.1 = b + 127 → hget H' 2 = some (.inr (.inr (6, [.ref 3, .int 0, .ref 4, .ref 5, .ref 11, .null, .null, .null, .null, .null, .int 0, .long 0, .null, .null, .null, .null]))) → cu G H' 17 → pr (d + 2) 41 (122, b + 739) Q 45 [some (.ref 2), o1] [] H') : pr (d + 2) 41 (122, b + 739) Q 34 [some (.ref 2), o1] [] H := by
  simp only [eX6_init_34, eX6_init_35, eX6_init_38, eX6_init_39, pe_aload_0, pe_callI_0, pe_dup_i, pe_dup_r, pe_new, hnew_1, hnew_2, hset_1, hset_2, hget_hset, hget_hnew, put_o, fit_r, fit_i, h1, h2, h3, Nat.add_assoc, Nat.reduceAdd, Nat.reduceEqDiff, t48, t2, t5, t8, Int32.reduceLT, Nat.reduceLeDiff, Nat.add_le_add_iff_left, not_false_eq_true, List.length_cons, List.length_nil, Nat.reduceLT, List.set_cons_zero, List.set_cons_succ, ↓reduceIte, true_and, and_true, Nat.zero_le, opl, onl]
  refine ci_Land (g := 10) (b := b + 97) (by rw [hnew_1, h1]) (by rw [hnew_2, h2]) (by rw [hget_hnew, h1]; exact if_pos rfl) ?_
  intro G2 e1 e2 e3 e4
  refine ⟨e1, e2, ?_⟩
  have old : ∀ k, k < 11 → hget G2 k = hget H k := fun k hk => by
    rw [e4 k (by omega), hget_hnew, h1]
    exact if_neg (by omega)
  have y3 : hget G2 2 = some (.inr (.inr (6, [.ref 3, .int 0, .ref 4, .ref 5, .null, .null, .null, .null, .null, .null, .int 0, .long 0, .null, .null, .null, .null]))) := (old _ (by omega)).trans h3
  simp only [eX6_init_42, pe_putf, y3, put_o, fit_r, List.length_cons, List.length_nil, Nat.reduceAdd, Nat.reduceLT, List.set_cons_zero, List.set_cons_succ, hget_hset, ia_l, ia_s, vin, opl, onl, Int32.reduceLT, Int32.reduceLE, Int32.reduceAdd, Int32.reduceSub, Nat.reduceLT, Nat.reduceAdd, Nat.reduceEqDiff, ↓reduceIte, true_and, and_true, List.length_nil, List.length_cons, Nat.reduceLeDiff, Nat.zero_le]
  refine hn _ ?_ ?_ (hget_self _ _ _) ?_
  · rw [hset_1]; exact e1
  · rw [hset_2]; exact e2
  · have kp : cu G (hset G2 2 (.inr (.inr (6, [.ref 3, .int 0, .ref 4, .ref 5, .ref 11, .null, .null, .null, .null, .null, .int 0, .long 0, .null, .null, .null, .null])))) 11 := hc.kept (by decide) (fun k a e => by rw [hget_ne e]; exact old k a)
    obtain ⟨c0, c1, c2, c3, c4, c5, c6, c7, c8, c9, c10, c11, c12, c13⟩ := kp
    exact ⟨c0, fun _ => c1 (by omega), fun _ => c2 (by omega), fun _ => c3 (by omega), fun _ => e3.kept (fun k x y => hget_ne (by omega)), fun z => absurd z (by omega), fun z => absurd z (by omega), fun z => absurd z (by omega), fun z => absurd z (by omega), fun z => absurd z (by omega), fun z => absurd z (by omega), fun z => absurd z (by omega), fun z => absurd z (by omega), fun z => absurd z (by omega)⟩
set_option maxRecDepth 100000 in
theorem cs_17 {o1 : Option Value} (h1 : H.1 = 15) (h2 : H.2.1 = b + 127) (h3 : hget H 2 = some (.inr (.inr (6, [.ref 3, .int 0, .ref 4, .ref 5, .ref 11, .null, .null, .null, .null, .null, .int 0, .long 0, .null, .null, .null, .null])))) (hc : cu G H 17) (hn : ∀ H', H'.1 = 17 → H'.2.1 = b + 134 → hget H' 2 = some (.inr (.inr (6, [.ref 3, .int 0, .ref 4, .ref 5, .ref 11, .ref 17, .null, .null, .null, .null, .int 0, .long 0, .null, .null, .null, .null]))) → cu G H' 19 → pr (d + 2) 41 (122, b + 739) Q 56 [some (.ref 2), o1] [] H') : pr (d + 2) 41 (122, b + 739) Q 45 [some (.ref 2), o1] [] H := by
  simp only [eX6_init_45, eX6_init_46, eX6_init_49, eX6_init_50, pe_aload_0, pe_callI_0, pe_dup_i, pe_dup_r, pe_new, hnew_1, hnew_2, hset_1, hset_2, hget_hset, hget_hnew, put_o, fit_r, fit_i, h1, h2, h3, Nat.add_assoc, Nat.reduceAdd, Nat.reduceEqDiff, t48, t2, t5, t8, Int32.reduceLT, Nat.reduceLeDiff, Nat.add_le_add_iff_left, not_false_eq_true, List.length_cons, List.length_nil, Nat.reduceLT, List.set_cons_zero, List.set_cons_succ, ↓reduceIte, true_and, and_true, Nat.zero_le, opl, onl]
  refine ci_Stream (g := 16) (b := b + 128) (by rw [hnew_1, h1]) (by rw [hnew_2, h2]) (by rw [hget_hnew, h1]; exact if_pos rfl) ?_
  intro G2 e1 e2 e3 e4
  refine ⟨e1, e2, ?_⟩
  have old : ∀ k, k < 17 → hget G2 k = hget H k := fun k hk => by
    rw [e4 k (by omega), hget_hnew, h1]
    exact if_neg (by omega)
  have y3 : hget G2 2 = some (.inr (.inr (6, [.ref 3, .int 0, .ref 4, .ref 5, .ref 11, .null, .null, .null, .null, .null, .int 0, .long 0, .null, .null, .null, .null]))) := (old _ (by omega)).trans h3
  simp only [eX6_init_53, pe_putf, y3, put_o, fit_r, List.length_cons, List.length_nil, Nat.reduceAdd, Nat.reduceLT, List.set_cons_zero, List.set_cons_succ, hget_hset, ia_l, ia_s, vin, opl, onl, Int32.reduceLT, Int32.reduceLE, Int32.reduceAdd, Int32.reduceSub, Nat.reduceLT, Nat.reduceAdd, Nat.reduceEqDiff, ↓reduceIte, true_and, and_true, List.length_nil, List.length_cons, Nat.reduceLeDiff, Nat.zero_le]
  refine hn _ ?_ ?_ (hget_self _ _ _) ?_
  · rw [hset_1]; exact e1
  · rw [hset_2]; exact e2
  · have kp : cu G (hset G2 2 (.inr (.inr (6, [.ref 3, .int 0, .ref 4, .ref 5, .ref 11, .ref 17, .null, .null, .null, .null, .int 0, .long 0, .null, .null, .null, .null])))) 17 := hc.kept (by decide) (fun k a e => by rw [hget_ne e]; exact old k a)
    obtain ⟨c0, c1, c2, c3, c4, c5, c6, c7, c8, c9, c10, c11, c12, c13⟩ := kp
    exact ⟨c0, fun _ => c1 (by omega), fun _ => c2 (by omega), fun _ => c3 (by omega), fun _ => c4 (by omega), fun _ => e3.kept (hget_ne (by omega)) (hget_ne (by omega)), fun z => absurd z (by omega), fun z => absurd z (by omega), fun z => absurd z (by omega), fun z => absurd z (by omega), fun z => absurd z (by omega), fun z => absurd z (by omega), fun z => absurd z (by omega), fun z => absurd z (by omega)⟩
set_option maxRecDepth 100000 in
theorem cs_19 {o1 : Option Value} (h1 : H.1 = 17) (h2 : H.2.1 = b + 134) (h3 : hget H 2 = some (.inr (.inr (6, [.ref 3, .int 0, .ref 4, .ref 5, .ref 11, .ref 17, .null, .null, .null, .null, .int 0, .long 0, .null, .null, .null, .null])))) (hc : cu G H 19) (hn : ∀ H', H'.1 = 21 → H'.2.1 = b + 157 → hget H' 2 = some (.inr (.inr (6, [.ref 3, .int 0, .ref 4, .ref 5, .ref 11, .ref 17, .ref 19, .null, .null, .null, .int 0, .long 0, .null, .null, .null, .null]))) → cu G H' 23 → pr (d + 2) 41 (122, b + 739) Q 67 [some (.ref 2), o1] [] H') : pr (d + 2) 41 (122, b + 739) Q 56 [some (.ref 2), o1] [] H := by
  simp only [eX6_init_56, eX6_init_57, eX6_init_60, eX6_init_61, pe_aload_0, pe_callI_0, pe_dup_i, pe_dup_r, pe_new, hnew_1, hnew_2, hset_1, hset_2, hget_hset, hget_hnew, put_o, fit_r, fit_i, h1, h2, h3, Nat.add_assoc, Nat.reduceAdd, Nat.reduceEqDiff, t48, t2, t5, t8, Int32.reduceLT, Nat.reduceLeDiff, Nat.add_le_add_iff_left, not_false_eq_true, List.length_cons, List.length_nil, Nat.reduceLT, List.set_cons_zero, List.set_cons_succ, ↓reduceIte, true_and, and_true, Nat.zero_le, opl, onl]
  refine ci_Scene (g := 18) (b := b + 139) (by rw [hnew_1, h1]) (by rw [hnew_2, h2]) (by rw [hget_hnew, h1]; exact if_pos rfl) ?_
  intro G2 e1 e2 e3 e4
  refine ⟨e1, e2, ?_⟩
  have old : ∀ k, k < 19 → hget G2 k = hget H k := fun k hk => by
    rw [e4 k (by omega), hget_hnew, h1]
    exact if_neg (by omega)
  have y3 : hget G2 2 = some (.inr (.inr (6, [.ref 3, .int 0, .ref 4, .ref 5, .ref 11, .ref 17, .null, .null, .null, .null, .int 0, .long 0, .null, .null, .null, .null]))) := (old _ (by omega)).trans h3
  simp only [eX6_init_64, pe_putf, y3, put_o, fit_r, List.length_cons, List.length_nil, Nat.reduceAdd, Nat.reduceLT, List.set_cons_zero, List.set_cons_succ, hget_hset, ia_l, ia_s, vin, opl, onl, Int32.reduceLT, Int32.reduceLE, Int32.reduceAdd, Int32.reduceSub, Nat.reduceLT, Nat.reduceAdd, Nat.reduceEqDiff, ↓reduceIte, true_and, and_true, List.length_nil, List.length_cons, Nat.reduceLeDiff, Nat.zero_le]
  refine hn _ ?_ ?_ (hget_self _ _ _) ?_
  · rw [hset_1]; exact e1
  · rw [hset_2]; exact e2
  · have kp : cu G (hset G2 2 (.inr (.inr (6, [.ref 3, .int 0, .ref 4, .ref 5, .ref 11, .ref 17, .ref 19, .null, .null, .null, .int 0, .long 0, .null, .null, .null, .null])))) 19 := hc.kept (by decide) (fun k a e => by rw [hget_ne e]; exact old k a)
    obtain ⟨c0, c1, c2, c3, c4, c5, c6, c7, c8, c9, c10, c11, c12, c13⟩ := kp
    exact ⟨c0, fun _ => c1 (by omega), fun _ => c2 (by omega), fun _ => c3 (by omega), fun _ => c4 (by omega), fun _ => c5 (by omega), fun _ => e3.kept (fun k x y => hget_ne (by omega)), fun z => absurd z (by omega), fun z => absurd z (by omega), fun z => absurd z (by omega), fun z => absurd z (by omega), fun z => absurd z (by omega), fun z => absurd z (by omega), fun z => absurd z (by omega)⟩
set_option maxRecDepth 100000 in
theorem cs_23 {o1 : Option Value} (h1 : H.1 = 21) (h2 : H.2.1 = b + 157) (h3 : hget H 2 = some (.inr (.inr (6, [.ref 3, .int 0, .ref 4, .ref 5, .ref 11, .ref 17, .ref 19, .null, .null, .null, .int 0, .long 0, .null, .null, .null, .null])))) (hc : cu G H 23) (hn : ∀ H', H'.1 = 79 → H'.2.1 = b + 495 → hget H' 2 = some (.inr (.inr (6, [.ref 3, .int 0, .ref 4, .ref 5, .ref 11, .ref 17, .ref 19, .ref 23, .null, .null, .int 0, .long 0, .null, .null, .null, .null]))) → cu G H' 81 → pr (d + 2) 41 (122, b + 739) Q 78 [some (.ref 2), o1] [] H') : pr (d + 2) 41 (122, b + 739) Q 67 [some (.ref 2), o1] [] H := by
  simp only [eX6_init_67, eX6_init_68, eX6_init_71, eX6_init_72, pe_aload_0, pe_callI_0, pe_dup_i, pe_dup_r, pe_new, hnew_1, hnew_2, hset_1, hset_2, hget_hset, hget_hnew, put_o, fit_r, fit_i, h1, h2, h3, Nat.add_assoc, Nat.reduceAdd, Nat.reduceEqDiff, t48, t2, t5, t8, Int32.reduceLT, Nat.reduceLeDiff, Nat.add_le_add_iff_left, not_false_eq_true, List.length_cons, List.length_nil, Nat.reduceLT, List.set_cons_zero, List.set_cons_succ, ↓reduceIte, true_and, and_true, Nat.zero_le, opl, onl]
  refine ci_Acts (b := b + 159) (by rw [hnew_1, h1]) (by rw [hnew_2, h2]) (by rw [hget_hnew, h1]; exact if_pos rfl) ?_
  intro G2 e1 e2 e3 e4
  refine ⟨e1, e2, ?_⟩
  have old : ∀ k, k < 23 → hget G2 k = hget H k := fun k hk => by
    rw [e4 k (by omega), hget_hnew, h1]
    exact if_neg (by omega)
  have y3 : hget G2 2 = some (.inr (.inr (6, [.ref 3, .int 0, .ref 4, .ref 5, .ref 11, .ref 17, .ref 19, .null, .null, .null, .int 0, .long 0, .null, .null, .null, .null]))) := (old _ (by omega)).trans h3
  simp only [eX6_init_75, pe_putf, y3, put_o, fit_r, List.length_cons, List.length_nil, Nat.reduceAdd, Nat.reduceLT, List.set_cons_zero, List.set_cons_succ, hget_hset, ia_l, ia_s, vin, opl, onl, Int32.reduceLT, Int32.reduceLE, Int32.reduceAdd, Int32.reduceSub, Nat.reduceLT, Nat.reduceAdd, Nat.reduceEqDiff, ↓reduceIte, true_and, and_true, List.length_nil, List.length_cons, Nat.reduceLeDiff, Nat.zero_le]
  refine hn _ ?_ ?_ (hget_self _ _ _) ?_
  · rw [hset_1]; exact e1
  · rw [hset_2]; exact e2
  · have kp : cu G (hset G2 2 (.inr (.inr (6, [.ref 3, .int 0, .ref 4, .ref 5, .ref 11, .ref 17, .ref 19, .ref 23, .null, .null, .int 0, .long 0, .null, .null, .null, .null])))) 23 := hc.kept (by decide) (fun k a e => by rw [hget_ne e]; exact old k a)
    obtain ⟨c0, c1, c2, c3, c4, c5, c6, c7, c8, c9, c10, c11, c12, c13⟩ := kp
    exact ⟨c0, fun _ => c1 (by omega), fun _ => c2 (by omega), fun _ => c3 (by omega), fun _ => c4 (by omega), fun _ => c5 (by omega), fun _ => c6 (by omega), fun _ => e3.kept (fun k x y => hget_ne (by omega)), fun z => absurd z (by omega), fun z => absurd z (by omega), fun z => absurd z (by omega), fun z => absurd z (by omega), fun z => absurd z (by omega), fun z => absurd z (by omega)⟩
set_option maxRecDepth 100000 in
theorem cs_81 {o1 : Option Value} (h1 : H.1 = 79) (h2 : H.2.1 = b + 495) (h3 : hget H 2 = some (.inr (.inr (6, [.ref 3, .int 0, .ref 4, .ref 5, .ref 11, .ref 17, .ref 19, .ref 23, .null, .null, .int 0, .long 0, .null, .null, .null, .null])))) (hc : cu G H 81) (hn : ∀ H', H'.1 = 83 → H'.2.1 = b + 517 → hget H' 2 = some (.inr (.inr (6, [.ref 3, .int 0, .ref 4, .ref 5, .ref 11, .ref 17, .ref 19, .ref 23, .ref 81, .null, .int 0, .long 0, .null, .null, .null, .null]))) → cu G H' 85 → pr (d + 2) 41 (122, b + 739) Q 89 [some (.ref 2), o1] [] H') : pr (d + 2) 41 (122, b + 739) Q 78 [some (.ref 2), o1] [] H := by
  simp only [eX6_init_78, eX6_init_79, eX6_init_82, eX6_init_83, pe_aload_0, pe_callI_0, pe_dup_i, pe_dup_r, pe_new, hnew_1, hnew_2, hset_1, hset_2, hget_hset, hget_hnew, put_o, fit_r, fit_i, h1, h2, h3, Nat.add_assoc, Nat.reduceAdd, Nat.reduceEqDiff, t48, t2, t5, t8, Int32.reduceLT, Nat.reduceLeDiff, Nat.add_le_add_iff_left, not_false_eq_true, List.length_cons, List.length_nil, Nat.reduceLT, List.set_cons_zero, List.set_cons_succ, ↓reduceIte, true_and, and_true, Nat.zero_le, opl, onl]
  refine ci_Sight (g := 80) (b := b + 499) (by rw [hnew_1, h1]) (by rw [hnew_2, h2]) (by rw [hget_hnew, h1]; exact if_pos rfl) ?_
  intro G2 e1 e2 e3 e4
  refine ⟨e1, e2, ?_⟩
  have old : ∀ k, k < 81 → hget G2 k = hget H k := fun k hk => by
    rw [e4 k (by omega), hget_hnew, h1]
    exact if_neg (by omega)
  have y3 : hget G2 2 = some (.inr (.inr (6, [.ref 3, .int 0, .ref 4, .ref 5, .ref 11, .ref 17, .ref 19, .ref 23, .null, .null, .int 0, .long 0, .null, .null, .null, .null]))) := (old _ (by omega)).trans h3
  simp only [eX6_init_86, pe_putf, y3, put_o, fit_r, List.length_cons, List.length_nil, Nat.reduceAdd, Nat.reduceLT, List.set_cons_zero, List.set_cons_succ, hget_hset, ia_l, ia_s, vin, opl, onl, Int32.reduceLT, Int32.reduceLE, Int32.reduceAdd, Int32.reduceSub, Nat.reduceLT, Nat.reduceAdd, Nat.reduceEqDiff, ↓reduceIte, true_and, and_true, List.length_nil, List.length_cons, Nat.reduceLeDiff, Nat.zero_le]
  refine hn _ ?_ ?_ (hget_self _ _ _) ?_
  · rw [hset_1]; exact e1
  · rw [hset_2]; exact e2
  · have kp : cu G (hset G2 2 (.inr (.inr (6, [.ref 3, .int 0, .ref 4, .ref 5, .ref 11, .ref 17, .ref 19, .ref 23, .ref 81, .null, .int 0, .long 0, .null, .null, .null, .null])))) 81 := hc.kept (by decide) (fun k a e => by rw [hget_ne e]; exact old k a)
    obtain ⟨c0, c1, c2, c3, c4, c5, c6, c7, c8, c9, c10, c11, c12, c13⟩ := kp
    exact ⟨c0, fun _ => c1 (by omega), fun _ => c2 (by omega), fun _ => c3 (by omega), fun _ => c4 (by omega), fun _ => c5 (by omega), fun _ => c6 (by omega), fun _ => c7 (by omega), fun _ => ⟨(hget_ne (by omega)).trans e3.1, (hget_ne (by omega)).trans e3.2.1, (hget_ne (by omega)).trans e3.2.2.1, (hget_ne (by omega)).trans e3.2.2.2, by omega⟩, fun z => absurd z (by omega), fun z => absurd z (by omega), fun z => absurd z (by omega), fun z => absurd z (by omega), fun z => absurd z (by omega)⟩
set_option maxRecDepth 100000 in
theorem cs_85 {o1 : Option Value} (h1 : H.1 = 83) (h2 : H.2.1 = b + 517) (h3 : hget H 2 = some (.inr (.inr (6, [.ref 3, .int 0, .ref 4, .ref 5, .ref 11, .ref 17, .ref 19, .ref 23, .ref 81, .null, .int 0, .long 0, .null, .null, .null, .null])))) (hc : cu G H 85) (hn : ∀ H', H'.1 = 84 → H'.2.1 = b + 519 → hget H' 2 = some (.inr (.inr (6, [.ref 3, .int 0, .ref 4, .ref 5, .ref 11, .ref 17, .ref 19, .ref 23, .ref 81, .ref 85, .int 0, .long 0, .null, .null, .null, .null]))) → cu G H' 86 → pr (d + 2) 41 (122, b + 739) Q 97 [some (.ref 2), o1] [] H') : pr (d + 2) 41 (122, b + 739) Q 89 [some (.ref 2), o1] [] H := by
  simp only [eX6_init_89, eX6_init_90, eX6_init_91, eX6_init_94, pe_aload_0, pe_anew, pe_const, pe_putf, hnew_1, hnew_2, hset_1, hset_2, hget_hset, hget_hnew, put_o, fit_r, fit_i, h1, h2, h3, Nat.add_assoc, Nat.reduceAdd, Nat.reduceEqDiff, t48, t2, t5, t8, Int32.reduceLT, Nat.reduceLeDiff, Nat.add_le_add_iff_left, not_false_eq_true, List.length_cons, List.length_nil, Nat.reduceLT, List.set_cons_zero, List.set_cons_succ, ↓reduceIte, true_and, and_true, Nat.zero_le, opl, onl]
  refine hn _ ?_ ?_ (hget_self _ _ _) ?_
  · rw [hset_1, hnew_1, h1]
  · rw [hset_2, hnew_2, h2]
  · have kp : cu G (hset (hnew H 2 (c_ra 2 (fun _ => none))) 2 (.inr (.inr (6, [.ref 3, .int 0, .ref 4, .ref 5, .ref 11, .ref 17, .ref 19, .ref 23, .ref 81, .ref 85, .int 0, .long 0, .null, .null, .null, .null])))) 85 := hc.kept (by decide) (fun k a e => by rw [hget_ne e, hget_hnew, h1]; exact if_neg (by omega))
    have nw : hget (hset (hnew H 2 (c_ra 2 (fun _ => none))) 2 (.inr (.inr (6, [.ref 3, .int 0, .ref 4, .ref 5, .ref 11, .ref 17, .ref 19, .ref 23, .ref 81, .ref 85, .int 0, .long 0, .null, .null, .null, .null])))) 85 = some (c_ra 2 (fun _ => none)) := by rw [hget_ne (by omega), hget_hnew, h1]; exact if_pos rfl
    obtain ⟨c0, c1, c2, c3, c4, c5, c6, c7, c8, c9, c10, c11, c12, c13⟩ := kp
    exact ⟨c0, fun _ => c1 (by omega), fun _ => c2 (by omega), fun _ => c3 (by omega), fun _ => c4 (by omega), fun _ => c5 (by omega), fun _ => c6 (by omega), fun _ => c7 (by omega), fun _ => c8 (by omega), fun _ => nw, fun z => absurd z (by omega), fun z => absurd z (by omega), fun z => absurd z (by omega), fun z => absurd z (by omega)⟩
set_option maxRecDepth 100000 in
theorem cs_86 {o1 : Option Value} (h1 : H.1 = 84) (h2 : H.2.1 = b + 519) (h3 : hget H 2 = some (.inr (.inr (6, [.ref 3, .int 0, .ref 4, .ref 5, .ref 11, .ref 17, .ref 19, .ref 23, .ref 81, .ref 85, .int 0, .long 0, .null, .null, .null, .null])))) (hc : cu G H 86) (hn : ∀ H', H'.1 = 88 → H'.2.1 = b + 542 → hget H' 2 = some (.inr (.inr (6, [.ref 3, .int 0, .ref 4, .ref 5, .ref 11, .ref 17, .ref 19, .ref 23, .ref 81, .ref 85, .int 0, .long 0, .ref 86, .null, .null, .null]))) → cu G H' 90 → pr (d + 2) 41 (122, b + 739) Q 108 [some (.ref 2), o1] [] H') : pr (d + 2) 41 (122, b + 739) Q 97 [some (.ref 2), o1] [] H := by
  simp only [eX6_init_97, eX6_init_98, eX6_init_101, eX6_init_102, pe_aload_0, pe_callI_0, pe_dup_i, pe_dup_r, pe_new, hnew_1, hnew_2, hset_1, hset_2, hget_hset, hget_hnew, put_o, fit_r, fit_i, h1, h2, h3, Nat.add_assoc, Nat.reduceAdd, Nat.reduceEqDiff, t48, t2, t5, t8, Int32.reduceLT, Nat.reduceLeDiff, Nat.add_le_add_iff_left, not_false_eq_true, List.length_cons, List.length_nil, Nat.reduceLT, List.set_cons_zero, List.set_cons_succ, ↓reduceIte, true_and, and_true, Nat.zero_le, opl, onl]
  refine ci_Scene (g := 85) (b := b + 524) (by rw [hnew_1, h1]) (by rw [hnew_2, h2]) (by rw [hget_hnew, h1]; exact if_pos rfl) ?_
  intro G2 e1 e2 e3 e4
  refine ⟨e1, e2, ?_⟩
  have old : ∀ k, k < 86 → hget G2 k = hget H k := fun k hk => by
    rw [e4 k (by omega), hget_hnew, h1]
    exact if_neg (by omega)
  have y3 : hget G2 2 = some (.inr (.inr (6, [.ref 3, .int 0, .ref 4, .ref 5, .ref 11, .ref 17, .ref 19, .ref 23, .ref 81, .ref 85, .int 0, .long 0, .null, .null, .null, .null]))) := (old _ (by omega)).trans h3
  simp only [eX6_init_105, pe_putf, y3, put_o, fit_r, List.length_cons, List.length_nil, Nat.reduceAdd, Nat.reduceLT, List.set_cons_zero, List.set_cons_succ, hget_hset, ia_l, ia_s, vin, opl, onl, Int32.reduceLT, Int32.reduceLE, Int32.reduceAdd, Int32.reduceSub, Nat.reduceLT, Nat.reduceAdd, Nat.reduceEqDiff, ↓reduceIte, true_and, and_true, List.length_nil, List.length_cons, Nat.reduceLeDiff, Nat.zero_le]
  refine hn _ ?_ ?_ (hget_self _ _ _) ?_
  · rw [hset_1]; exact e1
  · rw [hset_2]; exact e2
  · have kp : cu G (hset G2 2 (.inr (.inr (6, [.ref 3, .int 0, .ref 4, .ref 5, .ref 11, .ref 17, .ref 19, .ref 23, .ref 81, .ref 85, .int 0, .long 0, .ref 86, .null, .null, .null])))) 86 := hc.kept (by decide) (fun k a e => by rw [hget_ne e]; exact old k a)
    obtain ⟨c0, c1, c2, c3, c4, c5, c6, c7, c8, c9, c10, c11, c12, c13⟩ := kp
    exact ⟨c0, fun _ => c1 (by omega), fun _ => c2 (by omega), fun _ => c3 (by omega), fun _ => c4 (by omega), fun _ => c5 (by omega), fun _ => c6 (by omega), fun _ => c7 (by omega), fun _ => c8 (by omega), fun _ => c9 (by omega), fun _ => e3.kept (fun k x y => hget_ne (by omega)), fun z => absurd z (by omega), fun z => absurd z (by omega), fun z => absurd z (by omega)⟩
set_option maxRecDepth 100000 in
theorem cs_90 {o1 : Option Value} (h1 : H.1 = 88) (h2 : H.2.1 = b + 542) (h3 : hget H 2 = some (.inr (.inr (6, [.ref 3, .int 0, .ref 4, .ref 5, .ref 11, .ref 17, .ref 19, .ref 23, .ref 81, .ref 85, .int 0, .long 0, .ref 86, .null, .null, .null])))) (hc : cu G H 90) (hn : ∀ H', H'.1 = 92 → H'.2.1 = b + 565 → hget H' 2 = some (.inr (.inr (6, [.ref 3, .int 0, .ref 4, .ref 5, .ref 11, .ref 17, .ref 19, .ref 23, .ref 81, .ref 85, .int 0, .long 0, .ref 86, .ref 90, .null, .null]))) → cu G H' 94 → pr (d + 2) 41 (122, b + 739) Q 119 [some (.ref 2), o1] [] H') : pr (d + 2) 41 (122, b + 739) Q 108 [some (.ref 2), o1] [] H := by
  simp only [eX6_init_108, eX6_init_109, eX6_init_112, eX6_init_113, pe_aload_0, pe_callI_0, pe_dup_i, pe_dup_r, pe_new, hnew_1, hnew_2, hset_1, hset_2, hget_hset, hget_hnew, put_o, fit_r, fit_i, h1, h2, h3, Nat.add_assoc, Nat.reduceAdd, Nat.reduceEqDiff, t48, t2, t5, t8, Int32.reduceLT, Nat.reduceLeDiff, Nat.add_le_add_iff_left, not_false_eq_true, List.length_cons, List.length_nil, Nat.reduceLT, List.set_cons_zero, List.set_cons_succ, ↓reduceIte, true_and, and_true, Nat.zero_le, opl, onl]
  refine ci_Scene (g := 89) (b := b + 547) (by rw [hnew_1, h1]) (by rw [hnew_2, h2]) (by rw [hget_hnew, h1]; exact if_pos rfl) ?_
  intro G2 e1 e2 e3 e4
  refine ⟨e1, e2, ?_⟩
  have old : ∀ k, k < 90 → hget G2 k = hget H k := fun k hk => by
    rw [e4 k (by omega), hget_hnew, h1]
    exact if_neg (by omega)
  have y3 : hget G2 2 = some (.inr (.inr (6, [.ref 3, .int 0, .ref 4, .ref 5, .ref 11, .ref 17, .ref 19, .ref 23, .ref 81, .ref 85, .int 0, .long 0, .ref 86, .null, .null, .null]))) := (old _ (by omega)).trans h3
  simp only [eX6_init_116, pe_putf, y3, put_o, fit_r, List.length_cons, List.length_nil, Nat.reduceAdd, Nat.reduceLT, List.set_cons_zero, List.set_cons_succ, hget_hset, ia_l, ia_s, vin, opl, onl, Int32.reduceLT, Int32.reduceLE, Int32.reduceAdd, Int32.reduceSub, Nat.reduceLT, Nat.reduceAdd, Nat.reduceEqDiff, ↓reduceIte, true_and, and_true, List.length_nil, List.length_cons, Nat.reduceLeDiff, Nat.zero_le]
  refine hn _ ?_ ?_ (hget_self _ _ _) ?_
  · rw [hset_1]; exact e1
  · rw [hset_2]; exact e2
  · have kp : cu G (hset G2 2 (.inr (.inr (6, [.ref 3, .int 0, .ref 4, .ref 5, .ref 11, .ref 17, .ref 19, .ref 23, .ref 81, .ref 85, .int 0, .long 0, .ref 86, .ref 90, .null, .null])))) 90 := hc.kept (by decide) (fun k a e => by rw [hget_ne e]; exact old k a)
    obtain ⟨c0, c1, c2, c3, c4, c5, c6, c7, c8, c9, c10, c11, c12, c13⟩ := kp
    exact ⟨c0, fun _ => c1 (by omega), fun _ => c2 (by omega), fun _ => c3 (by omega), fun _ => c4 (by omega), fun _ => c5 (by omega), fun _ => c6 (by omega), fun _ => c7 (by omega), fun _ => c8 (by omega), fun _ => c9 (by omega), fun _ => c10 (by omega), fun _ => e3.kept (fun k x y => hget_ne (by omega)), fun z => absurd z (by omega), fun z => absurd z (by omega)⟩
set_option maxRecDepth 100000 in
theorem cs_94 {o1 : Option Value} (h1 : H.1 = 92) (h2 : H.2.1 = b + 565) (h3 : hget H 2 = some (.inr (.inr (6, [.ref 3, .int 0, .ref 4, .ref 5, .ref 11, .ref 17, .ref 19, .ref 23, .ref 81, .ref 85, .int 0, .long 0, .ref 86, .ref 90, .null, .null])))) (hc : cu G H 94) (hn : ∀ H', H'.1 = 93 → H'.2.1 = b + 570 → hget H' 2 = some (.inr (.inr (6, [.ref 3, .int 0, .ref 4, .ref 5, .ref 11, .ref 17, .ref 19, .ref 23, .ref 81, .ref 85, .int 0, .long 0, .ref 86, .ref 90, .ref 94, .null]))) → cu G H' 95 → pr (d + 2) 41 (122, b + 739) Q 127 [some (.ref 2), o1] [] H') : pr (d + 2) 41 (122, b + 739) Q 119 [some (.ref 2), o1] [] H := by
  simp only [eX6_init_119, eX6_init_120, eX6_init_121, eX6_init_124, pe_aload_0, pe_anew, pe_const, pe_putf, hnew_1, hnew_2, hset_1, hset_2, hget_hset, hget_hnew, put_o, fit_r, fit_i, h1, h2, h3, Nat.add_assoc, Nat.reduceAdd, Nat.reduceEqDiff, t48, t2, t5, t8, Int32.reduceLT, Nat.reduceLeDiff, Nat.add_le_add_iff_left, not_false_eq_true, List.length_cons, List.length_nil, Nat.reduceLT, List.set_cons_zero, List.set_cons_succ, ↓reduceIte, true_and, and_true, Nat.zero_le, opl, onl]
  refine hn _ ?_ ?_ (hget_self _ _ _) ?_
  · rw [hset_1, hnew_1, h1]
  · rw [hset_2, hnew_2, h2]
  · have kp : cu G (hset (hnew H 5 (c_ra 5 (fun _ => none))) 2 (.inr (.inr (6, [.ref 3, .int 0, .ref 4, .ref 5, .ref 11, .ref 17, .ref 19, .ref 23, .ref 81, .ref 85, .int 0, .long 0, .ref 86, .ref 90, .ref 94, .null])))) 94 := hc.kept (by decide) (fun k a e => by rw [hget_ne e, hget_hnew, h1]; exact if_neg (by omega))
    have nw : hget (hset (hnew H 5 (c_ra 5 (fun _ => none))) 2 (.inr (.inr (6, [.ref 3, .int 0, .ref 4, .ref 5, .ref 11, .ref 17, .ref 19, .ref 23, .ref 81, .ref 85, .int 0, .long 0, .ref 86, .ref 90, .ref 94, .null])))) 94 = some (c_ra 5 (fun _ => none)) := by rw [hget_ne (by omega), hget_hnew, h1]; exact if_pos rfl
    obtain ⟨c0, c1, c2, c3, c4, c5, c6, c7, c8, c9, c10, c11, c12, c13⟩ := kp
    exact ⟨c0, fun _ => c1 (by omega), fun _ => c2 (by omega), fun _ => c3 (by omega), fun _ => c4 (by omega), fun _ => c5 (by omega), fun _ => c6 (by omega), fun _ => c7 (by omega), fun _ => c8 (by omega), fun _ => c9 (by omega), fun _ => c10 (by omega), fun _ => c11 (by omega), fun _ => nw, fun z => absurd z (by omega)⟩
set_option maxRecDepth 100000 in
theorem cs_95 {o1 : Option Value} (h1 : H.1 = 93) (h2 : H.2.1 = b + 570) (h3 : hget H 2 = some (.inr (.inr (6, [.ref 3, .int 0, .ref 4, .ref 5, .ref 11, .ref 17, .ref 19, .ref 23, .ref 81, .ref 85, .int 0, .long 0, .ref 86, .ref 90, .ref 94, .null])))) (hc : cu G H 95) (hn : ∀ H', H'.1 = 94 → H'.2.1 = b + 578 → hget H' 2 = some (.inr (.inr (6, [.ref 3, .int 0, .ref 4, .ref 5, .ref 11, .ref 17, .ref 19, .ref 23, .ref 81, .ref 85, .int 0, .long 0, .ref 86, .ref 90, .ref 94, .ref 95]))) → cu G H' 96 → pr (d + 2) 41 (122, b + 739) Q 135 [some (.ref 2), o1] [] H') : pr (d + 2) 41 (122, b + 739) Q 127 [some (.ref 2), o1] [] H := by
  simp only [eX6_init_127, eX6_init_128, eX6_init_130, eX6_init_132, pe_aload_0, pe_const, pe_newa, pe_putf, hnew_1, hnew_2, hset_1, hset_2, hget_hset, hget_hnew, put_o, fit_r, fit_i, h1, h2, h3, Nat.add_assoc, Nat.reduceAdd, Nat.reduceEqDiff, t48, t2, t5, t8, Int32.reduceLT, Nat.reduceLeDiff, Nat.add_le_add_iff_left, not_false_eq_true, List.length_cons, List.length_nil, Nat.reduceLT, List.set_cons_zero, List.set_cons_succ, ↓reduceIte, true_and, and_true, Nat.zero_le, opl, onl]
  refine hn _ ?_ ?_ (hget_self _ _ _) ?_
  · rw [hset_1, hnew_1, h1]
  · rw [hset_2, hnew_2, h2]
  · have kp : cu G (hset (hnew H 8 (c_ia 8 zz)) 2 (.inr (.inr (6, [.ref 3, .int 0, .ref 4, .ref 5, .ref 11, .ref 17, .ref 19, .ref 23, .ref 81, .ref 85, .int 0, .long 0, .ref 86, .ref 90, .ref 94, .ref 95])))) 95 := hc.kept (by decide) (fun k a e => by rw [hget_ne e, hget_hnew, h1]; exact if_neg (by omega))
    have nw : hget (hset (hnew H 8 (c_ia 8 zz)) 2 (.inr (.inr (6, [.ref 3, .int 0, .ref 4, .ref 5, .ref 11, .ref 17, .ref 19, .ref 23, .ref 81, .ref 85, .int 0, .long 0, .ref 86, .ref 90, .ref 94, .ref 95])))) 95 = some (c_ia 8 zz) := by rw [hget_ne (by omega), hget_hnew, h1]; exact if_pos rfl
    obtain ⟨c0, c1, c2, c3, c4, c5, c6, c7, c8, c9, c10, c11, c12, c13⟩ := kp
    exact ⟨c0, fun _ => c1 (by omega), fun _ => c2 (by omega), fun _ => c3 (by omega), fun _ => c4 (by omega), fun _ => c5 (by omega), fun _ => c6 (by omega), fun _ => c7 (by omega), fun _ => c8 (by omega), fun _ => c9 (by omega), fun _ => c10 (by omega), fun _ => c11 (by omega), fun _ => c12 (by omega), fun _ => nw⟩
end CK
