/-! ===== the constructor of the acts ===== -/
section CJ
variable {d b : Nat} {G : px_H} {Q : px_Q}
set_option maxRecDepth 100000 in
theorem ci_Acts (hg : G.1 = 22) (hb : G.2.1 = b) (h : hget G 23 = some (.inr (.inr (0, [.null, .int 0])))) (hQ : ∀ G', G'.1 = 79 → G'.2.1 = b + 336 → isA G' 0 (fun _ => zz) → (∀ k, (k < 23 ∨ 81 ≤ k) → hget G' k = hget G k) → Q none G') : pcal (d + 2) 0 [.ref 23] G Q := by
  refine inX0_init ?_
  have e57 : (G.1 + 57, G.2.1 + 336) = (79, b + 336) := by rw [hg, hb]
  rw [e57]
  have key : ∀ j i H r, i + j = 14 → H.1 = 23 + 4 * i → H.2.1 = b + 14 + 23 * i → hget H 23 = some (c_ac 23 0) → hget H 24 = some (c_ra 14 r) → (∀ m, m < i → r m = some (25 + 4 * m) ∧ isS H (25 + 4 * m) zz) → (∀ k, (k < 23 ∨ 81 ≤ k) → hget H k = hget G k) → pr (d + 1) 0 (79, b + 336) Q 15 [some (.ref 23), some (.int (nI i))] [] H := by
    intro j
    induction j with
    | zero =>
      intro i H r hi k1 k2 k3 k4 k5 k6
      obtain rfl : i = 14 := by omega
      have c1 : ¬ nI 14 < 14 := by decide
      simp only [eX0_init_15, eX0_init_16, eX0_init_18, eX0_init_40, pe_const, pe_iclt, pe_iload_1, pe_vret, c1, hget_hset, ia_l, ia_s, vin, opl, onl, Int32.reduceLT, Int32.reduceLE, Int32.reduceAdd, Int32.reduceSub, Nat.reduceLT, Nat.reduceAdd, Nat.reduceEqDiff, ↓reduceIte, true_and, and_true, List.length_nil, List.length_cons, Nat.reduceLeDiff, Nat.zero_le]
      refine hQ H (by omega) (by omega) ⟨k3, by omega, r, fun m => m, k4, fun m hm => ⟨(k5 m hm).1, hm, zz, (k5 m hm).2⟩, fun _ _ _ _ e => e, fun m hm => by omega⟩ k6
    | succ j ih =>
      intro i H r hi k1 k2 k3 k4 k5 k6
      have c1 : nI i < 14 := nI_lt (b := 14) (by omega) (by omega)
      have c2 : (nI i).toNatClampNeg = i := nI_clamp (by omega)
      have c3 : 0 ≤ nI i := nI_pos' (by omega)
      have c4 : i < 14 := by omega
      have l1 : 23 + 4 * i + 1 ≤ 79 := by omega
      have l2 : b + 14 + 23 * i + 5 ≤ b + 336 := by omega
      have l3 : 23 + 4 * i + 1 + 3 ≤ 79 := by omega
      have l4 : b + 14 + 23 * i + 5 + 18 ≤ b + 336 := by omega
      rw [eX0_init_15]
      simp only [eX0_init_16, eX0_init_18, eX0_init_21, eX0_init_22, eX0_init_25, eX0_init_26, eX0_init_29, eX0_init_30, pe_aload_0, pe_callI_0, pe_const, pe_dup_i, pe_dup_r, pe_getf, pe_iclt, pe_iload_1, pe_new, k1, k2, k3, ac_g0, hg, hb, hnew_1, hnew_2, c1, l1, l2, l3, l4, hget_hset, ia_l, ia_s, vin, opl, onl, Int32.reduceLT, Int32.reduceLE, Int32.reduceAdd, Int32.reduceSub, Nat.reduceLT, Nat.reduceAdd, Nat.reduceEqDiff, ↓reduceIte, true_and, and_true, List.length_nil, List.length_cons, Nat.reduceLeDiff, Nat.zero_le]
      refine ci_Scene (g := 23 + 4 * i + 1) (b := b + 14 + 23 * i + 5) (by rw [hnew_1, k1]) (by rw [hnew_2, k2]) (by rw [hget_hnew, k1]; exact if_pos rfl) ?_
      intro G2 e1 e2 e3 e4
      refine ⟨e1, e2, ?_⟩
      have old : ∀ k, k < 25 + 4 * i → hget G2 k = hget H k := fun k hk => by
        rw [e4 k (by omega), hget_hnew, k1]
        exact if_neg (by omega)
      have y1 : hget G2 24 = some (c_ra 14 r) := (old _ (by omega)).trans k4
      have y2 : hget G2 (23 + 4 * i + 2) = some (c_sc (23 + 4 * i + 1 + 1) 0 0) := e3.obj
      simp only [eX0_init_33, eX0_init_34, eX0_init_37, pe_aast, pe_goto, pe_iinc_1, y1, y2, ra_s, c2, c3, c4, nisw, hget_hset, ia_l, ia_s, vin, opl, onl, Int32.reduceLT, Int32.reduceLE, Int32.reduceAdd, Int32.reduceSub, Nat.reduceLT, Nat.reduceAdd, Nat.reduceEqDiff, ↓reduceIte, true_and, and_true, List.length_nil, List.length_cons, Nat.reduceLeDiff, Nat.zero_le]
      refine ih (i + 1) _ _ (by omega) (by rw [hset_1]; omega) (by rw [hset_2]; omega) ((hget_ne (by omega)).trans ((old _ (by omega)).trans k3)) (hget_self _ _ _) (fun m hm => ?_) (fun k hk => ?_)
      · unfold va_up
        by_cases e : m = i
        · subst e
          refine ⟨by rw [if_pos rfl, show 23 + 4 * m + 2 = 25 + 4 * m by omega], ?_⟩
          have := e3
          rw [show 23 + 4 * m + 1 + 1 = 25 + 4 * m by omega] at this
          exact this.kept (fun k _ _ => hget_ne (by omega))
        · rw [if_neg e]
          refine ⟨(k5 m (by omega)).1, (k5 m (by omega)).2.kept (fun k _ _ => ?_)⟩
          rw [hget_ne (by omega)]
          exact old k (by omega)
      · rw [hget_ne (by omega), e4 k (by omega), hget_hnew, k1, if_neg (by omega)]
        exact k6 k hk
  have lA : (0 : Int32).toNatClampNeg = 0 := by decide
  have l1 : 22 + 1 ≤ 79 := by omega
  have l2 : b + 14 ≤ b + 336 := by omega
  simp only [eX0_init_0, eX0_init_1, eX0_init_4, eX0_init_5, eX0_init_7, eX0_init_10, eX0_init_13, eX0_init_14, pe_aload_0, pe_anew, pe_const, pe_istore_1, pe_oini, pe_putf, h, hg, hb, hnew_1, hnew_2, hset_1, hset_2, hget_hset, hget_hnew, put_o, fit_r, t14, l1, l2, not_false_eq_true, Nat.reduceAdd, List.set_cons_zero, List.set_cons_succ, hget_hset, ia_l, ia_s, vin, opl, onl, Int32.reduceLT, Int32.reduceLE, Int32.reduceAdd, Int32.reduceSub, Nat.reduceLT, Nat.reduceAdd, Nat.reduceEqDiff, ↓reduceIte, true_and, and_true, List.length_nil, List.length_cons, Nat.reduceLeDiff, Nat.zero_le]
  refine key 14 0 _ (fun _ => none) (by omega) ?_ ?_ ?_ ?_ (fun m hm => by omega) (fun k hk => ?_)
  · rw [hset_1, hnew_1, hg]
  · rw [hset_2, hnew_2, hb]
  · rw [hget_self]; rfl
  · rw [hget_ne (by omega), hget_hnew, hg]
    exact if_pos rfl
  · rw [hget_ne (by omega), hget_hnew, hg, if_neg (by omega)]
end CJ
