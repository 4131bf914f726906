/-! ===== the law from its entry, on the plain machine ===== -/
section LS
variable {d len : Nat} {Q : px_Q} {G : px_H} {sc : Nat → Int32}
theorem wfL_00 : wfL K00 := wfL_cl K00
theorem pI_00 : pI 0 s00 := ⟨by omega, by omega, wfL_v wfL_00, gS_begin wfL_00 (by omega), fun i hi => absurd hi (Nat.not_lt_zero i), fun i hi => absurd hi (Nat.not_lt_zero i), fun z => absurd z (by decide), fun z => absurd z (by decide)⟩
theorem aBg_00 : ∀ j, j < 20 → aBg K00 j = if j < 12 then 0 else if j < 18 then -9 else 0 := by decide +kernel
set_option maxRecDepth 100000 in
theorem law_all (hl : len ≤ 256) (hg : G.1 = 0) (hb : G.2.1 = 0) (h0 : hget G 0 = some (c_ro len sc)) (h1 : hget G 1 = some (c_ro 7 px_fac)) (hQ : ∀ G, Q (some (.int 1)) G) : prL (d + 12) (600000, 7302250) Q 0 [some (.ref 0), none, none, none] [] G := by
  simp only [eL_law_0, eL_law_3, eL_law_4, pe_callI_0, pe_dup_i, pe_dup_r, pe_new, hg, hb, hnew_1, hnew_2, hget_hset, ia_l, ia_s, vin, opl, onl, Int32.reduceLT, Int32.reduceLE, Int32.reduceAdd, Int32.reduceSub, Nat.reduceLT, Nat.reduceAdd, Nat.reduceEqDiff, ↓reduceIte, true_and, and_true, List.length_nil, List.length_cons, Nat.reduceLeDiff, Nat.zero_le]
  refine ci_Class (d := d + 9) (b := 16) (by rw [hnew_1, hg]) (by rw [hnew_2, hb]) (by rw [hget_hnew, hg]; exact if_pos rfl) (by rw [hget_hnew, hg, if_neg (by omega)]; exact h1) ?_
  intro G1 e1 e2 e3 e4
  refine ⟨e1, e2, ?_⟩
  have e2' : G1.2.1 = 755 := e2
  simp only [eL_law_7, eL_law_8, eL_law_11, eL_law_12, pe_astore_1, pe_callI_0, pe_dup_i, pe_dup_r, pe_new, e1, e2', hnew_1, hnew_2, hget_hset, ia_l, ia_s, vin, opl, onl, Int32.reduceLT, Int32.reduceLE, Int32.reduceAdd, Int32.reduceSub, Nat.reduceLT, Nat.reduceAdd, Nat.reduceEqDiff, ↓reduceIte, true_and, and_true, List.length_nil, List.length_cons, Nat.reduceLeDiff, Nat.zero_le]
  refine ci_Model (d := d + 11) (b := 789) (by rw [hnew_1, e1]) (by rw [hnew_2, e2']) (by rw [hget_hnew, e1]; exact if_pos rfl) ?_
  intro G2 f1 f2 m0 r1 r2 r3 r4 r5 r6 r7 r8 r9 r10 r11 r12 r13 r14 r15 r16 r17 r18 r19 r20 r21 r22 fr
  refine ⟨f1, f2, ?_⟩
  have old : ∀ k, k < 124 → hget G2 k = hget G1 k := fun k hk => by
    rw [fr k hk, hget_hnew, e1]
    exact if_neg (by omega)
  have c2 : cW G2 s00 := e3.kept (fun k _ hk => old k hk)
  simp only [eL_law_15, eL_law_16, eL_law_17, pe_astore_2, pe_const, pe_istore_3, hget_hset, ia_l, ia_s, vin, opl, onl, Int32.reduceLT, Int32.reduceLE, Int32.reduceAdd, Int32.reduceSub, Nat.reduceLT, Nat.reduceAdd, Nat.reduceEqDiff, ↓reduceIte, true_and, and_true, List.length_nil, List.length_cons, Nat.reduceLeDiff, Nat.zero_le]
  refine law_loop (sc := sc) hl hQ 65 0 G2 s00 (by omega) ((old 0 (by omega)).trans (e4.trans (by rw [hget_hnew, hg, if_neg (by omega)]; exact h0))) c2 ?_ pI_00 (by omega)
  refine ⟨zz, ⟨zz, ⟨⟨m0, rfl, rfl, by decide, by decide, zz, zz, zz, zz, r7, r8, r9, r10, fun p hp => absurd hp (Nat.not_lt_zero p), fun p hp => absurd hp (Nat.not_lt_zero p)⟩, r11, zz, r13⟩, fun j hj => ?_⟩, ⟨by omega, rfl, 0, zz, by omega, rfl, r14, fun i hi => absurd hi (Nat.not_lt_zero i)⟩, ⟨rfl, by omega, r15, r16, r17⟩, ⟨zz, zz, 0, r21, r22, by omega, rfl, fun s hs => ⟨?_, fun z => absurd z (show ¬ (0 : Int32) = 1 by decide)⟩⟩, ⟨zz, zz, zz, r18, r19, r20⟩, ⟨zz, zz, zz, zz, zz, zz, r1, r2, r3, r4, r5, r6⟩, r12, rfl⟩
  · rw [aBg_00 j hj.1]
    have n0 : K00.n = 0 := rfl
    by_cases e : j < 12
    · rw [if_pos e]
    · rw [if_neg e, if_neg (by omega)]
  · rcases (show s = 0 ∨ s = 1 by omega) with rfl | rfl
    · decide
    · decide
end LS
