/-! ===== the class: behind, by, judge, see, unsee, seed, write, wipe ===== -/
def aBe (K : Ld) (t : Nat → Int32) (p h w : Int32) : Int32 :=
  if hP K.n p = false then -1 else if aHr h = false ∨ w < 0 ∨ 1 < w then -2 else if w = 0 then sT K t h.toNatClampNeg (t 18) p.toNatClampNeg else sT K t h.toNatClampNeg (t 18) (6 + p.toNatClampNeg)
set_option maxRecDepth 100000 in
theorem sp_behind {d c : Nat} {G : px_H} {le : Int32} {la dr : Nat} {ke : Int32} {sd : Int64} {K : Ld} {p h w : Int32} {t : Nat → Int32} {Q : px_Q} (hr : rX G le la dr ke sd K t) (hv : vK K) (hok : okT K c t) (hQ : ∀ G', rX G' le la dr ke sd K t → frZ G G' 86 94 → Q (some (.int (aBe K t p h w))) G') : pcal (d + 5) 55 [.ref 2, .int p, .int h, .int w] G Q := by
  have x0 := hr.x
  have l0 := hr.lo
  have l6 := hr.l.2.2.2.2.2.2.1
  have s0 := hr.2.1.obj
  refine inX6_behind ?_
  simp only [eX6_behind_0, eX6_behind_1, eX6_behind_4, eX6_behind_5, pe_aload_0, pe_callV_1, pe_getf, pe_iload_1, x0, l0, x_g3, ld_o, hget_hset, ia_l, ia_s, vin, opl, onl, Int32.reduceLT, Int32.reduceLE, Int32.reduceAdd, Int32.reduceSub, Nat.reduceLT, Nat.reduceAdd, Nat.reduceEqDiff, ↓reduceIte, true_and, and_true, List.length_nil, List.length_cons, Nat.reduceLeDiff, Nat.zero_le]
  refine sp_hasPlace hr.l ?_
  simp only [eX6_behind_8, eX6_behind_11, eX6_behind_12, pe_const, pe_ifeq, pe_iret, zB_0, hget_hset, ia_l, ia_s, vin, opl, onl, Int32.reduceLT, Int32.reduceLE, Int32.reduceAdd, Int32.reduceSub, Nat.reduceLT, Nat.reduceAdd, Nat.reduceEqDiff, ↓reduceIte, true_and, and_true, List.length_nil, List.length_cons, Nat.reduceLeDiff, Nat.zero_le]
  split
  · rename_i u0
    have := hQ G hr frZ.rf
    rw [aBe, if_pos u0] at this
    exact this
  · rename_i u0
    obtain ⟨p1, p2, p3, p4⟩ := hP_of (n := K.n) (x := p) l6 (hP_t u0)
    have bad : (aHr h = false ∨ w < 0 ∨ 1 < w) → pr (d + 4) 55 (G.1 + 0, G.2.1 + 0) Q 29 [some (.ref 2), some (.int p), some (.int h), some (.int w)] [] G := by
      intro u
      simp only [eX6_behind_29, eX6_behind_31, pe_const, pe_iret, hget_hset, ia_l, ia_s, vin, opl, onl, Int32.reduceLT, Int32.reduceLE, Int32.reduceAdd, Int32.reduceSub, Nat.reduceLT, Nat.reduceAdd, Nat.reduceEqDiff, ↓reduceIte, true_and, and_true, List.length_nil, List.length_cons, Nat.reduceLeDiff, Nat.zero_le]
      have := hQ G hr frZ.rf
      rw [aBe, if_neg u0, if_pos u] at this
      exact this
    simp only [eX6_behind_13, eX6_behind_14, pe_callS_1, pe_iload_2, hget_hset, ia_l, ia_s, vin, opl, onl, Int32.reduceLT, Int32.reduceLE, Int32.reduceAdd, Int32.reduceSub, Nat.reduceLT, Nat.reduceAdd, Nat.reduceEqDiff, ↓reduceIte, true_and, and_true, List.length_nil, List.length_cons, Nat.reduceLeDiff, Nat.zero_le]
    refine sp_areHours ?_
    simp only [eX6_behind_17, pe_ifeq, zB_0, hget_hset, ia_l, ia_s, vin, opl, onl, Int32.reduceLT, Int32.reduceLE, Int32.reduceAdd, Int32.reduceSub, Nat.reduceLT, Nat.reduceAdd, Nat.reduceEqDiff, ↓reduceIte, true_and, and_true, List.length_nil, List.length_cons, Nat.reduceLeDiff, Nat.zero_le]
    split
    · rename_i u1
      exact bad (Or.inl u1)
    · rename_i u1
      simp only [eX6_behind_20, eX6_behind_21, pe_iflt, pe_iload_3, hget_hset, ia_l, ia_s, vin, opl, onl, Int32.reduceLT, Int32.reduceLE, Int32.reduceAdd, Int32.reduceSub, Nat.reduceLT, Nat.reduceAdd, Nat.reduceEqDiff, ↓reduceIte, true_and, and_true, List.length_nil, List.length_cons, Nat.reduceLeDiff, Nat.zero_le]
      split
      · rename_i u2
        exact bad (Or.inr (Or.inl u2))
      · rename_i u2
        simp only [eX6_behind_24, eX6_behind_25, eX6_behind_26, pe_const, pe_icgt, pe_iload_3, hget_hset, ia_l, ia_s, vin, opl, onl, Int32.reduceLT, Int32.reduceLE, Int32.reduceAdd, Int32.reduceSub, Nat.reduceLT, Nat.reduceAdd, Nat.reduceEqDiff, ↓reduceIte, true_and, and_true, List.length_nil, List.length_cons, Nat.reduceLeDiff, Nat.zero_le]
        split
        · rename_i u3
          exact bad (Or.inr (Or.inr u3))
        · rename_i u3
          obtain ⟨k, hk, rfl⟩ := aHr_of (by cases e : aHr h with | true => rfl | false => exact absurd e u1)
          have hkc : (nI k).toNatClampNeg = k := nI_clamp (by omega)
          simp only [eX6_behind_32, eX6_behind_33, eX6_behind_34, eX6_behind_37, eX6_behind_40, eX6_behind_41, pe_aload_0, pe_callV_2, pe_getf, pe_iload_2, x0, s0, x_g6, x_o, sc_g0, sc_g1, sc_g2, sc_g3, sc_g4, sc_p3, sc_p4, sc_o, hget_hset, ia_l, ia_s, vin, opl, onl, Int32.reduceLT, Int32.reduceLE, Int32.reduceAdd, Int32.reduceSub, Nat.reduceLT, Nat.reduceAdd, Nat.reduceEqDiff, ↓reduceIte, true_and, and_true, List.length_nil, List.length_cons, Nat.reduceLeDiff, Nat.zero_le]
          refine sp_try hr hv hok hk ?_
          intro G1 e1 e2 e3
          have y0 := e1.x
          obtain ⟨f0, f1, f2, q0, q1, q2, q3, q4⟩ := id e2
          have fin := hQ G1 e1 e3
          rw [aBe, if_neg u0, if_neg (by rintro (z | z | z) <;> contradiction), hkc] at fin
          simp only [eX6_behind_44, eX6_behind_45, pe_ifeq, pe_iload_3, hget_hset, ia_l, ia_s, vin, opl, onl, Int32.reduceLT, Int32.reduceLE, Int32.reduceAdd, Int32.reduceSub, Nat.reduceLT, Nat.reduceAdd, Nat.reduceEqDiff, ↓reduceIte, true_and, and_true, List.length_nil, List.length_cons, Nat.reduceLeDiff, Nat.zero_le]
          split
          · rename_i u4
            rw [if_pos u4] at fin
            simp only [eX6_behind_48, eX6_behind_49, eX6_behind_52, eX6_behind_55, eX6_behind_56, eX6_behind_57, eX6_behind_69, pe_aload_0, pe_getf, pe_goto, pe_iald, pe_iload_1, pe_iret, y0, q0, q1, x_g12, sc_g0, sc_g1, sc_g2, sc_g3, sc_g4, sc_p3, sc_p4, sc_o, p1, p3, hget_hset, ia_l, ia_s, vin, opl, onl, Int32.reduceLT, Int32.reduceLE, Int32.reduceAdd, Int32.reduceSub, Nat.reduceLT, Nat.reduceAdd, Nat.reduceEqDiff, ↓reduceIte, true_and, and_true, List.length_nil, List.length_cons, Nat.reduceLeDiff, Nat.zero_le]
            rw [(q4 _ p3).1]
            exact fin
          · rename_i u4
            rw [if_neg u4] at fin
            simp only [eX6_behind_60, eX6_behind_61, eX6_behind_64, eX6_behind_67, eX6_behind_68, eX6_behind_69, pe_aload_0, pe_getf, pe_iald, pe_iload_1, pe_iret, y0, q0, q2, x_g12, sc_g0, sc_g1, sc_g2, sc_g3, sc_g4, sc_p3, sc_p4, sc_o, p1, p3, hget_hset, ia_l, ia_s, vin, opl, onl, Int32.reduceLT, Int32.reduceLE, Int32.reduceAdd, Int32.reduceSub, Nat.reduceLT, Nat.reduceAdd, Nat.reduceEqDiff, ↓reduceIte, true_and, and_true, List.length_nil, List.length_cons, Nat.reduceLeDiff, Nat.zero_le]
            rw [(q4 _ p3).2.1]
            exact fin
def byR (K : Ld) (u h w : Int32) : Prop := u < 0 ∨ nI (2 ^ K.m - 1) < u ∨ aHr h = false ∨ w < 0 ∨ 3 < w
def byA (K : Ld) (s : Nat → Int32) (w : Int32) : Int32 := if w = 0 then aDu s 6 else if w = 1 then aWe s 6 else if w = 2 then aWo K s K.n else zB (aDo s 6)
set_option maxRecDepth 100000 in
theorem sp_by {d c : Nat} {G : px_H} {le : Int32} {la dr : Nat} {ke : Int32} {sd : Int64} {K : Ld} {u h w : Int32} {t : Nat → Int32} {Q : px_Q} (hr : rX G le la dr ke sd K t) (hv : vK K) (hok : okT K c t) (hQ : ∀ G' e, (byR K u h w → e = -2) → (¬ byR K u h w → e = byA K (sT K t h.toNatClampNeg u) w) → rX G' le la dr ke sd K t → frZ G G' 86 94 → Q (some (.int e)) G') : pcal (d + 5) 56 [.ref 2, .int u, .int h, .int w] G Q := by
  have hm := hv.1.2.1
  have x0 := hr.x
  have l0 := hr.lo
  refine inX6_by ?_
  have bad : byR K u h w → pr (d + 4) 56 (G.1 + 0, G.2.1 + 0) Q 31 [some (.ref 2), some (.int u), some (.int h), some (.int w)] [] G := by
    intro z
    simp only [eX6_by_31, eX6_by_33, pe_const, pe_iret, hget_hset, ia_l, ia_s, vin, opl, onl, Int32.reduceLT, Int32.reduceLE, Int32.reduceAdd, Int32.reduceSub, Nat.reduceLT, Nat.reduceAdd, Nat.reduceEqDiff, ↓reduceIte, true_and, and_true, List.length_nil, List.length_cons, Nat.reduceLeDiff, Nat.zero_le]
    exact hQ G _ (fun _ => rfl) (fun q => absurd z q) hr frZ.rf
  simp only [eX6_by_0, eX6_by_1, pe_iflt, pe_iload_1, hget_hset, ia_l, ia_s, vin, opl, onl, Int32.reduceLT, Int32.reduceLE, Int32.reduceAdd, Int32.reduceSub, Nat.reduceLT, Nat.reduceAdd, Nat.reduceEqDiff, ↓reduceIte, true_and, and_true, List.length_nil, List.length_cons, Nat.reduceLeDiff, Nat.zero_le]
  split
  · rename_i u1
    exact bad (Or.inl u1)
  · rename_i u1
    simp only [eX6_by_4, eX6_by_5, eX6_by_6, eX6_by_9, pe_aload_0, pe_callV_0, pe_getf, pe_iload_1, x0, l0, x_g3, ld_o, hget_hset, ia_l, ia_s, vin, opl, onl, Int32.reduceLT, Int32.reduceLE, Int32.reduceAdd, Int32.reduceSub, Nat.reduceLT, Nat.reduceAdd, Nat.reduceEqDiff, ↓reduceIte, true_and, and_true, List.length_nil, List.length_cons, Nat.reduceLeDiff, Nat.zero_le]
    refine sp_allDitches hr.l ?_
    simp only [eX6_by_12, pe_icgt, allD hm, hget_hset, ia_l, ia_s, vin, opl, onl, Int32.reduceLT, Int32.reduceLE, Int32.reduceAdd, Int32.reduceSub, Nat.reduceLT, Nat.reduceAdd, Nat.reduceEqDiff, ↓reduceIte, true_and, and_true, List.length_nil, List.length_cons, Nat.reduceLeDiff, Nat.zero_le]
    split
    · rename_i u2
      exact bad (Or.inr (Or.inl u2))
    · rename_i u2
      simp only [eX6_by_15, eX6_by_16, pe_callS_1, pe_iload_2, hget_hset, ia_l, ia_s, vin, opl, onl, Int32.reduceLT, Int32.reduceLE, Int32.reduceAdd, Int32.reduceSub, Nat.reduceLT, Nat.reduceAdd, Nat.reduceEqDiff, ↓reduceIte, true_and, and_true, List.length_nil, List.length_cons, Nat.reduceLeDiff, Nat.zero_le]
      refine sp_areHours ?_
      simp only [eX6_by_19, pe_ifeq, zB_0, hget_hset, ia_l, ia_s, vin, opl, onl, Int32.reduceLT, Int32.reduceLE, Int32.reduceAdd, Int32.reduceSub, Nat.reduceLT, Nat.reduceAdd, Nat.reduceEqDiff, ↓reduceIte, true_and, and_true, List.length_nil, List.length_cons, Nat.reduceLeDiff, Nat.zero_le]
      split
      · rename_i u3
        exact bad (Or.inr (Or.inr (Or.inl u3)))
      · rename_i u3
        simp only [eX6_by_22, eX6_by_23, pe_iflt, pe_iload_3, hget_hset, ia_l, ia_s, vin, opl, onl, Int32.reduceLT, Int32.reduceLE, Int32.reduceAdd, Int32.reduceSub, Nat.reduceLT, Nat.reduceAdd, Nat.reduceEqDiff, ↓reduceIte, true_and, and_true, List.length_nil, List.length_cons, Nat.reduceLeDiff, Nat.zero_le]
        split
        · rename_i u4
          exact bad (Or.inr (Or.inr (Or.inr (Or.inl u4))))
        · rename_i u4
          simp only [eX6_by_26, eX6_by_27, eX6_by_28, pe_const, pe_icgt, pe_iload_3, hget_hset, ia_l, ia_s, vin, opl, onl, Int32.reduceLT, Int32.reduceLE, Int32.reduceAdd, Int32.reduceSub, Nat.reduceLT, Nat.reduceAdd, Nat.reduceEqDiff, ↓reduceIte, true_and, and_true, List.length_nil, List.length_cons, Nat.reduceLeDiff, Nat.zero_le]
          split
          · rename_i u5
            exact bad (Or.inr (Or.inr (Or.inr (Or.inr u5))))
          · rename_i u5
            have good : ¬ byR K u h w := by rintro (z | z | z | z | z) <;> contradiction
            obtain ⟨k, hk, rfl⟩ := aHr_of (by cases e : aHr h with | true => rfl | false => exact absurd e u3)
            have hkc : (nI k).toNatClampNeg = k := nI_clamp (by omega)
            simp only [eX6_by_34, eX6_by_35, eX6_by_36, eX6_by_37, pe_aload_0, pe_callV_2, pe_iload_1, pe_iload_2, x0, x_o, hget_hset, ia_l, ia_s, vin, opl, onl, Int32.reduceLT, Int32.reduceLE, Int32.reduceAdd, Int32.reduceSub, Nat.reduceLT, Nat.reduceAdd, Nat.reduceEqDiff, ↓reduceIte, true_and, and_true, List.length_nil, List.length_cons, Nat.reduceLeDiff, Nat.zero_le]
            refine sp_try hr hv hok hk ?_
            intro G1 e1 e2 e3
            have y0 := e1.x
            have s0 := e2.obj
            have fin : ∀ e, e = byA K (sT K t k u) w → Q (some (.int e)) G1 := fun e he => hQ G1 e (fun z => absurd z good) (fun _ => by rw [hkc]; exact he) e1 e3
            simp only [eX6_by_40, eX6_by_41, pe_iload_3, pe_switch, px_sw, hget_hset, ia_l, ia_s, vin, opl, onl, Int32.reduceLT, Int32.reduceLE, Int32.reduceAdd, Int32.reduceSub, Nat.reduceLT, Nat.reduceAdd, Nat.reduceEqDiff, ↓reduceIte, true_and, and_true, List.length_nil, List.length_cons, Nat.reduceLeDiff, Nat.zero_le]
            by_cases w0 : w = 0
            · rw [if_pos w0]
              simp only [eX6_by_68, eX6_by_69, eX6_by_72, pe_aload_0, pe_callV_0, pe_getf, y0, s0, x_g12, sc_g0, sc_g1, sc_g2, sc_g3, sc_g4, sc_p3, sc_p4, sc_o, hget_hset, ia_l, ia_s, vin, opl, onl, Int32.reduceLT, Int32.reduceLE, Int32.reduceAdd, Int32.reduceSub, Nat.reduceLT, Nat.reduceAdd, Nat.reduceEqDiff, ↓reduceIte, true_and, and_true, List.length_nil, List.length_cons, Nat.reduceLeDiff, Nat.zero_le]
              refine sp_allDung e2 ?_
              simp only [eX6_by_75, pe_iret, hget_hset, ia_l, ia_s, vin, opl, onl, Int32.reduceLT, Int32.reduceLE, Int32.reduceAdd, Int32.reduceSub, Nat.reduceLT, Nat.reduceAdd, Nat.reduceEqDiff, ↓reduceIte, true_and, and_true, List.length_nil, List.length_cons, Nat.reduceLeDiff, Nat.zero_le]
              exact fin _ (by rw [byA, if_pos w0])
            · rw [if_neg w0]
              by_cases w1 : w = 1
              · rw [if_pos w1]
                simp only [eX6_by_76, eX6_by_77, eX6_by_80, pe_aload_0, pe_callV_0, pe_getf, y0, s0, x_g12, sc_g0, sc_g1, sc_g2, sc_g3, sc_g4, sc_p3, sc_p4, sc_o, hget_hset, ia_l, ia_s, vin, opl, onl, Int32.reduceLT, Int32.reduceLE, Int32.reduceAdd, Int32.reduceSub, Nat.reduceLT, Nat.reduceAdd, Nat.reduceEqDiff, ↓reduceIte, true_and, and_true, List.length_nil, List.length_cons, Nat.reduceLeDiff, Nat.zero_le]
                refine sp_wetTowns e2 ?_
                simp only [eX6_by_83, pe_iret, hget_hset, ia_l, ia_s, vin, opl, onl, Int32.reduceLT, Int32.reduceLE, Int32.reduceAdd, Int32.reduceSub, Nat.reduceLT, Nat.reduceAdd, Nat.reduceEqDiff, ↓reduceIte, true_and, and_true, List.length_nil, List.length_cons, Nat.reduceLeDiff, Nat.zero_le]
                exact fin _ (by rw [byA, if_neg w0, if_pos w1])
              · rw [if_neg w1]
                by_cases w2 : w = 2
                · rw [if_pos w2]
                  simp only [eX6_by_84, eX6_by_85, eX6_by_88, eX6_by_89, eX6_by_92, pe_aload_0, pe_callV_1, pe_getf, y0, s0, x_g3, x_g12, sc_g0, sc_g1, sc_g2, sc_g3, sc_g4, sc_p3, sc_p4, sc_o, hget_hset, ia_l, ia_s, vin, opl, onl, Int32.reduceLT, Int32.reduceLE, Int32.reduceAdd, Int32.reduceSub, Nat.reduceLT, Nat.reduceAdd, Nat.reduceEqDiff, ↓reduceIte, true_and, and_true, List.length_nil, List.length_cons, Nat.reduceLeDiff, Nat.zero_le]
                  refine sp_worth e2 e1.l ?_
                  simp only [eX6_by_95, pe_iret, hget_hset, ia_l, ia_s, vin, opl, onl, Int32.reduceLT, Int32.reduceLE, Int32.reduceAdd, Int32.reduceSub, Nat.reduceLT, Nat.reduceAdd, Nat.reduceEqDiff, ↓reduceIte, true_and, and_true, List.length_nil, List.length_cons, Nat.reduceLeDiff, Nat.zero_le]
                  exact fin _ (by rw [byA, if_neg w0, if_neg w1, if_pos w2])
                · rw [if_neg w2]
                  simp only [eX6_by_96, eX6_by_97, eX6_by_100, pe_aload_0, pe_callV_0, pe_getf, y0, s0, x_g12, sc_g0, sc_g1, sc_g2, sc_g3, sc_g4, sc_p3, sc_p4, sc_o, hget_hset, ia_l, ia_s, vin, opl, onl, Int32.reduceLT, Int32.reduceLE, Int32.reduceAdd, Int32.reduceSub, Nat.reduceLT, Nat.reduceAdd, Nat.reduceEqDiff, ↓reduceIte, true_and, and_true, List.length_nil, List.length_cons, Nat.reduceLeDiff, Nat.zero_le]
                  refine sp_isDone e2 ?_
                  simp only [eX6_by_103, pe_ifeq, zB_0, hget_hset, ia_l, ia_s, vin, opl, onl, Int32.reduceLT, Int32.reduceLE, Int32.reduceAdd, Int32.reduceSub, Nat.reduceLT, Nat.reduceAdd, Nat.reduceEqDiff, ↓reduceIte, true_and, and_true, List.length_nil, List.length_cons, Nat.reduceLeDiff, Nat.zero_le]
                  split
                  · rename_i u6
                    simp only [eX6_by_110, eX6_by_111, pe_const, pe_iret, hget_hset, ia_l, ia_s, vin, opl, onl, Int32.reduceLT, Int32.reduceLE, Int32.reduceAdd, Int32.reduceSub, Nat.reduceLT, Nat.reduceAdd, Nat.reduceEqDiff, ↓reduceIte, true_and, and_true, List.length_nil, List.length_cons, Nat.reduceLeDiff, Nat.zero_le]
                    exact fin _ (by rw [byA, if_neg w0, if_neg w1, if_neg w2, u6]; rfl)
                  · rename_i u6
                    simp only [eX6_by_106, eX6_by_107, eX6_by_110, eX6_by_111, pe_const, pe_goto, pe_iret, hget_hset, ia_l, ia_s, vin, opl, onl, Int32.reduceLT, Int32.reduceLE, Int32.reduceAdd, Int32.reduceSub, Nat.reduceLT, Nat.reduceAdd, Nat.reduceEqDiff, ↓reduceIte, true_and, and_true, List.length_nil, List.length_cons, Nat.reduceLeDiff, Nat.zero_le]
                    refine fin _ (by rw [byA, if_neg w0, if_neg w1, if_neg w2]; cases h : aDo (sT K t k u) 6 with | true => rfl | false => exact absurd h u6)
/-! what was seen -/
def seR (K : Ld) (n : Nat) (p x k : Int32) : Int32 := if hP K.n p = false then -1 else if aHr x = false ∨ k < 0 ∨ 99 < k then -2 else if n < 6 then 0 else -4
set_option maxRecDepth 100000 in
theorem sp_see {d n : Nat} {G : px_H} {le : Int32} {la dr : Nat} {ke : Int32} {sd : Int64} {K : Ld} {p x k : Int32} {t pp tm mn : Nat → Int32} {Q : px_Q} (hr : rX G le la dr ke sd K t) (hV : isV G n pp tm mn) (hQ : ∀ G' n' pp' tm' mn', (n', pp', tm', mn') = (if seR K n p x k = 0 then (n + 1, upd pp n p, upd tm n x, upd mn n k) else (n, pp, tm, mn)) → isV G' n' pp' tm' mn' → fr G G' 81 85 → Q (some (.int (if seR K n p x k = 0 then nI (n + 1) else seR K n p x k))) G') : pcal (d + 2) 78 [.ref 2, .int p, .int x, .int k] G Q := by
  have x0 := hr.x
  have l0 := hr.lo
  have v0 := hV.1
  have v5 := hV.2.2.2.2
  refine inX6_see ?_
  have no : ∀ e, seR K n p x k = e → ¬ e = 0 → Q (some (.int e)) G := by
    intro e h1 h2
    have := hQ G n pp tm mn (by rw [if_neg (by rw [h1]; exact h2)]) hV (fun _ _ => rfl)
    rw [if_neg (by rw [h1]; exact h2), h1] at this
    exact this
  simp only [eX6_see_0, eX6_see_1, eX6_see_4, eX6_see_5, pe_aload_0, pe_callV_1, pe_getf, pe_iload_1, x0, l0, x_g3, ld_o, hget_hset, ia_l, ia_s, vin, opl, onl, Int32.reduceLT, Int32.reduceLE, Int32.reduceAdd, Int32.reduceSub, Nat.reduceLT, Nat.reduceAdd, Nat.reduceEqDiff, ↓reduceIte, true_and, and_true, List.length_nil, List.length_cons, Nat.reduceLeDiff, Nat.zero_le]
  refine sp_hasPlace hr.l ?_
  simp only [eX6_see_8, eX6_see_11, eX6_see_12, pe_const, pe_ifeq, pe_iret, zB_0, hget_hset, ia_l, ia_s, vin, opl, onl, Int32.reduceLT, Int32.reduceLE, Int32.reduceAdd, Int32.reduceSub, Nat.reduceLT, Nat.reduceAdd, Nat.reduceEqDiff, ↓reduceIte, true_and, and_true, List.length_nil, List.length_cons, Nat.reduceLeDiff, Nat.zero_le]
  split
  · rename_i u0
    exact no _ (by rw [seR, if_pos u0]) (by decide)
  · rename_i u0
    have bad : (aHr x = false ∨ k < 0 ∨ 99 < k) → pr (d + 1) 78 (G.1 + 0, G.2.1 + 0) Q 30 [some (.ref 2), some (.int p), some (.int x), some (.int k)] [] G := by
      intro u
      simp only [eX6_see_30, eX6_see_32, pe_const, pe_iret, hget_hset, ia_l, ia_s, vin, opl, onl, Int32.reduceLT, Int32.reduceLE, Int32.reduceAdd, Int32.reduceSub, Nat.reduceLT, Nat.reduceAdd, Nat.reduceEqDiff, ↓reduceIte, true_and, and_true, List.length_nil, List.length_cons, Nat.reduceLeDiff, Nat.zero_le]
      exact no _ (by rw [seR, if_neg u0, if_pos u]) (by decide)
    simp only [eX6_see_13, eX6_see_14, pe_callS_1, pe_iload_2, hget_hset, ia_l, ia_s, vin, opl, onl, Int32.reduceLT, Int32.reduceLE, Int32.reduceAdd, Int32.reduceSub, Nat.reduceLT, Nat.reduceAdd, Nat.reduceEqDiff, ↓reduceIte, true_and, and_true, List.length_nil, List.length_cons, Nat.reduceLeDiff, Nat.zero_le]
    refine sp_areHours ?_
    simp only [eX6_see_17, pe_ifeq, zB_0, hget_hset, ia_l, ia_s, vin, opl, onl, Int32.reduceLT, Int32.reduceLE, Int32.reduceAdd, Int32.reduceSub, Nat.reduceLT, Nat.reduceAdd, Nat.reduceEqDiff, ↓reduceIte, true_and, and_true, List.length_nil, List.length_cons, Nat.reduceLeDiff, Nat.zero_le]
    split
    · rename_i u1
      exact bad (Or.inl u1)
    · rename_i u1
      simp only [eX6_see_20, eX6_see_21, pe_iflt, pe_iload_3, hget_hset, ia_l, ia_s, vin, opl, onl, Int32.reduceLT, Int32.reduceLE, Int32.reduceAdd, Int32.reduceSub, Nat.reduceLT, Nat.reduceAdd, Nat.reduceEqDiff, ↓reduceIte, true_and, and_true, List.length_nil, List.length_cons, Nat.reduceLeDiff, Nat.zero_le]
      split
      · rename_i u2
        exact bad (Or.inr (Or.inl u2))
      · rename_i u2
        simp only [eX6_see_24, eX6_see_25, eX6_see_27, pe_const, pe_icgt, pe_iload_3, hget_hset, ia_l, ia_s, vin, opl, onl, Int32.reduceLT, Int32.reduceLE, Int32.reduceAdd, Int32.reduceSub, Nat.reduceLT, Nat.reduceAdd, Nat.reduceEqDiff, ↓reduceIte, true_and, and_true, List.length_nil, List.length_cons, Nat.reduceLeDiff, Nat.zero_le]
        split
        · rename_i u3
          exact bad (Or.inr (Or.inr u3))
        · rename_i u3
          have ok0 : ¬ (aHr x = false ∨ k < 0 ∨ 99 < k) := by rintro (z | z | z) <;> contradiction
          have e6 : (nI n < 6) = (n < 6) := by apply propext; exact nI_ltI (b := 6) (by omega) (by omega)
          simp only [eX6_see_33, eX6_see_34, eX6_see_37, eX6_see_40, eX6_see_42, pe_aload_0, pe_const, pe_getf, pe_iclt, x0, v0, x_g8, sg_g3, e6, hget_hset, ia_l, ia_s, vin, opl, onl, Int32.reduceLT, Int32.reduceLE, Int32.reduceAdd, Int32.reduceSub, Nat.reduceLT, Nat.reduceAdd, Nat.reduceEqDiff, ↓reduceIte, true_and, and_true, List.length_nil, List.length_cons, Nat.reduceLeDiff, Nat.zero_le]
          split
          · rename_i u4
            have ok : seR K n p x k = 0 := by rw [seR, if_neg u0, if_neg ok0, if_pos u4]
            simp only [eX6_see_48, eX6_see_49, eX6_see_52, eX6_see_53, eX6_see_54, eX6_see_55, pe_aload_0, pe_callV_3, pe_getf, pe_iload_1, pe_iload_2, pe_iload_3, x0, v0, x_g8, sg_o, hget_hset, ia_l, ia_s, vin, opl, onl, Int32.reduceLT, Int32.reduceLE, Int32.reduceAdd, Int32.reduceSub, Nat.reduceLT, Nat.reduceAdd, Nat.reduceEqDiff, ↓reduceIte, true_and, and_true, List.length_nil, List.length_cons, Nat.reduceLeDiff, Nat.zero_le]
            refine sp_note hV u4 ?_
            intro G1 e1 e2
            have y0 : hget G1 2 = some (c_x le la dr ke sd) := (e2 _ (by omega)).trans x0
            have w0 := e1.1
            simp only [eX6_see_58, eX6_see_59, eX6_see_62, eX6_see_65, pe_aload_0, pe_getf, pe_iret, y0, w0, x_g8, sg_g3, hget_hset, ia_l, ia_s, vin, opl, onl, Int32.reduceLT, Int32.reduceLE, Int32.reduceAdd, Int32.reduceSub, Nat.reduceLT, Nat.reduceAdd, Nat.reduceEqDiff, ↓reduceIte, true_and, and_true, List.length_nil, List.length_cons, Nat.reduceLeDiff, Nat.zero_le]
            have := hQ G1 _ _ _ _ (by rw [if_pos ok]) e1 e2
            rw [if_pos ok] at this
            exact this
          · rename_i u4
            simp only [eX6_see_45, eX6_see_47, pe_const, pe_iret, hget_hset, ia_l, ia_s, vin, opl, onl, Int32.reduceLT, Int32.reduceLE, Int32.reduceAdd, Int32.reduceSub, Nat.reduceLT, Nat.reduceAdd, Nat.reduceEqDiff, ↓reduceIte, true_and, and_true, List.length_nil, List.length_cons, Nat.reduceLeDiff, Nat.zero_le]
            exact no _ (by rw [seR, if_neg u0, if_neg ok0, if_neg u4]) (by decide)
set_option maxRecDepth 100000 in
theorem sp_unsee {d n : Nat} {G : px_H} {le : Int32} {la dr : Nat} {ke : Int32} {sd : Int64} {K : Ld} {t pp tm mn : Nat → Int32} {Q : px_Q} (hr : rX G le la dr ke sd K t) (hV : isV G n pp tm mn) (hQ : ∀ G', isV G' 0 pp tm mn → fr G G' 81 85 → Q (some (.int (nI n))) G') : pcal (d + 1) 79 [.ref 2] G Q := by
  have x0 := hr.x
  obtain ⟨h1, h2, h3, h4, h5⟩ := hV
  refine inX6_unsee ?_
  simp only [eX6_unsee_0, eX6_unsee_1, eX6_unsee_4, eX6_unsee_7, eX6_unsee_8, eX6_unsee_9, eX6_unsee_12, eX6_unsee_13, eX6_unsee_16, eX6_unsee_17, pe_aload_0, pe_const, pe_getf, pe_iload_1, pe_iret, pe_istore_1, pe_putf, x0, h1, x_g8, sg_g3, sg_p3, hget_hset, ia_l, ia_s, vin, opl, onl, Int32.reduceLT, Int32.reduceLE, Int32.reduceAdd, Int32.reduceSub, Nat.reduceLT, Nat.reduceAdd, Nat.reduceEqDiff, ↓reduceIte, true_and, and_true, List.length_nil, List.length_cons, Nat.reduceLeDiff, Nat.zero_le]
  refine hQ _ ⟨hget_self _ _ _, ?_, ?_, ?_, by omega⟩ (fun k hk => by rw [hget_ne (by omega)])
  · rw [hget_ne (by omega)]; exact h2
  · rw [hget_ne (by omega)]; exact h3
  · rw [hget_ne (by omega)]; exact h4
set_option maxRecDepth 100000 in
theorem sp_seed {d : Nat} {G : px_H} {le : Int32} {la dr : Nat} {ke : Int32} {sd z : Int64} {Q : px_Q} (x0 : hget G 2 = some (c_x le la dr ke sd)) (hQ : Q (some (.long sd)) (hset G 2 (c_x le la dr ke z))) : pcal (d + 1) 85 [.ref 2, .long z] G Q := by
  refine inX6_seed ?_
  simp only [eX6_seed_0, eX6_seed_1, eX6_seed_4, eX6_seed_5, eX6_seed_6, eX6_seed_7, eX6_seed_10, eX6_seed_11, pe_aload_0, pe_getf, pe_lload_1, pe_lload_3, pe_lret, pe_lstore_3, pe_putf, x0, x_g11, x_p11, hget_hset, ia_l, ia_s, vin, opl, onl, Int32.reduceLT, Int32.reduceLE, Int32.reduceAdd, Int32.reduceSub, Nat.reduceLT, Nat.reduceAdd, Nat.reduceEqDiff, ↓reduceIte, true_and, and_true, List.length_nil, List.length_cons, Nat.reduceLeDiff, Nat.zero_le]
  exact hQ
def wrR (n : Nat) (x : Int32) : Int32 := if x < 0 ∨ 255 < x then -2 else if n < 48 then 0 else -4
set_option maxRecDepth 100000 in
theorem sp_write {d n : Nat} {G : px_H} {la dr : Nat} {ke x : Int32} {sd : Int64} {tx : Nat → Int32} {Q : px_Q} (x0 : hget G 2 = some (c_x (nI n) la dr ke sd)) (h3 : hget G 3 = some (c_ia 48 tx)) (hn : n ≤ 48) (hQ : ∀ G' n' tx', (n', tx') = (if wrR n x = 0 then (n + 1, upd tx n x) else (n, tx)) → hget G' 2 = some (c_x (nI n') la dr ke sd) → hget G' 3 = some (c_ia 48 tx') → fr G G' 2 4 → Q (some (.int (if wrR n x = 0 then nI (n + 1) else wrR n x))) G') : pcal (d + 1) 42 [.ref 2, .int x] G Q := by
  refine inX6_write ?_
  have no : ∀ e, wrR n x = e → ¬ e = 0 → Q (some (.int e)) G := by
    intro e h1 h2
    have := hQ G n tx (by rw [if_neg (by rw [h1]; exact h2)]) x0 h3 (fun _ _ => rfl)
    rw [if_neg (by rw [h1]; exact h2), h1] at this
    exact this
  have bad : (x < 0 ∨ 255 < x) → pr d 42 (G.1 + 0, G.2.1 + 0) Q 11 [some (.ref 2), some (.int x)] [] G := by
    intro u
    simp only [eX6_write_11, eX6_write_13, pe_const, pe_iret, hget_hset, ia_l, ia_s, vin, opl, onl, Int32.reduceLT, Int32.reduceLE, Int32.reduceAdd, Int32.reduceSub, Nat.reduceLT, Nat.reduceAdd, Nat.reduceEqDiff, ↓reduceIte, true_and, and_true, List.length_nil, List.length_cons, Nat.reduceLeDiff, Nat.zero_le]
    exact no _ (by rw [wrR, if_pos u]) (by decide)
  simp only [eX6_write_0, eX6_write_1, pe_iflt, pe_iload_1, hget_hset, ia_l, ia_s, vin, opl, onl, Int32.reduceLT, Int32.reduceLE, Int32.reduceAdd, Int32.reduceSub, Nat.reduceLT, Nat.reduceAdd, Nat.reduceEqDiff, ↓reduceIte, true_and, and_true, List.length_nil, List.length_cons, Nat.reduceLeDiff, Nat.zero_le]
  split
  · rename_i u1
    exact bad (Or.inl u1)
  · rename_i u1
    simp only [eX6_write_4, eX6_write_5, eX6_write_8, pe_const, pe_icgt, pe_iload_1, hget_hset, ia_l, ia_s, vin, opl, onl, Int32.reduceLT, Int32.reduceLE, Int32.reduceAdd, Int32.reduceSub, Nat.reduceLT, Nat.reduceAdd, Nat.reduceEqDiff, ↓reduceIte, true_and, and_true, List.length_nil, List.length_cons, Nat.reduceLeDiff, Nat.zero_le]
    split
    · rename_i u2
      exact bad (Or.inr u2)
    · rename_i u2
      have ok0 : ¬ (x < 0 ∨ 255 < x) := by rintro (z | z) <;> contradiction
      have e6 : (nI n < 48) = (n < 48) := by apply propext; exact nI_ltI (b := 48) (by omega) (by omega)
      simp only [eX6_write_14, eX6_write_15, eX6_write_18, eX6_write_20, pe_aload_0, pe_const, pe_getf, pe_iclt, x0, x_g1, e6, hget_hset, ia_l, ia_s, vin, opl, onl, Int32.reduceLT, Int32.reduceLE, Int32.reduceAdd, Int32.reduceSub, Nat.reduceLT, Nat.reduceAdd, Nat.reduceEqDiff, ↓reduceIte, true_and, and_true, List.length_nil, List.length_cons, Nat.reduceLeDiff, Nat.zero_le]
      split
      · rename_i u3
        have ok : wrR n x = 0 := by rw [wrR, if_neg ok0, if_pos u3]
        have c1 : (nI n).toNatClampNeg = n := nI_clamp (by omega)
        have c2 : 0 ≤ nI n := nI_pos' (by omega)
        simp only [eX6_write_26, eX6_write_27, eX6_write_30, eX6_write_31, eX6_write_34, eX6_write_35, eX6_write_36, eX6_write_37, eX6_write_38, eX6_write_41, eX6_write_42, eX6_write_43, eX6_write_46, eX6_write_47, eX6_write_50, pe_aload_0, pe_bin, pe_const, pe_dup_i, pe_dup_r, pe_getf, pe_iast, pe_iload_1, pe_iret, pe_putf, x0, h3, x_g0, x_g1, x_p1, c1, c2, u3, nisw, hget_hset, ia_l, ia_s, vin, opl, onl, Int32.reduceLT, Int32.reduceLE, Int32.reduceAdd, Int32.reduceSub, Nat.reduceLT, Nat.reduceAdd, Nat.reduceEqDiff, ↓reduceIte, true_and, and_true, List.length_nil, List.length_cons, Nat.reduceLeDiff, Nat.zero_le]
        have := hQ (hset (hset G 3 (c_ia 48 (upd tx n x))) 2 (c_x (nI (n + 1)) la dr ke sd)) _ _ (by rw [if_pos ok]) (hget_self _ _ _) (by rw [hget_ne (by omega), hget_self]) (fun k hk => by rw [hget_ne (by omega), hget_ne (by omega)])
        rw [if_pos ok] at this
        exact this
      · rename_i u3
        simp only [eX6_write_23, eX6_write_25, pe_const, pe_iret, hget_hset, ia_l, ia_s, vin, opl, onl, Int32.reduceLT, Int32.reduceLE, Int32.reduceAdd, Int32.reduceSub, Nat.reduceLT, Nat.reduceAdd, Nat.reduceEqDiff, ↓reduceIte, true_and, and_true, List.length_nil, List.length_cons, Nat.reduceLeDiff, Nat.zero_le]
        exact no _ (by rw [wrR, if_neg ok0, if_neg u3]) (by decide)
set_option maxRecDepth 100000 in
theorem sp_wipe {d : Nat} {G : px_H} {la dr : Nat} {le ke : Int32} {sd : Int64} {Q : px_Q} (x0 : hget G 2 = some (c_x le la dr ke sd)) (hQ : Q (some (.int le)) (hset G 2 (c_x 0 la dr ke sd))) : pcal (d + 1) 43 [.ref 2] G Q := by
  refine inX6_wipe ?_
  simp only [eX6_wipe_0, eX6_wipe_1, eX6_wipe_4, eX6_wipe_5, eX6_wipe_6, eX6_wipe_7, eX6_wipe_10, eX6_wipe_11, pe_aload_0, pe_const, pe_getf, pe_iload_1, pe_iret, pe_istore_1, pe_putf, x0, x_g1, x_p1, hget_hset, ia_l, ia_s, vin, opl, onl, Int32.reduceLT, Int32.reduceLE, Int32.reduceAdd, Int32.reduceSub, Nat.reduceLT, Nat.reduceAdd, Nat.reduceEqDiff, ↓reduceIte, true_and, and_true, List.length_nil, List.length_cons, Nat.reduceLeDiff, Nat.zero_le]
  exact hQ
/-! judge -/
set_option maxRecDepth 100000 in
theorem sp_readSteps {d N R : Nat} {G : px_H} {le : Int32} {la dr : Nat} {ke : Int32} {sd : Int64} {st : Nat → Int32} {Q : px_Q} (x0 : hget G 2 = some (c_x le la dr ke sd)) (h95 : hget G 95 = some (c_ia 8 st)) (hN : N ≤ 8) (hR : R < 2 ^ 31) (hQ : ∀ G' st', hget G' 95 = some (c_ia 8 st') → (∀ i, i < N → st' i = nI (R / 10 ^ (N - 1 - i) % 10)) → (∀ k, k ≠ 95 → hget G' k = hget G k) → Q (some (.int (zB (decide (R / 10 ^ N = 0))))) G') : pcal (d + 1) 53 [.ref 2, .int (nI N), .int (nI R)] G Q := by
  refine inX6_readSteps ?_
  have fin : ∀ H st' o4, hget H 95 = some (c_ia 8 st') → (∀ i, i < N → st' i = nI (R / 10 ^ (N - 1 - i) % 10)) → (∀ k, k ≠ 95 → hget H k = hget G k) → pr d 53 (G.1 + 0, G.2.1 + 0) Q 34 [some (.ref 2), some (.int (nI N)), some (.int (nI R)), some (.int (nI (R / 10 ^ N))), o4] [] H := by
    intro H st' o4 k1 k2 k3
    have hq : R / 10 ^ N < 2 ^ 31 := Nat.lt_of_le_of_lt (Nat.div_le_self _ _) hR
    have e0 : (nI (R / 10 ^ N) = 0) = (R / 10 ^ N = 0) := by apply propext; exact nI_eq (b := 0) hq (by omega)
    have := hQ H st' k1 k2 k3
    simp only [eX6_readSteps_34, eX6_readSteps_35, pe_ifeq, pe_iload_3, e0, hget_hset, ia_l, ia_s, vin, opl, onl, Int32.reduceLT, Int32.reduceLE, Int32.reduceAdd, Int32.reduceSub, Nat.reduceLT, Nat.reduceAdd, Nat.reduceEqDiff, ↓reduceIte, true_and, and_true, List.length_nil, List.length_cons, Nat.reduceLeDiff, Nat.zero_le]
    split
    · rename_i u1
      simp only [eX6_readSteps_38, eX6_readSteps_39, eX6_readSteps_42, eX6_readSteps_43, pe_const, pe_goto, pe_zret, or_true, hget_hset, ia_l, ia_s, vin, opl, onl, Int32.reduceLT, Int32.reduceLE, Int32.reduceAdd, Int32.reduceSub, Nat.reduceLT, Nat.reduceAdd, Nat.reduceEqDiff, ↓reduceIte, true_and, and_true, List.length_nil, List.length_cons, Nat.reduceLeDiff, Nat.zero_le]
      simpa [zB, u1] using this
    · rename_i u1
      simp only [eX6_readSteps_42, eX6_readSteps_43, pe_const, pe_zret, true_or, hget_hset, ia_l, ia_s, vin, opl, onl, Int32.reduceLT, Int32.reduceLE, Int32.reduceAdd, Int32.reduceSub, Nat.reduceLT, Nat.reduceAdd, Nat.reduceEqDiff, ↓reduceIte, true_and, and_true, List.length_nil, List.length_cons, Nat.reduceLeDiff, Nat.zero_le]
      have e : decide (R / 10 ^ N = 0) = false := by simp only [decide_eq_false_iff_not]; exact u1
      rw [e] at this
      exact this
  have key : ∀ i j H st', i + j = N → hget H 95 = some (c_ia 8 st') → (∀ k, i ≤ k → k < N → st' k = nI (R / 10 ^ (N - 1 - k) % 10)) → (∀ k, k ≠ 95 → hget H k = hget G k) → pr d 53 (G.1 + 0, G.2.1 + 0) Q 7 [some (.ref 2), some (.int (nI N)), some (.int (nI R)), some (.int (nI (R / 10 ^ j))), some (.int (nI i - 1))] [] H := by
    intro i
    induction i with
    | zero =>
      intro j H st' hij k1 k2 k3
      obtain rfl : j = N := by omega
      have c1 : nI 0 - 1 < 0 := by decide
      simp only [eX6_readSteps_7, eX6_readSteps_9, pe_iflt, pe_iload_4, c1, hget_hset, ia_l, ia_s, vin, opl, onl, Int32.reduceLT, Int32.reduceLE, Int32.reduceAdd, Int32.reduceSub, Nat.reduceLT, Nat.reduceAdd, Nat.reduceEqDiff, ↓reduceIte, true_and, and_true, List.length_nil, List.length_cons, Nat.reduceLeDiff, Nat.zero_le]
      exact fin H st' _ k1 (fun i hi => k2 i (by omega) hi) k3
    | succ i ih =>
      intro j H st' hij k1 k2 k3
      have y0 : hget H 2 = some (c_x le la dr ke sd) := (k3 _ (by omega)).trans x0
      have hq : R / 10 ^ j < 2 ^ 31 := Nat.lt_of_le_of_lt (Nat.div_le_self _ _) hR
      have c1 : ¬ nI i < 0 := nI_pos (by omega)
      have c2 : (nI i).toNatClampNeg = i := nI_clamp (by omega)
      have c3 : 0 ≤ nI i := nI_pos' (by omega)
      have c4 : i < 8 := by omega
      have e2 : nI (R / 10 ^ j) / 10 = nI (R / 10 ^ (j + 1)) := by
        have := pk_div (d := 10) hq (by omega) (by omega)
        rw [Nat.div_div_eq_div_mul, ← Nat.pow_succ] at this
        exact this
      have e1 : nI (R / 10 ^ j) - nI (R / 10 ^ (j + 1)) * 10 = nI (R / 10 ^ j % 10) := by
        rw [← e2]
        exact pk_rem (d := 10) hq (by omega) (by omega)
      have e10 : ¬ (10 : Int32) = 0 := by decide
      have e3 : nI i + -1 = nI i - 1 := (Int32.sub_eq_add_neg (nI i) 1).symm
      rw [eX6_readSteps_7]
      simp only [eX6_readSteps_9, eX6_readSteps_12, eX6_readSteps_13, eX6_readSteps_16, eX6_readSteps_18, eX6_readSteps_19, eX6_readSteps_21, eX6_readSteps_22, eX6_readSteps_23, eX6_readSteps_24, eX6_readSteps_26, eX6_readSteps_27, eX6_readSteps_28, eX6_readSteps_31, pe_aload_0, pe_const, pe_getf, pe_goto, pe_iast, pe_idiv, pe_iflt, pe_iinc_4, pe_iload_3, pe_iload_4, pe_irem, pe_istore_3, nI_pred, y0, k1, x_g15, c1, c2, c3, c4, e1, e2, e10, e3, not_false_eq_true, hget_hset, ia_l, ia_s, vin, opl, onl, Int32.reduceLT, Int32.reduceLE, Int32.reduceAdd, Int32.reduceSub, Nat.reduceLT, Nat.reduceAdd, Nat.reduceEqDiff, ↓reduceIte, true_and, and_true, List.length_nil, List.length_cons, Nat.reduceLeDiff, Nat.zero_le]
      refine ih (j + 1) _ _ (by omega) (hget_self _ _ _) (fun k q1 q2 => ?_) (fun k hk => by rw [hget_ne hk]; exact k3 k hk)
      by_cases e : k = i
      · subst e
        simp only [upd, ↓reduceIte]
        rw [show N - 1 - k = j by omega]
      · simp only [upd, e, ↓reduceIte]
        exact k2 k (by omega) q2
  simp only [eX6_readSteps_0, eX6_readSteps_1, eX6_readSteps_2, eX6_readSteps_3, eX6_readSteps_4, eX6_readSteps_5, pe_bin, pe_const, pe_iload_1, pe_iload_2, pe_istore_3, pe_istore_4, hget_hset, ia_l, ia_s, vin, opl, onl, Int32.reduceLT, Int32.reduceLE, Int32.reduceAdd, Int32.reduceSub, Nat.reduceLT, Nat.reduceAdd, Nat.reduceEqDiff, ↓reduceIte, true_and, and_true, List.length_nil, List.length_cons, Nat.reduceLeDiff, Nat.zero_le]
  have := key N 0 G st (by omega) h95 (fun k a b => by omega) (fun _ _ => rfl)
  rw [Nat.pow_zero, Nat.div_one] at this
  exact this
/-- one told step: whether it can be, and what it makes -/
def stO (K : Ld) (f : Int32) : Bool := decide (f = 6) || hP K.m f
def stS (K : Ld) (s : Nat → Int32) (f : Int32) : Nat → Int32 := if f = 6 then aP K 0 s else so s (s 18 ^^^ 1 <<< (f &&& 31))
theorem okT_st {K : Ld} (hv : vK K) {c : Nat} {s : Nat → Int32} (h : okT K c s) (f : Int32) : okT K c (stS K s f) := by
  unfold stS
  split
  · exact okT_aP hv h 0
  · exact okT_so h _
set_option maxRecDepth 100000 in
theorem sp_canStep {d c : Nat} {G : px_H} {le : Int32} {la dr : Nat} {ke : Int32} {sd : Int64} {K : Ld} {f : Int32} {s : Nat → Int32} {Q : px_Q} (hw : wX G le la dr ke sd K) (hs : isS G 86 s) (hv : vK K) (hok : okT K c s) (hQ : ∀ G' s', (stO K f = true → s' = stS K s f) → wX G' le la dr ke sd K → isS G' 86 s' → frZ G G' 86 90 → Q (some (.int (zB (stO K f)))) G') : pcal (d + 3) 54 [.ref 2, .ref 86, .int f] G Q := by
  obtain ⟨w1, w2, w3, w4⟩ := id hw
  have z0 := w4.1
  have l0 := w3.1
  have s0 := hs.obj
  have hla : la + 6 ≤ 17 := by unfold lad at w2; omega
  refine inX6_canStep ?_
  simp only [eX6_canStep_0, eX6_canStep_1, eX6_canStep_3, pe_const, pe_iceq, pe_iload_2, hget_hset, ia_l, ia_s, vin, opl, onl, Int32.reduceLT, Int32.reduceLE, Int32.reduceAdd, Int32.reduceSub, Nat.reduceLT, Nat.reduceAdd, Nat.reduceEqDiff, ↓reduceIte, true_and, and_true, List.length_nil, List.length_cons, Nat.reduceLeDiff, Nat.zero_le]
  split
  · rename_i u1
    simp only [eX6_canStep_6, eX6_canStep_7, eX6_canStep_10, eX6_canStep_11, eX6_canStep_14, eX6_canStep_15, eX6_canStep_16, pe_aload_0, pe_aload_1, pe_callV_3, pe_const, pe_getf, w1, z0, x_g3, x_g5, sr_o, hget_hset, ia_l, ia_s, vin, opl, onl, Int32.reduceLT, Int32.reduceLE, Int32.reduceAdd, Int32.reduceSub, Nat.reduceLT, Nat.reduceAdd, Nat.reduceEqDiff, ↓reduceIte, true_and, and_true, List.length_nil, List.length_cons, Nat.reduceLeDiff, Nat.zero_le]
    refine sp_pass w3 hv.1 w4 hs (aZ_of hv hok 0) (by omega) (by omega) (by omega) ?_
    intro G1 k1 k2 k3
    have fz : frZ G G1 86 90 := fun q q1 q2 => k3 q q2 q1
    simp only [eX6_canStep_19, eX6_canStep_20, eX6_canStep_21, pe_const, pe_pop_i, pe_zret, or_true, hget_hset, ia_l, ia_s, vin, opl, onl, Int32.reduceLT, Int32.reduceLE, Int32.reduceAdd, Int32.reduceSub, Nat.reduceLT, Nat.reduceAdd, Nat.reduceEqDiff, ↓reduceIte, true_and, and_true, List.length_nil, List.length_cons, Nat.reduceLeDiff, Nat.zero_le]
    have := hQ G1 _ (fun _ => by rw [stS, if_pos u1]) (hw.fr fz (by omega) k2) k1 fz
    have e : stO K f = true := by simp [stO, u1]
    rw [e] at this
    exact this
  · rename_i u1
    simp only [eX6_canStep_22, eX6_canStep_23, eX6_canStep_26, eX6_canStep_27, pe_aload_0, pe_callV_1, pe_getf, pe_iload_2, w1, l0, x_g3, ld_o, hget_hset, ia_l, ia_s, vin, opl, onl, Int32.reduceLT, Int32.reduceLE, Int32.reduceAdd, Int32.reduceSub, Nat.reduceLT, Nat.reduceAdd, Nat.reduceEqDiff, ↓reduceIte, true_and, and_true, List.length_nil, List.length_cons, Nat.reduceLeDiff, Nat.zero_le]
    refine sp_hasDitch w3 ?_
    simp only [eX6_canStep_30, eX6_canStep_33, eX6_canStep_34, pe_const, pe_ifeq, pe_zret, zB_0, hget_hset, ia_l, ia_s, vin, opl, onl, Int32.reduceLT, Int32.reduceLE, Int32.reduceAdd, Int32.reduceSub, Nat.reduceLT, Nat.reduceAdd, Nat.reduceEqDiff, ↓reduceIte, true_and, and_true, List.length_nil, List.length_cons, Nat.reduceLeDiff, Nat.zero_le]
    split
    · rename_i u2
      have e : stO K f = false := by simp [stO, u1, u2]
      simp only [true_or, true_and]
      have := hQ G s (fun z => by rw [e] at z; cases z) hw hs frZ.rf
      rw [e] at this
      exact this
    · rename_i u2
      have e : stO K f = true := by simp [stO, hP_t u2]
      simp only [eX6_canStep_35, eX6_canStep_36, eX6_canStep_37, eX6_canStep_40, eX6_canStep_41, eX6_canStep_42, eX6_canStep_43, eX6_canStep_44, eX6_canStep_47, eX6_canStep_48, pe_aload_1, pe_bin, pe_const, pe_dup_i, pe_dup_r, pe_getf, pe_iload_2, pe_putf, pe_zret, s0, sc_g0, sc_g1, sc_g2, sc_g3, sc_g4, sc_p3, sc_p4, sc_o, or_true, hget_hset, ia_l, ia_s, vin, opl, onl, Int32.reduceLT, Int32.reduceLE, Int32.reduceAdd, Int32.reduceSub, Nat.reduceLT, Nat.reduceAdd, Nat.reduceEqDiff, ↓reduceIte, true_and, and_true, List.length_nil, List.length_cons, Nat.reduceLeDiff, Nat.zero_le]
      have fz : frZ G (hset G 86 (c_sc 86 (s 18 ^^^ 1 <<< (f &&& 31)) (s 19))) 86 90 := fun q q1 q2 => by rw [hget_ne (by omega)]
      have := hQ _ _ (fun _ => by rw [stS, if_neg u1]) (hw.fr fz (by omega) (w4.kept (fz _ (by omega) (by omega)) (by rw [hget_ne (by omega)]))) hs.so fz
      rw [e] at this
      exact this
/-- the place of the first step, from i on, that can not be or wets a town -/
def jG (K : Ld) (wet : Int32) (fs : Nat → Int32) : Nat → Nat → (Nat → Int32) → Int32
  | 0, _, _ => -9
  | k + 1, i, s => if stO K (fs i) = true ∧ aWe (stS K s (fs i)) 6 = wet then jG K wet fs k (i + 1) (stS K s (fs i)) else nI i
def jF (N R : Nat) : Nat → Int32 := fun i => nI (R / 10 ^ (N - 1 - i) % 10)
theorem jG_e {K : Ld} {wet : Int32} {f g : Nat → Int32} {N : Nat} (h : ∀ i, i < N → f i = g i) : ∀ k i s, i + k = N → jG K wet f k i s = jG K wet g k i s
  | 0, _, _, _ => rfl
  | k + 1, i, s, hi => by
    rw [jG, jG, h i (by omega)]
    split
    · exact jG_e h k (i + 1) _ (by omega)
    · rfl
def aJu (K : Ld) (t : Nat → Int32) (n row : Int32) : Int32 :=
  if n < 1 ∨ 8 < n ∨ row < 0 ∨ ¬ row.toNatClampNeg / 10 ^ n.toNatClampNeg = 0 then -2 else jG K (aWe t 6) (jF n.toNatClampNeg row.toNatClampNeg) n.toNatClampNeg 0 t
set_option maxRecDepth 100000 in
theorem sp_judge {d c : Nat} {G : px_H} {le : Int32} {la dr : Nat} {ke : Int32} {sd : Int64} {K : Ld} {n row : Int32} {t st : Nat → Int32} {Q : px_Q} (hr : rX G le la dr ke sd K t) (h95 : hget G 95 = some (c_ia 8 st)) (hv : vK K) (hok : okT K c t) (hQ : ∀ G', rX G' le la dr ke sd K t → (∃ st', hget G' 95 = some (c_ia 8 st')) → frZ G G' 86 96 → Q (some (.int (aJu K t n row))) G') : pcal (d + 4) 52 [.ref 2, .int n, .int row] G Q := by
  have x0 := hr.x
  refine inX6_judge ?_
  have bad : (n < 1 ∨ 8 < n ∨ row < 0 ∨ ¬ row.toNatClampNeg / 10 ^ n.toNatClampNeg = 0) → ∀ H, rX H le la dr ke sd K t → (∃ st', hget H 95 = some (c_ia 8 st')) → frZ G H 86 96 → pr (d + 3) 52 (G.1 + 0, G.2.1 + 0) Q 24 [some (.ref 2), some (.int n), some (.int row), none, none] [] H := by
    intro u H k1 k2 k3
    simp only [eX6_judge_24, eX6_judge_26, pe_const, pe_iret, hget_hset, ia_l, ia_s, vin, opl, onl, Int32.reduceLT, Int32.reduceLE, Int32.reduceAdd, Int32.reduceSub, Nat.reduceLT, Nat.reduceAdd, Nat.reduceEqDiff, ↓reduceIte, true_and, and_true, List.length_nil, List.length_cons, Nat.reduceLeDiff, Nat.zero_le]
    have := hQ H k1 k2 k3
    rw [aJu, if_pos u] at this
    exact this
  simp only [eX6_judge_0, eX6_judge_1, eX6_judge_2, pe_const, pe_iclt, pe_iload_1, hget_hset, ia_l, ia_s, vin, opl, onl, Int32.reduceLT, Int32.reduceLE, Int32.reduceAdd, Int32.reduceSub, Nat.reduceLT, Nat.reduceAdd, Nat.reduceEqDiff, ↓reduceIte, true_and, and_true, List.length_nil, List.length_cons, Nat.reduceLeDiff, Nat.zero_le]
  split
  · rename_i u1
    exact bad (Or.inl u1) G hr ⟨st, h95⟩ frZ.rf
  · rename_i u1
    simp only [eX6_judge_5, eX6_judge_6, eX6_judge_8, pe_const, pe_icgt, pe_iload_1, hget_hset, ia_l, ia_s, vin, opl, onl, Int32.reduceLT, Int32.reduceLE, Int32.reduceAdd, Int32.reduceSub, Nat.reduceLT, Nat.reduceAdd, Nat.reduceEqDiff, ↓reduceIte, true_and, and_true, List.length_nil, List.length_cons, Nat.reduceLeDiff, Nat.zero_le]
    split
    · rename_i u2
      exact bad (Or.inr (Or.inl u2)) G hr ⟨st, h95⟩ frZ.rf
    · rename_i u2
      simp only [eX6_judge_11, eX6_judge_12, pe_iflt, pe_iload_2, hget_hset, ia_l, ia_s, vin, opl, onl, Int32.reduceLT, Int32.reduceLE, Int32.reduceAdd, Int32.reduceSub, Nat.reduceLT, Nat.reduceAdd, Nat.reduceEqDiff, ↓reduceIte, true_and, and_true, List.length_nil, List.length_cons, Nat.reduceLeDiff, Nat.zero_le]
      split
      · rename_i u3
        exact bad (Or.inr (Or.inr (Or.inl u3))) G hr ⟨st, h95⟩ frZ.rf
      · rename_i u3
        obtain ⟨N, hN, rfl⟩ := nI_of2 (M := 8) (n := 8) (x := n) (by decide) (fun z => u1 (Int32.lt_trans z (by decide))) (Int32.not_lt.mp u2)
        obtain ⟨R, hR, rfl⟩ := nI_of (x := row) u3
        have hNc : (nI N).toNatClampNeg = N := nI_clamp (by omega)
        have hRc : (nI R).toNatClampNeg = R := nI_clamp hR
        simp only [eX6_judge_15, eX6_judge_16, eX6_judge_17, eX6_judge_18, pe_aload_0, pe_callV_2, pe_iload_1, pe_iload_2, x0, x_o, hget_hset, ia_l, ia_s, vin, opl, onl, Int32.reduceLT, Int32.reduceLE, Int32.reduceAdd, Int32.reduceSub, Nat.reduceLT, Nat.reduceAdd, Nat.reduceEqDiff, ↓reduceIte, true_and, and_true, List.length_nil, List.length_cons, Nat.reduceLeDiff, Nat.zero_le]
        refine sp_readSteps x0 h95 hN hR ?_
        intro G1 st1 e1 e2 e3
        have fz1 : frZ G G1 95 96 := fun k a b => e3 k (by omega)
        have z1 : isZ G1 17 := hr.1.2.2.2.kept (e3 _ (by omega)) (e3 _ (by omega))
        have r1 : rX G1 le la dr ke sd K t := ⟨hr.1.fr fz1 (by omega) z1, hr.2.1.frZ fz1 (by omega) (by omega), hr.2.2.1.elim (fun u hu => ⟨u, hu.frZ fz1 (by omega) (by omega)⟩), hr.2.2.2.elim (fun u hu => ⟨u, hu.frZ fz1 (by omega) (by omega)⟩)⟩
        simp only [eX6_judge_21, pe_ifeq, zB_0, decide_eq_false_iff_not, hget_hset, ia_l, ia_s, vin, opl, onl, Int32.reduceLT, Int32.reduceLE, Int32.reduceAdd, Int32.reduceSub, Nat.reduceLT, Nat.reduceAdd, Nat.reduceEqDiff, ↓reduceIte, true_and, and_true, List.length_nil, List.length_cons, Nat.reduceLeDiff, Nat.zero_le]
        split
        · rename_i u4
          exact bad (Or.inr (Or.inr (Or.inr (by rw [hNc, hRc]; exact u4)))) G1 r1 ⟨st1, e1⟩ (fz1.wd (by omega) (by omega))
        · rename_i u4
          have good : ¬ (nI N < 1 ∨ 8 < nI N ∨ nI R < 0 ∨ ¬ R / 10 ^ N = 0) := by rintro (z | z | z | z) <;> contradiction
          obtain ⟨v1, v2, ⟨tu, v3⟩, mv, v4⟩ := id r1
          have y0 := r1.x
          have t0 := v3.obj
          simp only [eX6_judge_27, eX6_judge_28, eX6_judge_31, eX6_judge_32, eX6_judge_35, pe_aload_0, pe_callV_1, pe_getf, y0, t0, x_g6, x_g12, sc_g0, sc_g1, sc_g2, sc_g3, sc_g4, sc_p3, sc_p4, sc_o, hget_hset, ia_l, ia_s, vin, opl, onl, Int32.reduceLT, Int32.reduceLE, Int32.reduceAdd, Int32.reduceSub, Nat.reduceLT, Nat.reduceAdd, Nat.reduceEqDiff, ↓reduceIte, true_and, and_true, List.length_nil, List.length_cons, Nat.reduceLeDiff, Nat.zero_le]
          refine sp_copy v3 v2 (by omega) ?_
          intro G2 g1 g2
          have fz2 : frZ G G2 86 96 := (fz1.wd (by omega) (by omega)).tr (fun k a b => g2 k (by omega))
          have z2 : isZ G2 17 := z1.kept (g2 _ (by omega)) (g2 _ (by omega))
          have w2 : wX G2 le la dr ke sd K := hr.1.fr fz2 (by omega) z2
          have y2 := w2.1
          have t2 := g1.obj
          simp only [eX6_judge_38, eX6_judge_39, eX6_judge_42, pe_aload_0, pe_callV_0, pe_getf, y2, t2, x_g12, sc_g0, sc_g1, sc_g2, sc_g3, sc_g4, sc_p3, sc_p4, sc_o, hget_hset, ia_l, ia_s, vin, opl, onl, Int32.reduceLT, Int32.reduceLE, Int32.reduceAdd, Int32.reduceSub, Nat.reduceLT, Nat.reduceAdd, Nat.reduceEqDiff, ↓reduceIte, true_and, and_true, List.length_nil, List.length_cons, Nat.reduceLeDiff, Nat.zero_le]
          refine sp_wetTowns g1 ?_
          simp only [eX6_judge_45, eX6_judge_46, eX6_judge_47, pe_const, pe_istore_3, pe_istore_4, hget_hset, ia_l, ia_s, vin, opl, onl, Int32.reduceLT, Int32.reduceLE, Int32.reduceAdd, Int32.reduceSub, Nat.reduceLT, Nat.reduceAdd, Nat.reduceEqDiff, ↓reduceIte, true_and, and_true, List.length_nil, List.length_cons, Nat.reduceLeDiff, Nat.zero_le]
          have e95 : hget G2 95 = some (c_ia 8 st1) := (g2 _ (by omega)).trans e1
          have m2 : isS G2 90 mv := v4.kept (fun k a b => g2 k (by omega))
          have fin : ∀ H s e, wX H le la dr ke sd K → isS H 86 s → frZ G2 H 86 90 → e = jG K (aWe t 6) (jF N R) N 0 t → Q (some (.int e)) H := by
            intro H s e k1 k2 k3 k4
            have fzH := fz2.tr (k3.wd (by omega) (by omega))
            have := hQ H ⟨k1, hr.2.1.frZ fzH (by omega) (by omega), ⟨s, k2⟩, mv, m2.frZ k3 (by omega) (by omega)⟩ ⟨st1, (k3 _ (by omega) (by omega)).trans e95⟩ fzH
            rw [aJu, hNc, hRc, if_neg good, ← k4] at this
            exact this
          have key : ∀ j i H s, i + j = N → wX H le la dr ke sd K → isS H 86 s → okT K c s → frZ G2 H 86 90 → jG K (aWe t 6) st1 j i s = jG K (aWe t 6) st1 N 0 t → pr (d + 3) 52 (G.1 + 0, G.2.1 + 0) Q 49 [some (.ref 2), some (.int (nI N)), some (.int (nI R)), some (.int (aWe t 6)), some (.int (nI i))] [] H := by
            have eJ : jG K (aWe t 6) st1 N 0 t = jG K (aWe t 6) (jF N R) N 0 t := jG_e (fun i hi => e2 i hi) N 0 t (by omega)
            intro j
            induction j with
            | zero =>
              intro i H s hij k1 k2 k3 k4 k5
              obtain rfl : i = N := by omega
              simp only [eX6_judge_49, eX6_judge_51, eX6_judge_52, eX6_judge_93, eX6_judge_95, pe_const, pe_iclt, pe_iload_1, pe_iload_4, pe_iret, niE, hget_hset, ia_l, ia_s, vin, opl, onl, Int32.reduceLT, Int32.reduceLE, Int32.reduceAdd, Int32.reduceSub, Nat.reduceLT, Nat.reduceAdd, Nat.reduceEqDiff, ↓reduceIte, true_and, and_true, List.length_nil, List.length_cons, Nat.reduceLeDiff, Nat.zero_le]
              exact fin H s _ k1 k2 k4 (by rw [← eJ, ← k5]; rfl)
            | succ j ih =>
              intro i H s hij k1 k2 k3 k4 k5
              have c1 := niK (i := i) (n := N) (by omega) (by omega)
              have c2 : (nI i).toNatClampNeg = i := nI_clamp (by omega)
              have c3 : 0 ≤ nI i := nI_pos' (by omega)
              have c4 : i < 8 := by omega
              have h0 := k1.1
              have h9 : hget H 95 = some (c_ia 8 st1) := (k4 _ (by omega) (by omega)).trans e95
              simp only [eX6_judge_49, eX6_judge_51, eX6_judge_52, eX6_judge_55, eX6_judge_56, eX6_judge_57, eX6_judge_60, eX6_judge_61, eX6_judge_64, eX6_judge_66, eX6_judge_67, pe_aload_0, pe_callV_2, pe_getf, pe_iald, pe_iclt, pe_iload_1, pe_iload_4, h0, h9, x_g12, x_g15, x_o, c1, c2, c3, c4, hget_hset, ia_l, ia_s, vin, opl, onl, Int32.reduceLT, Int32.reduceLE, Int32.reduceAdd, Int32.reduceSub, Nat.reduceLT, Nat.reduceAdd, Nat.reduceEqDiff, ↓reduceIte, true_and, and_true, List.length_nil, List.length_cons, Nat.reduceLeDiff, Nat.zero_le]
              refine sp_canStep k1 k2 hv k3 ?_
              intro G3 s3 a0 a1 a2 a3
              simp only [eX6_judge_70, pe_ifeq, zB_0, hget_hset, ia_l, ia_s, vin, opl, onl, Int32.reduceLT, Int32.reduceLE, Int32.reduceAdd, Int32.reduceSub, Nat.reduceLT, Nat.reduceAdd, Nat.reduceEqDiff, ↓reduceIte, true_and, and_true, List.length_nil, List.length_cons, Nat.reduceLeDiff, Nat.zero_le]
              rw [jG] at k5
              split
              · rename_i u5
                rw [if_neg (fun z => by rw [z.1] at u5; cases u5)] at k5
                simp only [eX6_judge_84, eX6_judge_86, pe_iload_4, pe_iret, hget_hset, ia_l, ia_s, vin, opl, onl, Int32.reduceLT, Int32.reduceLE, Int32.reduceAdd, Int32.reduceSub, Nat.reduceLT, Nat.reduceAdd, Nat.reduceEqDiff, ↓reduceIte, true_and, and_true, List.length_nil, List.length_cons, Nat.reduceLeDiff, Nat.zero_le]
                exact fin G3 s3 _ a1 a2 (k4.tr a3) (by rw [← eJ, ← k5])
              · rename_i u5
                have u5' : stO K (st1 i) = true := by cases h : stO K (st1 i) with | true => rfl | false => exact absurd h u5
                have a0' := a0 u5'
                subst a0'
                have h3 := a1.1
                have s3o := a2.obj
                simp only [eX6_judge_73, eX6_judge_74, eX6_judge_77, pe_aload_0, pe_callV_0, pe_getf, h3, s3o, x_g12, sc_g0, sc_g1, sc_g2, sc_g3, sc_g4, sc_p3, sc_p4, sc_o, hget_hset, ia_l, ia_s, vin, opl, onl, Int32.reduceLT, Int32.reduceLE, Int32.reduceAdd, Int32.reduceSub, Nat.reduceLT, Nat.reduceAdd, Nat.reduceEqDiff, ↓reduceIte, true_and, and_true, List.length_nil, List.length_cons, Nat.reduceLeDiff, Nat.zero_le]
                refine sp_wetTowns a2 ?_
                simp only [eX6_judge_80, eX6_judge_81, pe_iceq, pe_iload_3, hget_hset, ia_l, ia_s, vin, opl, onl, Int32.reduceLT, Int32.reduceLE, Int32.reduceAdd, Int32.reduceSub, Nat.reduceLT, Nat.reduceAdd, Nat.reduceEqDiff, ↓reduceIte, true_and, and_true, List.length_nil, List.length_cons, Nat.reduceLeDiff, Nat.zero_le]
                split
                · rename_i u6
                  rw [if_pos ⟨u5', u6⟩] at k5
                  simp only [eX6_judge_87, eX6_judge_90, pe_goto, pe_iinc_4, nisw, hget_hset, ia_l, ia_s, vin, opl, onl, Int32.reduceLT, Int32.reduceLE, Int32.reduceAdd, Int32.reduceSub, Nat.reduceLT, Nat.reduceAdd, Nat.reduceEqDiff, ↓reduceIte, true_and, and_true, List.length_nil, List.length_cons, Nat.reduceLeDiff, Nat.zero_le]
                  exact ih (i + 1) G3 _ (by omega) a1 a2 (okT_st hv k3 _) (k4.tr a3) k5
                · rename_i u6
                  rw [if_neg (fun z => u6 z.2)] at k5
                  simp only [eX6_judge_84, eX6_judge_86, pe_iload_4, pe_iret, hget_hset, ia_l, ia_s, vin, opl, onl, Int32.reduceLT, Int32.reduceLE, Int32.reduceAdd, Int32.reduceSub, Nat.reduceLT, Nat.reduceAdd, Nat.reduceEqDiff, ↓reduceIte, true_and, and_true, List.length_nil, List.length_cons, Nat.reduceLeDiff, Nat.zero_le]
                  exact fin G3 _ _ a1 a2 (k4.tr a3) (by rw [← eJ, ← k5])
          exact key N 0 G2 t (by omega) w2 g1 hok frZ.rf rfl
