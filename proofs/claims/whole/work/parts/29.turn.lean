/-! ===== the class: turnings tried one by one ===== -/
def rX (G : px_H) (le : Int32) (la dr : Nat) (ke : Int32) (sd : Int64) (K : Ld) (t : Nat → Int32) : Prop := wX G le la dr ke sd K ∧ isS G 19 t ∧ (∃ u, isS G 86 u) ∧ ∃ v, isS G 90 v
theorem rX.fr {G G' : px_H} {le : Int32} {la dr : Nat} {ke : Int32} {sd : Int64} {K : Ld} {t u v : Nat → Int32} (h : rX G le la dr ke sd K t) (hf : frZ G G' 86 94) (hz : isZ G' 17) (hu : isS G' 86 u) (hv : isS G' 90 v) : rX G' le la dr ke sd K t := ⟨h.1.fr hf (by omega) hz, h.2.1.frZ hf (by omega) (by omega), ⟨u, hu⟩, v, hv⟩
theorem rX.x {G : px_H} {le : Int32} {la dr : Nat} {ke : Int32} {sd : Int64} {K : Ld} {t : Nat → Int32} (h : rX G le la dr ke sd K t) : hget G 2 = some (c_x le la dr ke sd) := h.1.1
theorem rX.l {G : px_H} {le : Int32} {la dr : Nat} {ke : Int32} {sd : Int64} {K : Ld} {t : Nat → Int32} (h : rX G le la dr ke sd K t) : isL G la K := h.1.2.2.1
theorem rX.lo {G : px_H} {le : Int32} {la dr : Nat} {ke : Int32} {sd : Int64} {K : Ld} {t : Nat → Int32} (h : rX G le la dr ke sd K t) : hget G la = some (c_ld la K.oa (nI K.n) (nI K.m)) := h.1.2.2.1.1
theorem frZ.rf {G : px_H} {lo hi : Nat} : frZ G G lo hi := fun _ _ _ => rfl
/-- a turning tried for k hours -/
def sT (K : Ld) (t : Nat → Int32) (k : Nat) (u : Int32) : Nat → Int32 := aH K 0 k (so t u)
theorem sp_try {d k : Nat} {G : px_H} {le : Int32} {la dr : Nat} {ke : Int32} {sd : Int64} {K : Ld} {c : Nat} {o : Int32} {t : Nat → Int32} {Q : px_Q} (hr : rX G le la dr ke sd K t) (hv : vK K) (hok : okT K c t) (hk : k ≤ 12) (hQ : ∀ G', rX G' le la dr ke sd K t → isS G' 86 (sT K t k o) → frZ G G' 86 94 → Q none G') : pcal (d + 4) 65 [.ref 2, .int o, .int (nI k)] G Q := by
  obtain ⟨h1, h2, ⟨u, h3⟩, v, h4⟩ := id hr
  refine sp_tryTurning h1 hv h2 h3 hok (by omega) ?_
  intro G' e1 e2 e3
  exact hQ G' (hr.fr (e3.wd (by omega) (by omega)) e2 e1 (h4.frZ e3 (by omega) (by omega))) e1 (e3.wd (by omega) (by omega))
theorem allD {m : Nat} (h : m ≤ 6) : b1 m - 1 = nI (2 ^ m - 1) := by
  rcases (show m = 0 ∨ m = 1 ∨ m = 2 ∨ m = 3 ∨ m = 4 ∨ m = 5 ∨ m = 6 by omega) with rfl | rfl | rfl | rfl | rfl | rfl | rfl <;> decide
theorem p2m {m : Nat} (h : m ≤ 6) : 1 ≤ 2 ^ m ∧ 2 ^ m ≤ 64 := by
  rcases (show m = 0 ∨ m = 1 ∨ m = 2 ∨ m = 3 ∨ m = 4 ∨ m = 5 ∨ m = 6 by omega) with rfl | rfl | rfl | rfl | rfl | rfl | rfl <;> decide
theorem niG {i N : Nat} (h : i < N) (hN : N ≤ 64) : ¬ nI (N - 1) < nI i := nI_nlt (by omega) (by omega)
theorem niG' {N : Nat} (h : 1 ≤ N) (hN : N ≤ 64) : nI (N - 1) < nI N := nI_lt (by omega) (by omega)
/-- fewest turned: best and how many, over the turnings below u -/
def fS (K : Ld) (t : Nat → Int32) (k : Nat) (hd : Int32) (u : Nat) (q : Int32 × Int32) : Int32 × Int32 :=
  if (nI u ^^^ t 18) &&& hd = 0 ∧ bc (nI u ^^^ t 18) < q.2 ∧ aDo (sT K t k (nI u)) 6 = true then (nI u, bc (nI u ^^^ t 18)) else q
def fSs (K : Ld) (t : Nat → Int32) (k : Nat) (hd : Int32) : Nat → Int32 × Int32
  | 0 => (-9, 13)
  | u + 1 => fS K t k hd u (fSs K t k hd u)
set_option maxRecDepth 100000 in
theorem sp_fewestTurned {d k : Nat} {G : px_H} {le : Int32} {la dr : Nat} {ke : Int32} {sd : Int64} {K : Ld} {c : Nat} {hd : Int32} {t : Nat → Int32} {Q : px_Q} (hr : rX G le la dr ke sd K t) (hv : vK K) (hok : okT K c t) (hk : k ≤ 12) (hQ : ∀ G', rX G' le la dr ke sd K t → frZ G G' 86 94 → Q (some (.int (fSs K t k hd (2 ^ K.m)).1)) G') : pcal (d + 5) 67 [.ref 2, .int (nI k), .int hd] G Q := by
  have hm := hv.1.2.1
  obtain ⟨n1, n2⟩ := p2m hm
  refine inX6_fewestTurned ?_
  have x0 := hr.x
  have l0 := hr.lo
  simp only [eX6_fewestTurned_0, eX6_fewestTurned_2, eX6_fewestTurned_3, eX6_fewestTurned_5, eX6_fewestTurned_7, eX6_fewestTurned_8, eX6_fewestTurned_11, pe_aload_0, pe_callV_0, pe_const, pe_getf, pe_istore_3, pe_istore_4, x0, l0, x_g3, ld_o, hget_hset, ia_l, ia_s, vin, opl, onl, Int32.reduceLT, Int32.reduceLE, Int32.reduceAdd, Int32.reduceSub, Nat.reduceLT, Nat.reduceAdd, Nat.reduceEqDiff, ↓reduceIte, true_and, and_true, List.length_nil, List.length_cons, Nat.reduceLeDiff, Nat.zero_le]
  refine sp_allDitches hr.l ?_
  simp only [eX6_fewestTurned_14, eX6_fewestTurned_16, eX6_fewestTurned_17, pe_const, pe_istore_5, pe_istore_6, allD hm, hget_hset, ia_l, ia_s, vin, opl, onl, Int32.reduceLT, Int32.reduceLE, Int32.reduceAdd, Int32.reduceSub, Nat.reduceLT, Nat.reduceAdd, Nat.reduceEqDiff, ↓reduceIte, true_and, and_true, List.length_nil, List.length_cons, Nat.reduceLeDiff, Nat.zero_le]
  have key : ∀ j i H o7 best few, i + j = 2 ^ K.m → rX H le la dr ke sd K t → frZ G H 86 94 → (best, few) = fSs K t k hd i → pr (d + 4) 67 (G.1 + 0, G.2.1 + 0) Q 19 [some (.ref 2), some (.int (nI k)), some (.int hd), some (.int best), some (.int few), some (.int (nI (2 ^ K.m - 1))), some (.int (nI i)), o7] [] H := by
    intro j
    induction j with
    | zero =>
      intro i H o7 best few hi k1 k2 k3
      obtain rfl : i = 2 ^ K.m := by omega
      simp only [eX6_fewestTurned_19, eX6_fewestTurned_21, eX6_fewestTurned_23, eX6_fewestTurned_88, eX6_fewestTurned_89, pe_icgt, pe_iload_3, pe_iload_5, pe_iload_6, pe_iret, niG' n1 n2, hget_hset, ia_l, ia_s, vin, opl, onl, Int32.reduceLT, Int32.reduceLE, Int32.reduceAdd, Int32.reduceSub, Nat.reduceLT, Nat.reduceAdd, Nat.reduceEqDiff, ↓reduceIte, true_and, and_true, List.length_nil, List.length_cons, Nat.reduceLeDiff, Nat.zero_le]
      have := hQ H k1 k2
      rw [← k3] at this
      exact this
    | succ j ih =>
      intro i H o7 best few hi k1 k2 k3
      have c1 := niG (i := i) (N := 2 ^ K.m) (by omega) n2
      have y0 := k1.x
      have s0 := k1.2.1.obj
      have st : fSs K t k hd (i + 1) = fS K t k hd i (best, few) := by rw [fSs, ← k3]
      have skip : ∀ (H' : px_H) (o : Option Value), rX H' le la dr ke sd K t → frZ G H' 86 94 → ¬ ((nI i ^^^ t 18) &&& hd = 0 ∧ bc (nI i ^^^ t 18) < few ∧ aDo (sT K t k (nI i)) 6 = true) → pr (d + 4) 67 (G.1 + 0, G.2.1 + 0) Q 82 [some (.ref 2), some (.int (nI k)), some (.int hd), some (.int best), some (.int few), some (.int (nI (2 ^ K.m - 1))), some (.int (nI i)), o] [] H' := by
        intro H' o q1 q2 q3
        simp only [eX6_fewestTurned_82, eX6_fewestTurned_85, pe_goto, pe_iinc_6, nisw, hget_hset, ia_l, ia_s, vin, opl, onl, Int32.reduceLT, Int32.reduceLE, Int32.reduceAdd, Int32.reduceSub, Nat.reduceLT, Nat.reduceAdd, Nat.reduceEqDiff, ↓reduceIte, true_and, and_true, List.length_nil, List.length_cons, Nat.reduceLeDiff, Nat.zero_le]
        refine ih (i + 1) H' o best few (by omega) q1 q2 ?_
        rw [st, fS, if_neg q3]
      simp only [eX6_fewestTurned_19, eX6_fewestTurned_21, eX6_fewestTurned_23, eX6_fewestTurned_26, eX6_fewestTurned_28, eX6_fewestTurned_29, eX6_fewestTurned_32, eX6_fewestTurned_35, eX6_fewestTurned_36, eX6_fewestTurned_38, eX6_fewestTurned_40, eX6_fewestTurned_41, eX6_fewestTurned_42, pe_aload_0, pe_bin, pe_getf, pe_icgt, pe_ifeq, pe_iload_2, pe_iload_5, pe_iload_6, pe_iload_7, pe_istore_7, y0, s0, x_g6, sc_g0, sc_g1, sc_g2, sc_g3, sc_g4, sc_p3, sc_p4, sc_o, c1, hget_hset, ia_l, ia_s, vin, opl, onl, Int32.reduceLT, Int32.reduceLE, Int32.reduceAdd, Int32.reduceSub, Nat.reduceLT, Nat.reduceAdd, Nat.reduceEqDiff, ↓reduceIte, true_and, and_true, List.length_nil, List.length_cons, Nat.reduceLeDiff, Nat.zero_le]
      split
      · rename_i u1
        simp only [eX6_fewestTurned_45, eX6_fewestTurned_47, pe_callS_1, pe_iload_7, hget_hset, ia_l, ia_s, vin, opl, onl, Int32.reduceLT, Int32.reduceLE, Int32.reduceAdd, Int32.reduceSub, Nat.reduceLT, Nat.reduceAdd, Nat.reduceEqDiff, ↓reduceIte, true_and, and_true, List.length_nil, List.length_cons, Nat.reduceLeDiff, Nat.zero_le]
        refine sp_bitCount ?_
        simp only [eX6_fewestTurned_50, eX6_fewestTurned_52, pe_iclt, pe_iload_4, hget_hset, ia_l, ia_s, vin, opl, onl, Int32.reduceLT, Int32.reduceLE, Int32.reduceAdd, Int32.reduceSub, Nat.reduceLT, Nat.reduceAdd, Nat.reduceEqDiff, ↓reduceIte, true_and, and_true, List.length_nil, List.length_cons, Nat.reduceLeDiff, Nat.zero_le]
        split
        · rename_i u2
          simp only [eX6_fewestTurned_55, eX6_fewestTurned_56, eX6_fewestTurned_58, eX6_fewestTurned_59, pe_aload_0, pe_callV_2, pe_iload_1, pe_iload_6, y0, x_o, hget_hset, ia_l, ia_s, vin, opl, onl, Int32.reduceLT, Int32.reduceLE, Int32.reduceAdd, Int32.reduceSub, Nat.reduceLT, Nat.reduceAdd, Nat.reduceEqDiff, ↓reduceIte, true_and, and_true, List.length_nil, List.length_cons, Nat.reduceLeDiff, Nat.zero_le]
          refine sp_try k1 hv hok hk ?_
          intro G1 e1 e2 e3
          have y1 := e1.x
          have f2 := e2.obj
          simp only [eX6_fewestTurned_62, eX6_fewestTurned_63, eX6_fewestTurned_66, pe_aload_0, pe_callV_0, pe_getf, y1, f2, x_g12, sc_g0, sc_g1, sc_g2, sc_g3, sc_g4, sc_p3, sc_p4, sc_o, hget_hset, ia_l, ia_s, vin, opl, onl, Int32.reduceLT, Int32.reduceLE, Int32.reduceAdd, Int32.reduceSub, Nat.reduceLT, Nat.reduceAdd, Nat.reduceEqDiff, ↓reduceIte, true_and, and_true, List.length_nil, List.length_cons, Nat.reduceLeDiff, Nat.zero_le]
          refine sp_isDone e2 ?_
          simp only [eX6_fewestTurned_69, pe_ifeq, zB_0, hget_hset, ia_l, ia_s, vin, opl, onl, Int32.reduceLT, Int32.reduceLE, Int32.reduceAdd, Int32.reduceSub, Nat.reduceLT, Nat.reduceAdd, Nat.reduceEqDiff, ↓reduceIte, true_and, and_true, List.length_nil, List.length_cons, Nat.reduceLeDiff, Nat.zero_le]
          split
          · rename_i u3
            exact skip G1 _ e1 (k2.tr e3) (fun z => by rw [z.2.2] at u3; cases u3)
          · rename_i u3
            simp only [eX6_fewestTurned_72, eX6_fewestTurned_74, pe_callS_1, pe_iload_7, hget_hset, ia_l, ia_s, vin, opl, onl, Int32.reduceLT, Int32.reduceLE, Int32.reduceAdd, Int32.reduceSub, Nat.reduceLT, Nat.reduceAdd, Nat.reduceEqDiff, ↓reduceIte, true_and, and_true, List.length_nil, List.length_cons, Nat.reduceLeDiff, Nat.zero_le]
            refine sp_bitCount ?_
            simp only [eX6_fewestTurned_77, eX6_fewestTurned_79, eX6_fewestTurned_81, eX6_fewestTurned_82, eX6_fewestTurned_85, pe_goto, pe_iinc_6, pe_iload_6, pe_istore_3, pe_istore_4, nisw, hget_hset, ia_l, ia_s, vin, opl, onl, Int32.reduceLT, Int32.reduceLE, Int32.reduceAdd, Int32.reduceSub, Nat.reduceLT, Nat.reduceAdd, Nat.reduceEqDiff, ↓reduceIte, true_and, and_true, List.length_nil, List.length_cons, Nat.reduceLeDiff, Nat.zero_le]
            refine ih (i + 1) G1 _ _ _ (by omega) e1 (k2.tr e3) ?_
            rw [st, fS, if_pos ⟨u1, u2, by cases h : aDo (sT K t k (nI i)) 6 with | true => rfl | false => exact absurd h u3⟩]
        · rename_i u2
          exact skip H _ k1 k2 (fun z => u2 z.2.1)
      · rename_i u1
        exact skip H _ k1 k2 (fun z => u1 z.1)
  exact key (2 ^ K.m) 0 G none (-9) 13 (by omega) hr frZ.rf rfl
/-! public calls that try turnings -/
def aOnce (K : Ld) (t : Nat → Int32) (h mny : Int32) : Int32 :=
  if aHr h = false then -2 else
  if (fSs K t h.toNatClampNeg 0 (2 ^ K.m)).1 = -9 then -9 else if mny = 0 then (fSs K t h.toNatClampNeg 0 (2 ^ K.m)).1 else bc ((fSs K t h.toNatClampNeg 0 (2 ^ K.m)).1 ^^^ t 18)
set_option maxRecDepth 100000 in
theorem sp_once {d : Nat} {G : px_H} {le : Int32} {la dr : Nat} {ke : Int32} {sd : Int64} {K : Ld} {c : Nat} {h mny : Int32} {t : Nat → Int32} {Q : px_Q} (hr : rX G le la dr ke sd K t) (hv : vK K) (hok : okT K c t) (hQ : ∀ G', rX G' le la dr ke sd K t → frZ G G' 86 94 → Q (some (.int (aOnce K t h mny))) G') : pcal (d + 6) 57 [.ref 2, .int h, .int mny] G Q := by
  refine inX6_once ?_
  simp only [eX6_once_0, eX6_once_1, pe_callS_1, pe_iload_1, hget_hset, ia_l, ia_s, vin, opl, onl, Int32.reduceLT, Int32.reduceLE, Int32.reduceAdd, Int32.reduceSub, Nat.reduceLT, Nat.reduceAdd, Nat.reduceEqDiff, ↓reduceIte, true_and, and_true, List.length_nil, List.length_cons, Nat.reduceLeDiff, Nat.zero_le]
  refine sp_areHours ?_
  simp only [eX6_once_4, eX6_once_7, eX6_once_9, pe_const, pe_ifeq, pe_iret, zB_0, hget_hset, ia_l, ia_s, vin, opl, onl, Int32.reduceLT, Int32.reduceLE, Int32.reduceAdd, Int32.reduceSub, Nat.reduceLT, Nat.reduceAdd, Nat.reduceEqDiff, ↓reduceIte, true_and, and_true, List.length_nil, List.length_cons, Nat.reduceLeDiff, Nat.zero_le]
  split
  · rename_i u1
    have := hQ G hr frZ.rf
    rw [aOnce, if_pos u1] at this
    exact this
  · rename_i u1
    obtain ⟨k, hk, rfl⟩ := aHr_of (by cases e : aHr h with | true => rfl | false => exact absurd e u1)
    have hkc : (nI k).toNatClampNeg = k := nI_clamp (by omega)
    have x0 := hr.x
    simp only [eX6_once_10, eX6_once_11, eX6_once_12, eX6_once_13, pe_aload_0, pe_callV_2, pe_const, pe_iload_1, x0, x_o, hget_hset, ia_l, ia_s, vin, opl, onl, Int32.reduceLT, Int32.reduceLE, Int32.reduceAdd, Int32.reduceSub, Nat.reduceLT, Nat.reduceAdd, Nat.reduceEqDiff, ↓reduceIte, true_and, and_true, List.length_nil, List.length_cons, Nat.reduceLeDiff, Nat.zero_le]
    refine sp_fewestTurned hr hv hok hk ?_
    intro G1 e1 e2
    have fin := hQ G1 e1 e2
    rw [aOnce, if_neg u1, hkc] at fin
    simp only [eX6_once_16, eX6_once_17, eX6_once_18, eX6_once_20, eX6_once_23, eX6_once_25, pe_const, pe_iceq, pe_iload_3, pe_iret, pe_istore_3, hget_hset, ia_l, ia_s, vin, opl, onl, Int32.reduceLT, Int32.reduceLE, Int32.reduceAdd, Int32.reduceSub, Nat.reduceLT, Nat.reduceAdd, Nat.reduceEqDiff, ↓reduceIte, true_and, and_true, List.length_nil, List.length_cons, Nat.reduceLeDiff, Nat.zero_le]
    split
    · rename_i u2
      rw [if_pos u2] at fin
      exact fin
    · rename_i u2
      rw [if_neg u2] at fin
      simp only [eX6_once_26, eX6_once_27, pe_ifeq, pe_iload_2, hget_hset, ia_l, ia_s, vin, opl, onl, Int32.reduceLT, Int32.reduceLE, Int32.reduceAdd, Int32.reduceSub, Nat.reduceLT, Nat.reduceAdd, Nat.reduceEqDiff, ↓reduceIte, true_and, and_true, List.length_nil, List.length_cons, Nat.reduceLeDiff, Nat.zero_le]
      split
      · rename_i u3
        rw [if_pos u3] at fin
        simp only [eX6_once_45, eX6_once_46, pe_iload_3, pe_iret, hget_hset, ia_l, ia_s, vin, opl, onl, Int32.reduceLT, Int32.reduceLE, Int32.reduceAdd, Int32.reduceSub, Nat.reduceLT, Nat.reduceAdd, Nat.reduceEqDiff, ↓reduceIte, true_and, and_true, List.length_nil, List.length_cons, Nat.reduceLeDiff, Nat.zero_le]
        exact fin
      · rename_i u3
        rw [if_neg u3] at fin
        have y0 := e1.x
        have s0 := e1.2.1.obj
        simp only [eX6_once_30, eX6_once_31, eX6_once_32, eX6_once_35, eX6_once_38, eX6_once_39, pe_aload_0, pe_bin, pe_callS_1, pe_getf, pe_iload_3, y0, s0, x_g6, sc_g0, sc_g1, sc_g2, sc_g3, sc_g4, sc_p3, sc_p4, sc_o, hget_hset, ia_l, ia_s, vin, opl, onl, Int32.reduceLT, Int32.reduceLE, Int32.reduceAdd, Int32.reduceSub, Nat.reduceLT, Nat.reduceAdd, Nat.reduceEqDiff, ↓reduceIte, true_and, and_true, List.length_nil, List.length_cons, Nat.reduceLeDiff, Nat.zero_le]
        refine sp_bitCount ?_
        simp only [eX6_once_42, eX6_once_45, eX6_once_46, pe_goto, pe_iload_3, pe_iret, hget_hset, ia_l, ia_s, vin, opl, onl, Int32.reduceLT, Int32.reduceLE, Int32.reduceAdd, Int32.reduceSub, Nat.reduceLT, Nat.reduceAdd, Nat.reduceEqDiff, ↓reduceIte, true_and, and_true, List.length_nil, List.length_cons, Nat.reduceLeDiff, Nat.zero_le]
        exact fin
def aStuck (K : Ld) (t : Nat → Int32) (di h : Int32) : Int32 :=
  if hP K.m di = false then -1 else if aHr h = false then -2 else
  if (fSs K t h.toNatClampNeg (1 <<< (di &&& 31)) (2 ^ K.m)).1 = -9 then -9 else bc ((fSs K t h.toNatClampNeg (1 <<< (di &&& 31)) (2 ^ K.m)).1 ^^^ t 18) - bc ((fSs K t h.toNatClampNeg 0 (2 ^ K.m)).1 ^^^ t 18)
set_option maxRecDepth 100000 in
theorem sp_stuck {d : Nat} {G : px_H} {le : Int32} {la dr : Nat} {ke : Int32} {sd : Int64} {K : Ld} {c : Nat} {di h : Int32} {t : Nat → Int32} {Q : px_Q} (hr : rX G le la dr ke sd K t) (hv : vK K) (hok : okT K c t) (hQ : ∀ G', rX G' le la dr ke sd K t → frZ G G' 86 94 → Q (some (.int (aStuck K t di h))) G') : pcal (d + 6) 62 [.ref 2, .int di, .int h] G Q := by
  refine inX6_stuck ?_
  have x0 := hr.x
  have l0 := hr.lo
  simp only [eX6_stuck_0, eX6_stuck_1, eX6_stuck_4, eX6_stuck_5, pe_aload_0, pe_callV_1, pe_getf, pe_iload_1, x0, l0, x_g3, ld_o, hget_hset, ia_l, ia_s, vin, opl, onl, Int32.reduceLT, Int32.reduceLE, Int32.reduceAdd, Int32.reduceSub, Nat.reduceLT, Nat.reduceAdd, Nat.reduceEqDiff, ↓reduceIte, true_and, and_true, List.length_nil, List.length_cons, Nat.reduceLeDiff, Nat.zero_le]
  refine sp_hasDitch hr.l ?_
  simp only [eX6_stuck_8, eX6_stuck_11, eX6_stuck_12, pe_const, pe_ifeq, pe_iret, zB_0, hget_hset, ia_l, ia_s, vin, opl, onl, Int32.reduceLT, Int32.reduceLE, Int32.reduceAdd, Int32.reduceSub, Nat.reduceLT, Nat.reduceAdd, Nat.reduceEqDiff, ↓reduceIte, true_and, and_true, List.length_nil, List.length_cons, Nat.reduceLeDiff, Nat.zero_le]
  split
  · rename_i u0
    have := hQ G hr frZ.rf
    rw [aStuck, if_pos u0] at this
    exact this
  · rename_i u0
    simp only [eX6_stuck_13, eX6_stuck_14, pe_callS_1, pe_iload_2, hget_hset, ia_l, ia_s, vin, opl, onl, Int32.reduceLT, Int32.reduceLE, Int32.reduceAdd, Int32.reduceSub, Nat.reduceLT, Nat.reduceAdd, Nat.reduceEqDiff, ↓reduceIte, true_and, and_true, List.length_nil, List.length_cons, Nat.reduceLeDiff, Nat.zero_le]
    refine sp_areHours ?_
    simp only [eX6_stuck_17, eX6_stuck_20, eX6_stuck_22, pe_const, pe_ifeq, pe_iret, zB_0, hget_hset, ia_l, ia_s, vin, opl, onl, Int32.reduceLT, Int32.reduceLE, Int32.reduceAdd, Int32.reduceSub, Nat.reduceLT, Nat.reduceAdd, Nat.reduceEqDiff, ↓reduceIte, true_and, and_true, List.length_nil, List.length_cons, Nat.reduceLeDiff, Nat.zero_le]
    split
    · rename_i u1
      have := hQ G hr frZ.rf
      rw [aStuck, if_neg u0, if_pos u1] at this
      exact this
    · rename_i u1
      obtain ⟨k, hk, rfl⟩ := aHr_of (by cases e : aHr h with | true => rfl | false => exact absurd e u1)
      have hkc : (nI k).toNatClampNeg = k := nI_clamp (by omega)
      simp only [eX6_stuck_23, eX6_stuck_24, eX6_stuck_25, eX6_stuck_26, eX6_stuck_27, eX6_stuck_28, pe_aload_0, pe_bin, pe_callV_2, pe_const, pe_iload_1, pe_iload_2, x0, x_o, hget_hset, ia_l, ia_s, vin, opl, onl, Int32.reduceLT, Int32.reduceLE, Int32.reduceAdd, Int32.reduceSub, Nat.reduceLT, Nat.reduceAdd, Nat.reduceEqDiff, ↓reduceIte, true_and, and_true, List.length_nil, List.length_cons, Nat.reduceLeDiff, Nat.zero_le]
      refine sp_fewestTurned hr hv hok hk ?_
      intro G1 e1 e2
      simp only [eX6_stuck_31, eX6_stuck_32, eX6_stuck_33, eX6_stuck_35, eX6_stuck_38, eX6_stuck_40, pe_const, pe_iceq, pe_iload_3, pe_iret, pe_istore_3, hget_hset, ia_l, ia_s, vin, opl, onl, Int32.reduceLT, Int32.reduceLE, Int32.reduceAdd, Int32.reduceSub, Nat.reduceLT, Nat.reduceAdd, Nat.reduceEqDiff, ↓reduceIte, true_and, and_true, List.length_nil, List.length_cons, Nat.reduceLeDiff, Nat.zero_le]
      split
      · rename_i u2
        have := hQ G1 e1 e2
        rw [aStuck, if_neg u0, if_neg u1, hkc, if_pos u2] at this
        exact this
      · rename_i u2
        have y0 := e1.x
        simp only [eX6_stuck_41, eX6_stuck_42, eX6_stuck_43, eX6_stuck_44, pe_aload_0, pe_callV_2, pe_const, pe_iload_2, y0, x_o, hget_hset, ia_l, ia_s, vin, opl, onl, Int32.reduceLT, Int32.reduceLE, Int32.reduceAdd, Int32.reduceSub, Nat.reduceLT, Nat.reduceAdd, Nat.reduceEqDiff, ↓reduceIte, true_and, and_true, List.length_nil, List.length_cons, Nat.reduceLeDiff, Nat.zero_le]
        refine sp_fewestTurned e1 hv hok hk ?_
        intro G2 g1 g2
        have z0 := g1.x
        have s0 := g1.2.1.obj
        simp only [eX6_stuck_47, eX6_stuck_49, eX6_stuck_50, eX6_stuck_51, eX6_stuck_54, eX6_stuck_57, eX6_stuck_58, pe_aload_0, pe_bin, pe_callS_1, pe_getf, pe_iload_3, pe_istore_4, z0, s0, x_g6, sc_g0, sc_g1, sc_g2, sc_g3, sc_g4, sc_p3, sc_p4, sc_o, hget_hset, ia_l, ia_s, vin, opl, onl, Int32.reduceLT, Int32.reduceLE, Int32.reduceAdd, Int32.reduceSub, Nat.reduceLT, Nat.reduceAdd, Nat.reduceEqDiff, ↓reduceIte, true_and, and_true, List.length_nil, List.length_cons, Nat.reduceLeDiff, Nat.zero_le]
        refine sp_bitCount ?_
        simp only [eX6_stuck_61, eX6_stuck_63, eX6_stuck_64, eX6_stuck_67, eX6_stuck_70, eX6_stuck_71, pe_aload_0, pe_bin, pe_callS_1, pe_getf, pe_iload_4, z0, s0, x_g6, sc_g0, sc_g1, sc_g2, sc_g3, sc_g4, sc_p3, sc_p4, sc_o, hget_hset, ia_l, ia_s, vin, opl, onl, Int32.reduceLT, Int32.reduceLE, Int32.reduceAdd, Int32.reduceSub, Nat.reduceLT, Nat.reduceAdd, Nat.reduceEqDiff, ↓reduceIte, true_and, and_true, List.length_nil, List.length_cons, Nat.reduceLeDiff, Nat.zero_le]
        refine sp_bitCount ?_
        simp only [eX6_stuck_74, eX6_stuck_75, pe_bin, pe_iret, hget_hset, ia_l, ia_s, vin, opl, onl, Int32.reduceLT, Int32.reduceLE, Int32.reduceAdd, Int32.reduceSub, Nat.reduceLT, Nat.reduceAdd, Nat.reduceEqDiff, ↓reduceIte, true_and, and_true, List.length_nil, List.length_cons, Nat.reduceLeDiff, Nat.zero_le]
        have := hQ G2 g1 (e2.tr g2)
        rw [aStuck, if_neg u0, if_neg u1, hkc, if_neg u2] at this
        exact this
/-- the richest turning, over those below u -/
def rS (K : Ld) (t : Nat → Int32) (k : Nat) (u : Nat) (q : Int32 × Int32) : Int32 × Int32 :=
  if aDo (sT K t k (nI u)) 6 = true ∧ q.2 < aWo K (sT K t k (nI u)) K.n then (nI u, aWo K (sT K t k (nI u)) K.n) else q
def rSs (K : Ld) (t : Nat → Int32) (k : Nat) : Nat → Int32 × Int32
  | 0 => (-9, -1)
  | u + 1 => rS K t k u (rSs K t k u)
def aRich (K : Ld) (t : Nat → Int32) (h : Int32) : Int32 := if aHr h = false then -2 else (rSs K t h.toNatClampNeg (2 ^ K.m)).1
set_option maxRecDepth 100000 in
theorem sp_richest {d : Nat} {G : px_H} {le : Int32} {la dr : Nat} {ke : Int32} {sd : Int64} {K : Ld} {c : Nat} {h : Int32} {t : Nat → Int32} {Q : px_Q} (hr : rX G le la dr ke sd K t) (hv : vK K) (hok : okT K c t) (hQ : ∀ G', rX G' le la dr ke sd K t → frZ G G' 86 94 → Q (some (.int (aRich K t h))) G') : pcal (d + 6) 59 [.ref 2, .int h] G Q := by
  have hm := hv.1.2.1
  obtain ⟨n1, n2⟩ := p2m hm
  refine inX6_richest ?_
  simp only [eX6_richest_0, eX6_richest_1, pe_callS_1, pe_iload_1, hget_hset, ia_l, ia_s, vin, opl, onl, Int32.reduceLT, Int32.reduceLE, Int32.reduceAdd, Int32.reduceSub, Nat.reduceLT, Nat.reduceAdd, Nat.reduceEqDiff, ↓reduceIte, true_and, and_true, List.length_nil, List.length_cons, Nat.reduceLeDiff, Nat.zero_le]
  refine sp_areHours ?_
  simp only [eX6_richest_4, eX6_richest_7, eX6_richest_9, pe_const, pe_ifeq, pe_iret, zB_0, hget_hset, ia_l, ia_s, vin, opl, onl, Int32.reduceLT, Int32.reduceLE, Int32.reduceAdd, Int32.reduceSub, Nat.reduceLT, Nat.reduceAdd, Nat.reduceEqDiff, ↓reduceIte, true_and, and_true, List.length_nil, List.length_cons, Nat.reduceLeDiff, Nat.zero_le]
  split
  · rename_i u1
    have := hQ G hr frZ.rf
    rw [aRich, if_pos u1] at this
    exact this
  · rename_i u1
    obtain ⟨k, hk, rfl⟩ := aHr_of (by cases e : aHr h with | true => rfl | false => exact absurd e u1)
    have hkc : (nI k).toNatClampNeg = k := nI_clamp (by omega)
    have x0 := hr.x
    have l0 := hr.lo
    simp only [eX6_richest_10, eX6_richest_12, eX6_richest_13, eX6_richest_14, eX6_richest_15, eX6_richest_16, eX6_richest_19, pe_aload_0, pe_callV_0, pe_const, pe_getf, pe_istore_2, pe_istore_3, x0, l0, x_g3, ld_o, hget_hset, ia_l, ia_s, vin, opl, onl, Int32.reduceLT, Int32.reduceLE, Int32.reduceAdd, Int32.reduceSub, Nat.reduceLT, Nat.reduceAdd, Nat.reduceEqDiff, ↓reduceIte, true_and, and_true, List.length_nil, List.length_cons, Nat.reduceLeDiff, Nat.zero_le]
    refine sp_allDitches hr.l ?_
    simp only [eX6_richest_22, eX6_richest_24, eX6_richest_25, pe_const, pe_istore_4, pe_istore_5, allD hm, hget_hset, ia_l, ia_s, vin, opl, onl, Int32.reduceLT, Int32.reduceLE, Int32.reduceAdd, Int32.reduceSub, Nat.reduceLT, Nat.reduceAdd, Nat.reduceEqDiff, ↓reduceIte, true_and, and_true, List.length_nil, List.length_cons, Nat.reduceLeDiff, Nat.zero_le]
    have key : ∀ j i H best few, i + j = 2 ^ K.m → rX H le la dr ke sd K t → frZ G H 86 94 → (best, few) = rSs K t k i → pr (d + 5) 59 (G.1 + 0, G.2.1 + 0) Q 27 [some (.ref 2), some (.int (nI k)), some (.int best), some (.int few), some (.int (nI (2 ^ K.m - 1))), some (.int (nI i))] [] H := by
      intro j
      induction j with
      | zero =>
        intro i H best few hi k1 k2 k3
        obtain rfl : i = 2 ^ K.m := by omega
        simp only [eX6_richest_27, eX6_richest_29, eX6_richest_31, eX6_richest_87, eX6_richest_88, pe_icgt, pe_iload_2, pe_iload_4, pe_iload_5, pe_iret, niG' n1 n2, hget_hset, ia_l, ia_s, vin, opl, onl, Int32.reduceLT, Int32.reduceLE, Int32.reduceAdd, Int32.reduceSub, Nat.reduceLT, Nat.reduceAdd, Nat.reduceEqDiff, ↓reduceIte, true_and, and_true, List.length_nil, List.length_cons, Nat.reduceLeDiff, Nat.zero_le]
        have := hQ H k1 k2
        rw [aRich, if_neg u1, hkc, ← k3] at this
        exact this
      | succ j ih =>
        intro i H best few hi k1 k2 k3
        have c1 := niG (i := i) (N := 2 ^ K.m) (by omega) n2
        have y0 := k1.x
        have st : rSs K t k (i + 1) = rS K t k i (best, few) := by rw [rSs, ← k3]
        simp only [eX6_richest_27, eX6_richest_29, eX6_richest_31, eX6_richest_34, eX6_richest_35, eX6_richest_37, eX6_richest_38, pe_aload_0, pe_callV_2, pe_icgt, pe_iload_1, pe_iload_4, pe_iload_5, y0, x_o, c1, hget_hset, ia_l, ia_s, vin, opl, onl, Int32.reduceLT, Int32.reduceLE, Int32.reduceAdd, Int32.reduceSub, Nat.reduceLT, Nat.reduceAdd, Nat.reduceEqDiff, ↓reduceIte, true_and, and_true, List.length_nil, List.length_cons, Nat.reduceLeDiff, Nat.zero_le]
        refine sp_try k1 hv hok hk ?_
        intro G1 e1 e2 e3
        have y1 := e1.x
        have f2 := e2.obj
        simp only [eX6_richest_41, eX6_richest_42, eX6_richest_45, pe_aload_0, pe_callV_0, pe_getf, y1, f2, x_g12, sc_g0, sc_g1, sc_g2, sc_g3, sc_g4, sc_p3, sc_p4, sc_o, hget_hset, ia_l, ia_s, vin, opl, onl, Int32.reduceLT, Int32.reduceLE, Int32.reduceAdd, Int32.reduceSub, Nat.reduceLT, Nat.reduceAdd, Nat.reduceEqDiff, ↓reduceIte, true_and, and_true, List.length_nil, List.length_cons, Nat.reduceLeDiff, Nat.zero_le]
        refine sp_isDone e2 ?_
        simp only [eX6_richest_48, pe_ifeq, zB_0, hget_hset, ia_l, ia_s, vin, opl, onl, Int32.reduceLT, Int32.reduceLE, Int32.reduceAdd, Int32.reduceSub, Nat.reduceLT, Nat.reduceAdd, Nat.reduceEqDiff, ↓reduceIte, true_and, and_true, List.length_nil, List.length_cons, Nat.reduceLeDiff, Nat.zero_le]
        split
        · rename_i u3
          simp only [eX6_richest_81, eX6_richest_84, pe_goto, pe_iinc_5, nisw, hget_hset, ia_l, ia_s, vin, opl, onl, Int32.reduceLT, Int32.reduceLE, Int32.reduceAdd, Int32.reduceSub, Nat.reduceLT, Nat.reduceAdd, Nat.reduceEqDiff, ↓reduceIte, true_and, and_true, List.length_nil, List.length_cons, Nat.reduceLeDiff, Nat.zero_le]
          refine ih (i + 1) G1 best few (by omega) e1 (k2.tr e3) ?_
          rw [st, rS, if_neg (fun z => by rw [z.1] at u3; cases u3)]
        · rename_i u3
          have u3' : aDo (sT K t k (nI i)) 6 = true := by cases h : aDo (sT K t k (nI i)) 6 with | true => rfl | false => exact absurd h u3
          simp only [eX6_richest_51, eX6_richest_52, eX6_richest_55, eX6_richest_56, eX6_richest_59, pe_aload_0, pe_callV_1, pe_getf, y1, f2, x_g12, x_g3, sc_g0, sc_g1, sc_g2, sc_g3, sc_g4, sc_p3, sc_p4, sc_o, hget_hset, ia_l, ia_s, vin, opl, onl, Int32.reduceLT, Int32.reduceLE, Int32.reduceAdd, Int32.reduceSub, Nat.reduceLT, Nat.reduceAdd, Nat.reduceEqDiff, ↓reduceIte, true_and, and_true, List.length_nil, List.length_cons, Nat.reduceLeDiff, Nat.zero_le]
          refine sp_worth e2 e1.l ?_
          simp only [eX6_richest_62, eX6_richest_63, pe_icgt, pe_iload_3, hget_hset, ia_l, ia_s, vin, opl, onl, Int32.reduceLT, Int32.reduceLE, Int32.reduceAdd, Int32.reduceSub, Nat.reduceLT, Nat.reduceAdd, Nat.reduceEqDiff, ↓reduceIte, true_and, and_true, List.length_nil, List.length_cons, Nat.reduceLeDiff, Nat.zero_le]
          split
          · rename_i u4
            simp only [eX6_richest_66, eX6_richest_67, eX6_richest_70, eX6_richest_71, eX6_richest_74, pe_aload_0, pe_callV_1, pe_getf, y1, f2, x_g12, x_g3, sc_g0, sc_g1, sc_g2, sc_g3, sc_g4, sc_p3, sc_p4, sc_o, hget_hset, ia_l, ia_s, vin, opl, onl, Int32.reduceLT, Int32.reduceLE, Int32.reduceAdd, Int32.reduceSub, Nat.reduceLT, Nat.reduceAdd, Nat.reduceEqDiff, ↓reduceIte, true_and, and_true, List.length_nil, List.length_cons, Nat.reduceLeDiff, Nat.zero_le]
            refine sp_worth e2 e1.l ?_
            simp only [eX6_richest_77, eX6_richest_78, eX6_richest_80, eX6_richest_81, eX6_richest_84, pe_goto, pe_iinc_5, pe_iload_5, pe_istore_2, pe_istore_3, nisw, hget_hset, ia_l, ia_s, vin, opl, onl, Int32.reduceLT, Int32.reduceLE, Int32.reduceAdd, Int32.reduceSub, Nat.reduceLT, Nat.reduceAdd, Nat.reduceEqDiff, ↓reduceIte, true_and, and_true, List.length_nil, List.length_cons, Nat.reduceLeDiff, Nat.zero_le]
            refine ih (i + 1) G1 _ _ (by omega) e1 (k2.tr e3) ?_
            rw [st, rS, if_pos ⟨u3', u4⟩]
          · rename_i u4
            simp only [eX6_richest_81, eX6_richest_84, pe_goto, pe_iinc_5, nisw, hget_hset, ia_l, ia_s, vin, opl, onl, Int32.reduceLT, Int32.reduceLE, Int32.reduceAdd, Int32.reduceSub, Nat.reduceLT, Nat.reduceAdd, Nat.reduceEqDiff, ↓reduceIte, true_and, and_true, List.length_nil, List.length_cons, Nat.reduceLeDiff, Nat.zero_le]
            refine ih (i + 1) G1 best few (by omega) e1 (k2.tr e3) ?_
            rw [st, rS, if_neg (fun z => u4 z.2)]
    exact key (2 ^ K.m) 0 G (-9) (-1) (by omega) hr frZ.rf rfl
