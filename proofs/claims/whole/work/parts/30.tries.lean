/-! ===== the class: barred, free, twice, what was seen ===== -/
def nS (K : Ld) (t : Nat → Int32) (k : Nat) : Nat → Int32
  | 0 => aOf K 1 K.n
  | u + 1 => nS K t k u &&& aWd (sT K t k (nI u)) 6
theorem nS_0 {K : Ld} {t : Nat → Int32} {k u : Nat} (h : nS K t k u = 0) : ∀ j, nS K t k (u + j) = 0
  | 0 => h
  | j + 1 => by
    rw [← Nat.add_assoc, nS, nS_0 h j]
    exact Int32.zero_and
def aBar (K : Ld) (t : Nat → Int32) (h : Int32) : Int32 := if aHr h = false then -2 else lB (nS K t h.toNatClampNeg (2 ^ K.m)) 0 6
set_option maxRecDepth 100000 in
theorem sp_barred {d : Nat} {G : px_H} {le : Int32} {la dr : Nat} {ke : Int32} {sd : Int64} {K : Ld} {c : Nat} {h : Int32} {t : Nat → Int32} {Q : px_Q} (hr : rX G le la dr ke sd K t) (hv : vK K) (hok : okT K c t) (hQ : ∀ G', rX G' le la dr ke sd K t → frZ G G' 86 94 → Q (some (.int (aBar K t h))) G') : pcal (d + 6) 60 [.ref 2, .int h] G Q := by
  have hm := hv.1.2.1
  obtain ⟨n1, n2⟩ := p2m hm
  refine inX6_barred ?_
  simp only [eX6_barred_0, eX6_barred_1, pe_callS_1, pe_iload_1, hget_hset, ia_l, ia_s, vin, opl, onl, Int32.reduceLT, Int32.reduceLE, Int32.reduceAdd, Int32.reduceSub, Nat.reduceLT, Nat.reduceAdd, Nat.reduceEqDiff, ↓reduceIte, true_and, and_true, List.length_nil, List.length_cons, Nat.reduceLeDiff, Nat.zero_le]
  refine sp_areHours ?_
  simp only [eX6_barred_4, eX6_barred_7, eX6_barred_9, pe_const, pe_ifeq, pe_iret, zB_0, hget_hset, ia_l, ia_s, vin, opl, onl, Int32.reduceLT, Int32.reduceLE, Int32.reduceAdd, Int32.reduceSub, Nat.reduceLT, Nat.reduceAdd, Nat.reduceEqDiff, ↓reduceIte, true_and, and_true, List.length_nil, List.length_cons, Nat.reduceLeDiff, Nat.zero_le]
  split
  · rename_i u1
    have := hQ G hr frZ.rf
    rw [aBar, if_pos u1] at this
    exact this
  · rename_i u1
    obtain ⟨k, hk, rfl⟩ := aHr_of (by cases e : aHr h with | true => rfl | false => exact absurd e u1)
    have hkc : (nI k).toNatClampNeg = k := nI_clamp (by omega)
    have x0 := hr.x
    have l0 := hr.lo
    simp only [eX6_barred_10, eX6_barred_11, eX6_barred_14, eX6_barred_15, pe_aload_0, pe_callV_1, pe_const, pe_getf, x0, l0, x_g3, ld_o, hget_hset, ia_l, ia_s, vin, opl, onl, Int32.reduceLT, Int32.reduceLE, Int32.reduceAdd, Int32.reduceSub, Nat.reduceLT, Nat.reduceAdd, Nat.reduceEqDiff, ↓reduceIte, true_and, and_true, List.length_nil, List.length_cons, Nat.reduceLeDiff, Nat.zero_le]
    refine sp_placesOf hr.l ?_
    simp only [eX6_barred_18, eX6_barred_19, eX6_barred_20, eX6_barred_23, pe_aload_0, pe_callV_0, pe_getf, pe_istore_2, x0, l0, x_g3, ld_o, hget_hset, ia_l, ia_s, vin, opl, onl, Int32.reduceLT, Int32.reduceLE, Int32.reduceAdd, Int32.reduceSub, Nat.reduceLT, Nat.reduceAdd, Nat.reduceEqDiff, ↓reduceIte, true_and, and_true, List.length_nil, List.length_cons, Nat.reduceLeDiff, Nat.zero_le]
    refine sp_allDitches hr.l ?_
    simp only [eX6_barred_26, eX6_barred_27, eX6_barred_28, pe_const, pe_istore_3, pe_istore_4, allD hm, hget_hset, ia_l, ia_s, vin, opl, onl, Int32.reduceLT, Int32.reduceLE, Int32.reduceAdd, Int32.reduceSub, Nat.reduceLT, Nat.reduceAdd, Nat.reduceEqDiff, ↓reduceIte, true_and, and_true, List.length_nil, List.length_cons, Nat.reduceLeDiff, Nat.zero_le]
    have fin : ∀ H, rX H le la dr ke sd K t → frZ G H 86 94 → ∀ x o4, x = nS K t k (2 ^ K.m) → pr (d + 5) 60 (G.1 + 0, G.2.1 + 0) Q 63 [some (.ref 2), some (.int (nI k)), some (.int x), some (.int (nI (2 ^ K.m - 1))), o4] [] H := by
      intro H k1 k2 x o4 hx
      simp only [eX6_barred_63, eX6_barred_64, pe_callS_1, pe_iload_2, hget_hset, ia_l, ia_s, vin, opl, onl, Int32.reduceLT, Int32.reduceLE, Int32.reduceAdd, Int32.reduceSub, Nat.reduceLT, Nat.reduceAdd, Nat.reduceEqDiff, ↓reduceIte, true_and, and_true, List.length_nil, List.length_cons, Nat.reduceLeDiff, Nat.zero_le]
      refine sp_leastBit ?_
      simp only [eX6_barred_67, pe_iret, hget_hset, ia_l, ia_s, vin, opl, onl, Int32.reduceLT, Int32.reduceLE, Int32.reduceAdd, Int32.reduceSub, Nat.reduceLT, Nat.reduceAdd, Nat.reduceEqDiff, ↓reduceIte, true_and, and_true, List.length_nil, List.length_cons, Nat.reduceLeDiff, Nat.zero_le]
      have := hQ H k1 k2
      rw [aBar, if_neg u1, hkc, ← hx] at this
      exact this
    have key : ∀ j i H x, i + j = 2 ^ K.m → rX H le la dr ke sd K t → frZ G H 86 94 → x = nS K t k i → pr (d + 5) 60 (G.1 + 0, G.2.1 + 0) Q 30 [some (.ref 2), some (.int (nI k)), some (.int x), some (.int (nI (2 ^ K.m - 1))), some (.int (nI i))] [] H := by
      intro j
      induction j with
      | zero =>
        intro i H x hi k1 k2 k3
        obtain rfl : i = 2 ^ K.m := by omega
        simp only [eX6_barred_30, eX6_barred_32, eX6_barred_33, pe_icgt, pe_iload_3, pe_iload_4, niG' n1 n2, hget_hset, ia_l, ia_s, vin, opl, onl, Int32.reduceLT, Int32.reduceLE, Int32.reduceAdd, Int32.reduceSub, Nat.reduceLT, Nat.reduceAdd, Nat.reduceEqDiff, ↓reduceIte, true_and, and_true, List.length_nil, List.length_cons, Nat.reduceLeDiff, Nat.zero_le]
        exact fin H k1 k2 x _ k3
      | succ j ih =>
        intro i H x hi k1 k2 k3
        have c1 := niG (i := i) (N := 2 ^ K.m) (by omega) n2
        have y0 := k1.x
        simp only [eX6_barred_30, eX6_barred_32, eX6_barred_33, eX6_barred_36, eX6_barred_37, pe_icgt, pe_ifeq, pe_iload_2, pe_iload_3, pe_iload_4, c1, hget_hset, ia_l, ia_s, vin, opl, onl, Int32.reduceLT, Int32.reduceLE, Int32.reduceAdd, Int32.reduceSub, Nat.reduceLT, Nat.reduceAdd, Nat.reduceEqDiff, ↓reduceIte, true_and, and_true, List.length_nil, List.length_cons, Nat.reduceLeDiff, Nat.zero_le]
        split
        · rename_i u2
          refine fin H k1 k2 x _ ?_
          have e := nS_0 (u := i) (by rw [← k3]; exact u2) (j + 1)
          rw [hi] at e
          rw [u2, e]
        · rename_i u2
          simp only [eX6_barred_40, eX6_barred_41, eX6_barred_43, eX6_barred_44, pe_aload_0, pe_callV_2, pe_iload_1, pe_iload_4, y0, x_o, hget_hset, ia_l, ia_s, vin, opl, onl, Int32.reduceLT, Int32.reduceLE, Int32.reduceAdd, Int32.reduceSub, Nat.reduceLT, Nat.reduceAdd, Nat.reduceEqDiff, ↓reduceIte, true_and, and_true, List.length_nil, List.length_cons, Nat.reduceLeDiff, Nat.zero_le]
          refine sp_try k1 hv hok hk ?_
          intro G1 e1 e2 e3
          have y1 := e1.x
          have f2 := e2.obj
          simp only [eX6_barred_47, eX6_barred_48, eX6_barred_49, eX6_barred_52, pe_aload_0, pe_callV_0, pe_getf, pe_iload_2, y1, f2, x_g12, sc_g0, sc_g1, sc_g2, sc_g3, sc_g4, sc_p3, sc_p4, sc_o, hget_hset, ia_l, ia_s, vin, opl, onl, Int32.reduceLT, Int32.reduceLE, Int32.reduceAdd, Int32.reduceSub, Nat.reduceLT, Nat.reduceAdd, Nat.reduceEqDiff, ↓reduceIte, true_and, and_true, List.length_nil, List.length_cons, Nat.reduceLeDiff, Nat.zero_le]
          refine sp_withDung e2 ?_
          simp only [eX6_barred_55, eX6_barred_56, eX6_barred_57, eX6_barred_60, pe_bin, pe_goto, pe_iinc_4, pe_istore_2, nisw, hget_hset, ia_l, ia_s, vin, opl, onl, Int32.reduceLT, Int32.reduceLE, Int32.reduceAdd, Int32.reduceSub, Nat.reduceLT, Nat.reduceAdd, Nat.reduceEqDiff, ↓reduceIte, true_and, and_true, List.length_nil, List.length_cons, Nat.reduceLeDiff, Nat.zero_le]
          exact ih (i + 1) G1 _ (by omega) e1 (k2.tr e3) (by rw [nS, ← k3])
    exact key (2 ^ K.m) 0 G _ (by omega) hr frZ.rf rfl
/-- in how many turnings below u that do a ditch is open -/
def cS (K : Ld) (t : Nat → Int32) (k : Nat) (di : Int32) : Nat → Int32
  | 0 => 0
  | u + 1 => if nI u >>> (di &&& 31) &&& 1 = 1 then cS K t k di u + (if aDo (sT K t k (nI u)) 6 = true then 1 else 0) else cS K t k di u
def aFree (K : Ld) (t : Nat → Int32) (di h : Int32) : Int32 := if hP K.m di = false then -1 else if aHr h = false then -2 else cS K t h.toNatClampNeg di (2 ^ K.m)
set_option maxRecDepth 100000 in
theorem sp_free {d : Nat} {G : px_H} {le : Int32} {la dr : Nat} {ke : Int32} {sd : Int64} {K : Ld} {c : Nat} {di h : Int32} {t : Nat → Int32} {Q : px_Q} (hr : rX G le la dr ke sd K t) (hv : vK K) (hok : okT K c t) (hQ : ∀ G', rX G' le la dr ke sd K t → frZ G G' 86 94 → Q (some (.int (aFree K t di h))) G') : pcal (d + 6) 61 [.ref 2, .int di, .int h] G Q := by
  have hm := hv.1.2.1
  obtain ⟨n1, n2⟩ := p2m hm
  refine inX6_free ?_
  have x0 := hr.x
  have l0 := hr.lo
  simp only [eX6_free_0, eX6_free_1, eX6_free_4, eX6_free_5, pe_aload_0, pe_callV_1, pe_getf, pe_iload_1, x0, l0, x_g3, ld_o, hget_hset, ia_l, ia_s, vin, opl, onl, Int32.reduceLT, Int32.reduceLE, Int32.reduceAdd, Int32.reduceSub, Nat.reduceLT, Nat.reduceAdd, Nat.reduceEqDiff, ↓reduceIte, true_and, and_true, List.length_nil, List.length_cons, Nat.reduceLeDiff, Nat.zero_le]
  refine sp_hasDitch hr.l ?_
  simp only [eX6_free_8, eX6_free_11, eX6_free_12, pe_const, pe_ifeq, pe_iret, zB_0, hget_hset, ia_l, ia_s, vin, opl, onl, Int32.reduceLT, Int32.reduceLE, Int32.reduceAdd, Int32.reduceSub, Nat.reduceLT, Nat.reduceAdd, Nat.reduceEqDiff, ↓reduceIte, true_and, and_true, List.length_nil, List.length_cons, Nat.reduceLeDiff, Nat.zero_le]
  split
  · rename_i u0
    have := hQ G hr frZ.rf
    rw [aFree, if_pos u0] at this
    exact this
  · rename_i u0
    simp only [eX6_free_13, eX6_free_14, pe_callS_1, pe_iload_2, hget_hset, ia_l, ia_s, vin, opl, onl, Int32.reduceLT, Int32.reduceLE, Int32.reduceAdd, Int32.reduceSub, Nat.reduceLT, Nat.reduceAdd, Nat.reduceEqDiff, ↓reduceIte, true_and, and_true, List.length_nil, List.length_cons, Nat.reduceLeDiff, Nat.zero_le]
    refine sp_areHours ?_
    simp only [eX6_free_17, eX6_free_20, eX6_free_22, pe_const, pe_ifeq, pe_iret, zB_0, hget_hset, ia_l, ia_s, vin, opl, onl, Int32.reduceLT, Int32.reduceLE, Int32.reduceAdd, Int32.reduceSub, Nat.reduceLT, Nat.reduceAdd, Nat.reduceEqDiff, ↓reduceIte, true_and, and_true, List.length_nil, List.length_cons, Nat.reduceLeDiff, Nat.zero_le]
    split
    · rename_i u1
      have := hQ G hr frZ.rf
      rw [aFree, if_neg u0, if_pos u1] at this
      exact this
    · rename_i u1
      obtain ⟨k, hk, rfl⟩ := aHr_of (by cases e : aHr h with | true => rfl | false => exact absurd e u1)
      have hkc : (nI k).toNatClampNeg = k := nI_clamp (by omega)
      simp only [eX6_free_23, eX6_free_24, eX6_free_25, eX6_free_26, eX6_free_29, pe_aload_0, pe_callV_0, pe_const, pe_getf, pe_istore_3, x0, l0, x_g3, ld_o, hget_hset, ia_l, ia_s, vin, opl, onl, Int32.reduceLT, Int32.reduceLE, Int32.reduceAdd, Int32.reduceSub, Nat.reduceLT, Nat.reduceAdd, Nat.reduceEqDiff, ↓reduceIte, true_and, and_true, List.length_nil, List.length_cons, Nat.reduceLeDiff, Nat.zero_le]
      refine sp_allDitches hr.l ?_
      simp only [eX6_free_32, eX6_free_34, eX6_free_35, pe_const, pe_istore_4, pe_istore_5, allD hm, hget_hset, ia_l, ia_s, vin, opl, onl, Int32.reduceLT, Int32.reduceLE, Int32.reduceAdd, Int32.reduceSub, Nat.reduceLT, Nat.reduceAdd, Nat.reduceEqDiff, ↓reduceIte, true_and, and_true, List.length_nil, List.length_cons, Nat.reduceLeDiff, Nat.zero_le]
      have key : ∀ j i H x, i + j = 2 ^ K.m → rX H le la dr ke sd K t → frZ G H 86 94 → x = cS K t k di i → pr (d + 5) 61 (G.1 + 0, G.2.1 + 0) Q 37 [some (.ref 2), some (.int di), some (.int (nI k)), some (.int x), some (.int (nI (2 ^ K.m - 1))), some (.int (nI i))] [] H := by
        intro j
        induction j with
        | zero =>
          intro i H x hi k1 k2 k3
          obtain rfl : i = 2 ^ K.m := by omega
          simp only [eX6_free_37, eX6_free_39, eX6_free_41, eX6_free_85, eX6_free_86, pe_icgt, pe_iload_3, pe_iload_4, pe_iload_5, pe_iret, niG' n1 n2, hget_hset, ia_l, ia_s, vin, opl, onl, Int32.reduceLT, Int32.reduceLE, Int32.reduceAdd, Int32.reduceSub, Nat.reduceLT, Nat.reduceAdd, Nat.reduceEqDiff, ↓reduceIte, true_and, and_true, List.length_nil, List.length_cons, Nat.reduceLeDiff, Nat.zero_le]
          have := hQ H k1 k2
          rw [aFree, if_neg u0, if_neg u1, hkc, ← k3] at this
          exact this
        | succ j ih =>
          intro i H x hi k1 k2 k3
          have c1 := niG (i := i) (N := 2 ^ K.m) (by omega) n2
          have y0 := k1.x
          simp only [eX6_free_37, eX6_free_39, eX6_free_41, eX6_free_44, eX6_free_46, eX6_free_47, eX6_free_48, eX6_free_49, eX6_free_50, eX6_free_51, pe_bin, pe_const, pe_iceq, pe_icgt, pe_iload_1, pe_iload_4, pe_iload_5, c1, hget_hset, ia_l, ia_s, vin, opl, onl, Int32.reduceLT, Int32.reduceLE, Int32.reduceAdd, Int32.reduceSub, Nat.reduceLT, Nat.reduceAdd, Nat.reduceEqDiff, ↓reduceIte, true_and, and_true, List.length_nil, List.length_cons, Nat.reduceLeDiff, Nat.zero_le]
          split
          · rename_i u2
            simp only [eX6_free_54, eX6_free_55, eX6_free_57, eX6_free_58, pe_aload_0, pe_callV_2, pe_iload_2, pe_iload_5, y0, x_o, hget_hset, ia_l, ia_s, vin, opl, onl, Int32.reduceLT, Int32.reduceLE, Int32.reduceAdd, Int32.reduceSub, Nat.reduceLT, Nat.reduceAdd, Nat.reduceEqDiff, ↓reduceIte, true_and, and_true, List.length_nil, List.length_cons, Nat.reduceLeDiff, Nat.zero_le]
            refine sp_try k1 hv hok hk ?_
            intro G1 e1 e2 e3
            have y1 := e1.x
            have f2 := e2.obj
            simp only [eX6_free_61, eX6_free_62, eX6_free_63, eX6_free_66, pe_aload_0, pe_callV_0, pe_getf, pe_iload_3, y1, f2, x_g12, sc_g0, sc_g1, sc_g2, sc_g3, sc_g4, sc_p3, sc_p4, sc_o, hget_hset, ia_l, ia_s, vin, opl, onl, Int32.reduceLT, Int32.reduceLE, Int32.reduceAdd, Int32.reduceSub, Nat.reduceLT, Nat.reduceAdd, Nat.reduceEqDiff, ↓reduceIte, true_and, and_true, List.length_nil, List.length_cons, Nat.reduceLeDiff, Nat.zero_le]
            refine sp_isDone e2 ?_
            simp only [eX6_free_69, pe_ifeq, zB_0, hget_hset, ia_l, ia_s, vin, opl, onl, Int32.reduceLT, Int32.reduceLE, Int32.reduceAdd, Int32.reduceSub, Nat.reduceLT, Nat.reduceAdd, Nat.reduceEqDiff, ↓reduceIte, true_and, and_true, List.length_nil, List.length_cons, Nat.reduceLeDiff, Nat.zero_le]
            split
            · rename_i u3
              simp only [eX6_free_76, eX6_free_77, eX6_free_78, eX6_free_79, eX6_free_82, pe_bin, pe_const, pe_goto, pe_iinc_5, pe_istore_3, nisw, hget_hset, ia_l, ia_s, vin, opl, onl, Int32.reduceLT, Int32.reduceLE, Int32.reduceAdd, Int32.reduceSub, Nat.reduceLT, Nat.reduceAdd, Nat.reduceEqDiff, ↓reduceIte, true_and, and_true, List.length_nil, List.length_cons, Nat.reduceLeDiff, Nat.zero_le]
              refine ih (i + 1) G1 _ (by omega) e1 (k2.tr e3) ?_
              rw [cS, if_pos u2, ← k3, if_neg (fun z => by rw [z] at u3; cases u3)]
            · rename_i u3
              simp only [eX6_free_72, eX6_free_73, eX6_free_76, eX6_free_77, eX6_free_78, eX6_free_79, eX6_free_82, pe_bin, pe_const, pe_goto, pe_iinc_5, pe_istore_3, nisw, hget_hset, ia_l, ia_s, vin, opl, onl, Int32.reduceLT, Int32.reduceLE, Int32.reduceAdd, Int32.reduceSub, Nat.reduceLT, Nat.reduceAdd, Nat.reduceEqDiff, ↓reduceIte, true_and, and_true, List.length_nil, List.length_cons, Nat.reduceLeDiff, Nat.zero_le]
              refine ih (i + 1) G1 _ (by omega) e1 (k2.tr e3) ?_
              rw [cS, if_pos u2, ← k3, if_pos (by cases h : aDo (sT K t k (nI i)) 6 with | true => rfl | false => exact absurd h u3)]
          · rename_i u2
            simp only [eX6_free_79, eX6_free_82, pe_goto, pe_iinc_5, nisw, hget_hset, ia_l, ia_s, vin, opl, onl, Int32.reduceLT, Int32.reduceLE, Int32.reduceAdd, Int32.reduceSub, Nat.reduceLT, Nat.reduceAdd, Nat.reduceEqDiff, ↓reduceIte, true_and, and_true, List.length_nil, List.length_cons, Nat.reduceLeDiff, Nat.zero_le]
            refine ih (i + 1) H _ (by omega) k1 k2 ?_
            rw [cS, if_neg u2, ← k3]
      exact key (2 ^ K.m) 0 G 0 (by omega) hr frZ.rf rfl
/-- by a second turning below u -/
def bS (K : Ld) (mid : Nat → Int32) (r : Nat) (tn fi bd : Int32) : Nat → Int32
  | 0 => bd
  | u + 1 => if tn + bc (fi ^^^ nI u) < bS K mid r tn fi bd u ∧ aDo (aH K 0 r (so mid (nI u))) 6 = true then tn + bc (fi ^^^ nI u) else bS K mid r tn fi bd u
def fB (K : Ld) (t : Nat → Int32) (k r : Nat) (fi bd : Int32) : Int32 :=
  if bc (fi ^^^ t 18) < bd then (if aWe (sT K t k fi) 6 = 0 then bS K (sT K t k fi) r (bc (fi ^^^ t 18)) fi bd (2 ^ K.m) else bd) else bd
set_option maxRecDepth 100000 in
theorem sp_fewestBySecond {d k r : Nat} {G : px_H} {le : Int32} {la dr : Nat} {ke : Int32} {sd : Int64} {K : Ld} {c : Nat} {fi bd : Int32} {t : Nat → Int32} {Q : px_Q} (hr : rX G le la dr ke sd K t) (hv : vK K) (hok : okT K c t) (hk : k ≤ 12) (hrr : r ≤ 12) (hQ : ∀ G', rX G' le la dr ke sd K t → frZ G G' 86 94 → Q (some (.int (fB K t k r fi bd))) G') : pcal (d + 5) 68 [.ref 2, .int fi, .int (nI k), .int (nI r), .int bd] G Q := by
  have hm := hv.1.2.1
  obtain ⟨n1, n2⟩ := p2m hm
  refine inX6_fewestBySecond ?_
  have x0 := hr.x
  have s0 := hr.2.1.obj
  simp only [eX6_fewestBySecond_0, eX6_fewestBySecond_1, eX6_fewestBySecond_2, eX6_fewestBySecond_5, eX6_fewestBySecond_8, eX6_fewestBySecond_9, pe_aload_0, pe_bin, pe_callS_1, pe_getf, pe_iload_1, x0, s0, x_g6, sc_g0, sc_g1, sc_g2, sc_g3, sc_g4, sc_p3, sc_p4, sc_o, hget_hset, ia_l, ia_s, vin, opl, onl, Int32.reduceLT, Int32.reduceLE, Int32.reduceAdd, Int32.reduceSub, Nat.reduceLT, Nat.reduceAdd, Nat.reduceEqDiff, ↓reduceIte, true_and, and_true, List.length_nil, List.length_cons, Nat.reduceLeDiff, Nat.zero_le]
  refine sp_bitCount ?_
  simp only [eX6_fewestBySecond_12, eX6_fewestBySecond_14, eX6_fewestBySecond_16, eX6_fewestBySecond_18, pe_iclt, pe_iload_4, pe_iload_5, pe_istore_5, hget_hset, ia_l, ia_s, vin, opl, onl, Int32.reduceLT, Int32.reduceLE, Int32.reduceAdd, Int32.reduceSub, Nat.reduceLT, Nat.reduceAdd, Nat.reduceEqDiff, ↓reduceIte, true_and, and_true, List.length_nil, List.length_cons, Nat.reduceLeDiff, Nat.zero_le]
  split
  · rename_i u1
    obtain ⟨h1, h2, ⟨tu, h3⟩, mv, h4⟩ := id hr
    have m0 := h4.obj
    simp only [eX6_fewestBySecond_24, eX6_fewestBySecond_25, eX6_fewestBySecond_28, eX6_fewestBySecond_29, eX6_fewestBySecond_32, pe_aload_0, pe_callV_1, pe_getf, x0, m0, x_g6, x_g13, sc_g0, sc_g1, sc_g2, sc_g3, sc_g4, sc_p3, sc_p4, sc_o, hget_hset, ia_l, ia_s, vin, opl, onl, Int32.reduceLT, Int32.reduceLE, Int32.reduceAdd, Int32.reduceSub, Nat.reduceLT, Nat.reduceAdd, Nat.reduceEqDiff, ↓reduceIte, true_and, and_true, List.length_nil, List.length_cons, Nat.reduceLeDiff, Nat.zero_le]
    refine sp_copy h4 h2 (by omega) ?_
    intro G1 e1 e2
    have f1 : hget G1 2 = some (c_x le la dr ke sd) := (e2 _ (by omega)).trans x0
    have f2 := e1.obj
    simp only [eX6_fewestBySecond_35, eX6_fewestBySecond_36, eX6_fewestBySecond_39, eX6_fewestBySecond_40, eX6_fewestBySecond_43, eX6_fewestBySecond_44, eX6_fewestBySecond_45, eX6_fewestBySecond_48, eX6_fewestBySecond_49, eX6_fewestBySecond_50, pe_aload_0, pe_callV_3, pe_const, pe_getf, pe_iload_1, pe_iload_2, pe_putf, f1, f2, x_g13, x_o, sc_g0, sc_g1, sc_g2, sc_g3, sc_g4, sc_p3, sc_p4, sc_o, hget_hset, ia_l, ia_s, vin, opl, onl, Int32.reduceLT, Int32.reduceLE, Int32.reduceAdd, Int32.reduceSub, Nat.reduceLT, Nat.reduceAdd, Nat.reduceEqDiff, ↓reduceIte, true_and, and_true, List.length_nil, List.length_cons, Nat.reduceLeDiff, Nat.zero_le]
    have fz : frZ G (hset G1 90 (c_sc 90 fi (t 19))) 90 94 := fun q q1 q2 => by rw [hget_ne (by omega)]; exact e2 q (by omega)
    have z0 : isZ (hset G1 90 (c_sc 90 fi (t 19))) 17 := h1.2.2.2.kept (fz _ (by omega) (by omega)) (by rw [hget_ne (by omega)]; exact e2 _ (by omega))
    refine sp_passHours (t := so t fi) (c := c) (h1.fr fz (by omega) z0) hv e1.so (okT_so hok fi) (by omega) (by omega) ?_
    intro G2 g1 g2 g3
    have g1 : isS G2 90 (sT K t k fi) := g1
    have fz2 : frZ G G2 90 94 := fz.tr g3
    have y0 : hget G2 2 = some (c_x le la dr ke sd) := (fz2 _ (by omega) (by omega)).trans x0
    have y1 := g1.obj
    have r2 : rX G2 le la dr ke sd K t := hr.fr (fz2.wd (by omega) (by omega)) g2 (h3.frZ fz2 (by omega) (by omega)) g1
    simp only [eX6_fewestBySecond_53, eX6_fewestBySecond_54, eX6_fewestBySecond_57, pe_aload_0, pe_callV_0, pe_getf, y0, y1, x_g13, sc_g0, sc_g1, sc_g2, sc_g3, sc_g4, sc_p3, sc_p4, sc_o, hget_hset, ia_l, ia_s, vin, opl, onl, Int32.reduceLT, Int32.reduceLE, Int32.reduceAdd, Int32.reduceSub, Nat.reduceLT, Nat.reduceAdd, Nat.reduceEqDiff, ↓reduceIte, true_and, and_true, List.length_nil, List.length_cons, Nat.reduceLeDiff, Nat.zero_le]
    refine sp_wetTowns g1 ?_
    simp only [eX6_fewestBySecond_60, eX6_fewestBySecond_63, eX6_fewestBySecond_65, pe_ifeq, pe_iload_4, pe_iret, hget_hset, ia_l, ia_s, vin, opl, onl, Int32.reduceLT, Int32.reduceLE, Int32.reduceAdd, Int32.reduceSub, Nat.reduceLT, Nat.reduceAdd, Nat.reduceEqDiff, ↓reduceIte, true_and, and_true, List.length_nil, List.length_cons, Nat.reduceLeDiff, Nat.zero_le]
    split
    · rename_i u2
      have l0 := r2.lo
      simp only [eX6_fewestBySecond_66, eX6_fewestBySecond_68, eX6_fewestBySecond_70, eX6_fewestBySecond_71, eX6_fewestBySecond_74, pe_aload_0, pe_callV_0, pe_getf, pe_iload_4, pe_istore_6, y0, l0, x_g3, ld_o, hget_hset, ia_l, ia_s, vin, opl, onl, Int32.reduceLT, Int32.reduceLE, Int32.reduceAdd, Int32.reduceSub, Nat.reduceLT, Nat.reduceAdd, Nat.reduceEqDiff, ↓reduceIte, true_and, and_true, List.length_nil, List.length_cons, Nat.reduceLeDiff, Nat.zero_le]
      refine sp_allDitches r2.l ?_
      simp only [eX6_fewestBySecond_77, eX6_fewestBySecond_79, eX6_fewestBySecond_80, pe_const, pe_istore_7, pe_istore_8, allD hm, hget_hset, ia_l, ia_s, vin, opl, onl, Int32.reduceLT, Int32.reduceLE, Int32.reduceAdd, Int32.reduceSub, Nat.reduceLT, Nat.reduceAdd, Nat.reduceEqDiff, ↓reduceIte, true_and, and_true, List.length_nil, List.length_cons, Nat.reduceLeDiff, Nat.zero_le]
      have okm : okT K c (sT K t k fi) := okT_aH hv (okT_so hok fi) 0 k
      generalize hmid : sT K t k fi = mid at *
      generalize htn : bc (fi ^^^ t 18) = tn at *
      have key : ∀ j i H x o9, i + j = 2 ^ K.m → rX H le la dr ke sd K t → isS H 90 mid → frZ G H 86 94 → x = bS K mid r tn fi bd i → pr (d + 4) 68 (G.1 + 0, G.2.1 + 0) Q 82 [some (.ref 2), some (.int fi), some (.int (nI k)), some (.int (nI r)), some (.int bd), some (.int tn), some (.int x), some (.int (nI (2 ^ K.m - 1))), some (.int (nI i)), o9] [] H := by
        intro j
        induction j with
        | zero =>
          intro i H x o9 hi k1 k2 k3 k4
          obtain rfl : i = 2 ^ K.m := by omega
          simp only [eX6_fewestBySecond_82, eX6_fewestBySecond_84, eX6_fewestBySecond_86, eX6_fewestBySecond_163, eX6_fewestBySecond_165, pe_icgt, pe_iload_6, pe_iload_7, pe_iload_8, pe_iret, niG' n1 n2, hget_hset, ia_l, ia_s, vin, opl, onl, Int32.reduceLT, Int32.reduceLE, Int32.reduceAdd, Int32.reduceSub, Nat.reduceLT, Nat.reduceAdd, Nat.reduceEqDiff, ↓reduceIte, true_and, and_true, List.length_nil, List.length_cons, Nat.reduceLeDiff, Nat.zero_le]
          have := hQ H k1 k3
          rw [fB, htn, if_pos u1, hmid, if_pos u2, ← k4] at this
          exact this
        | succ j ih =>
          intro i H x o9 hi k1 k2 k3 k4
          have c1 := niG (i := i) (N := 2 ^ K.m) (by omega) n2
          simp only [eX6_fewestBySecond_82, eX6_fewestBySecond_84, eX6_fewestBySecond_86, eX6_fewestBySecond_89, eX6_fewestBySecond_91, eX6_fewestBySecond_92, eX6_fewestBySecond_94, eX6_fewestBySecond_95, pe_bin, pe_callS_1, pe_icgt, pe_iload_1, pe_iload_5, pe_iload_7, pe_iload_8, c1, hget_hset, ia_l, ia_s, vin, opl, onl, Int32.reduceLT, Int32.reduceLE, Int32.reduceAdd, Int32.reduceSub, Nat.reduceLT, Nat.reduceAdd, Nat.reduceEqDiff, ↓reduceIte, true_and, and_true, List.length_nil, List.length_cons, Nat.reduceLeDiff, Nat.zero_le]
          refine sp_bitCount ?_
          simp only [eX6_fewestBySecond_98, eX6_fewestBySecond_99, eX6_fewestBySecond_101, eX6_fewestBySecond_103, eX6_fewestBySecond_105, pe_bin, pe_iclt, pe_iload_6, pe_iload_9, pe_istore_9, hget_hset, ia_l, ia_s, vin, opl, onl, Int32.reduceLT, Int32.reduceLE, Int32.reduceAdd, Int32.reduceSub, Nat.reduceLT, Nat.reduceAdd, Nat.reduceEqDiff, ↓reduceIte, true_and, and_true, List.length_nil, List.length_cons, Nat.reduceLeDiff, Nat.zero_le]
          split
          · rename_i u3
            obtain ⟨w1, w2, ⟨tu2, w3⟩, -⟩ := id k1
            have y0 := k1.x
            have t0 := w3.obj
            simp only [eX6_fewestBySecond_108, eX6_fewestBySecond_109, eX6_fewestBySecond_112, eX6_fewestBySecond_113, eX6_fewestBySecond_116, pe_aload_0, pe_callV_1, pe_getf, y0, t0, x_g12, x_g13, sc_g0, sc_g1, sc_g2, sc_g3, sc_g4, sc_p3, sc_p4, sc_o, hget_hset, ia_l, ia_s, vin, opl, onl, Int32.reduceLT, Int32.reduceLE, Int32.reduceAdd, Int32.reduceSub, Nat.reduceLT, Nat.reduceAdd, Nat.reduceEqDiff, ↓reduceIte, true_and, and_true, List.length_nil, List.length_cons, Nat.reduceLeDiff, Nat.zero_le]
            refine sp_copy w3 k2 (by omega) ?_
            intro G3 a1 a2
            have b1 : hget G3 2 = some (c_x le la dr ke sd) := (a2 _ (by omega)).trans y0
            have b2 := a1.obj
            simp only [eX6_fewestBySecond_119, eX6_fewestBySecond_120, eX6_fewestBySecond_123, eX6_fewestBySecond_125, eX6_fewestBySecond_128, eX6_fewestBySecond_129, eX6_fewestBySecond_130, eX6_fewestBySecond_133, eX6_fewestBySecond_134, eX6_fewestBySecond_135, pe_aload_0, pe_callV_3, pe_const, pe_getf, pe_iload_3, pe_iload_8, pe_putf, b1, b2, x_g12, x_o, sc_g0, sc_g1, sc_g2, sc_g3, sc_g4, sc_p3, sc_p4, sc_o, hget_hset, ia_l, ia_s, vin, opl, onl, Int32.reduceLT, Int32.reduceLE, Int32.reduceAdd, Int32.reduceSub, Nat.reduceLT, Nat.reduceAdd, Nat.reduceEqDiff, ↓reduceIte, true_and, and_true, List.length_nil, List.length_cons, Nat.reduceLeDiff, Nat.zero_le]
            have fz3 : frZ H (hset G3 86 (c_sc 86 (nI i) (mid 19))) 86 90 := fun q q1 q2 => by rw [hget_ne (by omega)]; exact a2 q (by omega)
            have z3 : isZ (hset G3 86 (c_sc 86 (nI i) (mid 19))) 17 := w1.2.2.2.kept (fz3 _ (by omega) (by omega)) (by rw [hget_ne (by omega)]; exact a2 _ (by omega))
            refine sp_passHours (t := so mid (nI i)) (c := c) (w1.fr fz3 (by omega) z3) hv a1.so (okT_so okm _) (by omega) (by omega) ?_
            intro G4 c1 c2 c3
            have fz4 : frZ H G4 86 90 := fz3.tr c3
            have k2' : isS G4 90 mid := k2.frZ fz4 (by omega) (by omega)
            have r4 : rX G4 le la dr ke sd K t := k1.fr (fz4.wd (by omega) (by omega)) c2 c1 k2'
            have v0 := r4.x
            have v1 := c1.obj
            simp only [eX6_fewestBySecond_138, eX6_fewestBySecond_139, eX6_fewestBySecond_142, pe_aload_0, pe_callV_0, pe_getf, v0, v1, x_g12, sc_g0, sc_g1, sc_g2, sc_g3, sc_g4, sc_p3, sc_p4, sc_o, hget_hset, ia_l, ia_s, vin, opl, onl, Int32.reduceLT, Int32.reduceLE, Int32.reduceAdd, Int32.reduceSub, Nat.reduceLT, Nat.reduceAdd, Nat.reduceEqDiff, ↓reduceIte, true_and, and_true, List.length_nil, List.length_cons, Nat.reduceLeDiff, Nat.zero_le]
            refine sp_isDone c1 ?_
            simp only [eX6_fewestBySecond_145, pe_ifeq, zB_0, hget_hset, ia_l, ia_s, vin, opl, onl, Int32.reduceLT, Int32.reduceLE, Int32.reduceAdd, Int32.reduceSub, Nat.reduceLT, Nat.reduceAdd, Nat.reduceEqDiff, ↓reduceIte, true_and, and_true, List.length_nil, List.length_cons, Nat.reduceLeDiff, Nat.zero_le]
            split
            · rename_i u4
              simp only [eX6_fewestBySecond_153, eX6_fewestBySecond_155, eX6_fewestBySecond_157, eX6_fewestBySecond_160, pe_goto, pe_iinc_8, pe_iload_6, pe_istore_6, nisw, hget_hset, ia_l, ia_s, vin, opl, onl, Int32.reduceLT, Int32.reduceLE, Int32.reduceAdd, Int32.reduceSub, Nat.reduceLT, Nat.reduceAdd, Nat.reduceEqDiff, ↓reduceIte, true_and, and_true, List.length_nil, List.length_cons, Nat.reduceLeDiff, Nat.zero_le]
              refine ih (i + 1) G4 _ _ (by omega) r4 k2' (k3.tr (fz4.wd (by omega) (by omega))) ?_
              rw [bS, ← k4, if_neg (fun z => by rw [z.2] at u4; cases u4)]
            · rename_i u4
              simp only [eX6_fewestBySecond_148, eX6_fewestBySecond_150, eX6_fewestBySecond_153, eX6_fewestBySecond_155, eX6_fewestBySecond_157, eX6_fewestBySecond_160, pe_goto, pe_iinc_8, pe_iload_6, pe_iload_9, pe_istore_6, nisw, hget_hset, ia_l, ia_s, vin, opl, onl, Int32.reduceLT, Int32.reduceLE, Int32.reduceAdd, Int32.reduceSub, Nat.reduceLT, Nat.reduceAdd, Nat.reduceEqDiff, ↓reduceIte, true_and, and_true, List.length_nil, List.length_cons, Nat.reduceLeDiff, Nat.zero_le]
              refine ih (i + 1) G4 _ _ (by omega) r4 k2' (k3.tr (fz4.wd (by omega) (by omega))) ?_
              rw [bS, ← k4, if_pos ⟨u3, by cases h : aDo (aH K 0 r (so mid (nI i))) 6 with | true => rfl | false => exact absurd h u4⟩]
          · rename_i u3
            simp only [eX6_fewestBySecond_157, eX6_fewestBySecond_160, pe_goto, pe_iinc_8, nisw, hget_hset, ia_l, ia_s, vin, opl, onl, Int32.reduceLT, Int32.reduceLE, Int32.reduceAdd, Int32.reduceSub, Nat.reduceLT, Nat.reduceAdd, Nat.reduceEqDiff, ↓reduceIte, true_and, and_true, List.length_nil, List.length_cons, Nat.reduceLeDiff, Nat.zero_le]
            refine ih (i + 1) H _ _ (by omega) k1 k2 k3 ?_
            rw [bS, ← k4, if_neg (fun z => u3 z.1)]
      exact key (2 ^ K.m) 0 G2 bd _ (by omega) r2 g1 (fz2.wd (by omega) (by omega)) rfl
    · rename_i u2
      have := hQ G2 r2 (fz2.wd (by omega) (by omega))
      rw [fB, if_pos u1, if_neg u2] at this
      exact this
  · rename_i u1
    simp only [eX6_fewestBySecond_21, eX6_fewestBySecond_23, pe_iload_4, pe_iret, hget_hset, ia_l, ia_s, vin, opl, onl, Int32.reduceLT, Int32.reduceLE, Int32.reduceAdd, Int32.reduceSub, Nat.reduceLT, Nat.reduceAdd, Nat.reduceEqDiff, ↓reduceIte, true_and, and_true, List.length_nil, List.length_cons, Nat.reduceLeDiff, Nat.zero_le]
    have := hQ G hr frZ.rf
    rw [fB, if_neg u1] at this
    exact this
def tS (K : Ld) (t : Nat → Int32) (k r : Nat) : Nat → Int32
  | 0 => 13
  | u + 1 => fB K t k r (nI u) (tS K t k r u)
def aTw (K : Ld) (t : Nat → Int32) (h x : Int32) : Int32 := if aHr h = false ∨ x < 1 ∨ h < x then -2 else if tS K t x.toNatClampNeg (h - x).toNatClampNeg (2 ^ K.m) = 13 then -9 else tS K t x.toNatClampNeg (h - x).toNatClampNeg (2 ^ K.m)
set_option maxRecDepth 100000 in
theorem sp_twice {d : Nat} {G : px_H} {le : Int32} {la dr : Nat} {ke : Int32} {sd : Int64} {K : Ld} {c : Nat} {h x : Int32} {t : Nat → Int32} {Q : px_Q} (hr : rX G le la dr ke sd K t) (hv : vK K) (hok : okT K c t) (hQ : ∀ G', rX G' le la dr ke sd K t → frZ G G' 86 94 → Q (some (.int (aTw K t h x))) G') : pcal (d + 6) 58 [.ref 2, .int h, .int x] G Q := by
  have hm := hv.1.2.1
  obtain ⟨n1, n2⟩ := p2m hm
  refine inX6_twice ?_
  simp only [eX6_twice_0, eX6_twice_1, pe_callS_1, pe_iload_1, hget_hset, ia_l, ia_s, vin, opl, onl, Int32.reduceLT, Int32.reduceLE, Int32.reduceAdd, Int32.reduceSub, Nat.reduceLT, Nat.reduceAdd, Nat.reduceEqDiff, ↓reduceIte, true_and, and_true, List.length_nil, List.length_cons, Nat.reduceLeDiff, Nat.zero_le]
  refine sp_areHours ?_
  simp only [eX6_twice_4, pe_ifeq, zB_0, hget_hset, ia_l, ia_s, vin, opl, onl, Int32.reduceLT, Int32.reduceLE, Int32.reduceAdd, Int32.reduceSub, Nat.reduceLT, Nat.reduceAdd, Nat.reduceEqDiff, ↓reduceIte, true_and, and_true, List.length_nil, List.length_cons, Nat.reduceLeDiff, Nat.zero_le]
  have bad : (aHr h = false ∨ x < 1 ∨ h < x) → pr (d + 5) 58 (G.1 + 0, G.2.1 + 0) Q 17 [some (.ref 2), some (.int h), some (.int x), none, none, none] [] G := by
    intro u
    simp only [eX6_twice_17, eX6_twice_19, pe_const, pe_iret, hget_hset, ia_l, ia_s, vin, opl, onl, Int32.reduceLT, Int32.reduceLE, Int32.reduceAdd, Int32.reduceSub, Nat.reduceLT, Nat.reduceAdd, Nat.reduceEqDiff, ↓reduceIte, true_and, and_true, List.length_nil, List.length_cons, Nat.reduceLeDiff, Nat.zero_le]
    have := hQ G hr frZ.rf
    rw [aTw, if_pos u] at this
    exact this
  split
  · rename_i u1
    exact bad (Or.inl u1)
  · rename_i u1
    obtain ⟨k, hk, rfl⟩ := aHr_of (by cases e : aHr h with | true => rfl | false => exact absurd e u1)
    simp only [eX6_twice_7, eX6_twice_8, eX6_twice_9, pe_const, pe_iclt, pe_iload_2, hget_hset, ia_l, ia_s, vin, opl, onl, Int32.reduceLT, Int32.reduceLE, Int32.reduceAdd, Int32.reduceSub, Nat.reduceLT, Nat.reduceAdd, Nat.reduceEqDiff, ↓reduceIte, true_and, and_true, List.length_nil, List.length_cons, Nat.reduceLeDiff, Nat.zero_le]
    split
    · rename_i u2
      exact bad (Or.inr (Or.inl u2))
    · rename_i u2
      simp only [eX6_twice_12, eX6_twice_13, eX6_twice_14, pe_icgt, pe_iload_1, pe_iload_2, hget_hset, ia_l, ia_s, vin, opl, onl, Int32.reduceLT, Int32.reduceLE, Int32.reduceAdd, Int32.reduceSub, Nat.reduceLT, Nat.reduceAdd, Nat.reduceEqDiff, ↓reduceIte, true_and, and_true, List.length_nil, List.length_cons, Nat.reduceLeDiff, Nat.zero_le]
      split
      · rename_i u3
        exact bad (Or.inr (Or.inr u3))
      · rename_i u3
        obtain ⟨q, hq, rfl⟩ := nI_of (x := x) (fun z => u2 (Int32.lt_trans z (by decide)))
        have hqk : q ≤ k := by
          have := (nI_leI hq (by omega)).mp (Int32.not_lt.mp u3)
          exact this
        have e1 : nI k - nI q = nI (k - q) := pk_sub hqk
        have hc1 : (nI q).toNatClampNeg = q := nI_clamp (by omega)
        have hc2 : (nI (k - q)).toNatClampNeg = k - q := nI_clamp (by omega)
        have x0 := hr.x
        have l0 := hr.lo
        simp only [eX6_twice_20, eX6_twice_22, eX6_twice_23, eX6_twice_24, eX6_twice_27, pe_aload_0, pe_callV_0, pe_const, pe_getf, pe_istore_3, x0, l0, x_g3, ld_o, hget_hset, ia_l, ia_s, vin, opl, onl, Int32.reduceLT, Int32.reduceLE, Int32.reduceAdd, Int32.reduceSub, Nat.reduceLT, Nat.reduceAdd, Nat.reduceEqDiff, ↓reduceIte, true_and, and_true, List.length_nil, List.length_cons, Nat.reduceLeDiff, Nat.zero_le]
        refine sp_allDitches hr.l ?_
        simp only [eX6_twice_30, eX6_twice_32, eX6_twice_33, pe_const, pe_istore_4, pe_istore_5, allD hm, hget_hset, ia_l, ia_s, vin, opl, onl, Int32.reduceLT, Int32.reduceLE, Int32.reduceAdd, Int32.reduceSub, Nat.reduceLT, Nat.reduceAdd, Nat.reduceEqDiff, ↓reduceIte, true_and, and_true, List.length_nil, List.length_cons, Nat.reduceLeDiff, Nat.zero_le]
        have key : ∀ j i H z, i + j = 2 ^ K.m → rX H le la dr ke sd K t → frZ G H 86 94 → z = tS K t q (k - q) i → pr (d + 5) 58 (G.1 + 0, G.2.1 + 0) Q 35 [some (.ref 2), some (.int (nI k)), some (.int (nI q)), some (.int z), some (.int (nI (2 ^ K.m - 1))), some (.int (nI i))] [] H := by
          intro j
          induction j with
          | zero =>
            intro i H z hi k1 k2 k3
            obtain rfl : i = 2 ^ K.m := by omega
            have fin := hQ H k1 k2
            rw [aTw, if_neg (by rintro (a | a | a) <;> contradiction), hc1, e1, hc2, ← k3] at fin
            simp only [eX6_twice_35, eX6_twice_37, eX6_twice_39, eX6_twice_60, eX6_twice_61, eX6_twice_63, pe_const, pe_iceq, pe_icgt, pe_iload_3, pe_iload_4, pe_iload_5, niG' n1 n2, hget_hset, ia_l, ia_s, vin, opl, onl, Int32.reduceLT, Int32.reduceLE, Int32.reduceAdd, Int32.reduceSub, Nat.reduceLT, Nat.reduceAdd, Nat.reduceEqDiff, ↓reduceIte, true_and, and_true, List.length_nil, List.length_cons, Nat.reduceLeDiff, Nat.zero_le]
            split
            · rename_i u4
              rw [if_pos u4] at fin
              simp only [eX6_twice_66, eX6_twice_68, eX6_twice_71, eX6_twice_72, pe_const, pe_goto, pe_iload_3, pe_iret, hget_hset, ia_l, ia_s, vin, opl, onl, Int32.reduceLT, Int32.reduceLE, Int32.reduceAdd, Int32.reduceSub, Nat.reduceLT, Nat.reduceAdd, Nat.reduceEqDiff, ↓reduceIte, true_and, and_true, List.length_nil, List.length_cons, Nat.reduceLeDiff, Nat.zero_le]
              exact fin
            · rename_i u4
              rw [if_neg u4] at fin
              simp only [eX6_twice_71, eX6_twice_72, pe_iload_3, pe_iret, hget_hset, ia_l, ia_s, vin, opl, onl, Int32.reduceLT, Int32.reduceLE, Int32.reduceAdd, Int32.reduceSub, Nat.reduceLT, Nat.reduceAdd, Nat.reduceEqDiff, ↓reduceIte, true_and, and_true, List.length_nil, List.length_cons, Nat.reduceLeDiff, Nat.zero_le]
              exact fin
          | succ j ih =>
            intro i H z hi k1 k2 k3
            have c1 := niG (i := i) (N := 2 ^ K.m) (by omega) n2
            have y0 := k1.x
            simp only [eX6_twice_35, eX6_twice_37, eX6_twice_39, eX6_twice_42, eX6_twice_43, eX6_twice_45, eX6_twice_46, eX6_twice_47, eX6_twice_48, eX6_twice_49, eX6_twice_50, pe_aload_0, pe_bin, pe_callV_4, pe_icgt, pe_iload_1, pe_iload_2, pe_iload_3, pe_iload_4, pe_iload_5, y0, x_o, c1, e1, hget_hset, ia_l, ia_s, vin, opl, onl, Int32.reduceLT, Int32.reduceLE, Int32.reduceAdd, Int32.reduceSub, Nat.reduceLT, Nat.reduceAdd, Nat.reduceEqDiff, ↓reduceIte, true_and, and_true, List.length_nil, List.length_cons, Nat.reduceLeDiff, Nat.zero_le]
            refine sp_fewestBySecond k1 hv hok (by omega) (by omega) ?_
            intro G1 a1 a2
            simp only [eX6_twice_53, eX6_twice_54, eX6_twice_57, pe_goto, pe_iinc_5, pe_istore_3, nisw, hget_hset, ia_l, ia_s, vin, opl, onl, Int32.reduceLT, Int32.reduceLE, Int32.reduceAdd, Int32.reduceSub, Nat.reduceLT, Nat.reduceAdd, Nat.reduceEqDiff, ↓reduceIte, true_and, and_true, List.length_nil, List.length_cons, Nat.reduceLeDiff, Nat.zero_le]
            exact ih (i + 1) G1 _ (by omega) a1 (k2.tr a2) (by rw [tS, ← k3])
        exact key (2 ^ K.m) 0 G 13 (by omega) hr frZ.rf rfl
/-- all that was seen below j hours is so by the turning u -/
def iA (K : Ld) (t : Nat → Int32) (n : Nat) (pp tm mn : Nat → Int32) (u : Int32) : Nat → Bool
  | 0 => true
  | j + 1 => iA K t n pp tm mn u j && aAg K.n pp tm mn (nI j) (sT K t j u) n
theorem iA_f {K : Ld} {t : Nat → Int32} {n : Nat} {pp tm mn : Nat → Int32} {u : Int32} {i : Nat} (h : iA K t n pp tm mn u i = false) : ∀ j, iA K t n pp tm mn u (i + j) = false
  | 0 => h
  | j + 1 => by rw [← Nat.add_assoc, iA, iA_f h j]; rfl
set_option maxRecDepth 100000 in
theorem sp_isAsSeen {d n L : Nat} {G : px_H} {le : Int32} {la dr : Nat} {ke : Int32} {sd : Int64} {K : Ld} {c : Nat} {u : Int32} {t pp tm mn : Nat → Int32} {Q : px_Q} (hr : rX G le la dr ke sd K t) (hV : isV G n pp tm mn) (hv : vK K) (hok : okT K c t) (hL : lT tm n = nI L) (hL2 : L ≤ 12) (hQ : ∀ G', rX G' le la dr ke sd K t → frZ G G' 86 94 → Q (some (.int (zB (iA K t n pp tm mn u (L + 1))))) G') : pcal (d + 4) 81 [.ref 2, .int u] G Q := by
  refine inX6_isAsSeen ?_
  obtain ⟨w1, w2, ⟨tu, w3⟩, mv, w4⟩ := id hr
  have x0 := hr.x
  have t0 := w3.obj
  simp only [eX6_isAsSeen_0, eX6_isAsSeen_1, eX6_isAsSeen_4, eX6_isAsSeen_5, eX6_isAsSeen_8, pe_aload_0, pe_callV_1, pe_getf, x0, t0, x_g6, x_g12, sc_g0, sc_g1, sc_g2, sc_g3, sc_g4, sc_p3, sc_p4, sc_o, hget_hset, ia_l, ia_s, vin, opl, onl, Int32.reduceLT, Int32.reduceLE, Int32.reduceAdd, Int32.reduceSub, Nat.reduceLT, Nat.reduceAdd, Nat.reduceEqDiff, ↓reduceIte, true_and, and_true, List.length_nil, List.length_cons, Nat.reduceLeDiff, Nat.zero_le]
  refine sp_copy w3 w2 (by omega) ?_
  intro G1 e1 e2
  have f1 : hget G1 2 = some (c_x le la dr ke sd) := (e2 _ (by omega)).trans x0
  have f2 := e1.obj
  have f3 : hget G1 81 = some (c_sg 81 (nI n)) := (e2 _ (by omega)).trans hV.1
  simp only [eX6_isAsSeen_11, eX6_isAsSeen_12, eX6_isAsSeen_15, eX6_isAsSeen_16, eX6_isAsSeen_19, eX6_isAsSeen_20, eX6_isAsSeen_23, pe_aload_0, pe_callV_0, pe_getf, pe_iload_1, pe_putf, f1, f2, f3, x_g8, x_g12, sg_o, sc_g0, sc_g1, sc_g2, sc_g3, sc_g4, sc_p3, sc_p4, sc_o, hget_hset, ia_l, ia_s, vin, opl, onl, Int32.reduceLT, Int32.reduceLE, Int32.reduceAdd, Int32.reduceSub, Nat.reduceLT, Nat.reduceAdd, Nat.reduceEqDiff, ↓reduceIte, true_and, and_true, List.length_nil, List.length_cons, Nat.reduceLeDiff, Nat.zero_le]
  have fz : frZ G (hset G1 86 (c_sc 86 u (t 19))) 86 94 := fun q q1 q2 => by rw [hget_ne (by omega)]; exact e2 q (by omega)
  have z0 : isZ (hset G1 86 (c_sc 86 u (t 19))) 17 := w1.2.2.2.kept (fz _ (by omega) (by omega)) (by rw [hget_ne (by omega)]; exact e2 _ (by omega))
  have V1 : isV (hset G1 86 (c_sc 86 u (t 19))) n pp tm mn := hV.kept (fun k a b => fz k (by omega) (by omega))
  have m1 : isS (hset G1 86 (c_sc 86 u (t 19))) 90 mv := w4.kept (fun k a b => by rw [hget_ne (by omega)]; exact e2 k (by omega))
  refine sp_lastTime V1 ?_
  simp only [eX6_isAsSeen_26, eX6_isAsSeen_27, eX6_isAsSeen_28, pe_const, pe_istore_2, pe_istore_3, hL, hget_hset, ia_l, ia_s, vin, opl, onl, Int32.reduceLT, Int32.reduceLE, Int32.reduceAdd, Int32.reduceSub, Nat.reduceLT, Nat.reduceAdd, Nat.reduceEqDiff, ↓reduceIte, true_and, and_true, List.length_nil, List.length_cons, Nat.reduceLeDiff, Nat.zero_le]
  have key : ∀ j i H, i + j = L → rX H le la dr ke sd K t → isS H 86 (sT K t i u) → frZ G H 86 94 → iA K t n pp tm mn u i = true → pr (d + 3) 81 (G.1 + 0, G.2.1 + 0) Q 29 [some (.ref 2), some (.int u), some (.int (nI L)), some (.int (nI i))] [] H := by
    intro j
    induction j with
    | zero =>
      intro i H hi k1 k2 k3 k4
      obtain rfl : i = L := by omega
      have y0 := k1.x
      have VH : isV H n pp tm mn := hV.kept (fun k a b => k3 k (by omega) (by omega))
      have v0 := VH.1
      simp only [eX6_isAsSeen_29, eX6_isAsSeen_30, eX6_isAsSeen_31, eX6_isAsSeen_78, eX6_isAsSeen_79, eX6_isAsSeen_82, eX6_isAsSeen_83, eX6_isAsSeen_86, eX6_isAsSeen_87, eX6_isAsSeen_90, eX6_isAsSeen_91, pe_aload_0, pe_callV_3, pe_getf, pe_iclt, pe_iload_2, pe_iload_3, y0, v0, niE, x_g3, x_g8, x_g12, sg_o, hget_hset, ia_l, ia_s, vin, opl, onl, Int32.reduceLT, Int32.reduceLE, Int32.reduceAdd, Int32.reduceSub, Nat.reduceLT, Nat.reduceAdd, Nat.reduceEqDiff, ↓reduceIte, true_and, and_true, List.length_nil, List.length_cons, Nat.reduceLeDiff, Nat.zero_le]
      refine sp_agree VH k1.l k2 ?_
      simp only [eX6_isAsSeen_94, pe_zret, zB_01, hget_hset, ia_l, ia_s, vin, opl, onl, Int32.reduceLT, Int32.reduceLE, Int32.reduceAdd, Int32.reduceSub, Nat.reduceLT, Nat.reduceAdd, Nat.reduceEqDiff, ↓reduceIte, true_and, and_true, List.length_nil, List.length_cons, Nat.reduceLeDiff, Nat.zero_le]
      have := hQ H k1 k3
      rw [iA, k4] at this
      exact this
    | succ j ih =>
      intro i H hi k1 k2 k3 k4
      have c1 := niK (i := i) (n := L) (by omega) (by omega)
      have y0 := k1.x
      have VH : isV H n pp tm mn := hV.kept (fun k a b => k3 k (by omega) (by omega))
      have v0 := VH.1
      simp only [eX6_isAsSeen_29, eX6_isAsSeen_30, eX6_isAsSeen_31, eX6_isAsSeen_34, eX6_isAsSeen_35, eX6_isAsSeen_38, eX6_isAsSeen_39, eX6_isAsSeen_42, eX6_isAsSeen_43, eX6_isAsSeen_46, eX6_isAsSeen_47, pe_aload_0, pe_callV_3, pe_getf, pe_iclt, pe_iload_2, pe_iload_3, y0, v0, c1, x_g3, x_g8, x_g12, sg_o, hget_hset, ia_l, ia_s, vin, opl, onl, Int32.reduceLT, Int32.reduceLE, Int32.reduceAdd, Int32.reduceSub, Nat.reduceLT, Nat.reduceAdd, Nat.reduceEqDiff, ↓reduceIte, true_and, and_true, List.length_nil, List.length_cons, Nat.reduceLeDiff, Nat.zero_le]
      refine sp_agree VH k1.l k2 ?_
      simp only [eX6_isAsSeen_50, pe_ifeq, zB_0, hget_hset, ia_l, ia_s, vin, opl, onl, Int32.reduceLT, Int32.reduceLE, Int32.reduceAdd, Int32.reduceSub, Nat.reduceLT, Nat.reduceAdd, Nat.reduceEqDiff, ↓reduceIte, true_and, and_true, List.length_nil, List.length_cons, Nat.reduceLeDiff, Nat.zero_le]
      split
      · rename_i u1
        simp only [eX6_isAsSeen_53, eX6_isAsSeen_54, pe_const, pe_zret, true_or, hget_hset, ia_l, ia_s, vin, opl, onl, Int32.reduceLT, Int32.reduceLE, Int32.reduceAdd, Int32.reduceSub, Nat.reduceLT, Nat.reduceAdd, Nat.reduceEqDiff, ↓reduceIte, true_and, and_true, List.length_nil, List.length_cons, Nat.reduceLeDiff, Nat.zero_le]
        have := hQ H k1 k3
        have e : iA K t n pp tm mn u (i + 1) = false := by rw [iA, u1, Bool.and_false]
        rw [show L + 1 = i + 1 + (j + 1) by omega, iA_f e (j + 1)] at this
        exact this
      · rename_i u1
        obtain ⟨v1, v2, v3, v4⟩ := id k1.1
        have v5 := v4.1
        have hla : la + 6 ≤ 17 := by unfold lad at v2; omega
        simp only [eX6_isAsSeen_55, eX6_isAsSeen_56, eX6_isAsSeen_59, eX6_isAsSeen_60, eX6_isAsSeen_63, eX6_isAsSeen_64, eX6_isAsSeen_67, eX6_isAsSeen_68, pe_aload_0, pe_callV_3, pe_const, pe_getf, y0, v5, x_g3, x_g5, x_g12, sr_o, hget_hset, ia_l, ia_s, vin, opl, onl, Int32.reduceLT, Int32.reduceLE, Int32.reduceAdd, Int32.reduceSub, Nat.reduceLT, Nat.reduceAdd, Nat.reduceEqDiff, ↓reduceIte, true_and, and_true, List.length_nil, List.length_cons, Nat.reduceLeDiff, Nat.zero_le]
        refine sp_pass v3 hv.1 v4 k2 (aZ_of hv (okT_aH hv (okT_so hok u) 0 i) 0) (by omega) (by omega) (by omega) ?_
        intro G2 a1 a2 a3
        have fz2 : frZ H G2 86 90 := fun q q1 q2 => a3 q q2 q1
        obtain ⟨-, -, -, mv2, w5⟩ := id k1
        simp only [eX6_isAsSeen_71, eX6_isAsSeen_72, eX6_isAsSeen_75, pe_goto, pe_iinc_3, pe_pop_i, nisw, hget_hset, ia_l, ia_s, vin, opl, onl, Int32.reduceLT, Int32.reduceLE, Int32.reduceAdd, Int32.reduceSub, Nat.reduceLT, Nat.reduceAdd, Nat.reduceEqDiff, ↓reduceIte, true_and, and_true, List.length_nil, List.length_cons, Nat.reduceLeDiff, Nat.zero_le]
        refine ih (i + 1) G2 (by omega) (k1.fr (fz2.wd (by omega) (by omega)) a2 a1 (w5.frZ fz2 (by omega) (by omega))) a1 (k3.tr (fz2.wd (by omega) (by omega))) ?_
        rw [iA, k4]
        cases h : aAg K.n pp tm mn (nI i) (sT K t i u) n with
        | true => rfl
        | false => exact absurd h u1
  exact key L 0 _ (by omega) (hr.fr fz z0 e1.so m1) e1.so fz rfl
def fitS (K : Ld) (t : Nat → Int32) (n L : Nat) (pp tm mn : Nat → Int32) : Nat → Int32 × Int32 × Int32
  | 0 => (0, nI (2 ^ K.m - 1), nI (2 ^ K.m - 1))
  | u + 1 => if iA K t n pp tm mn (nI u) (L + 1) = true then ((fitS K t n L pp tm mn u).1 + 1, (fitS K t n L pp tm mn u).2.1 &&& nI u, (fitS K t n L pp tm mn u).2.2 &&& (nI u ^^^ -1)) else fitS K t n L pp tm mn u
def aFit (K : Ld) (t : Nat → Int32) (n L : Nat) (pp tm mn : Nat → Int32) (w : Int32) : Int32 :=
  if w < 0 ∨ 2 < w then -2 else if w = 0 then (fitS K t n L pp tm mn (2 ^ K.m)).1 else if (fitS K t n L pp tm mn (2 ^ K.m)).1 = 0 then -9 else if w = 1 then (fitS K t n L pp tm mn (2 ^ K.m)).2.1 else (fitS K t n L pp tm mn (2 ^ K.m)).2.2
set_option maxRecDepth 100000 in
theorem sp_fit {d n L : Nat} {G : px_H} {le : Int32} {la dr : Nat} {ke : Int32} {sd : Int64} {K : Ld} {c : Nat} {w : Int32} {t pp tm mn : Nat → Int32} {Q : px_Q} (hr : rX G le la dr ke sd K t) (hV : isV G n pp tm mn) (hv : vK K) (hok : okT K c t) (hL : lT tm n = nI L) (hL2 : L ≤ 12) (hQ : ∀ G', rX G' le la dr ke sd K t → frZ G G' 86 94 → Q (some (.int (aFit K t n L pp tm mn w))) G') : pcal (d + 5) 80 [.ref 2, .int w] G Q := by
  have hm := hv.1.2.1
  obtain ⟨n1, n2⟩ := p2m hm
  refine inX6_fit ?_
  have bad : (w < 0 ∨ 2 < w) → pr (d + 4) 80 (G.1 + 0, G.2.1 + 0) Q 9 [some (.ref 2), some (.int w), none, none, none, none, none] [] G := by
    intro u
    simp only [eX6_fit_9, eX6_fit_11, pe_const, pe_iret, hget_hset, ia_l, ia_s, vin, opl, onl, Int32.reduceLT, Int32.reduceLE, Int32.reduceAdd, Int32.reduceSub, Nat.reduceLT, Nat.reduceAdd, Nat.reduceEqDiff, ↓reduceIte, true_and, and_true, List.length_nil, List.length_cons, Nat.reduceLeDiff, Nat.zero_le]
    have := hQ G hr frZ.rf
    rw [aFit, if_pos u] at this
    exact this
  simp only [eX6_fit_0, eX6_fit_1, pe_iflt, pe_iload_1, hget_hset, ia_l, ia_s, vin, opl, onl, Int32.reduceLT, Int32.reduceLE, Int32.reduceAdd, Int32.reduceSub, Nat.reduceLT, Nat.reduceAdd, Nat.reduceEqDiff, ↓reduceIte, true_and, and_true, List.length_nil, List.length_cons, Nat.reduceLeDiff, Nat.zero_le]
  split
  · rename_i u1
    exact bad (Or.inl u1)
  · rename_i u1
    simp only [eX6_fit_4, eX6_fit_5, eX6_fit_6, pe_const, pe_icgt, pe_iload_1, hget_hset, ia_l, ia_s, vin, opl, onl, Int32.reduceLT, Int32.reduceLE, Int32.reduceAdd, Int32.reduceSub, Nat.reduceLT, Nat.reduceAdd, Nat.reduceEqDiff, ↓reduceIte, true_and, and_true, List.length_nil, List.length_cons, Nat.reduceLeDiff, Nat.zero_le]
    split
    · rename_i u2
      exact bad (Or.inr u2)
    · rename_i u2
      have x0 := hr.x
      have l0 := hr.lo
      simp only [eX6_fit_12, eX6_fit_13, eX6_fit_14, eX6_fit_15, eX6_fit_18, pe_aload_0, pe_callV_0, pe_const, pe_getf, pe_istore_2, x0, l0, x_g3, ld_o, hget_hset, ia_l, ia_s, vin, opl, onl, Int32.reduceLT, Int32.reduceLE, Int32.reduceAdd, Int32.reduceSub, Nat.reduceLT, Nat.reduceAdd, Nat.reduceEqDiff, ↓reduceIte, true_and, and_true, List.length_nil, List.length_cons, Nat.reduceLeDiff, Nat.zero_le]
      refine sp_allDitches hr.l ?_
      simp only [eX6_fit_21, eX6_fit_22, eX6_fit_23, eX6_fit_26, pe_aload_0, pe_callV_0, pe_getf, pe_istore_3, x0, l0, x_g3, ld_o, allD hm, hget_hset, ia_l, ia_s, vin, opl, onl, Int32.reduceLT, Int32.reduceLE, Int32.reduceAdd, Int32.reduceSub, Nat.reduceLT, Nat.reduceAdd, Nat.reduceEqDiff, ↓reduceIte, true_and, and_true, List.length_nil, List.length_cons, Nat.reduceLeDiff, Nat.zero_le]
      refine sp_allDitches hr.l ?_
      simp only [eX6_fit_29, eX6_fit_31, eX6_fit_32, eX6_fit_35, pe_aload_0, pe_callV_0, pe_getf, pe_istore_4, x0, l0, x_g3, ld_o, allD hm, hget_hset, ia_l, ia_s, vin, opl, onl, Int32.reduceLT, Int32.reduceLE, Int32.reduceAdd, Int32.reduceSub, Nat.reduceLT, Nat.reduceAdd, Nat.reduceEqDiff, ↓reduceIte, true_and, and_true, List.length_nil, List.length_cons, Nat.reduceLeDiff, Nat.zero_le]
      refine sp_allDitches hr.l ?_
      simp only [eX6_fit_38, eX6_fit_40, eX6_fit_41, pe_const, pe_istore_5, pe_istore_6, allD hm, hget_hset, ia_l, ia_s, vin, opl, onl, Int32.reduceLT, Int32.reduceLE, Int32.reduceAdd, Int32.reduceSub, Nat.reduceLT, Nat.reduceAdd, Nat.reduceEqDiff, ↓reduceIte, true_and, and_true, List.length_nil, List.length_cons, Nat.reduceLeDiff, Nat.zero_le]
      have key : ∀ j i H f a b, i + j = 2 ^ K.m → rX H le la dr ke sd K t → frZ G H 86 94 → (f, a, b) = fitS K t n L pp tm mn i → pr (d + 4) 80 (G.1 + 0, G.2.1 + 0) Q 43 [some (.ref 2), some (.int w), some (.int f), some (.int a), some (.int b), some (.int (nI (2 ^ K.m - 1))), some (.int (nI i))] [] H := by
        intro j
        induction j with
        | zero =>
          intro i H f a b hi k1 k2 k3
          obtain rfl : i = 2 ^ K.m := by omega
          have fin := hQ H k1 k2
          rw [aFit, if_neg (by rintro (z | z) <;> contradiction), ← k3] at fin
          dsimp only at fin
          simp only [eX6_fit_43, eX6_fit_45, eX6_fit_47, eX6_fit_82, eX6_fit_83, pe_icgt, pe_ifeq, pe_iload_1, pe_iload_5, pe_iload_6, niG' n1 n2, hget_hset, ia_l, ia_s, vin, opl, onl, Int32.reduceLT, Int32.reduceLE, Int32.reduceAdd, Int32.reduceSub, Nat.reduceLT, Nat.reduceAdd, Nat.reduceEqDiff, ↓reduceIte, true_and, and_true, List.length_nil, List.length_cons, Nat.reduceLeDiff, Nat.zero_le]
          split
          · rename_i u3
            rw [if_pos u3] at fin
            simp only [eX6_fit_86, eX6_fit_87, pe_iload_2, pe_iret, hget_hset, ia_l, ia_s, vin, opl, onl, Int32.reduceLT, Int32.reduceLE, Int32.reduceAdd, Int32.reduceSub, Nat.reduceLT, Nat.reduceAdd, Nat.reduceEqDiff, ↓reduceIte, true_and, and_true, List.length_nil, List.length_cons, Nat.reduceLeDiff, Nat.zero_le]
            exact fin
          · rename_i u3
            rw [if_neg u3] at fin
            simp only [eX6_fit_88, eX6_fit_89, pe_ifeq, pe_iload_2, hget_hset, ia_l, ia_s, vin, opl, onl, Int32.reduceLT, Int32.reduceLE, Int32.reduceAdd, Int32.reduceSub, Nat.reduceLT, Nat.reduceAdd, Nat.reduceEqDiff, ↓reduceIte, true_and, and_true, List.length_nil, List.length_cons, Nat.reduceLeDiff, Nat.zero_le]
            split
            · rename_i u4
              rw [if_pos u4] at fin
              simp only [eX6_fit_92, eX6_fit_94, pe_const, pe_iret, hget_hset, ia_l, ia_s, vin, opl, onl, Int32.reduceLT, Int32.reduceLE, Int32.reduceAdd, Int32.reduceSub, Nat.reduceLT, Nat.reduceAdd, Nat.reduceEqDiff, ↓reduceIte, true_and, and_true, List.length_nil, List.length_cons, Nat.reduceLeDiff, Nat.zero_le]
              exact fin
            · rename_i u4
              rw [if_neg u4] at fin
              simp only [eX6_fit_95, eX6_fit_96, eX6_fit_97, pe_const, pe_iceq, pe_iload_1, hget_hset, ia_l, ia_s, vin, opl, onl, Int32.reduceLT, Int32.reduceLE, Int32.reduceAdd, Int32.reduceSub, Nat.reduceLT, Nat.reduceAdd, Nat.reduceEqDiff, ↓reduceIte, true_and, and_true, List.length_nil, List.length_cons, Nat.reduceLeDiff, Nat.zero_le]
              split
              · rename_i u5
                rw [if_pos u5] at fin
                simp only [eX6_fit_100, eX6_fit_101, eX6_fit_104, eX6_fit_106, pe_goto, pe_iload_3, pe_iload_4, pe_iret, hget_hset, ia_l, ia_s, vin, opl, onl, Int32.reduceLT, Int32.reduceLE, Int32.reduceAdd, Int32.reduceSub, Nat.reduceLT, Nat.reduceAdd, Nat.reduceEqDiff, ↓reduceIte, true_and, and_true, List.length_nil, List.length_cons, Nat.reduceLeDiff, Nat.zero_le]
                exact fin
              · rename_i u5
                rw [if_neg u5] at fin
                simp only [eX6_fit_104, eX6_fit_106, pe_iload_4, pe_iret, hget_hset, ia_l, ia_s, vin, opl, onl, Int32.reduceLT, Int32.reduceLE, Int32.reduceAdd, Int32.reduceSub, Nat.reduceLT, Nat.reduceAdd, Nat.reduceEqDiff, ↓reduceIte, true_and, and_true, List.length_nil, List.length_cons, Nat.reduceLeDiff, Nat.zero_le]
                exact fin
        | succ j ih =>
          intro i H f a b hi k1 k2 k3
          have c1 := niG (i := i) (N := 2 ^ K.m) (by omega) n2
          have y0 := k1.x
          simp only [eX6_fit_43, eX6_fit_45, eX6_fit_47, eX6_fit_50, eX6_fit_51, eX6_fit_53, pe_aload_0, pe_callV_1, pe_icgt, pe_iload_5, pe_iload_6, y0, x_o, c1, hget_hset, ia_l, ia_s, vin, opl, onl, Int32.reduceLT, Int32.reduceLE, Int32.reduceAdd, Int32.reduceSub, Nat.reduceLT, Nat.reduceAdd, Nat.reduceEqDiff, ↓reduceIte, true_and, and_true, List.length_nil, List.length_cons, Nat.reduceLeDiff, Nat.zero_le]
          refine sp_isAsSeen k1 (hV.kept (fun k a b => k2 k (by omega) (by omega))) hv hok hL hL2 ?_
          intro G1 a1 a2
          simp only [eX6_fit_56, pe_ifeq, zB_0, hget_hset, ia_l, ia_s, vin, opl, onl, Int32.reduceLT, Int32.reduceLE, Int32.reduceAdd, Int32.reduceSub, Nat.reduceLT, Nat.reduceAdd, Nat.reduceEqDiff, ↓reduceIte, true_and, and_true, List.length_nil, List.length_cons, Nat.reduceLeDiff, Nat.zero_le]
          split
          · rename_i u3
            simp only [eX6_fit_76, eX6_fit_79, pe_goto, pe_iinc_6, nisw, hget_hset, ia_l, ia_s, vin, opl, onl, Int32.reduceLT, Int32.reduceLE, Int32.reduceAdd, Int32.reduceSub, Nat.reduceLT, Nat.reduceAdd, Nat.reduceEqDiff, ↓reduceIte, true_and, and_true, List.length_nil, List.length_cons, Nat.reduceLeDiff, Nat.zero_le]
            refine ih (i + 1) G1 f a b (by omega) a1 (k2.tr a2) ?_
            rw [fitS, ← k3, if_neg (fun z => by rw [z] at u3; cases u3)]
          · rename_i u3
            simp only [eX6_fit_59, eX6_fit_62, eX6_fit_63, eX6_fit_65, eX6_fit_66, eX6_fit_67, eX6_fit_69, eX6_fit_71, eX6_fit_72, eX6_fit_73, eX6_fit_74, eX6_fit_76, eX6_fit_79, pe_bin, pe_const, pe_goto, pe_iinc_2, pe_iinc_6, pe_iload_3, pe_iload_4, pe_iload_6, pe_istore_3, pe_istore_4, nisw, hget_hset, ia_l, ia_s, vin, opl, onl, Int32.reduceLT, Int32.reduceLE, Int32.reduceAdd, Int32.reduceSub, Nat.reduceLT, Nat.reduceAdd, Nat.reduceEqDiff, ↓reduceIte, true_and, and_true, List.length_nil, List.length_cons, Nat.reduceLeDiff, Nat.zero_le]
            refine ih (i + 1) G1 _ _ _ (by omega) a1 (k2.tr a2) ?_
            rw [fitS, ← k3, if_pos (by cases h : iA K t n pp tm mn (nI i) (L + 1) with | true => rfl | false => exact absurd h u3)]
      exact key (2 ^ K.m) 0 G 0 _ _ (by omega) hr frZ.rf rfl
