/-! ===== two kings by turns ===== -/
def isU (G : px_H) : Prop := ∃ r : Nat → Option Nat, hget G 94 = some (c_ra 5 r) ∧ ∀ i, i < 5 → r i = some (104 + 4 * i) ∧ ∃ t, isS G (104 + 4 * i) t
/-- what a move makes of a scene -/
def mvS (K : Ld) (t : Nat → Int32) (j : Nat) : Nat → Int32 := aP K 0 (if j = 0 then t else so t (t 18 ^^^ 1 <<< (nI j - 1 &&& 31)))
def foldO (op : Int32 → Int32 → Int32) (g : Nat → Int32) : Nat → Int32
  | 0 => g 0
  | j + 1 => op (foldO op g j) (g (j + 1))
def kF (K : Ld) (p : Nat) : Nat → Nat → (Nat → Int32) → Int32
  | 0, _, t => t (6 + p)
  | r + 1, q, t => foldO (if q % 2 = 0 then mnI else mxI) (fun j => kF K p r (q + 1) (mvS K t j)) K.m
theorem okT_mv {K : Ld} (hv : vK K) {c : Nat} {t : Nat → Int32} (h : okT K c t) (j : Nat) : okT K c (mvS K t j) := by
  unfold mvS
  split
  · exact okT_aP hv h 0
  · exact okT_aP hv (okT_so h _) 0
theorem ni5 {i : Nat} (h : i < 5) : (nI i).toNatClampNeg = i ∧ 0 ≤ nI i := ⟨nI_clamp (by omega), nI_pos' (by omega)⟩
theorem isU.kept {G G' : px_H} (h : isU G) (h94 : hget G' 94 = hget G 94) (hs : ∀ i, i < 5 → ∃ t, isS G' (104 + 4 * i) t) : isU G' := by
  obtain ⟨r, h1, h2⟩ := h
  exact ⟨r, by rw [h94]; exact h1, fun i hi => ⟨(h2 i hi).1, hs i hi⟩⟩
set_option maxRecDepth 100000 in
theorem sp_leftByMove {d q N p j : Nat} {G : px_H} {le : Int32} {la dr : Nat} {ke : Int32} {sd : Int64} {K : Ld} {c : Nat} {t : Nat → Int32} {R : Int32} {Q : px_Q} (hw : wX G le la dr ke sd K) (hU : isU G) (hv : vK K) (ht : isS G (104 + 4 * q) t) (hok : okT K c t) (hq : q < 4) (hj : j ≤ 6)
    (hrec : ∀ G1 (Q1 : px_Q), wX G1 le la dr ke sd K → isU G1 → isS G1 (104 + 4 * (q + 1)) (mvS K t j) → (∀ G2, wX G2 le la dr ke sd K → isU G2 → frZ G1 G2 (104 + 4 * (q + 2)) 124 → Q1 (some (.int R)) G2) → pcal (d + 2) 84 [.ref 2, .int (nI p), .int (nI (q + 1)), .int (nI N)] G1 Q1)
    (hQ : ∀ G', wX G' le la dr ke sd K → isU G' → frZ G G' (104 + 4 * (q + 1)) 124 → Q (some (.int R)) G') : pcal (d + 3) 83 [.ref 2, .int (nI p), .int (nI q), .int (nI N), .int (nI j)] G Q := by
  obtain ⟨r, u1, u2⟩ := id hU
  obtain ⟨w1, w2, w3, w4⟩ := id hw
  obtain ⟨a1, a2⟩ := ni5 (i := q) (by omega)
  obtain ⟨b1, b2⟩ := ni5 (i := q + 1) (by omega)
  have a3 : q < 5 := by omega
  have b3 : q + 1 < 5 := by omega
  have c1 : nI q < 4 := nI_lt (b := 4) hq (by omega)
  obtain ⟨r0, -⟩ := u2 q (by omega)
  obtain ⟨r1, tn, r2⟩ := u2 (q + 1) (by omega)
  have n0 := r2.obj
  have hla : la + 6 ≤ 17 := by unfold lad at w2; omega
  refine inX6_leftByMove ?_
  simp only [eX6_leftByMove_0, eX6_leftByMove_1, eX6_leftByMove_2, eX6_leftByMove_5, eX6_leftByMove_6, eX6_leftByMove_9, eX6_leftByMove_12, eX6_leftByMove_13, eX6_leftByMove_14, eX6_leftByMove_15, eX6_leftByMove_16, eX6_leftByMove_19, eX6_leftByMove_20, eX6_leftByMove_21, eX6_leftByMove_22, eX6_leftByMove_23, eX6_leftByMove_25, eX6_leftByMove_27, eX6_leftByMove_28, eX6_leftByMove_31, eX6_leftByMove_32, eX6_leftByMove_33, pe_aald, pe_aload_0, pe_aload_5, pe_astore_5, pe_bin, pe_callV_1, pe_const, pe_getf, pe_iald, pe_iclt, pe_iload_1, pe_iload_2, pe_iret, c1, w1, x_g14, u1, ra_g, r0, r1, pog_e, a1, a2, a3, b1, b2, b3, n0, nisw, sc_g0, sc_g1, sc_g2, sc_g3, sc_g4, sc_p3, sc_p4, sc_o, hget_hset, ia_l, ia_s, vin, opl, onl, Int32.reduceLT, Int32.reduceLE, Int32.reduceAdd, Int32.reduceSub, Nat.reduceLT, Nat.reduceAdd, Nat.reduceEqDiff, ↓reduceIte, true_and, and_true, List.length_nil, List.length_cons, Nat.reduceLeDiff, Nat.zero_le]
  refine sp_copy r2 ht (by omega) ?_
  intro G1 e1 e2
  have y0 : hget G1 2 = some (c_x le la dr ke sd) := (e2 _ (by omega)).trans w1
  have f0 := e1.obj
  have rest : ∀ H s, isS H (104 + 4 * (q + 1)) s → okT K c s → aP K 0 s = mvS K t j → frZ G H (104 + 4 * (q + 1)) (104 + 4 * (q + 1) + 4) → isZ H 17 → pr (d + 2) 83 (G.1 + 0, G.2.1 + 0) Q 57 [some (.ref 2), some (.int (nI p)), some (.int (nI q)), some (.int (nI N)), some (.int (nI j)), some (.ref (104 + 4 * (q + 1)))] [] H := by
    intro H s g1 g2 g3 g4 g5
    have wH := hw.fr g4 (by omega) g5
    have z0 := g5.1
    have h0 := wH.1
    simp only [eX6_leftByMove_57, eX6_leftByMove_58, eX6_leftByMove_61, eX6_leftByMove_62, eX6_leftByMove_65, eX6_leftByMove_67, eX6_leftByMove_68, pe_aload_0, pe_aload_5, pe_callV_3, pe_const, pe_getf, h0, z0, x_g3, x_g5, sr_o, hget_hset, ia_l, ia_s, vin, opl, onl, Int32.reduceLT, Int32.reduceLE, Int32.reduceAdd, Int32.reduceSub, Nat.reduceLT, Nat.reduceAdd, Nat.reduceEqDiff, ↓reduceIte, true_and, and_true, List.length_nil, List.length_cons, Nat.reduceLeDiff, Nat.zero_le]
    refine sp_pass wH.2.2.1 hv.1 g5 g1 (aZ_of hv g2 0) (by omega) (by omega) (by omega) ?_
    intro G2 k1 k2 k3
    have fz : frZ H G2 (104 + 4 * (q + 1)) (104 + 4 * (q + 1) + 4) := fun z z1 z2 => k3 z z2 z1
    have fzz := g4.tr fz
    have w2' := hw.fr fzz (by omega) k2
    have h2 := w2'.1
    simp only [eX6_leftByMove_71, eX6_leftByMove_72, eX6_leftByMove_73, eX6_leftByMove_74, eX6_leftByMove_75, eX6_leftByMove_76, eX6_leftByMove_77, eX6_leftByMove_78, pe_aload_0, pe_bin, pe_callV_3, pe_const, pe_iload_1, pe_iload_2, pe_iload_3, pe_pop_i, h2, x_o, nisw, hget_hset, ia_l, ia_s, vin, opl, onl, Int32.reduceLT, Int32.reduceLE, Int32.reduceAdd, Int32.reduceSub, Nat.reduceLT, Nat.reduceAdd, Nat.reduceEqDiff, ↓reduceIte, true_and, and_true, List.length_nil, List.length_cons, Nat.reduceLeDiff, Nat.zero_le]
    rw [g3] at k1
    refine hrec G2 _ w2' (hU.kept (fzz _ (by omega) (by omega)) (fun i hi => ?_)) k1 ?_
    · by_cases hi1 : i = q + 1
      · subst hi1; exact ⟨_, k1⟩
      · obtain ⟨-, ti, q2⟩ := u2 i hi
        exact ⟨ti, q2.frZ fzz (by omega) (by omega)⟩
    · intro G3 m1 m2 m3
      simp only [eX6_leftByMove_81, pe_iret, hget_hset, ia_l, ia_s, vin, opl, onl, Int32.reduceLT, Int32.reduceLE, Int32.reduceAdd, Int32.reduceSub, Nat.reduceLT, Nat.reduceAdd, Nat.reduceEqDiff, ↓reduceIte, true_and, and_true, List.length_nil, List.length_cons, Nat.reduceLeDiff, Nat.zero_le]
      exact hQ G3 m1 m2 ((fzz.wd (by omega) (by omega)).tr (m3.wd (by omega) (by omega)))
  have z1 : isZ G1 17 := w4.kept (e2 _ (by omega)) (e2 _ (by omega))
  simp only [eX6_leftByMove_36, eX6_leftByMove_38, pe_ifgt, pe_iload_4, hget_hset, ia_l, ia_s, vin, opl, onl, Int32.reduceLT, Int32.reduceLE, Int32.reduceAdd, Int32.reduceSub, Nat.reduceLT, Nat.reduceAdd, Nat.reduceEqDiff, ↓reduceIte, true_and, and_true, List.length_nil, List.length_cons, Nat.reduceLeDiff, Nat.zero_le]
  by_cases hj0 : j = 0
  · subst hj0
    have k0 : ¬ 0 < nI 0 := by decide
    rw [if_neg k0]
    exact rest G1 t e1 hok (by simp [mvS]) (fun z z1 z2 => e2 z z2) z1
  · have k0 : 0 < nI j := nI_lt (a := 0) (by omega) (by omega)
    rw [if_pos k0]
    simp only [eX6_leftByMove_41, eX6_leftByMove_43, eX6_leftByMove_44, eX6_leftByMove_47, eX6_leftByMove_48, eX6_leftByMove_50, eX6_leftByMove_51, eX6_leftByMove_52, eX6_leftByMove_53, eX6_leftByMove_54, pe_aload_5, pe_bin, pe_const, pe_dup_i, pe_dup_r, pe_getf, pe_iload_4, pe_putf, f0, sc_g0, sc_g1, sc_g2, sc_g3, sc_g4, sc_p3, sc_p4, sc_o, hget_hset, ia_l, ia_s, vin, opl, onl, Int32.reduceLT, Int32.reduceLE, Int32.reduceAdd, Int32.reduceSub, Nat.reduceLT, Nat.reduceAdd, Nat.reduceEqDiff, ↓reduceIte, true_and, and_true, List.length_nil, List.length_cons, Nat.reduceLeDiff, Nat.zero_le]
    have fz : frZ G (hset G1 (104 + 4 * (q + 1)) (c_sc (104 + 4 * (q + 1)) (t 18 ^^^ 1 <<< (nI j - 1 &&& 31)) (t 19))) (104 + 4 * (q + 1)) (104 + 4 * (q + 1) + 4) := fun z z1 z2 => by rw [hget_ne (by omega)]; exact e2 z z2
    exact rest _ _ e1.so (okT_so hok _) (by simp [mvS, hj0]) fz (w4.kept (fz _ (by omega) (by omega)) (by rw [hget_ne (by omega)]; exact e2 _ (by omega)))
theorem ngt {i m : Nat} (h : i ≤ m) (hm : m ≤ 6) : ¬ nI m < nI i := nI_nlt h (by omega)
theorem igt {m : Nat} (hm : m ≤ 6) : nI m < nI (m + 1) := nI_lt (by omega) (by omega)
theorem par2 {q : Nat} (hq : q ≤ 10) : nI q - nI q / 2 * 2 = nI (q % 2) := pk_rem (d := 2) (by omega) (by omega) (by omega)
set_option maxRecDepth 100000 in
theorem sp_leftFrom {N p : Nat} {le : Int32} {la dr : Nat} {ke : Int32} {sd : Int64} {K : Ld} {c : Nat} (hv : vK K) (hN : N ≤ 4) (hp : p < 6) : ∀ (r d q : Nat) (G : px_H) (t : Nat → Int32) (Q : px_Q), q + r = N → wX G le la dr ke sd K → isU G → isS G (104 + 4 * q) t → okT K c t → (∀ G', wX G' le la dr ke sd K → isU G' → frZ G G' (104 + 4 * (q + 1)) 124 → Q (some (.int (kF K p r q t))) G') → pcal (d + 2 * r + 2) 84 [.ref 2, .int (nI p), .int (nI q), .int (nI N)] G Q := by
  intro r
  induction r with
  | zero =>
    intro d q G t Q hqr hw hU ht hok hQ
    obtain rfl : q = N := by omega
    obtain ⟨rr, u1, u2⟩ := id hU
    obtain ⟨w1, w2, w3, w4⟩ := id hw
    obtain ⟨a1, a2⟩ := ni5 (i := q) (by omega)
    have a3 : q < 5 := by omega
    obtain ⟨r0, -⟩ := u2 q (by omega)
    obtain ⟨f0, f1, f2, h0, h1, h2, h3, h4⟩ := id ht
    obtain ⟨c1, c2, -⟩ := ni6 hp
    refine inX6_leftFrom ?_
    simp only [eX6_leftFrom_0, eX6_leftFrom_1, eX6_leftFrom_2, eX6_leftFrom_10, eX6_leftFrom_11, eX6_leftFrom_14, eX6_leftFrom_15, eX6_leftFrom_16, eX6_leftFrom_19, eX6_leftFrom_20, eX6_leftFrom_21, pe_aald, pe_aload_0, pe_getf, pe_iald, pe_iclt, pe_iload_1, pe_iload_2, pe_iload_3, pe_iret, niE, w1, x_g14, u1, ra_g, r0, pog_e, a1, a2, a3, h0, h2, c1, c2, hp, sc_g0, sc_g1, sc_g2, sc_g3, sc_g4, sc_p3, sc_p4, sc_o, hget_hset, ia_l, ia_s, vin, opl, onl, Int32.reduceLT, Int32.reduceLE, Int32.reduceAdd, Int32.reduceSub, Nat.reduceLT, Nat.reduceAdd, Nat.reduceEqDiff, ↓reduceIte, true_and, and_true, List.length_nil, List.length_cons, Nat.reduceLeDiff, Nat.zero_le]
    rw [(h4 p hp).2.1]
    exact hQ G hw hU frZ.rf
  | succ r ih =>
    intro d q G t Q hqr hw hU ht hok hQ
    have hm := hv.1.2.1
    have l0 := hw.2.2.1.1
    have w1 := hw.1
    have c1 : nI q < nI N := nI_lt (by omega) (by omega)
    have c2 : nI q < 4 := nI_lt (b := 4) (by omega) (by omega)
    have call : ∀ j, j ≤ K.m → ∀ (H : px_H) (Q1 : px_Q), wX H le la dr ke sd K → isU H → isS H (104 + 4 * q) t → (∀ G', wX G' le la dr ke sd K → isU G' → frZ H G' (104 + 4 * (q + 1)) 124 → Q1 (some (.int (kF K p r (q + 1) (mvS K t j)))) G') → pcal (d + 2 * r + 3) 83 [.ref 2, .int (nI p), .int (nI q), .int (nI N), .int (nI j)] H Q1 := by
      intro j hj H Q1 k1 k2 k3 k4
      refine sp_leftByMove (d := d + 2 * r) k1 k2 hv k3 hok (by omega) (by omega) ?_ k4
      intro G1 Q2 m1 m2 m3 m4
      exact ih d (q + 1) G1 _ Q2 (by omega) m1 m2 m3 (okT_mv hv hok j) m4
    refine inX6_leftFrom ?_
    have body : ∀ (b : Int32), b = (if q % 2 = 0 then 1 else 0) → pr (d + 2 * r + 3) 84 (G.1 + 0, G.2.1 + 0) Q 35 [some (.ref 2), some (.int (nI p)), some (.int (nI q)), some (.int (nI N)), some (.int b), none, none, none] [] G := by
      intro b hb
      simp only [eX6_leftFrom_35, eX6_leftFrom_36, eX6_leftFrom_37, eX6_leftFrom_38, eX6_leftFrom_39, eX6_leftFrom_40, pe_aload_0, pe_callV_4, pe_const, pe_iload_1, pe_iload_2, pe_iload_3, w1, x_o, hget_hset, ia_l, ia_s, vin, opl, onl, Int32.reduceLT, Int32.reduceLE, Int32.reduceAdd, Int32.reduceSub, Nat.reduceLT, Nat.reduceAdd, Nat.reduceEqDiff, ↓reduceIte, true_and, and_true, List.length_nil, List.length_cons, Nat.reduceLeDiff, Nat.zero_le]
      refine call 0 (by omega) G _ hw hU ht ?_
      intro G1 e1 e2 e3
      simp only [eX6_leftFrom_43, eX6_leftFrom_45, eX6_leftFrom_46, pe_const, pe_istore_5, pe_istore_6, hget_hset, ia_l, ia_s, vin, opl, onl, Int32.reduceLT, Int32.reduceLE, Int32.reduceAdd, Int32.reduceSub, Nat.reduceLT, Nat.reduceAdd, Nat.reduceEqDiff, ↓reduceIte, true_and, and_true, List.length_nil, List.length_cons, Nat.reduceLeDiff, Nat.zero_le]
      have key : ∀ i j H x o7, j + i = K.m → wX H le la dr ke sd K → isU H → frZ G H (104 + 4 * (q + 1)) 124 → x = foldO (if q % 2 = 0 then mnI else mxI) (fun j => kF K p r (q + 1) (mvS K t j)) j → pr (d + 2 * r + 3) 84 (G.1 + 0, G.2.1 + 0) Q 48 [some (.ref 2), some (.int (nI p)), some (.int (nI q)), some (.int (nI N)), some (.int b), some (.int x), some (.int (nI (j + 1))), o7] [] H := by
        intro i
        induction i with
        | zero =>
          intro j H x o7 hj k1 k2 k3 k4
          obtain rfl : j = K.m := by omega
          have y0 := k1.1
          have y1 := k1.2.2.1.1
          simp only [eX6_leftFrom_48, eX6_leftFrom_50, eX6_leftFrom_51, eX6_leftFrom_54, eX6_leftFrom_57, eX6_leftFrom_101, eX6_leftFrom_103, pe_aload_0, pe_getf, pe_icgt, pe_iload_5, pe_iload_6, pe_iret, y0, y1, x_g3, ld_g0, ld_g1, ld_g2, ld_g3, ld_g4, ld_g5, ld_g6, ld_g7, ld_p5, ld_p6, ld_p7, ld_o, igt hm, hget_hset, ia_l, ia_s, vin, opl, onl, Int32.reduceLT, Int32.reduceLE, Int32.reduceAdd, Int32.reduceSub, Nat.reduceLT, Nat.reduceAdd, Nat.reduceEqDiff, ↓reduceIte, true_and, and_true, List.length_nil, List.length_cons, Nat.reduceLeDiff, Nat.zero_le]
          have := hQ H k1 k2 k3
          rw [kF, ← k4] at this
          exact this
        | succ i ih2 =>
          intro j H x o7 hj k1 k2 k3 k4
          have y0 := k1.1
          have y1 := k1.2.2.1.1
          simp only [eX6_leftFrom_48, eX6_leftFrom_50, eX6_leftFrom_51, eX6_leftFrom_54, eX6_leftFrom_57, eX6_leftFrom_60, eX6_leftFrom_61, eX6_leftFrom_62, eX6_leftFrom_63, eX6_leftFrom_64, eX6_leftFrom_66, pe_aload_0, pe_callV_4, pe_getf, pe_icgt, pe_iload_1, pe_iload_2, pe_iload_3, pe_iload_6, y0, y1, x_g3, x_o, ld_g0, ld_g1, ld_g2, ld_g3, ld_g4, ld_g5, ld_g6, ld_g7, ld_p5, ld_p6, ld_p7, ld_o, ngt (i := j + 1) (m := K.m) (by omega) hm, hget_hset, ia_l, ia_s, vin, opl, onl, Int32.reduceLT, Int32.reduceLE, Int32.reduceAdd, Int32.reduceSub, Nat.reduceLT, Nat.reduceAdd, Nat.reduceEqDiff, ↓reduceIte, true_and, and_true, List.length_nil, List.length_cons, Nat.reduceLeDiff, Nat.zero_le]
          refine call (j + 1) (by omega) H _ k1 k2 (ht.frZ k3 (by omega) (by omega)) ?_
          intro G2 m1 m2 m3
          simp only [eX6_leftFrom_69, eX6_leftFrom_71, eX6_leftFrom_73, pe_ifeq, pe_iload_4, pe_istore_7, hget_hset, ia_l, ia_s, vin, opl, onl, Int32.reduceLT, Int32.reduceLE, Int32.reduceAdd, Int32.reduceSub, Nat.reduceLT, Nat.reduceAdd, Nat.reduceEqDiff, ↓reduceIte, true_and, and_true, List.length_nil, List.length_cons, Nat.reduceLeDiff, Nat.zero_le]
          by_cases hpq : q % 2 = 0
          · rw [if_neg (show ¬ b = 0 by rw [hb, if_pos hpq]; decide)]
            simp only [eX6_leftFrom_76, eX6_leftFrom_78, eX6_leftFrom_80, eX6_leftFrom_83, eX6_leftFrom_86, eX6_leftFrom_88, eX6_leftFrom_90, eX6_leftFrom_93, eX6_leftFrom_95, eX6_leftFrom_98, pe_goto, pe_iinc_6, pe_iload_5, pe_iload_7, pe_istore_5, pe_mmax, pe_mmin, nisw, hget_hset, ia_l, ia_s, vin, opl, onl, Int32.reduceLT, Int32.reduceLE, Int32.reduceAdd, Int32.reduceSub, Nat.reduceLT, Nat.reduceAdd, Nat.reduceEqDiff, ↓reduceIte, true_and, and_true, List.length_nil, List.length_cons, Nat.reduceLeDiff, Nat.zero_le]
            refine ih2 (j + 1) G2 _ _ (by omega) m1 m2 (k3.tr m3) ?_
            rw [foldO, ← k4, if_pos hpq]
            rfl
          · rw [if_pos (show b = 0 by rw [hb, if_neg hpq])]
            simp only [eX6_leftFrom_86, eX6_leftFrom_88, eX6_leftFrom_90, eX6_leftFrom_93, eX6_leftFrom_95, eX6_leftFrom_98, pe_goto, pe_iinc_6, pe_iload_5, pe_iload_7, pe_istore_5, pe_mmax, nisw, hget_hset, ia_l, ia_s, vin, opl, onl, Int32.reduceLT, Int32.reduceLE, Int32.reduceAdd, Int32.reduceSub, Nat.reduceLT, Nat.reduceAdd, Nat.reduceEqDiff, ↓reduceIte, true_and, and_true, List.length_nil, List.length_cons, Nat.reduceLeDiff, Nat.zero_le]
            refine ih2 (j + 1) G2 _ _ (by omega) m1 m2 (k3.tr m3) ?_
            rw [foldO, ← k4, if_neg hpq]
            rfl
      exact key K.m 0 G1 _ _ (by omega) e1 e2 e3 rfl
    simp only [eX6_leftFrom_0, eX6_leftFrom_1, eX6_leftFrom_2, eX6_leftFrom_5, eX6_leftFrom_6, eX6_leftFrom_7, eX6_leftFrom_22, eX6_leftFrom_23, eX6_leftFrom_24, eX6_leftFrom_25, pe_const, pe_iclt, pe_ifeq, pe_iload_2, pe_iload_3, pe_irem, c1, c2, par2 (q := q) (by omega), ie_2_0, not_false_eq_true, hget_hset, ia_l, ia_s, vin, opl, onl, Int32.reduceLT, Int32.reduceLE, Int32.reduceAdd, Int32.reduceSub, Nat.reduceLT, Nat.reduceAdd, Nat.reduceEqDiff, ↓reduceIte, true_and, and_true, List.length_nil, List.length_cons, Nat.reduceLeDiff, Nat.zero_le]
    by_cases hpq : q % 2 = 0
    · rw [hpq, if_pos (by decide)]
      simp only [eX6_leftFrom_28, eX6_leftFrom_29, eX6_leftFrom_32, eX6_leftFrom_33, pe_const, pe_goto, pe_istore_4, hget_hset, ia_l, ia_s, vin, opl, onl, Int32.reduceLT, Int32.reduceLE, Int32.reduceAdd, Int32.reduceSub, Nat.reduceLT, Nat.reduceAdd, Nat.reduceEqDiff, ↓reduceIte, true_and, and_true, List.length_nil, List.length_cons, Nat.reduceLeDiff, Nat.zero_le]
      exact body 1 (by rw [if_pos hpq])
    · rw [show q % 2 = 1 by omega, if_neg (by decide)]
      simp only [eX6_leftFrom_32, eX6_leftFrom_33, pe_const, pe_istore_4, hget_hset, ia_l, ia_s, vin, opl, onl, Int32.reduceLT, Int32.reduceLE, Int32.reduceAdd, Int32.reduceSub, Nat.reduceLT, Nat.reduceAdd, Nat.reduceEqDiff, ↓reduceIte, true_and, and_true, List.length_nil, List.length_cons, Nat.reduceLeDiff, Nat.zero_le]
      exact body 0 (by rw [if_neg hpq])
/-- the first king's best move and what is left by it, over the moves to j -/
def kG (K : Ld) (p r : Nat) (t : Nat → Int32) : Nat → Int32 × Int32
  | 0 => (0, kF K p r 1 (mvS K t 0))
  | j + 1 => if kF K p r 1 (mvS K t (j + 1)) < (kG K p r t j).2 then (nI (j + 1), kF K p r 1 (mvS K t (j + 1))) else kG K p r t j
def aKi (K : Ld) (t : Nat → Int32) (p n fi : Int32) : Int32 :=
  if hP K.n p = false then -1 else if n < 1 ∨ 4 < n then -2 else if K.kd p.toNatClampNeg = 1 then (if fi = 0 then (kG K p.toNatClampNeg (n.toNatClampNeg - 1) t K.m).2 else (kG K p.toNatClampNeg (n.toNatClampNeg - 1) t K.m).1) else -3
set_option maxRecDepth 100000 in
theorem sp_kings {d : Nat} {G : px_H} {le : Int32} {la dr : Nat} {ke : Int32} {sd : Int64} {K : Ld} {c : Nat} {p n fi : Int32} {t : Nat → Int32} {Q : px_Q} (hr : rX G le la dr ke sd K t) (hU : isU G) (hv : vK K) (hok : okT K c t) (hQ : ∀ G', rX G' le la dr ke sd K t → isU G' → frZ G G' 104 124 → Q (some (.int (aKi K t p n fi))) G') : pcal (d + 12) 82 [.ref 2, .int p, .int n, .int fi] G Q := by
  have hn := hv.1.1
  have hm := hv.1.2.1
  refine inX6_kings ?_
  have x0 := hr.x
  have l0 := hr.lo
  simp only [eX6_kings_0, eX6_kings_1, eX6_kings_4, eX6_kings_5, pe_aload_0, pe_callV_1, pe_getf, pe_iload_1, x0, l0, x_g3, ld_o, hget_hset, ia_l, ia_s, vin, opl, onl, Int32.reduceLT, Int32.reduceLE, Int32.reduceAdd, Int32.reduceSub, Nat.reduceLT, Nat.reduceAdd, Nat.reduceEqDiff, ↓reduceIte, true_and, and_true, List.length_nil, List.length_cons, Nat.reduceLeDiff, Nat.zero_le]
  refine sp_hasPlace hr.l ?_
  simp only [eX6_kings_8, eX6_kings_11, eX6_kings_12, pe_const, pe_ifeq, pe_iret, zB_0, hget_hset, ia_l, ia_s, vin, opl, onl, Int32.reduceLT, Int32.reduceLE, Int32.reduceAdd, Int32.reduceSub, Nat.reduceLT, Nat.reduceAdd, Nat.reduceEqDiff, ↓reduceIte, true_and, and_true, List.length_nil, List.length_cons, Nat.reduceLeDiff, Nat.zero_le]
  split
  · rename_i u0
    have := hQ G hr hU frZ.rf
    rw [aKi, if_pos u0] at this
    exact this
  · rename_i u0
    obtain ⟨p1, p2, p3, p4⟩ := hP_of (n := K.n) (x := p) hn (by cases e : hP K.n p with | true => rfl | false => exact absurd e u0)
    have bad : (n < 1 ∨ 4 < n) → pr (d + 11) 82 (G.1 + 0, G.2.1 + 0) Q 23 [some (.ref 2), some (.int p), some (.int n), some (.int fi), none, none, none, none] [] G := by
      intro u
      simp only [eX6_kings_23, eX6_kings_25, pe_const, pe_iret, hget_hset, ia_l, ia_s, vin, opl, onl, Int32.reduceLT, Int32.reduceLE, Int32.reduceAdd, Int32.reduceSub, Nat.reduceLT, Nat.reduceAdd, Nat.reduceEqDiff, ↓reduceIte, true_and, and_true, List.length_nil, List.length_cons, Nat.reduceLeDiff, Nat.zero_le]
      have := hQ G hr hU frZ.rf
      rw [aKi, if_neg u0, if_pos u] at this
      exact this
    simp only [eX6_kings_13, eX6_kings_14, eX6_kings_15, pe_const, pe_iclt, pe_iload_2, hget_hset, ia_l, ia_s, vin, opl, onl, Int32.reduceLT, Int32.reduceLE, Int32.reduceAdd, Int32.reduceSub, Nat.reduceLT, Nat.reduceAdd, Nat.reduceEqDiff, ↓reduceIte, true_and, and_true, List.length_nil, List.length_cons, Nat.reduceLeDiff, Nat.zero_le]
    split
    · rename_i u1
      exact bad (Or.inl u1)
    · rename_i u1
      simp only [eX6_kings_18, eX6_kings_19, eX6_kings_20, pe_const, pe_icgt, pe_iload_2, hget_hset, ia_l, ia_s, vin, opl, onl, Int32.reduceLT, Int32.reduceLE, Int32.reduceAdd, Int32.reduceSub, Nat.reduceLT, Nat.reduceAdd, Nat.reduceEqDiff, ↓reduceIte, true_and, and_true, List.length_nil, List.length_cons, Nat.reduceLeDiff, Nat.zero_le]
      split
      · rename_i u2
        exact bad (Or.inr u2)
      · rename_i u2
        have l1 := hr.l.2.1
        simp only [eX6_kings_26, eX6_kings_27, eX6_kings_30, eX6_kings_33, eX6_kings_34, eX6_kings_35, eX6_kings_36, pe_aload_0, pe_const, pe_getf, pe_iald, pe_iceq, pe_iload_1, x0, l0, l1, x_g3, ld_g0, ld_g1, ld_g2, ld_g3, ld_g4, ld_g5, ld_g6, ld_g7, ld_p5, ld_p6, ld_p7, ld_o, p1, p3, hget_hset, ia_l, ia_s, vin, opl, onl, Int32.reduceLT, Int32.reduceLE, Int32.reduceAdd, Int32.reduceSub, Nat.reduceLT, Nat.reduceAdd, Nat.reduceEqDiff, ↓reduceIte, true_and, and_true, List.length_nil, List.length_cons, Nat.reduceLeDiff, Nat.zero_le]
        split
        · rename_i u3
          obtain ⟨N, hN, rfl⟩ := nI_of2 (M := 4) (n := 4) (x := n) (by decide) (fun z => u1 (Int32.lt_trans z (by decide))) (Int32.not_lt.mp u2)
          have hN1 : 1 ≤ N := by
            rcases Nat.eq_zero_or_pos N with e | e
            · subst e; exact absurd (by decide) u1
            · exact e
          have hNc : (nI N).toNatClampNeg = N := nI_clamp (by omega)
          generalize hpp : p.toNatClampNeg = pn at *
          subst p4
          obtain ⟨r, v1, v2⟩ := id hU
          obtain ⟨r0, t0, r1⟩ := v2 0 (by omega)
          have r2 := r1.obj
          simp only [eX6_kings_42, eX6_kings_43, eX6_kings_46, eX6_kings_47, eX6_kings_48, eX6_kings_49, eX6_kings_52, pe_aald, pe_aload_0, pe_callV_1, pe_const, pe_getf, x0, x_g6, x_g14, v1, ra_g, r0, pog_e, r2, cl_0, sc_g0, sc_g1, sc_g2, sc_g3, sc_g4, sc_p3, sc_p4, sc_o, hget_hset, ia_l, ia_s, vin, opl, onl, Int32.reduceLT, Int32.reduceLE, Int32.reduceAdd, Int32.reduceSub, Nat.reduceLT, Nat.reduceAdd, Nat.reduceEqDiff, ↓reduceIte, true_and, and_true, List.length_nil, List.length_cons, Nat.reduceLeDiff, Nat.zero_le]
          refine sp_copy r1 hr.2.1 (by omega) ?_
          intro G1 e1 e2
          have fz : frZ G G1 104 124 := fun z z1 z2 => e2 z (by omega)
          have zz : isZ G1 17 := hr.1.2.2.2.kept (e2 _ (by omega)) (e2 _ (by omega))
          have W1 : wX G1 le la dr ke sd K := hr.1.fr fz (by omega) zz
          have U1 : isU G1 := hU.kept (fz _ (by omega) (by omega)) (fun i hi => by
            by_cases hi0 : i = 0
            · subst hi0; exact ⟨_, e1⟩
            · obtain ⟨-, ti, q2⟩ := v2 i hi
              exact ⟨ti, q2.kept (fun k a b => e2 k (by omega))⟩)
          have call : ∀ j, j ≤ K.m → ∀ (H : px_H) (Q1 : px_Q), wX H le la dr ke sd K → isU H → isS H (104 + 4 * 0) t → (∀ G', wX G' le la dr ke sd K → isU G' → frZ H G' (104 + 4 * (0 + 1)) 124 → Q1 (some (.int (kF K pn (N - 1) 1 (mvS K t j)))) G') → pcal (d + 11) 83 [.ref 2, .int (nI pn), .int 0, .int (nI N), .int (nI j)] H Q1 := by
            intro j hj H Q1 k1 k2 k3 k4
            refine sp_leftByMove (d := d + 8) (q := 0) k1 k2 hv k3 hok (by omega) (by omega) ?_ k4
            intro G1 Q2 m1 m2 m3 m4
            have := sp_leftFrom (N := N) (p := pn) (c := c) hv hN (by omega) (N - 1) (d + 8 - 2 * (N - 1)) 1 G1 _ Q2 (by omega) m1 m2 m3 (okT_mv hv hok j) m4
            rw [show d + 8 - 2 * (N - 1) + 2 * (N - 1) + 2 = d + 8 + 2 by omega] at this
            exact this
          have x1 := W1.1
          simp only [eX6_kings_55, eX6_kings_56, eX6_kings_58, eX6_kings_59, eX6_kings_60, eX6_kings_61, eX6_kings_62, eX6_kings_63, pe_aload_0, pe_callV_4, pe_const, pe_iload_1, pe_iload_2, pe_istore_4, x1, x_o, hget_hset, ia_l, ia_s, vin, opl, onl, Int32.reduceLT, Int32.reduceLE, Int32.reduceAdd, Int32.reduceSub, Nat.reduceLT, Nat.reduceAdd, Nat.reduceEqDiff, ↓reduceIte, true_and, and_true, List.length_nil, List.length_cons, Nat.reduceLeDiff, Nat.zero_le]
          refine call 0 (by omega) G1 _ W1 U1 e1 ?_
          intro G2 a1 a2 a3
          simp only [eX6_kings_66, eX6_kings_68, eX6_kings_69, pe_const, pe_istore_5, pe_istore_6, hget_hset, ia_l, ia_s, vin, opl, onl, Int32.reduceLT, Int32.reduceLE, Int32.reduceAdd, Int32.reduceSub, Nat.reduceLT, Nat.reduceAdd, Nat.reduceEqDiff, ↓reduceIte, true_and, and_true, List.length_nil, List.length_cons, Nat.reduceLeDiff, Nat.zero_le]
          have key : ∀ i j H b x o7, j + i = K.m → wX H le la dr ke sd K → isU H → frZ G H 104 124 → isS H (104 + 4 * 0) t → (b, x) = kG K pn (N - 1) t j → pr (d + 11) 82 (G.1 + 0, G.2.1 + 0) Q 71 [some (.ref 2), some (.int (nI pn)), some (.int (nI N)), some (.int fi), some (.int b), some (.int x), some (.int (nI (j + 1))), o7] [] H := by
            intro i
            induction i with
            | zero =>
              intro j H b x o7 hj k1 k2 k3 k5 k4
              obtain rfl : j = K.m := by omega
              have y0 := k1.1
              have y1 := k1.2.2.1.1
              have rH : rX H le la dr ke sd K t := ⟨k1, hr.2.1.frZ k3 (by omega) (by omega), hr.2.2.1.elim (fun u hu => ⟨u, hu.frZ k3 (by omega) (by omega)⟩), hr.2.2.2.elim (fun u hu => ⟨u, hu.frZ k3 (by omega) (by omega)⟩)⟩
              have fin := hQ H rH k2 k3
              rw [aKi, if_neg u0, if_neg (by rintro (z | z) <;> contradiction), hNc, hpp, if_pos u3, ← k4] at fin
              simp only [eX6_kings_71, eX6_kings_73, eX6_kings_74, eX6_kings_77, eX6_kings_80, eX6_kings_115, eX6_kings_116, pe_aload_0, pe_getf, pe_icgt, pe_ifeq, pe_iload_3, pe_iload_6, y0, y1, x_g3, ld_g0, ld_g1, ld_g2, ld_g3, ld_g4, ld_g5, ld_g6, ld_g7, ld_p5, ld_p6, ld_p7, ld_o, igt hm, hget_hset, ia_l, ia_s, vin, opl, onl, Int32.reduceLT, Int32.reduceLE, Int32.reduceAdd, Int32.reduceSub, Nat.reduceLT, Nat.reduceAdd, Nat.reduceEqDiff, ↓reduceIte, true_and, and_true, List.length_nil, List.length_cons, Nat.reduceLeDiff, Nat.zero_le]
              split
              · rename_i u4
                rw [if_pos u4] at fin
                simp only [eX6_kings_124, eX6_kings_126, pe_iload_5, pe_iret, hget_hset, ia_l, ia_s, vin, opl, onl, Int32.reduceLT, Int32.reduceLE, Int32.reduceAdd, Int32.reduceSub, Nat.reduceLT, Nat.reduceAdd, Nat.reduceEqDiff, ↓reduceIte, true_and, and_true, List.length_nil, List.length_cons, Nat.reduceLeDiff, Nat.zero_le]
                exact fin
              · rename_i u4
                rw [if_neg u4] at fin
                simp only [eX6_kings_119, eX6_kings_121, eX6_kings_124, eX6_kings_126, pe_goto, pe_iload_4, pe_iload_5, pe_iret, hget_hset, ia_l, ia_s, vin, opl, onl, Int32.reduceLT, Int32.reduceLE, Int32.reduceAdd, Int32.reduceSub, Nat.reduceLT, Nat.reduceAdd, Nat.reduceEqDiff, ↓reduceIte, true_and, and_true, List.length_nil, List.length_cons, Nat.reduceLeDiff, Nat.zero_le]
                exact fin
            | succ i ih2 =>
              intro j H b x o7 hj k1 k2 k3 k5 k4
              have y0 := k1.1
              have y1 := k1.2.2.1.1
              simp only [eX6_kings_71, eX6_kings_73, eX6_kings_74, eX6_kings_77, eX6_kings_80, eX6_kings_83, eX6_kings_84, eX6_kings_85, eX6_kings_86, eX6_kings_87, eX6_kings_89, pe_aload_0, pe_callV_4, pe_const, pe_getf, pe_icgt, pe_iload_1, pe_iload_2, pe_iload_6, y0, y1, x_g3, x_o, ld_g0, ld_g1, ld_g2, ld_g3, ld_g4, ld_g5, ld_g6, ld_g7, ld_p5, ld_p6, ld_p7, ld_o, ngt (i := j + 1) (m := K.m) (by omega) hm, hget_hset, ia_l, ia_s, vin, opl, onl, Int32.reduceLT, Int32.reduceLE, Int32.reduceAdd, Int32.reduceSub, Nat.reduceLT, Nat.reduceAdd, Nat.reduceEqDiff, ↓reduceIte, true_and, and_true, List.length_nil, List.length_cons, Nat.reduceLeDiff, Nat.zero_le]
              refine call (j + 1) (by omega) H _ k1 k2 k5 ?_
              intro G3 m1 m2 m3
              simp only [eX6_kings_92, eX6_kings_94, eX6_kings_96, eX6_kings_98, pe_iclt, pe_iload_5, pe_iload_7, pe_istore_7, hget_hset, ia_l, ia_s, vin, opl, onl, Int32.reduceLT, Int32.reduceLE, Int32.reduceAdd, Int32.reduceSub, Nat.reduceLT, Nat.reduceAdd, Nat.reduceEqDiff, ↓reduceIte, true_and, and_true, List.length_nil, List.length_cons, Nat.reduceLeDiff, Nat.zero_le]
              split
              · rename_i u4
                simp only [eX6_kings_101, eX6_kings_103, eX6_kings_105, eX6_kings_107, eX6_kings_109, eX6_kings_112, pe_goto, pe_iinc_6, pe_iload_6, pe_iload_7, pe_istore_4, pe_istore_5, nisw, hget_hset, ia_l, ia_s, vin, opl, onl, Int32.reduceLT, Int32.reduceLE, Int32.reduceAdd, Int32.reduceSub, Nat.reduceLT, Nat.reduceAdd, Nat.reduceEqDiff, ↓reduceIte, true_and, and_true, List.length_nil, List.length_cons, Nat.reduceLeDiff, Nat.zero_le]
                refine ih2 (j + 1) G3 _ _ _ (by omega) m1 m2 (k3.tr (m3.wd (by omega) (by omega))) (k5.frZ m3 (by omega) (by omega)) ?_
                rw [kG, ← k4, if_pos u4]
              · rename_i u4
                simp only [eX6_kings_109, eX6_kings_112, pe_goto, pe_iinc_6, nisw, hget_hset, ia_l, ia_s, vin, opl, onl, Int32.reduceLT, Int32.reduceLE, Int32.reduceAdd, Int32.reduceSub, Nat.reduceLT, Nat.reduceAdd, Nat.reduceEqDiff, ↓reduceIte, true_and, and_true, List.length_nil, List.length_cons, Nat.reduceLeDiff, Nat.zero_le]
                refine ih2 (j + 1) G3 _ _ _ (by omega) m1 m2 (k3.tr (m3.wd (by omega) (by omega))) (k5.frZ m3 (by omega) (by omega)) ?_
                rw [kG, ← k4, if_neg u4]
          exact key K.m 0 G2 _ _ _ (by omega) a1 a2 (fz.tr (a3.wd (by omega) (by omega))) (e1.frZ a3 (by omega) (by omega)) rfl
        · rename_i u3
          simp only [eX6_kings_39, eX6_kings_41, pe_const, pe_iret, hget_hset, ia_l, ia_s, vin, opl, onl, Int32.reduceLT, Int32.reduceLE, Int32.reduceAdd, Int32.reduceSub, Nat.reduceLT, Nat.reduceAdd, Nat.reduceEqDiff, ↓reduceIte, true_and, and_true, List.length_nil, List.length_cons, Nat.reduceLeDiff, Nat.zero_le]
          have := hQ G hr hU frZ.rf
          rw [aKi, if_neg u0, if_neg (by rintro (z | z) <;> contradiction), if_neg u3] at this
          exact this
