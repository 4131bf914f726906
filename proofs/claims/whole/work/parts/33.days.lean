/-! ===== days by the seed ===== -/
def sdN (z : Int64) : Int64 := z * 6364136223846793005 + 1442695040888963407
def sdP (z : Int64) : Int32 := ((z.toUInt64 >>> ((33 : Int32).toInt64.toUInt64 &&& Int64.toUInt64 63)).toInt64).toInt32
def sdJ (z : Int64) : Nat := (z.toUInt64 >>> 33).toNat
theorem u64_i64 (x : UInt64) : x.toInt64 = lN x.toNat := by
  apply Int64.toBitVec_inj.mp
  show x.toBitVec = BitVec.ofNat 64 x.toNat
  simp
theorem sdU (z : Int64) : (z.toUInt64 >>> ((33 : Int32).toInt64.toUInt64 &&& Int64.toUInt64 63)).toInt64 = lN (sdJ z) := by
  rw [show ((33 : Int32).toInt64.toUInt64 &&& Int64.toUInt64 63) = 33 by decide]
  exact u64_i64 _
theorem sdJ_lt (z : Int64) : sdJ z < 2147483648 := by
  unfold sdJ
  rw [UInt64.toNat_shiftRight]
  have h := z.toUInt64.toNat_lt
  have e : (33 : UInt64).toNat % 64 = 33 := by decide
  rw [e, Nat.shiftRight_eq_div_pow]
  omega
theorem sdP_e (z : Int64) : sdP z = nI (sdJ z) := by
  unfold sdP
  rw [sdU]
  exact lN_i _
/-- one bucket more at a dam that has room -/
def rn1 (K : Ld) (s : Nat → Int32) (p : Nat) : Nat → Int32 := if K.kd p = 0 ∧ s p < 99 then (fun j => if j = p then s p + 1 else s j) else s
def dS (K : Ld) (t : Nat → Int32) (sd : Int64) : Nat → (Nat → Int32) × Int64
  | 0 => (t, sd)
  | i + 1 => (aP K 0 (rn1 K (dS K t sd i).1 (sdJ (sdN (dS K t sd i).2) % K.n)), sdN (dS K t sd i).2)
def aDy (K : Ld) (t : Nat → Int32) (sd : Int64) (m : Int32) : Int32 :=
  if m < 1 ∨ 40 < m then -2 else if K.n = 0 then 0 else aDu (dS K t sd m.toNatClampNeg).1 6 + 100 * bc (aWe (dS K t sd m.toNatClampNeg).1 6)
def aDz (K : Ld) (t : Nat → Int32) (sd : Int64) (m : Int32) : Int64 :=
  if m < 1 ∨ 40 < m then sd else if K.n = 0 then sd else (dS K t sd m.toNatClampNeg).2
theorem okT_rn {K : Ld} {c : Nat} {t : Nat → Int32} (h : okT K c t) (hc : c ≤ 999990) {p : Nat} (hp : p < K.n) (hn : K.n ≤ 6) : okT K (c + 1) (rn1 K t p) := by
  obtain ⟨h0, h1, h2, h3, h4, h5⟩ := h
  unfold rn1
  split
  · have hup : (fun j => if j = p then t p + 1 else t j) = upd t p (t p + 1) := rfl
    rw [hup]
    have a1 := h1 p (by omega)
    have a2 := nn6.le h1 (p := p) (by omega)
    have e : (t p + 1).toInt = (t p).toInt + 1 := i_add (b := 1) a1 (by decide) (by rw [show (1 : Int32).toInt = 1 by decide]; omega)
    refine ⟨by omega, nn6.up h1 (by omega), by rw [s6_up (by omega), e]; omega, fun q b1 b2 => ?_, fun q hq => ?_, fun q hq hk => ?_⟩
    · simp only [upd, show ¬ q = p by omega, show ¬ 6 + q = p by omega, show ¬ 12 + q = p by omega, ↓reduceIte]; exact h3 q b1 b2
    · simp only [upd, show ¬ 6 + q = p by omega, ↓reduceIte]; exact h4 q hq
    · simp only [upd, show ¬ 12 + q = p by omega, ↓reduceIte]; exact h5 q hq hk
  · exact ⟨by omega, h1, by omega, h3, h4, h5⟩
theorem okT_dS {K : Ld} (hv : vK K) {c : Nat} {t : Nat → Int32} (h : okT K c t) (hc : c ≤ 999900) (hn : 0 < K.n) (sd : Int64) : ∀ i, i ≤ 40 → okT K (c + i) (dS K t sd i).1
  | 0, _ => h
  | i + 1, hi => okT_aP hv (okT_rn (okT_dS hv h hc hn sd i (by omega)) (by omega) (Nat.mod_lt _ hn) hv.1.1) 0
theorem isS.b1 {G : px_H} {a : Nat} {t : Nat → Int32} {f0 : Nat → Int32} {p : Nat} {x : Int32} (h : isS G a t) (h1 : hget G (a + 1) = some (c_ia 6 f0)) (hp : p < 6) : isS (hset G (a + 1) (c_ia 6 (upd f0 p x))) a (fun j => if j = p then x else t j) := by
  obtain ⟨g0, g1, g2, e0, e1, e2, e3, e4⟩ := h
  have e : g0 = f0 := by
    have := e1.symm.trans h1
    simp only [c_ia, Option.some.injEq, Sum.inl.injEq, Prod.mk.injEq] at this
    exact this.2.2
  subst e
  refine ⟨upd g0 p x, g1, g2, ?_, hget_self _ _ _, ?_, ?_, fun q hq => ⟨?_, ?_, ?_⟩⟩
  · rw [hget_ne (by omega)]; simp only [show ¬ 18 = p by omega, show ¬ 19 = p by omega, ↓reduceIte]; exact e0
  · rw [hget_ne (by omega)]; exact e2
  · rw [hget_ne (by omega)]; exact e3
  · simp only [upd]; split
    · rfl
    · exact (e4 q hq).1
  · simp only [show ¬ 6 + q = p by omega, ↓reduceIte]; exact (e4 q hq).2.1
  · simp only [show ¬ 12 + q = p by omega, ↓reduceIte]; exact (e4 q hq).2.2
theorem nI_n0 {n : Nat} (h : n ≤ 6) : (nI n = 0) = (n = 0) := by
  apply propext
  exact nI_eq (b := 0) (by omega) (by omega)
set_option maxRecDepth 100000 in
theorem sp_days {d : Nat} {G : px_H} {le : Int32} {la dr : Nat} {ke : Int32} {sd : Int64} {K : Ld} {c : Nat} {m : Int32} {t : Nat → Int32} {Q : px_Q} (hr : rX G le la dr ke sd K t) (hv : vK K) (hok : okT K c t) (hc : c ≤ 999900) (hQ : ∀ G', rX G' le la dr ke (aDz K t sd m) K t → (∀ k, k ≠ 2 → k ≠ 18 → (k < 86 ∨ 90 ≤ k) → hget G' k = hget G k) → Q (some (.int (aDy K t sd m))) G') : pcal (d + 4) 86 [.ref 2, .int m] G Q := by
  have hn := hv.1.1
  refine inX6_days ?_
  have bad : (m < 1 ∨ 40 < m) → pr (d + 3) 86 (G.1 + 0, G.2.1 + 0) Q 11 [some (.ref 2), some (.int m), none, none, none] [] G := by
    intro u
    simp only [eX6_days_11, eX6_days_13, pe_const, pe_iret, hget_hset, ia_l, ia_s, vin, opl, onl, Int32.reduceLT, Int32.reduceLE, Int32.reduceAdd, Int32.reduceSub, Nat.reduceLT, Nat.reduceAdd, Nat.reduceEqDiff, ↓reduceIte, true_and, and_true, List.length_nil, List.length_cons, Nat.reduceLeDiff, Nat.zero_le]
    have := hQ G (by rw [aDz, if_pos u]; exact hr) (fun _ _ _ _ => rfl)
    rw [aDy, if_pos u] at this
    exact this
  simp only [eX6_days_0, eX6_days_1, eX6_days_2, pe_const, pe_iclt, pe_iload_1, hget_hset, ia_l, ia_s, vin, opl, onl, Int32.reduceLT, Int32.reduceLE, Int32.reduceAdd, Int32.reduceSub, Nat.reduceLT, Nat.reduceAdd, Nat.reduceEqDiff, ↓reduceIte, true_and, and_true, List.length_nil, List.length_cons, Nat.reduceLeDiff, Nat.zero_le]
  split
  · rename_i u1
    exact bad (Or.inl u1)
  · rename_i u1
    simp only [eX6_days_5, eX6_days_6, eX6_days_8, pe_const, pe_icgt, pe_iload_1, hget_hset, ia_l, ia_s, vin, opl, onl, Int32.reduceLT, Int32.reduceLE, Int32.reduceAdd, Int32.reduceSub, Nat.reduceLT, Nat.reduceAdd, Nat.reduceEqDiff, ↓reduceIte, true_and, and_true, List.length_nil, List.length_cons, Nat.reduceLeDiff, Nat.zero_le]
    split
    · rename_i u2
      exact bad (Or.inr u2)
    · rename_i u2
      have x0 := hr.x
      have l0 := hr.lo
      simp only [eX6_days_14, eX6_days_15, eX6_days_18, eX6_days_21, eX6_days_22, eX6_days_23, pe_aload_0, pe_getf, pe_ifeq, pe_iload_2, pe_istore_2, x0, l0, x_g3, ld_g0, ld_g1, ld_g2, ld_g3, ld_g4, ld_g5, ld_g6, ld_g7, ld_p5, ld_p6, ld_p7, ld_o, nI_n0 hn, hget_hset, ia_l, ia_s, vin, opl, onl, Int32.reduceLT, Int32.reduceLE, Int32.reduceAdd, Int32.reduceSub, Nat.reduceLT, Nat.reduceAdd, Nat.reduceEqDiff, ↓reduceIte, true_and, and_true, List.length_nil, List.length_cons, Nat.reduceLeDiff, Nat.zero_le]
      split
      · rename_i u3
        simp only [eX6_days_26, eX6_days_27, pe_const, pe_iret, hget_hset, ia_l, ia_s, vin, opl, onl, Int32.reduceLT, Int32.reduceLE, Int32.reduceAdd, Int32.reduceSub, Nat.reduceLT, Nat.reduceAdd, Nat.reduceEqDiff, ↓reduceIte, true_and, and_true, List.length_nil, List.length_cons, Nat.reduceLeDiff, Nat.zero_le]
        have := hQ G (by rw [aDz, if_neg (by rintro (z | z) <;> contradiction), if_pos u3]; exact hr) (fun _ _ _ _ => rfl)
        rw [aDy, if_neg (by rintro (z | z) <;> contradiction), if_pos u3] at this
        exact this
      · rename_i u3
        obtain ⟨M, hM, rfl⟩ := nI_of2 (M := 40) (n := 40) (x := m) (by decide) (fun z => u1 (Int32.lt_trans z (by decide))) (Int32.not_lt.mp u2)
        have hMc : (nI M).toNatClampNeg = M := nI_clamp (by omega)
        obtain ⟨v1, v2, ⟨tu, v3⟩, mv, v4⟩ := id hr
        have t0 := v3.obj
        simp only [eX6_days_28, eX6_days_29, eX6_days_32, eX6_days_33, eX6_days_36, pe_aload_0, pe_callV_1, pe_getf, x0, t0, x_g6, x_g12, sc_g0, sc_g1, sc_g2, sc_g3, sc_g4, sc_p3, sc_p4, sc_o, hget_hset, ia_l, ia_s, vin, opl, onl, Int32.reduceLT, Int32.reduceLE, Int32.reduceAdd, Int32.reduceSub, Nat.reduceLT, Nat.reduceAdd, Nat.reduceEqDiff, ↓reduceIte, true_and, and_true, List.length_nil, List.length_cons, Nat.reduceLeDiff, Nat.zero_le]
        refine sp_copy v3 v2 (by omega) ?_
        intro G1 e1 e2
        simp only [eX6_days_39, eX6_days_40, pe_const, pe_istore_3, hget_hset, ia_l, ia_s, vin, opl, onl, Int32.reduceLT, Int32.reduceLE, Int32.reduceAdd, Int32.reduceSub, Nat.reduceLT, Nat.reduceAdd, Nat.reduceEqDiff, ↓reduceIte, true_and, and_true, List.length_nil, List.length_cons, Nat.reduceLeDiff, Nat.zero_le]
        have key : ∀ j i H s z o4, i + j = M → (s, z) = dS K t sd i → wX H le la dr ke z K → isS H 86 s → (∀ k, k ≠ 2 → k ≠ 18 → (k < 86 ∨ 90 ≤ k) → hget H k = hget G k) → pr (d + 3) 86 (G.1 + 0, G.2.1 + 0) Q 41 [some (.ref 2), some (.int (nI M)), some (.int (nI K.n)), some (.int (nI i)), o4] [] H := by
          intro j
          induction j with
          | zero =>
            intro i H s z o4 hi k0 k1 k2 k3
            obtain rfl : i = M := by omega
            have y0 := k1.1
            have s0 := k2.obj
            simp only [eX6_days_41, eX6_days_42, eX6_days_43, eX6_days_139, eX6_days_140, eX6_days_143, pe_aload_0, pe_callV_0, pe_getf, pe_iclt, pe_iload_1, pe_iload_3, niE, y0, s0, x_g12, sc_g0, sc_g1, sc_g2, sc_g3, sc_g4, sc_p3, sc_p4, sc_o, hget_hset, ia_l, ia_s, vin, opl, onl, Int32.reduceLT, Int32.reduceLE, Int32.reduceAdd, Int32.reduceSub, Nat.reduceLT, Nat.reduceAdd, Nat.reduceEqDiff, ↓reduceIte, true_and, and_true, List.length_nil, List.length_cons, Nat.reduceLeDiff, Nat.zero_le]
            refine sp_allDung k2 ?_
            simp only [eX6_days_146, eX6_days_148, eX6_days_149, eX6_days_152, pe_aload_0, pe_callV_0, pe_const, pe_getf, y0, s0, x_g12, sc_g0, sc_g1, sc_g2, sc_g3, sc_g4, sc_p3, sc_p4, sc_o, hget_hset, ia_l, ia_s, vin, opl, onl, Int32.reduceLT, Int32.reduceLE, Int32.reduceAdd, Int32.reduceSub, Nat.reduceLT, Nat.reduceAdd, Nat.reduceEqDiff, ↓reduceIte, true_and, and_true, List.length_nil, List.length_cons, Nat.reduceLeDiff, Nat.zero_le]
            refine sp_wetTowns k2 ?_
            simp only [eX6_days_155, pe_callS_1, hget_hset, ia_l, ia_s, vin, opl, onl, Int32.reduceLT, Int32.reduceLE, Int32.reduceAdd, Int32.reduceSub, Nat.reduceLT, Nat.reduceAdd, Nat.reduceEqDiff, ↓reduceIte, true_and, and_true, List.length_nil, List.length_cons, Nat.reduceLeDiff, Nat.zero_le]
            refine sp_bitCount ?_
            simp only [eX6_days_158, eX6_days_159, eX6_days_160, pe_bin, pe_iret, hget_hset, ia_l, ia_s, vin, opl, onl, Int32.reduceLT, Int32.reduceLE, Int32.reduceAdd, Int32.reduceSub, Nat.reduceLT, Nat.reduceAdd, Nat.reduceEqDiff, ↓reduceIte, true_and, and_true, List.length_nil, List.length_cons, Nat.reduceLeDiff, Nat.zero_le]
            have rH : rX H le la dr ke (aDz K t sd (nI i)) K t := by
              rw [aDz, if_neg (by rintro (z | z) <;> contradiction), if_neg u3, hMc, ← k0]
              exact ⟨k1, v2.kept (fun k a b => k3 k (by omega) (by omega) (by omega)), ⟨s, k2⟩, mv, v4.kept (fun k a b => k3 k (by omega) (by omega) (by omega))⟩
            have := hQ H rH k3
            rw [aDy, if_neg (by rintro (z | z) <;> contradiction), if_neg u3, hMc, ← k0] at this
            exact this
          | succ j ih =>
            intro i H s z o4 hi k0 k1 k2 k3
            have c1 := niK (i := i) (n := M) (by omega) (by omega)
            have hz : (s, z).1 = s := rfl
            have y0 := k1.1
            have oks : okT K (c + i) s := by
              have := okT_dS hv hok hc (by omega) sd i (by omega)
              rw [← k0] at this
              exact this
            have hp0 : sdJ (sdN z) % K.n < K.n := Nat.mod_lt _ (by omega)
            have hrem : nI (sdJ (sdN z)) - nI (sdJ (sdN z)) / nI K.n * nI K.n = nI (sdJ (sdN z) % K.n) := pk_rem (sdJ_lt _) (by omega) (by omega)
            have hne : ¬ nI K.n = 0 := by rw [nI_n0 hn]; exact u3
            have nx : ∀ H' s', isS H' 86 s' → s' = rn1 K s (sdJ (sdN z) % K.n) → wX H' le la dr ke (sdN z) K → (∀ k, k ≠ 2 → k ≠ 18 → (k < 86 ∨ 90 ≤ k) → hget H' k = hget G k) → pr (d + 3) 86 (G.1 + 0, G.2.1 + 0) Q 116 [some (.ref 2), some (.int (nI M)), some (.int (nI K.n)), some (.int (nI i)), some (.int (nI (sdJ (sdN z) % K.n)))] [] H' := by
              intro H' s' g1 g2 g3 g4
              have w0 := g3.1
              have w4 := g3.2.2.2
              have w5 := w4.1
              have hla : la + 6 ≤ 17 := by have := g3.2.1; unfold lad at this; omega
              simp only [eX6_days_116, eX6_days_117, eX6_days_120, eX6_days_121, eX6_days_124, eX6_days_125, eX6_days_128, eX6_days_129, pe_aload_0, pe_callV_3, pe_const, pe_getf, w0, w5, x_g3, x_g5, x_g12, sr_o, hget_hset, ia_l, ia_s, vin, opl, onl, Int32.reduceLT, Int32.reduceLE, Int32.reduceAdd, Int32.reduceSub, Nat.reduceLT, Nat.reduceAdd, Nat.reduceEqDiff, ↓reduceIte, true_and, and_true, List.length_nil, List.length_cons, Nat.reduceLeDiff, Nat.zero_le]
              have oks' : okT K (c + i + 1) s' := by rw [g2]; exact okT_rn oks (by omega) hp0 hn
              refine sp_pass g3.2.2.1 hv.1 w4 g1 (aZ_of hv oks' 0) (by omega) (by omega) (by omega) ?_
              intro G2 a1 a2 a3
              simp only [eX6_days_132, eX6_days_133, eX6_days_136, pe_goto, pe_iinc_3, pe_pop_i, nisw, hget_hset, ia_l, ia_s, vin, opl, onl, Int32.reduceLT, Int32.reduceLE, Int32.reduceAdd, Int32.reduceSub, Nat.reduceLT, Nat.reduceAdd, Nat.reduceEqDiff, ↓reduceIte, true_and, and_true, List.length_nil, List.length_cons, Nat.reduceLeDiff, Nat.zero_le]
              refine ih (i + 1) G2 _ (sdN z) _ (by omega) ?_ (g3.kept (fun k hk => a3 k (by omega) (by omega)) a2) a1 (fun k b1 b2 b3 => (a3 k (by omega) (by omega)).trans (g4 k b1 b2 b3))
              rw [dS, ← k0, g2]
            generalize hpp : sdJ (sdN z) % K.n = pn at *
            obtain ⟨p1, p2⟩ := ni7 (i := pn) (by omega)
            have p3 : pn < 6 := by omega
            -- the heap with the seed told anew
            have wz : wX (hset H 2 (c_x le la dr ke (sdN z))) le la dr ke (sdN z) K := by
              obtain ⟨q1, q2, q3, q4⟩ := k1
              refine ⟨hget_self _ _ _, q2, q3.kept (fun k a b => by rw [hget_ne]; unfold lad at q2; omega), q4.kept (by rw [hget_ne (by omega)]) (by rw [hget_ne (by omega)])⟩
            have kz : isS (hset H 2 (c_x le la dr ke (sdN z))) 86 s := k2.kept (fun k a b => by rw [hget_ne (by omega)])
            have fz : ∀ k, k ≠ 2 → k ≠ 18 → (k < 86 ∨ 90 ≤ k) → hget (hset H 2 (c_x le la dr ke (sdN z))) k = hget G k := fun k a b c => by rw [hget_ne a]; exact k3 k a b c
            have l0' := wz.2.2.1.1
            have l1' := wz.2.2.1.2.1
            obtain ⟨f0, f1, f2, s0, s1, s2, s3, s4⟩ := id kz
            have e86 : ¬ (86 = 2) := by decide
            simp only [eX6_days_41, eX6_days_42, eX6_days_43, eX6_days_46, eX6_days_47, eX6_days_48, eX6_days_51, eX6_days_54, eX6_days_55, eX6_days_58, eX6_days_59, pe_aload_0, pe_const, pe_getf, pe_iclt, pe_iload_1, pe_iload_3, pe_lbin, pe_putf, y0, c1, x_g11, x_p11, hget_hset, ia_l, ia_s, vin, opl, onl, Int32.reduceLT, Int32.reduceLE, Int32.reduceAdd, Int32.reduceSub, Nat.reduceLT, Nat.reduceAdd, Nat.reduceEqDiff, ↓reduceIte, true_and, and_true, List.length_nil, List.length_cons, Nat.reduceLeDiff, Nat.zero_le]
            have xx : hget (hset H 2 (c_x le la dr ke (sdN z))) 2 = some (c_x le la dr ke (sdN z)) := hget_self _ _ _
            have sh : z * 6364136223846793005 + 1442695040888963407 = sdN z := rfl
            rw [sh]
            generalize hset H 2 (c_x le la dr ke (sdN z)) = H2 at *
            have shp : ((sdN z).toUInt64 >>> ((33 : Int32).toInt64.toUInt64 &&& Int64.toUInt64 63)).toInt64.toInt32 = nI (sdJ (sdN z)) := sdP_e (sdN z)
            simp only [eX6_days_62, eX6_days_63, eX6_days_66, eX6_days_68, eX6_days_69, eX6_days_70, eX6_days_71, eX6_days_72, eX6_days_74, eX6_days_75, eX6_days_78, eX6_days_81, eX6_days_83, eX6_days_84, pe_aload_0, pe_const, pe_getf, pe_iald, pe_ifeq, pe_iload_2, pe_iload_4, pe_irem, pe_istore_4, pe_l2i, pe_lsh, xx, l0', l1', x_g3, x_g11, ld_g0, ld_g1, ld_g2, ld_g3, ld_g4, ld_g5, ld_g6, ld_g7, ld_p5, ld_p6, ld_p7, ld_o, shp, hrem, hne, p1, p2, p3, not_false_eq_true, hget_hset, ia_l, ia_s, vin, opl, onl, Int32.reduceLT, Int32.reduceLE, Int32.reduceAdd, Int32.reduceSub, Nat.reduceLT, Nat.reduceAdd, Nat.reduceEqDiff, ↓reduceIte, true_and, and_true, List.length_nil, List.length_cons, Nat.reduceLeDiff, Nat.zero_le]
            split
            · rename_i u4
              simp only [eX6_days_87, eX6_days_88, eX6_days_91, eX6_days_94, eX6_days_96, eX6_days_97, eX6_days_99, pe_aload_0, pe_const, pe_getf, pe_iald, pe_iclt, pe_iload_4, xx, s0, s1, x_g12, sc_g0, sc_g1, sc_g2, sc_g3, sc_g4, sc_p3, sc_p4, sc_o, p1, p2, p3, hget_hset, ia_l, ia_s, vin, opl, onl, Int32.reduceLT, Int32.reduceLE, Int32.reduceAdd, Int32.reduceSub, Nat.reduceLT, Nat.reduceAdd, Nat.reduceEqDiff, ↓reduceIte, true_and, and_true, List.length_nil, List.length_cons, Nat.reduceLeDiff, Nat.zero_le]
              split
              · rename_i u5
                simp only [eX6_days_102, eX6_days_103, eX6_days_106, eX6_days_109, eX6_days_111, eX6_days_112, eX6_days_113, eX6_days_114, eX6_days_115, pe_aload_0, pe_bin, pe_const, pe_dup2_ir, pe_getf, pe_iald, pe_iast, pe_iload_4, xx, s0, s1, x_g12, sc_g0, sc_g1, sc_g2, sc_g3, sc_g4, sc_p3, sc_p4, sc_o, p1, p2, p3, hget_hset, ia_l, ia_s, vin, opl, onl, Int32.reduceLT, Int32.reduceLE, Int32.reduceAdd, Int32.reduceSub, Nat.reduceLT, Nat.reduceAdd, Nat.reduceEqDiff, ↓reduceIte, true_and, and_true, List.length_nil, List.length_cons, Nat.reduceLeDiff, Nat.zero_le]
                rw [(s4 pn p3).1] at u5 ⊢
                have b := kz.b1 s1 p3 (x := s pn + 1)
                refine nx _ _ b ?_ (wz.kept (fun k hk => by rw [hget_ne (by omega)]) (wz.2.2.2.kept (by rw [hget_ne (by omega)]) (by rw [hget_ne (by omega)]))) (fun k b1 b2 b3 => by rw [hget_ne (by omega)]; exact fz k b1 b2 b3)
                rw [rn1, if_pos ⟨u4, u5⟩]
              · rename_i u5
                rw [(s4 pn p3).1] at u5
                exact nx _ _ kz (by rw [rn1, if_neg (fun q => u5 q.2)]) wz fz
            · rename_i u4
              exact nx _ _ kz (by rw [rn1, if_neg (fun q => u4 q.1)]) wz fz
        exact key M 0 G1 t sd _ (by omega) rfl (v1.kept (fun k hk => e2 k (by omega)) (v1.2.2.2.kept (e2 _ (by omega)) (e2 _ (by omega)))) e1 (fun k _ _ b => e2 k (by omega))
