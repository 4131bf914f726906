/-! ===== share of the reference ===== -/
theorem sh_or : ∀ D r, D < 64 → r < 64 → ∀ p, p < 6 → wo D (r ||| 2 ^ p) = wo (wo D (2 ^ p)) r := all64x (by decide +kernel)
theorem sh_sub : ∀ D r, D < 64 → r < 64 → ∀ p, p < 6 → (wo r (wo D (2 ^ p)) = 0 ↔ (wo r D = 0 ∧ ¬ bt (nI r) p = 1)) := all64x (by decide +kernel)
theorem sh_pcn : ∀ D p, D < 64 → p < 64 → p < 6 → D.testBit p = true → pcn (wo D (2 ^ p)) + 1 = pcn D := all64x (by decide +kernel)
section MSh
variable {d : Nat} {G : px_H} {q : Nat → Int32} {sd : Int64} {K : Ld} {t : Nat → Int32} {c o : Nat} {Q : px_Q}
set_option maxRecDepth 100000 in
theorem sp_mshare {D : Nat} {p h up : Int32} (hm : oM G q sd K t c o) (hD : isD K D) (hQ : ∀ G', rM G' q sd K t → fM G G' → Q (some (.int (aSh K t D p h up))) G') : pcal (d + 6) 137 [.ref 124, .int p, .int h, .int up] G Q := by
  obtain ⟨⟨w, hw, ht⟩, hv, hvf, hok, -⟩ := id hm
  obtain ⟨d1, d2, d3, d4⟩ := hD
  have hn6 := hv.1.1
  obtain ⟨m0, -, -, -, -, kd, ms, fm, tt, z1, -, -, -, z5, -⟩ := id hw.1
  have no := hQ G ⟨w, hw, ht⟩ (fun _ _ _ => rfl)
  have p6 := (bcN D d1).2
  refine inX7_share ?_
  simp only [eX7_share_0, eX7_share_1, eX7_share_2, pe_aload_0, pe_callV_1, pe_iload_1, m0, m_o, hget_hset, ia_l, ia_s, vin, opl, onl, Int32.reduceLT, Int32.reduceLE, Int32.reduceAdd, Int32.reduceSub, Nat.reduceLT, Nat.reduceAdd, Nat.reduceEqDiff, ↓reduceIte, true_and, and_true, List.length_nil, List.length_cons, Nat.reduceLeDiff, Nat.zero_le]
  refine sp_isPlace hw.1 ?_
  simp only [eX7_share_5, eX7_share_8, eX7_share_9, eX7_share_10, eX7_share_11, eX7_share_12, eX7_share_13, eX7_share_16, pe_callS_3, pe_const, pe_i2l, pe_ifeq, pe_iload_2, pe_iret, zB_0, hget_hset, ia_l, ia_s, vin, opl, onl, Int32.reduceLT, Int32.reduceLE, Int32.reduceAdd, Int32.reduceSub, Nat.reduceLT, Nat.reduceAdd, Nat.reduceEqDiff, ↓reduceIte, true_and, and_true, List.length_nil, List.length_cons, Nat.reduceLeDiff, Nat.zero_le]
  split
  · rename_i u0
    rw [aSh, if_pos u0] at no
    exact no
  · rename_i u0
    obtain ⟨p1, p2, p3, p4⟩ := hP_of (n := K.n) (x := p) hn6 (nt u0)
    refine sp_in (a := 0) (b := 12) rfl rfl ?_
    rw [iN_hr]
    simp only [eX7_share_19, eX7_share_22, eX7_share_24, pe_const, pe_ifeq, pe_iret, zB_0, hget_hset, ia_l, ia_s, vin, opl, onl, Int32.reduceLT, Int32.reduceLE, Int32.reduceAdd, Int32.reduceSub, Nat.reduceLT, Nat.reduceAdd, Nat.reduceEqDiff, ↓reduceIte, true_and, and_true, List.length_nil, List.length_cons, Nat.reduceLeDiff, Nat.zero_le]
    split
    · rename_i u1
      rw [aSh, if_neg u0, if_pos u1] at no
      exact no
    · rename_i u1
      obtain ⟨k, hk, rfl⟩ := aHr_of (nt u1)
      have hkc : (nI k).toNatClampNeg = k := nI_clamp (by omega)
      have kb := (z5 _ p2).1
      simp only [eX7_share_25, eX7_share_26, eX7_share_29, eX7_share_30, eX7_share_31, eX7_share_34, eX7_share_36, pe_aload_0, pe_const, pe_getf, pe_iald, pe_ifeq, pe_iload_1, pe_iret, m0, m_g9, z1, p1, p3, kb, hget_hset, ia_l, ia_s, vin, opl, onl, Int32.reduceLT, Int32.reduceLE, Int32.reduceAdd, Int32.reduceSub, Nat.reduceLT, Nat.reduceAdd, Nat.reduceEqDiff, ↓reduceIte, true_and, and_true, List.length_nil, List.length_cons, Nat.reduceLeDiff, Nat.zero_le]
      split
      · rename_i u2
        have fin0 : ∀ G', rM G' q sd K t → fM G G' → Q (some (.int (aFr (hS K t k D (wo D (2 ^ p.toNatClampNeg)) 64) (px_fac (pcn (wo D (2 ^ p.toNatClampNeg)) + 1)) up))) G' := by
          intro G' r1 r2
          have := hQ G' r1 r2
          rw [aSh, if_neg u0, if_neg u1, hkc, if_pos u2] at this
          exact this
        generalize hpp : p.toNatClampNeg = pn at *
        subst p4
        have dT : D.testBit pn = true := (d4 pn p3).mpr ⟨p2, u2⟩
        obtain ⟨b2, b3⟩ := b1N pn p3
        have e1 : (1 : Int32) <<< (nI pn &&& 31) = nI (2 ^ pn) := b2
        obtain ⟨q1, q2⟩ := nI_wo D (2 ^ pn) d1 b3
        have pe := sh_pcn D pn d1 (by omega) p3 dT
        simp only [eX7_share_37, eX7_share_38, pe_aload_0, pe_callV_0, m0, m_o, hget_hset, ia_l, ia_s, vin, opl, onl, Int32.reduceLT, Int32.reduceLE, Int32.reduceAdd, Int32.reduceSub, Nat.reduceLT, Nat.reduceAdd, Nat.reduceEqDiff, ↓reduceIte, true_and, and_true, List.length_nil, List.length_cons, Nat.reduceLeDiff, Nat.zero_le]
        refine sp_mdams hw.1 ?_
        rw [d3]
        simp only [eX7_share_41, pe_callS_1, hget_hset, ia_l, ia_s, vin, opl, onl, Int32.reduceLT, Int32.reduceLE, Int32.reduceAdd, Int32.reduceSub, Nat.reduceLT, Nat.reduceAdd, Nat.reduceEqDiff, ↓reduceIte, true_and, and_true, List.length_nil, List.length_cons, Nat.reduceLeDiff, Nat.zero_le]
        refine sp_ones ?_
        rw [on8_bc D d1]
        simp only [eX7_share_44, eX7_share_46, eX7_share_47, eX7_share_49, eX7_share_50, pe_const, pe_istore_4, pe_istore_5, pe_istore_6, hget_hset, ia_l, ia_s, vin, opl, onl, Int32.reduceLT, Int32.reduceLE, Int32.reduceAdd, Int32.reduceSub, Nat.reduceLT, Nat.reduceAdd, Nat.reduceEqDiff, ↓reduceIte, true_and, and_true, List.length_nil, List.length_cons, Nat.reduceLeDiff, Nat.zero_le]
        have key : ∀ j i H w' o7, i + j = 64 → mW H q sd K w' → sM K w' 0 t → fM G H → pr (d + 5) 137 (G.1 + 0, G.2.1 + 0) Q 52 [some (.ref 124), some (.int (nI pn)), some (.int (nI k)), some (.int up), some (.int (nI (pcn D))), some (.int (hS K t k D (wo D (2 ^ pn)) i)), some (.int (nI i)), o7] [] H := by
          intro j
          induction j with
          | zero =>
            intro i H w' o7 hi k1 k2 k3
            obtain rfl : i = 64 := by omega
            have c1 : ¬ nI 64 < 64 := by decide
            have fin := fin0 H ⟨w', k1, k2⟩ k3
            obtain ⟨s, s1, s2⟩ := hS_nat (k := k) hv hok p3 d1 dT 64 (by omega)
            have s3 := hn_64 (i := 64) q2 (by omega)
            obtain ⟨f1, f2, f3⟩ := fac_n (pcn D) p6
            have g0 : 0 < Nat.gcd (fN (pcn D)) s := Nat.gcd_pos_of_pos_left _ f2
            have g1 : Nat.gcd (fN (pcn D)) s ≤ fN (pcn D) := Nat.gcd_le_left _ f2
            have g2 : ¬ nI (Nat.gcd (fN (pcn D)) s) = 0 := nI_ne0 (by omega) (by omega)
            rw [pe, s2, f1, aFr_gcd (by omega) (by omega) f2] at fin
            rw [s2]
            simp only [eX7_share_52, eX7_share_54, eX7_share_56, eX7_share_137, eX7_share_139, eX7_share_141, pe_callS_1, pe_const, pe_iclt, pe_iload_4, pe_iload_5, pe_iload_6, c1, hget_hset, ia_l, ia_s, vin, opl, onl, Int32.reduceLT, Int32.reduceLE, Int32.reduceAdd, Int32.reduceSub, Nat.reduceLT, Nat.reduceAdd, Nat.reduceEqDiff, ↓reduceIte, true_and, and_true, List.length_nil, List.length_cons, Nat.reduceLeDiff, Nat.zero_le]
            refine sp_mfactorial p6 ?_
            rw [f1]
            simp only [eX7_share_144, pe_callS_2, hget_hset, ia_l, ia_s, vin, opl, onl, Int32.reduceLT, Int32.reduceLE, Int32.reduceAdd, Int32.reduceSub, Nat.reduceLT, Nat.reduceAdd, Nat.reduceEqDiff, ↓reduceIte, true_and, and_true, List.length_nil, List.length_cons, Nat.reduceLeDiff, Nat.zero_le]
            refine sp_mcommon (by omega) (by omega) ?_
            simp only [eX7_share_147, eX7_share_149, eX7_share_150, pe_ifeq, pe_iload_3, pe_istore_6, hget_hset, ia_l, ia_s, vin, opl, onl, Int32.reduceLT, Int32.reduceLE, Int32.reduceAdd, Int32.reduceSub, Nat.reduceLT, Nat.reduceAdd, Nat.reduceEqDiff, ↓reduceIte, true_and, and_true, List.length_nil, List.length_cons, Nat.reduceLeDiff, Nat.zero_le]
            split
            · rename_i u3
              rw [if_pos u3] at fin
              simp only [eX7_share_161, eX7_share_163, pe_callS_1, pe_iload_4, hget_hset, ia_l, ia_s, vin, opl, onl, Int32.reduceLT, Int32.reduceLE, Int32.reduceAdd, Int32.reduceSub, Nat.reduceLT, Nat.reduceAdd, Nat.reduceEqDiff, ↓reduceIte, true_and, and_true, List.length_nil, List.length_cons, Nat.reduceLeDiff, Nat.zero_le]
              refine sp_mfactorial p6 ?_
              rw [f1]
              simp only [eX7_share_166, eX7_share_168, eX7_share_169, pe_idiv, pe_iload_6, pe_iret, g2, not_false_eq_true, hget_hset, ia_l, ia_s, vin, opl, onl, Int32.reduceLT, Int32.reduceLE, Int32.reduceAdd, Int32.reduceSub, Nat.reduceLT, Nat.reduceAdd, Nat.reduceEqDiff, ↓reduceIte, true_and, and_true, List.length_nil, List.length_cons, Nat.reduceLeDiff, Nat.zero_le]
              rw [pk_div (by omega) g0 (by omega)]
              exact fin
            · rename_i u3
              rw [if_neg u3] at fin
              simp only [eX7_share_153, eX7_share_155, eX7_share_157, eX7_share_158, eX7_share_169, pe_goto, pe_idiv, pe_iload_5, pe_iload_6, pe_iret, g2, not_false_eq_true, hget_hset, ia_l, ia_s, vin, opl, onl, Int32.reduceLT, Int32.reduceLE, Int32.reduceAdd, Int32.reduceSub, Nat.reduceLT, Nat.reduceAdd, Nat.reduceEqDiff, ↓reduceIte, true_and, and_true, List.length_nil, List.length_cons, Nat.reduceLeDiff, Nat.zero_le]
              rw [pk_div (by omega) g0 (by omega)]
              exact fin
          | succ j ih =>
            intro i H w' o7 hi k1 k2 k3
            have y0 := k1.1.1
            have c1 : nI i < 64 := nI_lt (b := 64) (by omega) (by omega)
            obtain ⟨w1, w2⟩ := nI_wo i D (by omega) d1
            have sub := sh_sub D i d1 (by omega) pn p3
            rw [eX7_share_52]
            simp only [eX7_share_54, eX7_share_56, eX7_share_59, eX7_share_61, eX7_share_62, pe_aload_0, pe_callV_0, pe_const, pe_iclt, pe_iload_6, c1, y0, m_o, hget_hset, ia_l, ia_s, vin, opl, onl, Int32.reduceLT, Int32.reduceLE, Int32.reduceAdd, Int32.reduceSub, Nat.reduceLT, Nat.reduceAdd, Nat.reduceEqDiff, ↓reduceIte, true_and, and_true, List.length_nil, List.length_cons, Nat.reduceLeDiff, Nat.zero_le]
            refine sp_mdams k1.1 ?_
            rw [d3]
            simp only [eX7_share_65, eX7_share_66, eX7_share_67, eX7_share_68, pe_bin, pe_const, pe_ifeq, w1, nI_0' w2, hget_hset, ia_l, ia_s, vin, opl, onl, Int32.reduceLT, Int32.reduceLE, Int32.reduceAdd, Int32.reduceSub, Nat.reduceLT, Nat.reduceAdd, Nat.reduceEqDiff, ↓reduceIte, true_and, and_true, List.length_nil, List.length_cons, Nat.reduceLeDiff, Nat.zero_le]
            have skip : ¬ wo i (wo D (2 ^ pn)) = 0 → pr (d + 5) 137 (G.1 + 0, G.2.1 + 0) Q 131 [some (.ref 124), some (.int (nI pn)), some (.int (nI k)), some (.int up), some (.int (nI (pcn D))), some (.int (hS K t k D (wo D (2 ^ pn)) i)), some (.int (nI i)), o7] [] H := by
              intro ne
              simp only [eX7_share_131, eX7_share_134, pe_goto, pe_iinc_6, nisw, hget_hset, ia_l, ia_s, vin, opl, onl, Int32.reduceLT, Int32.reduceLE, Int32.reduceAdd, Int32.reduceSub, Nat.reduceLT, Nat.reduceAdd, Nat.reduceEqDiff, ↓reduceIte, true_and, and_true, List.length_nil, List.length_cons, Nat.reduceLeDiff, Nat.zero_le]
              have := ih (i + 1) H w' o7 (by omega) k1 k2 k3
              rw [hS, if_neg ne] at this
              exact this
            split
            · rename_i v1
              simp only [eX7_share_71, eX7_share_73, eX7_share_74, pe_callS_2, pe_iload_1, pe_iload_6, hget_hset, ia_l, ia_s, vin, opl, onl, Int32.reduceLT, Int32.reduceLE, Int32.reduceAdd, Int32.reduceSub, Nat.reduceLT, Nat.reduceAdd, Nat.reduceEqDiff, ↓reduceIte, true_and, and_true, List.length_nil, List.length_cons, Nat.reduceLeDiff, Nat.zero_le]
              refine sp_has ?_
              simp only [eX7_share_77, pe_ifeq, zB_0, bt_e, decide_eq_false_iff_not, hget_hset, ia_l, ia_s, vin, opl, onl, Int32.reduceLT, Int32.reduceLE, Int32.reduceAdd, Int32.reduceSub, Nat.reduceLT, Nat.reduceAdd, Nat.reduceEqDiff, ↓reduceIte, true_and, and_true, List.length_nil, List.length_cons, Nat.reduceLeDiff, Nat.zero_le]
              split
              · rename_i v2
                have w0 := sub.mpr ⟨v1, decide_eq_false_iff_not.mp v2⟩
                obtain ⟨-, s1, -⟩ := wo_sub i _ (by omega) q2 w0
                have r1 : nI (pcn D) - 1 = nI (pcn D - 1) := pk_sub (b := 1) (by omega)
                have r2 : nI (pcn D - 1) - nI (pcn i) = nI (pcn D - 1 - pcn i) := pk_sub (by omega)
                have r3 : pcn D - 1 = pcn (wo D (2 ^ pn)) := by omega
                simp only [eX7_share_80, eX7_share_82, pe_callS_1, pe_iload_6, hget_hset, ia_l, ia_s, vin, opl, onl, Int32.reduceLT, Int32.reduceLE, Int32.reduceAdd, Int32.reduceSub, Nat.reduceLT, Nat.reduceAdd, Nat.reduceEqDiff, ↓reduceIte, true_and, and_true, List.length_nil, List.length_cons, Nat.reduceLeDiff, Nat.zero_le]
                refine sp_ones ?_
                rw [on8_bc i (by omega)]
                simp only [eX7_share_85, pe_callS_1, hget_hset, ia_l, ia_s, vin, opl, onl, Int32.reduceLT, Int32.reduceLE, Int32.reduceAdd, Int32.reduceSub, Nat.reduceLT, Nat.reduceAdd, Nat.reduceEqDiff, ↓reduceIte, true_and, and_true, List.length_nil, List.length_cons, Nat.reduceLeDiff, Nat.zero_le]
                refine sp_mfactorial (by omega) ?_
                simp only [eX7_share_88, eX7_share_90, eX7_share_91, eX7_share_92, eX7_share_94, pe_bin, pe_callS_1, pe_const, pe_iload_4, pe_iload_6, hget_hset, ia_l, ia_s, vin, opl, onl, Int32.reduceLT, Int32.reduceLE, Int32.reduceAdd, Int32.reduceSub, Nat.reduceLT, Nat.reduceAdd, Nat.reduceEqDiff, ↓reduceIte, true_and, and_true, List.length_nil, List.length_cons, Nat.reduceLeDiff, Nat.zero_le]
                refine sp_ones ?_
                rw [on8_bc i (by omega), r1]
                simp only [eX7_share_97, eX7_share_98, pe_bin, pe_callS_1, r2, hget_hset, ia_l, ia_s, vin, opl, onl, Int32.reduceLT, Int32.reduceLE, Int32.reduceAdd, Int32.reduceSub, Nat.reduceLT, Nat.reduceAdd, Nat.reduceEqDiff, ↓reduceIte, true_and, and_true, List.length_nil, List.length_cons, Nat.reduceLeDiff, Nat.zero_le]
                refine sp_mfactorial (by omega) ?_
                simp only [eX7_share_101, eX7_share_102, eX7_share_104, eX7_share_106, eX7_share_108, eX7_share_109, eX7_share_111, eX7_share_112, pe_aload_0, pe_bin, pe_callV_2, pe_iload_2, pe_iload_5, pe_iload_6, pe_iload_7, pe_istore_7, y0, m_o, hget_hset, ia_l, ia_s, vin, opl, onl, Int32.reduceLT, Int32.reduceLE, Int32.reduceAdd, Int32.reduceSub, Nat.reduceLT, Nat.reduceAdd, Nat.reduceEqDiff, ↓reduceIte, true_and, and_true, List.length_nil, List.length_cons, Nat.reduceLeDiff, Nat.zero_le]
                refine sp_mdungBy k1 k2 hv hvf hok hk (by omega) d1 d3 ?_
                intro G1 x1 a1 a2 a3
                have y1 := a1.1.1
                obtain ⟨t1, t2⟩ := nI_or i (2 ^ pn) (by omega) b3
                simp only [eX7_share_115, eX7_share_116, eX7_share_118, eX7_share_119, eX7_share_120, eX7_share_121, eX7_share_122, eX7_share_123, pe_aload_0, pe_bin, pe_callV_2, pe_const, pe_iload_1, pe_iload_2, pe_iload_6, y1, m_o, e1, t1, hget_hset, ia_l, ia_s, vin, opl, onl, Int32.reduceLT, Int32.reduceLE, Int32.reduceAdd, Int32.reduceSub, Nat.reduceLT, Nat.reduceAdd, Nat.reduceEqDiff, ↓reduceIte, true_and, and_true, List.length_nil, List.length_cons, Nat.reduceLeDiff, Nat.zero_le]
                refine sp_mdungBy a1 a2 hv hvf hok hk t2 d1 d3 ?_
                intro G2 x2 b1' b2' b3'
                rw [sh_or D i d1 (by omega) pn p3]
                simp only [eX7_share_126, eX7_share_127, eX7_share_128, eX7_share_129, eX7_share_131, eX7_share_134, pe_bin, pe_goto, pe_iinc_6, pe_istore_5, nisw, hget_hset, ia_l, ia_s, vin, opl, onl, Int32.reduceLT, Int32.reduceLE, Int32.reduceAdd, Int32.reduceSub, Nat.reduceLT, Nat.reduceAdd, Nat.reduceEqDiff, ↓reduceIte, true_and, and_true, List.length_nil, List.length_cons, Nat.reduceLeDiff, Nat.zero_le]
                have := ih (i + 1) G2 x2 (some (.int (px_fac (pcn i) * px_fac (pcn D - 1 - pcn i)))) (by omega) b1' b2' ((k3.tr a3).tr b3')
                rw [hS, if_pos w0, ← r3] at this
                exact this
              · rename_i v2
                exact skip (fun z => v2 (decide_eq_false_iff_not.mpr (sub.mp z).2))
            · rename_i v1
              exact skip (fun z => v1 (sub.mp z).1)
        exact key 64 0 G w _ (by omega) hw ht (fun _ _ _ => rfl)
      · rename_i u2
        rw [aSh, if_neg u0, if_neg u1, if_neg u2] at no
        exact no
end MSh
