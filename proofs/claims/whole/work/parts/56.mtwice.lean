/-! ===== the reference: twice walked ===== -/
section MT
variable {d : Nat} {G : px_H} {q : Nat → Int32} {sd : Int64} {K : Ld} {t : Nat → Int32} {c o : Nat} {Q : px_Q}
set_option maxRecDepth 100000 in
theorem sp_mtwice {h x : Int32} (hm : oM G q sd K t c o) (h0 : 0 ≤ (t 19).toInt) (h1 : (t 19).toInt ≤ 999000) (hQ : ∀ G', rM G' q sd K t → fM G G' → Q (some (.int (aTw K t h x))) G') : pcal (d + 7) 128 [.ref 124, .int h, .int x] G Q := by
  have o64 := hm.o64
  obtain ⟨⟨w, hw, ht⟩, hv, hvf, hok, ho, -, hvn⟩ := id hm
  have hm6 := hv.1.2.1
  have hn6 := hv.1.1
  obtain ⟨p1, p2⟩ := b1_2 K.m hm6
  have no := hQ G ⟨w, hw, ht⟩ (fun _ _ _ => rfl)
  refine inX7_twice ?_
  simp only [eX7_twice_0, eX7_twice_1, eX7_twice_2, eX7_twice_3, eX7_twice_6, pe_callS_3, pe_const, pe_i2l, pe_iload_1, hget_hset, ia_l, ia_s, vin, opl, onl, Int32.reduceLT, Int32.reduceLE, Int32.reduceAdd, Int32.reduceSub, Nat.reduceLT, Nat.reduceAdd, Nat.reduceEqDiff, ↓reduceIte, true_and, and_true, List.length_nil, List.length_cons, Nat.reduceLeDiff, Nat.zero_le]
  refine sp_in (a := 0) (b := 12) rfl rfl ?_
  rw [iN_hr]
  simp only [eX7_twice_9, eX7_twice_12, eX7_twice_13, eX7_twice_14, eX7_twice_15, eX7_twice_16, eX7_twice_17, eX7_twice_23, eX7_twice_25, pe_callS_3, pe_const, pe_i2l, pe_ifeq, pe_iload_1, pe_iload_2, pe_iret, zB_0, hget_hset, ia_l, ia_s, vin, opl, onl, Int32.reduceLT, Int32.reduceLE, Int32.reduceAdd, Int32.reduceSub, Nat.reduceLT, Nat.reduceAdd, Nat.reduceEqDiff, ↓reduceIte, true_and, and_true, List.length_nil, List.length_cons, Nat.reduceLeDiff, Nat.zero_le]
  split
  · rename_i u1
    rw [aTw, if_pos (Or.inl u1)] at no
    exact no
  · rename_i u1
    refine sp_in (a := 1) (b := h) rfl rfl ?_
    simp only [eX7_twice_20, eX7_twice_23, eX7_twice_25, pe_const, pe_ifeq, pe_iret, zB_0, iN_f, hget_hset, ia_l, ia_s, vin, opl, onl, Int32.reduceLT, Int32.reduceLE, Int32.reduceAdd, Int32.reduceSub, Nat.reduceLT, Nat.reduceAdd, Nat.reduceEqDiff, ↓reduceIte, true_and, and_true, List.length_nil, List.length_cons, Nat.reduceLeDiff, Nat.zero_le]
    split
    · rename_i u2
      rw [aTw, if_pos (Or.inr u2)] at no
      exact no
    · rename_i u2
      have un : ¬ (aHr h = false ∨ x < 1 ∨ h < x) := fun z => z.elim u1 u2
      obtain ⟨hh, hk, rfl⟩ := aHr_of (nt u1)
      obtain ⟨k, k1, rfl⟩ : ∃ k, k ≤ hh ∧ x = nI k := by
        have a1 : ¬ x < 1 := fun z => u2 (Or.inl z)
        have a2 : ¬ nI hh < x := fun z => u2 (Or.inr z)
        have a3 : ¬ x < 0 := by
          rw [i_lt, i_0]
          rw [i_lt, show (1 : Int32).toInt = 1 by decide] at a1
          omega
        obtain ⟨j, hj, rfl⟩ := nI_of a3
        rw [nI_ltI (by omega) hj] at a2
        exact ⟨j, by omega, rfl⟩
      have hkc : (nI k).toNatClampNeg = k := nI_clamp (by omega)
      have esb := nI_sb k1 (by omega)
      have hrc : (nI hh - nI k).toNatClampNeg = hh - k := by rw [esb]; exact nI_clamp (by omega)
      generalize hr : hh - k = r at esb hrc
      have r12 : r ≤ 12 := by omega
      have k12 : k ≤ 12 := by omega
      have eq1 : aTw K t (nI hh) (nI k) = mm (tS K t k r (2 ^ K.m)) := by rw [aTw, if_neg un, hkc, hrc]; rfl
      rw [eq1] at hQ
      have key : ∀ j i H w' o5 o6, i + j = 2 ^ K.m → mW H q sd K w' → sM K w' 0 t → fM G H → pr (d + 6) 128 (G.1 + 0, G.2.1 + 0) Q 32 [some (.ref 124), some (.int (nI hh)), some (.int (nI k)), some (.int (mm (tS K t k r i))), some (.int (nI i)), o5, o6] [] H := by
        intro j
        induction j with
        | zero =>
          intro i H w' o5 o6 hi k1 k2 k3
          obtain rfl : i = 2 ^ K.m := by omega
          obtain ⟨y0, -, y2, -⟩ := k1.1
          simp only [eX7_twice_32, eX7_twice_34, eX7_twice_35, eX7_twice_36, eX7_twice_39, eX7_twice_40, eX7_twice_150, eX7_twice_151, pe_aload_0, pe_bin, pe_const, pe_getf, pe_iclt, pe_iload_3, pe_iload_4, pe_iret, y0, m_g14, y2, b1_e, p1, niE, hget_hset, ia_l, ia_s, vin, opl, onl, Int32.reduceLT, Int32.reduceLE, Int32.reduceAdd, Int32.reduceSub, Nat.reduceLT, Nat.reduceAdd, Nat.reduceEqDiff, ↓reduceIte, true_and, and_true, List.length_nil, List.length_cons, Nat.reduceLeDiff, Nat.zero_le]
          exact hQ H ⟨w', k1, k2⟩ k3
        | succ j ih =>
          intro i H w' o5 o6 hi k1 k2 k3
          obtain ⟨y0, -, y2, -⟩ := k1.1
          have c1 : nI i < nI (2 ^ K.m) := nI_lt (by omega) (by omega)
          obtain ⟨z, hz, ez⟩ := tS_in (K := K) (k := k) hm6 ho o64 r12 k12 h0 h1 i (by omega)
          obtain ⟨x1, x2, x3⟩ := xor64 i o (by omega) o64
          have st : tS K t k r (i + 1) = bS K (sT K t k (nI i)) r (nI (pcn (i ^^^ o))) (nI i) (nI z) (2 ^ K.m) := by
            rw [tS, ez, fB_bS hm6 (by omega) ho o64 hz r12 k12 h0 h1, ho, x1]
          have okM : okT K c (sT K t k (nI i)) := okT_aH hv (okT_so hok _) 0 k
          rw [eX7_twice_32, ez]
          simp only [eX7_twice_34, eX7_twice_35, eX7_twice_36, eX7_twice_39, eX7_twice_40, eX7_twice_43, eX7_twice_44, eX7_twice_46, eX7_twice_47, pe_aload_0, pe_bin, pe_callV_2, pe_const, pe_getf, pe_iclt, pe_iload_2, pe_iload_4, y0, m_g14, m_o, y2, b1_e, p1, c1, hget_hset, ia_l, ia_s, vin, opl, onl, Int32.reduceLT, Int32.reduceLE, Int32.reduceAdd, Int32.reduceSub, Nat.reduceLT, Nat.reduceAdd, Nat.reduceEqDiff, ↓reduceIte, true_and, and_true, List.length_nil, List.length_cons, Nat.reduceLeDiff, Nat.zero_le]
          refine sp_mrun rfl k12 k1 hv hvf k2 hok ?_
          intro G1 w1 e1 e2 e3 e4 e5
          have z0 := e1.1.1
          simp only [eX7_twice_50, eX7_twice_51, eX7_twice_52, eX7_twice_53, pe_aload_0, pe_callV_2, pe_const, z0, m_o, hget_hset, ia_l, ia_s, vin, opl, onl, Int32.reduceLT, Int32.reduceLE, Int32.reduceAdd, Int32.reduceSub, Nat.reduceLT, Nat.reduceAdd, Nat.reduceEqDiff, ↓reduceIte, true_and, and_true, List.length_nil, List.length_cons, Nat.reduceLeDiff, Nat.zero_le]
          refine sp_lay (A := 1) (B := 2) rfl rfl (by omega) (by omega) (by omega) z0 e1.2.1 e3 ?_
          intro G2 w2 f1 f2 f3 f4
          have fG2 : fM G1 G2 := fun k a b => f4 k a
          have hW2 : mW G2 q sd K w2 := ⟨e1.1.fM fG2, f1, by obtain ⟨ff, hff⟩ := e1.2.2; exact ⟨ff, (f4 _ (by omega)).trans hff⟩⟩
          have inner : ∀ a b H w' o6, b + a = 2 ^ K.m → mW H q sd K w' → sM K w' 0 t → sM K w' 2 (sT K t k (nI i)) → fM G H → pr (d + 6) 128 (G.1 + 0, G.2.1 + 0) Q 59 [some (.ref 124), some (.int (nI hh)), some (.int (nI k)), some (.int (mm (bS K (sT K t k (nI i)) r (nI (pcn (i ^^^ o))) (nI i) (nI z) b))), some (.int (nI i)), some (.int (nI b)), o6] [] H := by
            intro a
            induction a with
            | zero =>
              intro b H w' o6 hb g1 g2 g3 g4
              obtain rfl : b = 2 ^ K.m := by omega
              obtain ⟨y0, -, y2, -⟩ := g1.1
              simp only [eX7_twice_59, eX7_twice_61, eX7_twice_62, eX7_twice_63, eX7_twice_66, eX7_twice_67, eX7_twice_144, eX7_twice_147, pe_aload_0, pe_bin, pe_const, pe_getf, pe_goto, pe_iclt, pe_iinc_4, pe_iload_5, y0, m_g14, y2, b1_e, p1, niE, nisw, hget_hset, ia_l, ia_s, vin, opl, onl, Int32.reduceLT, Int32.reduceLE, Int32.reduceAdd, Int32.reduceSub, Nat.reduceLT, Nat.reduceAdd, Nat.reduceEqDiff, ↓reduceIte, true_and, and_true, List.length_nil, List.length_cons, Nat.reduceLeDiff, Nat.zero_le]
              rw [← st]
              exact ih (i + 1) H w' _ _ (by omega) g1 g2 g4
            | succ a iha =>
              intro b H w' o6 hb g1 g2 g3 g4
              obtain ⟨y0, -, y2, -⟩ := g1.1
              have c1 : nI b < nI (2 ^ K.m) := nI_lt (by omega) (by omega)
              obtain ⟨y, hy, ey⟩ := bS_in (K := K) (mid := sT K t k (nI i)) (r := r) x3 (i := i) (by omega) hz b (by omega)
              obtain ⟨v1, v2, v3⟩ := xor64 i b (by omega) (by omega)
              have stb : bS K (sT K t k (nI i)) r (nI (pcn (i ^^^ o))) (nI i) (nI z) (b + 1) = if nI (pcn (i ^^^ o) + pcn (i ^^^ b)) < nI y ∧ aDo (aH K 0 r (so (sT K t k (nI i)) (nI b))) 6 = true then nI (pcn (i ^^^ o) + pcn (i ^^^ b)) else nI y := by
                rw [bS, ey, v1, nI_add]
              have cmp := mm_lt (y := y) (s := pcn (i ^^^ o) + pcn (i ^^^ b)) (by omega) (by omega)
              rw [eX7_twice_59, ey]
              simp only [eX7_twice_61, eX7_twice_62, eX7_twice_63, eX7_twice_66, eX7_twice_67, eX7_twice_70, eX7_twice_71, eX7_twice_73, pe_aload_0, pe_bin, pe_callV_1, pe_const, pe_getf, pe_iclt, pe_iload_4, pe_iload_5, y0, m_g14, m_o, y2, b1_e, p1, c1, hget_hset, ia_l, ia_s, vin, opl, onl, Int32.reduceLT, Int32.reduceLE, Int32.reduceAdd, Int32.reduceSub, Nat.reduceLT, Nat.reduceAdd, Nat.reduceEqDiff, ↓reduceIte, true_and, and_true, List.length_nil, List.length_cons, Nat.reduceLeDiff, Nat.zero_le]
              refine sp_mturned g1 g2 ?_
              rw [ho, x2]
              simp only [eX7_twice_76, eX7_twice_78, eX7_twice_80, eX7_twice_81, pe_bin, pe_callS_1, pe_iload_4, pe_iload_5, hget_hset, ia_l, ia_s, vin, opl, onl, Int32.reduceLT, Int32.reduceLE, Int32.reduceAdd, Int32.reduceSub, Nat.reduceLT, Nat.reduceAdd, Nat.reduceEqDiff, ↓reduceIte, true_and, and_true, List.length_nil, List.length_cons, Nat.reduceLeDiff, Nat.zero_le]
              refine sp_ones ?_
              rw [v2]
              have skip : ¬ nI (pcn (i ^^^ o) + pcn (i ^^^ b)) < nI y → ∀ o6, pr (d + 6) 128 (G.1 + 0, G.2.1 + 0) Q 138 [some (.ref 124), some (.int (nI hh)), some (.int (nI k)), some (.int (mm (nI y))), some (.int (nI i)), some (.int (nI b)), o6] [] H := by
                intro nn o6
                rw [if_neg (fun z => nn z.1)] at stb
                simp only [eX7_twice_138, eX7_twice_141, pe_goto, pe_iinc_5, nisw, hget_hset, ia_l, ia_s, vin, opl, onl, Int32.reduceLT, Int32.reduceLE, Int32.reduceAdd, Int32.reduceSub, Nat.reduceLT, Nat.reduceAdd, Nat.reduceEqDiff, ↓reduceIte, true_and, and_true, List.length_nil, List.length_cons, Nat.reduceLeDiff, Nat.zero_le]
                rw [← stb]
                exact iha (b + 1) H w' _ (by omega) g1 g2 g3 g4
              have tryIt : nI (pcn (i ^^^ o) + pcn (i ^^^ b)) < nI y → pr (d + 6) 128 (G.1 + 0, G.2.1 + 0) Q 99 [some (.ref 124), some (.int (nI hh)), some (.int (nI k)), some (.int (mm (nI y))), some (.int (nI i)), some (.int (nI b)), some (.int (nI (pcn (i ^^^ o) + pcn (i ^^^ b))))] [] H := by
                intro yes
                simp only [eX7_twice_99, eX7_twice_100, eX7_twice_101, eX7_twice_102, pe_aload_0, pe_callV_2, pe_const, y0, m_o, hget_hset, ia_l, ia_s, vin, opl, onl, Int32.reduceLT, Int32.reduceLE, Int32.reduceAdd, Int32.reduceSub, Nat.reduceLT, Nat.reduceAdd, Nat.reduceEqDiff, ↓reduceIte, true_and, and_true, List.length_nil, List.length_cons, Nat.reduceLeDiff, Nat.zero_le]
                refine sp_lay (A := 2) (B := 1) rfl rfl (by omega) (by omega) (by omega) y0 g1.2.1 g3 ?_
                intro G3 w3 r1 r2 r3 r4
                have q0 : hget G3 124 = some (c_m q sd) := (r4 _ (by omega)).trans y0
                have c38 : (38 : Int32).toNatClampNeg = 38 := by decide
                simp only [eX7_twice_105, eX7_twice_106, eX7_twice_109, eX7_twice_111, eX7_twice_113, eX7_twice_114, eX7_twice_115, eX7_twice_116, eX7_twice_117, eX7_twice_118, eX7_twice_119, eX7_twice_120, pe_aload_0, pe_bin, pe_callV_3, pe_const, pe_getf, pe_iast, pe_iload_1, pe_iload_2, pe_iload_5, q0, r1, m_g15, m_o, c38, esb, hget_hset, ia_l, ia_s, vin, opl, onl, Int32.reduceLT, Int32.reduceLE, Int32.reduceAdd, Int32.reduceSub, Nat.reduceLT, Nat.reduceAdd, Nat.reduceEqDiff, ↓reduceIte, true_and, and_true, List.length_nil, List.length_cons, Nat.reduceLeDiff, Nat.zero_le]
                have f3' : fM H (hset G3 135 (c_ia 160 (upd w3 38 (nI b)))) := fun k a1 a2 => by rw [hget_ne a1]; exact r4 k a1
                have fw : fL w' (upd w3 38 (nI b)) 1 := fun j hj => by
                  simp only [upd, show ¬ j = 38 by omega, ↓reduceIte]
                  exact r3 j hj
                refine sp_mpasses (L := 1) (xx := 0) (k := r) (w := upd w3 38 (nI b)) (t := so (sT K t k (nI i)) (nI b)) rfl (by omega) rfl (by omega) rfl (by omega) ⟨g1.1.fM f3', hget_self _ _ _, by obtain ⟨ff, hff⟩ := g1.2.2; exact ⟨ff, by rw [hget_ne (by omega), r4 _ (by omega)]; exact hff⟩⟩ hv hvf ?_ (okT_so okM _) ?_
                · intro j hj
                  unfold so upd
                  by_cases e : j = 18
                  · rw [if_pos (by omega), if_pos e]
                  · rw [if_neg (by omega), if_neg e]
                    exact r2 j hj
                · intro G4 w4 s1 s2 s3 s4
                  have q4 := s1.1.1
                  have okE : okT K c (aH K 0 r (so (sT K t k (nI i)) (nI b))) := okT_aH hv (okT_so okM _) 0 r
                  have fa := fw.tr s3
                  simp only [eX7_twice_123, eX7_twice_124, eX7_twice_125, pe_aload_0, pe_callV_1, pe_const, q4, m_o, hget_hset, ia_l, ia_s, vin, opl, onl, Int32.reduceLT, Int32.reduceLE, Int32.reduceAdd, Int32.reduceSub, Nat.reduceLT, Nat.reduceAdd, Nat.reduceEqDiff, ↓reduceIte, true_and, and_true, List.length_nil, List.length_cons, Nat.reduceLeDiff, Nat.zero_le]
                  refine sp_mdoes (L := 1) rfl (by omega) s1.1 s1.2.1 s2 ?_
                  rw [aDo_n hn6 okE]
                  have go : ∀ v o6, v = mm (bS K (sT K t k (nI i)) r (nI (pcn (i ^^^ o))) (nI i) (nI z) (b + 1)) → pr (d + 6) 128 (G.1 + 0, G.2.1 + 0) Q 59 [some (.ref 124), some (.int (nI hh)), some (.int (nI k)), some (.int v), some (.int (nI i)), some (.int (nI (b + 1))), o6] [] G4 := by
                    intro v o6 hv'
                    rw [hv']
                    exact iha (b + 1) G4 w4 _ (by omega) s1 (g2.fL fa (by omega)) (g3.fL fa (by omega)) (g4.tr (f3'.tr s4))
                  by_cases dd : aDo (aH K 0 r (so (sT K t k (nI i)) (nI b))) 6 = true
                  · rw [if_pos ⟨yes, dd⟩] at stb
                    simp only [eX7_twice_128, eX7_twice_131, eX7_twice_133, eX7_twice_136, eX7_twice_137, eX7_twice_138, eX7_twice_141, pe_goto, pe_ifeq, pe_iinc_5, pe_iload_3, pe_iload_6, pe_istore_3, dd, zB, ie_1_0, nisw, hget_hset, ia_l, ia_s, vin, opl, onl, Int32.reduceLT, Int32.reduceLE, Int32.reduceAdd, Int32.reduceSub, Nat.reduceLT, Nat.reduceAdd, Nat.reduceEqDiff, ↓reduceIte, true_and, and_true, List.length_nil, List.length_cons, Nat.reduceLeDiff, Nat.zero_le]
                    refine go _ _ ?_
                    rw [stb, mm, if_neg]
                    intro e13
                    have : pcn (i ^^^ o) + pcn (i ^^^ b) = 13 := (nI_eq (b := 13) (by omega) (by omega)).mp e13
                    omega
                  · have dd' : aDo (aH K 0 r (so (sT K t k (nI i)) (nI b))) 6 = false := by simpa using dd
                    rw [if_neg (fun z => dd z.2)] at stb
                    simp only [eX7_twice_128, eX7_twice_131, eX7_twice_133, eX7_twice_136, eX7_twice_137, eX7_twice_138, eX7_twice_141, pe_goto, pe_ifeq, pe_iinc_5, pe_iload_3, pe_iload_6, pe_istore_3, dd', zB, Bool.false_eq_true, nisw, hget_hset, ia_l, ia_s, vin, opl, onl, Int32.reduceLT, Int32.reduceLE, Int32.reduceAdd, Int32.reduceSub, Nat.reduceLT, Nat.reduceAdd, Nat.reduceEqDiff, ↓reduceIte, true_and, and_true, List.length_nil, List.length_cons, Nat.reduceLeDiff, Nat.zero_le]
                    exact go _ _ (by rw [stb])
              simp only [eX7_twice_84, eX7_twice_85, eX7_twice_87, eX7_twice_88, eX7_twice_90, eX7_twice_93, eX7_twice_95, eX7_twice_96, pe_bin, pe_const, pe_iceq, pe_iclt, pe_iload_3, pe_iload_6, pe_istore_6, nI_add, hget_hset, ia_l, ia_s, vin, opl, onl, Int32.reduceLT, Int32.reduceLE, Int32.reduceAdd, Int32.reduceSub, Nat.reduceLT, Nat.reduceAdd, Nat.reduceEqDiff, ↓reduceIte, true_and, and_true, List.length_nil, List.length_cons, Nat.reduceLeDiff, Nat.zero_le]
              split
              · rename_i l9
                exact tryIt (cmp.mp (Or.inl l9))
              · rename_i l9
                split
                · rename_i l8
                  exact tryIt (cmp.mp (Or.inr l8))
                · rename_i l8
                  exact skip (fun z => (cmp.mpr z).elim l9 l8) _
          simp only [eX7_twice_56, eX7_twice_57, pe_const, pe_istore_5, hget_hset, ia_l, ia_s, vin, opl, onl, Int32.reduceLT, Int32.reduceLE, Int32.reduceAdd, Int32.reduceSub, Nat.reduceLT, Nat.reduceAdd, Nat.reduceEqDiff, ↓reduceIte, true_and, and_true, List.length_nil, List.length_cons, Nat.reduceLeDiff, Nat.zero_le]
          exact inner (2 ^ K.m) 0 G2 w2 _ (by omega) hW2 (e2.fL f3 (by omega)) f2 (k3.tr (e5.tr fG2))
      simp only [eX7_twice_26, eX7_twice_28, eX7_twice_29, eX7_twice_30, pe_const, pe_istore_3, pe_istore_4, hget_hset, ia_l, ia_s, vin, opl, onl, Int32.reduceLT, Int32.reduceLE, Int32.reduceAdd, Int32.reduceSub, Nat.reduceLT, Nat.reduceAdd, Nat.reduceEqDiff, ↓reduceIte, true_and, and_true, List.length_nil, List.length_cons, Nat.reduceLeDiff, Nat.zero_le]
      exact key (2 ^ K.m) 0 G w _ _ (by omega) hw ht (fun _ _ _ => rfl)
end MT
