/-! ===== one turning: the reference ===== -/
theorem xor64 : ∀ i j, i < 64 → j < 64 → bc (nI i ^^^ nI j) = nI (pcn (i ^^^ j)) ∧ on8 (nI i ^^^ nI j) = nI (pcn (i ^^^ j)) ∧ pcn (i ^^^ j) ≤ 6 := by
  intro i j hi hj
  obtain ⟨e1, e2⟩ := nI_xor i j hi hj
  rw [e1, on8_bc _ e2]
  obtain ⟨e3, e4⟩ := bcN _ e2
  exact ⟨e3, rfl, e4⟩
/-- the best so far: none, or one with its number of turned ditches -/
theorem fSs_in {K : Ld} {t : Nat → Int32} {k o : Nat} {hd : Int32} (ho : t 18 = nI o) (ho64 : o < 64) : ∀ u, u ≤ 64 → ((fSs K t k hd u).1 = -9 ∧ (fSs K t k hd u).2 = 13) ∨ ∃ v, v < u ∧ (fSs K t k hd u).1 = nI v ∧ (fSs K t k hd u).2 = nI (pcn (v ^^^ o))
  | 0, _ => Or.inl ⟨rfl, rfl⟩
  | u + 1, h => by
    have ih := fSs_in (K := K) (k := k) (hd := hd) ho ho64 u (by omega)
    rw [fSs, fS, ho]
    split
    · exact Or.inr ⟨u, by omega, rfl, (xor64 u o (by omega) ho64).1⟩
    · rcases ih with ih | ⟨v, h1, h2⟩
      · exact Or.inl ih
      · exact Or.inr ⟨v, by omega, h2⟩
/-- the ditch that may not be turned: none, or one -/
def skO (m : Nat) (sk hd : Int32) : Prop := (sk = -9 ∧ hd = 0) ∨ ∃ i, i < m ∧ sk = nI i ∧ hd = b1 i
theorem and_b1 : ∀ i, i < 64 → ∀ p, p < 6 → (nI i &&& b1 p = 0 ↔ bt (nI i) p = 0) := by decide +kernel
theorem b1_2 : ∀ m, m ≤ 6 → b1 m = nI (2 ^ m) ∧ 2 ^ m ≤ 64 := by decide +kernel
set_option maxRecDepth 100000 in
theorem sp_monceBy {d c k o : Nat} {h sk hd : Int32} {G : px_H} {q : Nat → Int32} {sd : Int64} {K : Ld} {w t : Nat → Int32} {Q : px_Q} (hh : h = nI k) (hk : k ≤ 12) (hsk : skO K.m sk hd) (hm : mW G q sd K w) (hv : vK K) (hvf : vF K) (ht : sM K w 0 t) (hok : okT K c t) (ho : t 18 = nI o) (ho64 : o < 64)
    (hQ : ∀ G' w', mW G' q sd K w' → sM K w' 0 t → fM G G' → Q (some (.int (fSs K t k hd (2 ^ K.m)).1)) G') : pcal (d + 6) 126 [.ref 124, .int h, .int sk] G Q := by
  have hm6 := hv.1.2.1
  have hn6 := hv.1.1
  obtain ⟨p1, p2⟩ := b1_2 K.m hm6
  refine inX7_onceBy ?_
  have key : ∀ j i H w' o5 o6, i + j = 2 ^ K.m → mW H q sd K w' → sM K w' 0 t → fM G H → pr (d + 5) 126 (G.1 + 0, G.2.1 + 0) Q 6 [some (.ref 124), some (.int h), some (.int sk), some (.int (fSs K t k hd i).1), some (.int (nI i)), o5, o6] [] H := by
    intro j
    induction j with
    | zero =>
      intro i H w' o5 o6 hi k1 k2 k3
      obtain rfl : i = 2 ^ K.m := by omega
      obtain ⟨y0, -, y2, -⟩ := k1.1
      simp only [eX7_onceBy_0, eX7_onceBy_2, eX7_onceBy_3, eX7_onceBy_4, eX7_onceBy_6, eX7_onceBy_8, eX7_onceBy_9, eX7_onceBy_10, eX7_onceBy_13, eX7_onceBy_14, eX7_onceBy_17, eX7_onceBy_18, eX7_onceBy_20, eX7_onceBy_23, eX7_onceBy_25, eX7_onceBy_26, eX7_onceBy_29, eX7_onceBy_31, eX7_onceBy_32, eX7_onceBy_33, eX7_onceBy_34, eX7_onceBy_37, eX7_onceBy_40, eX7_onceBy_41, eX7_onceBy_44, eX7_onceBy_45, eX7_onceBy_47, eX7_onceBy_49, eX7_onceBy_52, eX7_onceBy_53, eX7_onceBy_55, eX7_onceBy_56, eX7_onceBy_59, eX7_onceBy_60, eX7_onceBy_61, eX7_onceBy_64, eX7_onceBy_67, eX7_onceBy_68, eX7_onceBy_70, eX7_onceBy_73, eX7_onceBy_74, eX7_onceBy_76, eX7_onceBy_79, eX7_onceBy_80, eX7_onceBy_81, eX7_onceBy_84, eX7_onceBy_87, eX7_onceBy_88, eX7_onceBy_91, eX7_onceBy_92, eX7_onceBy_94, eX7_onceBy_96, eX7_onceBy_99, eX7_onceBy_101, eX7_onceBy_104, eX7_onceBy_105, eX7_onceBy_106, eX7_onceBy_109, eX7_onceBy_112, eX7_onceBy_113, pe_aload_0, pe_bin, pe_callS_2, pe_callV_1, pe_callV_2, pe_const, pe_getf, pe_goto, pe_iald, pe_iceq, pe_iclt, pe_ifeq, pe_iinc_4, pe_iload_1, pe_iload_2, pe_iload_3, pe_iload_4, pe_iload_5, pe_iload_6, pe_iret, pe_istore_3, pe_istore_4, pe_istore_5, pe_istore_6, y0, m_g14, y2, b1_e, p1, niE, hget_hset, ia_l, ia_s, vin, opl, onl, Int32.reduceLT, Int32.reduceLE, Int32.reduceAdd, Int32.reduceSub, Nat.reduceLT, Nat.reduceAdd, Nat.reduceEqDiff, ↓reduceIte, true_and, and_true, List.length_nil, List.length_cons, Nat.reduceLeDiff, Nat.zero_le]
      exact hQ H w' k1 k2 k3
    | succ j ih =>
      intro i H w' o5 o6 hi k1 k2 k3
      obtain ⟨y0, -, y2, -⟩ := k1.1
      have y3 := k1.2.1
      have c1 : nI i < nI (2 ^ K.m) := nI_lt (by omega) (by omega)
      have c18 : (18 : Int32).toNatClampNeg = 18 := by decide
      have f18 : w' 18 = nI o := by have := k2 18 (by omega); rw [← ho]; simpa using this
      have st : fSs K t k hd (i + 1) = fS K t k hd i (fSs K t k hd i) := rfl
      obtain ⟨x1, x2, x3⟩ := xor64 i o (by omega) ho64
      have inv := fSs_in (K := K) (k := k) (hd := hd) ho ho64 i (by omega)
      have may : ∀ g : Bool, (g = true ↔ (nI i ^^^ t 18) &&& hd = 0) → pr (d + 5) 126 (G.1 + 0, G.2.1 + 0) Q 45 [some (.ref 124), some (.int h), some (.int sk), some (.int (fSs K t k hd i).1), some (.int (nI i)), o5, o6] [.int (zB g)] H := by
        intro g hg
        cases g with
        | false =>
          simp only [eX7_onceBy_45, eX7_onceBy_47, eX7_onceBy_49, eX7_onceBy_106, eX7_onceBy_109, pe_goto, pe_ifeq, pe_iinc_4, pe_iload_5, pe_istore_5, zB, Bool.false_eq_true, nisw, hget_hset, ia_l, ia_s, vin, opl, onl, Int32.reduceLT, Int32.reduceLE, Int32.reduceAdd, Int32.reduceSub, Nat.reduceLT, Nat.reduceAdd, Nat.reduceEqDiff, ↓reduceIte, true_and, and_true, List.length_nil, List.length_cons, Nat.reduceLeDiff, Nat.zero_le]
          have e : fSs K t k hd (i + 1) = fSs K t k hd i := by
            rw [st, fS, if_neg (fun z => absurd (hg.mpr z.1) (by decide))]
          rw [← e]
          exact ih (i + 1) H w' _ _ (by omega) k1 k2 k3
        | true =>
          have hg' := hg.mp rfl
          simp only [eX7_onceBy_45, eX7_onceBy_47, eX7_onceBy_49, eX7_onceBy_52, eX7_onceBy_53, eX7_onceBy_55, eX7_onceBy_56, pe_aload_0, pe_callV_2, pe_ifeq, pe_iload_1, pe_iload_4, pe_iload_5, pe_istore_5, zB, ie_1_0, y0, m_o, hget_hset, ia_l, ia_s, vin, opl, onl, Int32.reduceLT, Int32.reduceLE, Int32.reduceAdd, Int32.reduceSub, Nat.reduceLT, Nat.reduceAdd, Nat.reduceEqDiff, ↓reduceIte, true_and, and_true, List.length_nil, List.length_cons, Nat.reduceLeDiff, Nat.zero_le]
          refine sp_mrun hh hk k1 hv hvf k2 hok ?_
          intro G1 w1 e1 e2 e3 e4 e5
          have z0 := e1.1.1
          have okS : okT K c (sT K t k (nI i)) := okT_aH hv (okT_so hok _) 0 k
          simp only [eX7_onceBy_59, eX7_onceBy_60, eX7_onceBy_61, pe_aload_0, pe_callV_1, pe_const, z0, m_o, hget_hset, ia_l, ia_s, vin, opl, onl, Int32.reduceLT, Int32.reduceLE, Int32.reduceAdd, Int32.reduceSub, Nat.reduceLT, Nat.reduceAdd, Nat.reduceEqDiff, ↓reduceIte, true_and, and_true, List.length_nil, List.length_cons, Nat.reduceLeDiff, Nat.zero_le]
          refine sp_mdoes (L := 1) rfl (by omega) e1.1 e1.2.1 e3 ?_
          rw [aDo_n hn6 okS]
          have fin : ∀ b : Bool, (b = true ↔ (bc (nI i ^^^ t 18) < (fSs K t k hd i).2 ∧ aDo (sT K t k (nI i)) 6 = true)) → ∀ G2 w2, mW G2 q sd K w2 → sM K w2 0 t → fM G G2 → pr (d + 5) 126 (G.1 + 0, G.2.1 + 0) Q 92 [some (.ref 124), some (.int h), some (.int sk), some (.int (fSs K t k hd i).1), some (.int (nI i)), some (.int 1), o6] [.int (zB b)] G2 := by
            intro b hb G2 w2 r1 r2 r3
            cases b with
            | false =>
              simp only [eX7_onceBy_92, eX7_onceBy_94, eX7_onceBy_96, eX7_onceBy_99, eX7_onceBy_101, eX7_onceBy_104, eX7_onceBy_105, eX7_onceBy_106, eX7_onceBy_109, pe_goto, pe_ifeq, pe_iinc_4, pe_iload_3, pe_iload_4, pe_iload_6, pe_istore_3, pe_istore_6, zB, Bool.false_eq_true, nisw, hget_hset, ia_l, ia_s, vin, opl, onl, Int32.reduceLT, Int32.reduceLE, Int32.reduceAdd, Int32.reduceSub, Nat.reduceLT, Nat.reduceAdd, Nat.reduceEqDiff, ↓reduceIte, true_and, and_true, List.length_nil, List.length_cons, Nat.reduceLeDiff, Nat.zero_le]
              have e : fSs K t k hd (i + 1) = fSs K t k hd i := by
                rw [st, fS, if_neg (fun z => absurd (hb.mpr z.2) (by decide))]
              rw [← e]
              exact ih (i + 1) G2 w2 _ _ (by omega) r1 r2 r3
            | true =>
              simp only [eX7_onceBy_92, eX7_onceBy_94, eX7_onceBy_96, eX7_onceBy_99, eX7_onceBy_101, eX7_onceBy_104, eX7_onceBy_105, eX7_onceBy_106, eX7_onceBy_109, pe_goto, pe_ifeq, pe_iinc_4, pe_iload_3, pe_iload_4, pe_iload_6, pe_istore_3, pe_istore_6, zB, ie_1_0, nisw, hget_hset, ia_l, ia_s, vin, opl, onl, Int32.reduceLT, Int32.reduceLE, Int32.reduceAdd, Int32.reduceSub, Nat.reduceLT, Nat.reduceAdd, Nat.reduceEqDiff, ↓reduceIte, true_and, and_true, List.length_nil, List.length_cons, Nat.reduceLeDiff, Nat.zero_le]
              have e : (fSs K t k hd (i + 1)).1 = nI i := by
                rw [st, fS, if_pos ⟨hg', hb.mp rfl⟩]
              rw [← e]
              exact ih (i + 1) G2 w2 _ _ (by omega) r1 r2 r3
          by_cases dd : aDo (sT K t k (nI i)) 6 = true
          · simp only [eX7_onceBy_64, eX7_onceBy_67, eX7_onceBy_68, eX7_onceBy_70, pe_const, pe_iceq, pe_ifeq, pe_iload_3, dd, zB, ie_1_0, hget_hset, ia_l, ia_s, vin, opl, onl, Int32.reduceLT, Int32.reduceLE, Int32.reduceAdd, Int32.reduceSub, Nat.reduceLT, Nat.reduceAdd, Nat.reduceEqDiff, ↓reduceIte, true_and, and_true, List.length_nil, List.length_cons, Nat.reduceLeDiff, Nat.zero_le]
            rcases inv with ⟨v1, v2⟩ | ⟨v, v0, v1, v2⟩
            · rw [v1]
              simp only [eX7_onceBy_87, eX7_onceBy_88, pe_const, pe_goto, hget_hset, ia_l, ia_s, vin, opl, onl, Int32.reduceLT, Int32.reduceLE, Int32.reduceAdd, Int32.reduceSub, Nat.reduceLT, Nat.reduceAdd, Nat.reduceEqDiff, ↓reduceIte, true_and, and_true, List.length_nil, List.length_cons, Nat.reduceLeDiff, Nat.zero_le]
              rw [← v1]
              refine fin true ⟨fun _ => ⟨?_, dd⟩, fun _ => rfl⟩ G1 w1 e1 e2 (k3.tr e5)
              rw [v2, ho, x1]
              exact nI_lt (b := 13) (by omega) (by omega)
            · have n9 : ¬ nI v = -9 := m9_nI (by omega)
              obtain ⟨w1', w2', w3'⟩ := xor64 v o (by omega) ho64
              simp only [eX7_onceBy_73, eX7_onceBy_74, eX7_onceBy_76, pe_aload_0, pe_callV_1, pe_iload_4, v1, n9, z0, m_o, hget_hset, ia_l, ia_s, vin, opl, onl, Int32.reduceLT, Int32.reduceLE, Int32.reduceAdd, Int32.reduceSub, Nat.reduceLT, Nat.reduceAdd, Nat.reduceEqDiff, ↓reduceIte, true_and, and_true, List.length_nil, List.length_cons, Nat.reduceLeDiff, Nat.zero_le]
              refine sp_mturned e1 e2 ?_
              simp only [eX7_onceBy_79, eX7_onceBy_80, eX7_onceBy_81, pe_aload_0, pe_callV_1, pe_iload_3, z0, m_o, hget_hset, ia_l, ia_s, vin, opl, onl, Int32.reduceLT, Int32.reduceLE, Int32.reduceAdd, Int32.reduceSub, Nat.reduceLT, Nat.reduceAdd, Nat.reduceEqDiff, ↓reduceIte, true_and, and_true, List.length_nil, List.length_cons, Nat.reduceLeDiff, Nat.zero_le]
              refine sp_mturned e1 e2 ?_
              simp only [eX7_onceBy_84, eX7_onceBy_87, eX7_onceBy_88, eX7_onceBy_91, pe_const, pe_goto, pe_iclt, ho, x2, w2', hget_hset, ia_l, ia_s, vin, opl, onl, Int32.reduceLT, Int32.reduceLE, Int32.reduceAdd, Int32.reduceSub, Nat.reduceLT, Nat.reduceAdd, Nat.reduceEqDiff, ↓reduceIte, true_and, and_true, List.length_nil, List.length_cons, Nat.reduceLeDiff, Nat.zero_le]
              rw [← v1]
              split
              · rename_i z
                exact fin true ⟨fun _ => ⟨by rw [v2, ho, x1]; exact z, dd⟩, fun _ => rfl⟩ G1 w1 e1 e2 (k3.tr e5)
              · rename_i z
                exact fin false ⟨fun y => absurd y (by decide), fun y => absurd (by have := y.1; rw [v2, ho, x1] at this; exact this) z⟩ G1 w1 e1 e2 (k3.tr e5)
          · have dd' : aDo (sT K t k (nI i)) 6 = false := by simpa using dd
            simp only [eX7_onceBy_64, eX7_onceBy_91, pe_const, pe_ifeq, dd', zB, Bool.false_eq_true, hget_hset, ia_l, ia_s, vin, opl, onl, Int32.reduceLT, Int32.reduceLE, Int32.reduceAdd, Int32.reduceSub, Nat.reduceLT, Nat.reduceAdd, Nat.reduceEqDiff, ↓reduceIte, true_and, and_true, List.length_nil, List.length_cons, Nat.reduceLeDiff, Nat.zero_le]
            exact fin false ⟨fun y => absurd y (by decide), fun y => absurd y.2 dd⟩ G1 w1 e1 e2 (k3.tr e5)
      rw [eX7_onceBy_6]
      rcases hsk with ⟨s1, s2⟩ | ⟨p, s0, s1, s2⟩
      · simp only [eX7_onceBy_8, eX7_onceBy_9, eX7_onceBy_10, eX7_onceBy_13, eX7_onceBy_14, eX7_onceBy_17, eX7_onceBy_18, eX7_onceBy_20, eX7_onceBy_40, eX7_onceBy_41, pe_aload_0, pe_bin, pe_const, pe_getf, pe_goto, pe_iceq, pe_iclt, pe_iload_2, pe_iload_4, y0, m_g14, y2, b1_e, p1, c1, s1, hget_hset, ia_l, ia_s, vin, opl, onl, Int32.reduceLT, Int32.reduceLE, Int32.reduceAdd, Int32.reduceSub, Nat.reduceLT, Nat.reduceAdd, Nat.reduceEqDiff, ↓reduceIte, true_and, and_true, List.length_nil, List.length_cons, Nat.reduceLeDiff, Nat.zero_le]
        rw [← s1]
        exact may true ⟨fun _ => by rw [s2, Int32.and_zero], fun _ => rfl⟩
      · have n9 : ¬ nI p = -9 := m9_nI (by omega)
        simp only [eX7_onceBy_8, eX7_onceBy_9, eX7_onceBy_10, eX7_onceBy_13, eX7_onceBy_14, eX7_onceBy_17, eX7_onceBy_18, eX7_onceBy_20, eX7_onceBy_23, eX7_onceBy_25, eX7_onceBy_26, eX7_onceBy_29, eX7_onceBy_31, eX7_onceBy_32, eX7_onceBy_33, eX7_onceBy_34, pe_aload_0, pe_bin, pe_callS_2, pe_const, pe_getf, pe_iald, pe_iceq, pe_iclt, pe_iload_2, pe_iload_4, y0, y3, m_g14, m_g15, y2, b1_e, p1, c1, s1, n9, c18, f18, hget_hset, ia_l, ia_s, vin, opl, onl, Int32.reduceLT, Int32.reduceLE, Int32.reduceAdd, Int32.reduceSub, Nat.reduceLT, Nat.reduceAdd, Nat.reduceEqDiff, ↓reduceIte, true_and, and_true, List.length_nil, List.length_cons, Nat.reduceLeDiff, Nat.zero_le]
        refine sp_has ?_
        obtain ⟨xe, xl⟩ := nI_xor i o (by omega) ho64
        rw [xe, bt_e]
        have ab := and_b1 _ xl p (by omega)
        rcases bt_01 _ xl p (by omega) with b0 | b0
        · simp only [eX7_onceBy_37, eX7_onceBy_40, eX7_onceBy_41, eX7_onceBy_44, pe_const, pe_goto, pe_ifeq, b0, ie_0_1, decide_false, zB, Bool.false_eq_true, hget_hset, ia_l, ia_s, vin, opl, onl, Int32.reduceLT, Int32.reduceLE, Int32.reduceAdd, Int32.reduceSub, Nat.reduceLT, Nat.reduceAdd, Nat.reduceEqDiff, ↓reduceIte, true_and, and_true, List.length_nil, List.length_cons, Nat.reduceLeDiff, Nat.zero_le]
          rw [← s1]
          exact may true ⟨fun _ => by rw [ho, xe, s2]; exact ab.mpr b0, fun _ => rfl⟩
        · simp only [eX7_onceBy_37, eX7_onceBy_40, eX7_onceBy_41, eX7_onceBy_44, pe_const, pe_goto, pe_ifeq, b0, decide_true, zB, ie_1_0, hget_hset, ia_l, ia_s, vin, opl, onl, Int32.reduceLT, Int32.reduceLE, Int32.reduceAdd, Int32.reduceSub, Nat.reduceLT, Nat.reduceAdd, Nat.reduceEqDiff, ↓reduceIte, true_and, and_true, List.length_nil, List.length_cons, Nat.reduceLeDiff, Nat.zero_le]
          rw [← s1]
          refine may false ⟨fun y => absurd y (by decide), fun y => ?_⟩
          rw [ho, xe, s2] at y
          have := ab.mp y
          rw [b0] at this
          exact absurd this (by decide)
  simp only [eX7_onceBy_0, eX7_onceBy_2, eX7_onceBy_3, eX7_onceBy_4, pe_const, pe_istore_3, pe_istore_4, hget_hset, ia_l, ia_s, vin, opl, onl, Int32.reduceLT, Int32.reduceLE, Int32.reduceAdd, Int32.reduceSub, Nat.reduceLT, Nat.reduceAdd, Nat.reduceEqDiff, ↓reduceIte, true_and, and_true, List.length_nil, List.length_cons, Nat.reduceLeDiff, Nat.zero_le]
  exact key (2 ^ K.m) 0 G w _ _ (by omega) hm ht (fun _ _ _ => rfl)
