/-! ===== the reference: fit ===== -/
/-- all that were in one that fits -/
def mO (K : Ld) (t : Nat → Int32) (n L : Nat) (pp tm mn : Nat → Int32) : Nat → Int32
  | 0 => 0
  | u + 1 => if iA K t n pp tm mn (nI u) (L + 1) = true then mO K t n L pp tm mn u ||| nI u else mO K t n L pp tm mn u
theorem fitS_no {K : Ld} (hm6 : K.m ≤ 6) {t : Nat → Int32} {n L : Nat} {pp tm mn : Nat → Int32} : ∀ u, (fitS K t n L pp tm mn u).2.2 = nI (2 ^ K.m - 1) &&& (mO K t n L pp tm mn u ^^^ -1)
  | 0 => by
    have : ∀ m, m ≤ 6 → nI (2 ^ m - 1) = nI (2 ^ m - 1) &&& ((0 : Int32) ^^^ -1) := by decide +kernel
    exact this K.m hm6
  | u + 1 => by
    have ih := fitS_no hm6 (t := t) (n := n) (L := L) (pp := pp) (tm := tm) (mn := mn) u
    rw [fitS, mO]
    split
    · dsimp only
      rw [ih, not_or32]
    · exact ih
section MG
variable {d : Nat} {G : px_H} {q : Nat → Int32} {sd : Int64} {K : Ld} {t : Nat → Int32} {c o n L : Nat} {Q : px_Q} {pp tm mn : Nat → Int32}
set_option maxRecDepth 100000 in
theorem sp_mfit {x : Int32} (hm : oM G q sd K t c o) (hV : mV G q n pp tm mn) (hL : L ≤ 12) (hT : ∀ i, i < n → ∃ r, r ≤ L ∧ tm i = nI r) (hQ : ∀ G', rM G' q sd K t → fM G G' → Q (some (.int (aFit K t n L pp tm mn x))) G') : pcal (d + 7) 144 [.ref 124, .int x] G Q := by
  obtain ⟨⟨w, hw, ht⟩, hv, hvf, hok, ho, -, hvn⟩ := id hm
  have hm6 := hv.1.2.1
  have hn6 := hv.1.1
  obtain ⟨p1, p2⟩ := b1_2 K.m hm6
  obtain ⟨m0, -, m2, -⟩ := id hw.1
  refine inX7_fit ?_
  simp only [eX7_fit_0, eX7_fit_1, eX7_fit_2, eX7_fit_3, eX7_fit_6, pe_callS_3, pe_const, pe_i2l, pe_iload_1, hget_hset, ia_l, ia_s, vin, opl, onl, Int32.reduceLT, Int32.reduceLE, Int32.reduceAdd, Int32.reduceSub, Nat.reduceLT, Nat.reduceAdd, Nat.reduceEqDiff, ↓reduceIte, true_and, and_true, List.length_nil, List.length_cons, Nat.reduceLeDiff, Nat.zero_le]
  refine sp_in (a := 0) (b := 2) rfl rfl ?_
  simp only [eX7_fit_9, eX7_fit_12, eX7_fit_14, pe_const, pe_ifeq, pe_iret, zB_0, iN_f, hget_hset, ia_l, ia_s, vin, opl, onl, Int32.reduceLT, Int32.reduceLE, Int32.reduceAdd, Int32.reduceSub, Nat.reduceLT, Nat.reduceAdd, Nat.reduceEqDiff, ↓reduceIte, true_and, and_true, List.length_nil, List.length_cons, Nat.reduceLeDiff, Nat.zero_le]
  split
  · rename_i u0
    have no := hQ G ⟨w, hw, ht⟩ (fun _ _ _ => rfl)
    rw [aFit, if_pos u0] at no
    exact no
  · rename_i u0
    rw [aFit, if_neg u0] at hQ
    have key : ∀ j i H w', i + j = 2 ^ K.m → mW H q sd K w' → sM K w' 0 t → fM G H → pr (d + 6) 144 (G.1 + 0, G.2.1 + 0) Q 32 [some (.ref 124), some (.int x), some (.int (fitS K t n L pp tm mn i).1), some (.int (fitS K t n L pp tm mn i).2.1), some (.int (mO K t n L pp tm mn i)), some (.int (nI i))] [] H := by
      intro j
      induction j with
      | zero =>
        intro i H w' hi k1 k2 k3
        obtain rfl : i = 2 ^ K.m := by omega
        obtain ⟨y0, -, y2, -⟩ := k1.1
        have fin := hQ H ⟨w', k1, k2⟩ k3
        rw [fitS_no hm6] at fin
        simp only [eX7_fit_32, eX7_fit_34, eX7_fit_35, eX7_fit_36, eX7_fit_39, eX7_fit_40, eX7_fit_73, eX7_fit_74, pe_aload_0, pe_bin, pe_const, pe_getf, pe_iclt, pe_ifeq, pe_iload_1, pe_iload_5, y0, m_g14, y2, b1_e, p1, niE, hget_hset, ia_l, ia_s, vin, opl, onl, Int32.reduceLT, Int32.reduceLE, Int32.reduceAdd, Int32.reduceSub, Nat.reduceLT, Nat.reduceAdd, Nat.reduceEqDiff, ↓reduceIte, true_and, and_true, List.length_nil, List.length_cons, Nat.reduceLeDiff, Nat.zero_le]
        split
        · rename_i v0
          rw [if_pos v0] at fin
          simp only [eX7_fit_77, eX7_fit_78, eX7_fit_112, pe_goto, pe_iload_2, pe_iret, hget_hset, ia_l, ia_s, vin, opl, onl, Int32.reduceLT, Int32.reduceLE, Int32.reduceAdd, Int32.reduceSub, Nat.reduceLT, Nat.reduceAdd, Nat.reduceEqDiff, ↓reduceIte, true_and, and_true, List.length_nil, List.length_cons, Nat.reduceLeDiff, Nat.zero_le]
          exact fin
        · rename_i v0
          rw [if_neg v0] at fin
          simp only [eX7_fit_81, eX7_fit_82, pe_ifeq, pe_iload_2, hget_hset, ia_l, ia_s, vin, opl, onl, Int32.reduceLT, Int32.reduceLE, Int32.reduceAdd, Int32.reduceSub, Nat.reduceLT, Nat.reduceAdd, Nat.reduceEqDiff, ↓reduceIte, true_and, and_true, List.length_nil, List.length_cons, Nat.reduceLeDiff, Nat.zero_le]
          split
          · rename_i v1
            rw [if_pos v1] at fin
            simp only [eX7_fit_85, eX7_fit_87, eX7_fit_112, pe_const, pe_goto, pe_iret, hget_hset, ia_l, ia_s, vin, opl, onl, Int32.reduceLT, Int32.reduceLE, Int32.reduceAdd, Int32.reduceSub, Nat.reduceLT, Nat.reduceAdd, Nat.reduceEqDiff, ↓reduceIte, true_and, and_true, List.length_nil, List.length_cons, Nat.reduceLeDiff, Nat.zero_le]
            exact fin
          · rename_i v1
            rw [if_neg v1] at fin
            simp only [eX7_fit_90, eX7_fit_91, eX7_fit_92, pe_const, pe_iceq, pe_iload_1, hget_hset, ia_l, ia_s, vin, opl, onl, Int32.reduceLT, Int32.reduceLE, Int32.reduceAdd, Int32.reduceSub, Nat.reduceLT, Nat.reduceAdd, Nat.reduceEqDiff, ↓reduceIte, true_and, and_true, List.length_nil, List.length_cons, Nat.reduceLeDiff, Nat.zero_le]
            split
            · rename_i v2
              rw [if_pos v2] at fin
              simp only [eX7_fit_95, eX7_fit_96, eX7_fit_112, pe_goto, pe_iload_3, pe_iret, hget_hset, ia_l, ia_s, vin, opl, onl, Int32.reduceLT, Int32.reduceLE, Int32.reduceAdd, Int32.reduceSub, Nat.reduceLT, Nat.reduceAdd, Nat.reduceEqDiff, ↓reduceIte, true_and, and_true, List.length_nil, List.length_cons, Nat.reduceLeDiff, Nat.zero_le]
              exact fin
            · rename_i v2
              rw [if_neg v2] at fin
              simp only [eX7_fit_99, eX7_fit_100, eX7_fit_101, eX7_fit_104, eX7_fit_105, eX7_fit_106, eX7_fit_107, eX7_fit_109, eX7_fit_110, eX7_fit_111, eX7_fit_112, pe_aload_0, pe_bin, pe_const, pe_getf, pe_iload_4, pe_iret, y0, m_g14, y2, b1_e, allD hm6, hget_hset, ia_l, ia_s, vin, opl, onl, Int32.reduceLT, Int32.reduceLE, Int32.reduceAdd, Int32.reduceSub, Nat.reduceLT, Nat.reduceAdd, Nat.reduceEqDiff, ↓reduceIte, true_and, and_true, List.length_nil, List.length_cons, Nat.reduceLeDiff, Nat.zero_le]
              exact fin
      | succ j ih =>
        intro i H w' hi k1 k2 k3
        obtain ⟨y0, -, y2, -⟩ := k1.1
        have c1 : nI i < nI (2 ^ K.m) := nI_lt (by omega) (by omega)
        have st1 : fitS K t n L pp tm mn (i + 1) = if iA K t n pp tm mn (nI i) (L + 1) = true then ((fitS K t n L pp tm mn i).1 + 1, (fitS K t n L pp tm mn i).2.1 &&& nI i, (fitS K t n L pp tm mn i).2.2 &&& (nI i ^^^ -1)) else fitS K t n L pp tm mn i := rfl
        have st2 : mO K t n L pp tm mn (i + 1) = if iA K t n pp tm mn (nI i) (L + 1) = true then mO K t n L pp tm mn i ||| nI i else mO K t n L pp tm mn i := rfl
        have hV' : mV H q n pp tm mn := ⟨hV.1, hV.2.1, (k3 _ (by omega) (by omega)).trans hV.2.2.1, (k3 _ (by omega) (by omega)).trans hV.2.2.2.1, (k3 _ (by omega) (by omega)).trans hV.2.2.2.2⟩
        rw [eX7_fit_32]
        simp only [eX7_fit_34, eX7_fit_35, eX7_fit_36, eX7_fit_39, eX7_fit_40, eX7_fit_43, eX7_fit_44, eX7_fit_46, pe_aload_0, pe_bin, pe_callV_1, pe_const, pe_getf, pe_iclt, pe_iload_5, y0, m_g14, m_o, y2, b1_e, p1, c1, hget_hset, ia_l, ia_s, vin, opl, onl, Int32.reduceLT, Int32.reduceLE, Int32.reduceAdd, Int32.reduceSub, Nat.reduceLT, Nat.reduceAdd, Nat.reduceEqDiff, ↓reduceIte, true_and, and_true, List.length_nil, List.length_cons, Nat.reduceLeDiff, Nat.zero_le]
        refine sp_misSeen k1 k2 hv hvf hok hV' (fun i hi => by obtain ⟨r, r1, r2⟩ := hT i hi; exact ⟨r, by omega, r2⟩) ?_
        intro G1 w1 e1 e2 e3
        rw [mI_iA hL hT]
        have go := ih (i + 1) G1 w1 (by omega) e1 e2 (k3.tr e3)
        simp only [eX7_fit_49, pe_ifeq, zB_0, hget_hset, ia_l, ia_s, vin, opl, onl, Int32.reduceLT, Int32.reduceLE, Int32.reduceAdd, Int32.reduceSub, Nat.reduceLT, Nat.reduceAdd, Nat.reduceEqDiff, ↓reduceIte, true_and, and_true, List.length_nil, List.length_cons, Nat.reduceLeDiff, Nat.zero_le]
        split
        · rename_i v0
          have v1 : ¬ iA K t n pp tm mn (nI i) (L + 1) = true := by rw [v0]; decide
          rw [if_neg v1] at st1 st2
          rw [st1, st2] at go
          simp only [eX7_fit_67, eX7_fit_70, pe_goto, pe_iinc_5, nisw, hget_hset, ia_l, ia_s, vin, opl, onl, Int32.reduceLT, Int32.reduceLE, Int32.reduceAdd, Int32.reduceSub, Nat.reduceLT, Nat.reduceAdd, Nat.reduceEqDiff, ↓reduceIte, true_and, and_true, List.length_nil, List.length_cons, Nat.reduceLeDiff, Nat.zero_le]
          exact go
        · rename_i v0
          rw [if_pos (nt v0)] at st1 st2
          rw [st1, st2] at go
          simp only [eX7_fit_52, eX7_fit_55, eX7_fit_56, eX7_fit_58, eX7_fit_59, eX7_fit_60, eX7_fit_62, eX7_fit_64, eX7_fit_65, eX7_fit_67, eX7_fit_70, pe_bin, pe_goto, pe_iinc_2, pe_iinc_5, pe_iload_3, pe_iload_4, pe_iload_5, pe_istore_3, pe_istore_4, nisw, hget_hset, ia_l, ia_s, vin, opl, onl, Int32.reduceLT, Int32.reduceLE, Int32.reduceAdd, Int32.reduceSub, Nat.reduceLT, Nat.reduceAdd, Nat.reduceEqDiff, ↓reduceIte, true_and, and_true, List.length_nil, List.length_cons, Nat.reduceLeDiff, Nat.zero_le]
          exact go
    simp only [eX7_fit_15, eX7_fit_16, eX7_fit_17, eX7_fit_18, eX7_fit_19, eX7_fit_22, eX7_fit_23, eX7_fit_24, eX7_fit_25, eX7_fit_26, eX7_fit_27, eX7_fit_29, eX7_fit_30, pe_aload_0, pe_bin, pe_const, pe_getf, pe_istore_2, pe_istore_3, pe_istore_4, pe_istore_5, m0, m_g14, m2, b1_e, allD hm6, hget_hset, ia_l, ia_s, vin, opl, onl, Int32.reduceLT, Int32.reduceLE, Int32.reduceAdd, Int32.reduceSub, Nat.reduceLT, Nat.reduceAdd, Nat.reduceEqDiff, ↓reduceIte, true_and, and_true, List.length_nil, List.length_cons, Nat.reduceLeDiff, Nat.zero_le]
    exact key (2 ^ K.m) 0 G w (by omega) hw ht (fun _ _ _ => rfl)
end MG
