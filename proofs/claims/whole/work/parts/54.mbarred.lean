/-! ===== the reference: barred walked; twice ===== -/
section MB
variable {d : Nat} {G : px_H} {q : Nat → Int32} {sd : Int64} {K : Ld} {t : Nat → Int32} {c o : Nat} {Q : px_Q}
set_option maxRecDepth 100000 in
theorem sp_mbarred {h : Int32} (hm : oM G q sd K t c o) (hQ : ∀ G', rM G' q sd K t → fM G G' → Q (some (.int (aBar K t h))) G') : pcal (d + 7) 130 [.ref 124, .int h] G Q := by
  obtain ⟨⟨w, hw, ht⟩, hv, hvf, hok, ho, -, hvn⟩ := id hm
  have hm6 := hv.1.2.1
  have hn6 := hv.1.1
  obtain ⟨p1, p2⟩ := b1_2 K.m hm6
  refine inX7_barred ?_
  simp only [eX7_barred_0, eX7_barred_1, eX7_barred_2, eX7_barred_3, eX7_barred_6, pe_callS_3, pe_const, pe_i2l, pe_iload_1, hget_hset, ia_l, ia_s, vin, opl, onl, Int32.reduceLT, Int32.reduceLE, Int32.reduceAdd, Int32.reduceSub, Nat.reduceLT, Nat.reduceAdd, Nat.reduceEqDiff, ↓reduceIte, true_and, and_true, List.length_nil, List.length_cons, Nat.reduceLeDiff, Nat.zero_le]
  refine sp_in (a := 0) (b := 12) rfl rfl ?_
  rw [iN_hr]
  simp only [eX7_barred_9, eX7_barred_12, eX7_barred_14, pe_const, pe_ifeq, pe_iret, zB_0, hget_hset, ia_l, ia_s, vin, opl, onl, Int32.reduceLT, Int32.reduceLE, Int32.reduceAdd, Int32.reduceSub, Nat.reduceLT, Nat.reduceAdd, Nat.reduceEqDiff, ↓reduceIte, true_and, and_true, List.length_nil, List.length_cons, Nat.reduceLeDiff, Nat.zero_le]
  split
  · rename_i u1
    have := hQ G ⟨w, hw, ht⟩ (fun _ _ _ => rfl)
    rw [aBar, if_pos u1] at this
    exact this
  · rename_i u1
    obtain ⟨k, hk, rfl⟩ := aHr_of (nt u1)
    have hkc : (nI k).toNatClampNeg = k := nI_clamp (by omega)
    have okS : ∀ u, okT K c (sT K t k (nI u)) := fun u => okT_aH hv (okT_so hok _) 0 k
    rw [aBar, if_neg u1, hkc, ← bar_eq hn6 okS] at hQ
    -- the last round: the first place that is never clean
    have last : ∀ j i H w' o4, i + j = K.n → mW H q sd K w' → sM K w' 0 t → fM G H → lC K (mC K t k (2 ^ K.m)) i j = lC K (mC K t k (2 ^ K.m)) 0 K.n → pr (d + 6) 130 (G.1 + 0, G.2.1 + 0) Q 85 [some (.ref 124), some (.int (nI k)), some (.int (mC K t k (2 ^ K.m))), some (.int (nI i)), o4] [] H := by
      intro j
      induction j with
      | zero =>
        intro i H w' o4 hi k1 k2 k3 k4
        obtain rfl : i = K.n := by omega
        obtain ⟨y0, y1, -⟩ := k1.1
        simp only [eX7_barred_85, eX7_barred_86, eX7_barred_87, eX7_barred_90, eX7_barred_119, eX7_barred_121, pe_aload_0, pe_const, pe_getf, pe_iclt, pe_iload_3, pe_iret, y0, m_g13, y1, niE, hget_hset, ia_l, ia_s, vin, opl, onl, Int32.reduceLT, Int32.reduceLE, Int32.reduceAdd, Int32.reduceSub, Nat.reduceLT, Nat.reduceAdd, Nat.reduceEqDiff, ↓reduceIte, true_and, and_true, List.length_nil, List.length_cons, Nat.reduceLeDiff, Nat.zero_le]
        have := hQ H ⟨w', k1, k2⟩ k3
        rw [← k4] at this
        exact this
      | succ j ih =>
        intro i H w' o4 hi k1 k2 k3 k4
        obtain ⟨y0, y1, -, -, -, kd, ms, fm, tt, z1, -, -, -, z5, -⟩ := id k1.1
        obtain ⟨c1, c2, c3, c4⟩ := niL (i := i) (n := K.n) (by omega) hn6
        have f3 := (z5 i (by omega)).1
        rw [lC] at k4
        rw [eX7_barred_85]
        simp only [eX7_barred_86, eX7_barred_87, eX7_barred_90, eX7_barred_93, eX7_barred_94, eX7_barred_97, eX7_barred_98, eX7_barred_99, eX7_barred_100, eX7_barred_103, eX7_barred_104, eX7_barred_105, pe_aload_0, pe_callS_2, pe_const, pe_getf, pe_iald, pe_iceq, pe_iclt, pe_iload_2, pe_iload_3, y0, y1, z1, m_g9, m_g13, c1, c2, c3, c4, f3, hget_hset, ia_l, ia_s, vin, opl, onl, Int32.reduceLT, Int32.reduceLE, Int32.reduceAdd, Int32.reduceSub, Nat.reduceLT, Nat.reduceAdd, Nat.reduceEqDiff, ↓reduceIte, true_and, and_true, List.length_nil, List.length_cons, Nat.reduceLeDiff, Nat.zero_le]
        split
        · rename_i v0
          refine sp_has ?_
          simp only [eX7_barred_108, eX7_barred_111, eX7_barred_112, eX7_barred_113, eX7_barred_116, pe_goto, pe_ifeq, pe_iinc_3, pe_iload_3, pe_iret, bt_e, nisw, hget_hset, ia_l, ia_s, vin, opl, onl, Int32.reduceLT, Int32.reduceLE, Int32.reduceAdd, Int32.reduceSub, Nat.reduceLT, Nat.reduceAdd, Nat.reduceEqDiff, ↓reduceIte, true_and, and_true, List.length_nil, List.length_cons, Nat.reduceLeDiff, Nat.zero_le]
          by_cases v1 : bt (mC K t k (2 ^ K.m)) i = 1
          · rw [if_neg (fun z => z.2 v1)] at k4
            simp only [v1, decide_true, zB, ie_1_0, ↓reduceIte]
            exact ih (i + 1) H w' _ (by omega) k1 k2 k3 k4
          · rw [if_pos ⟨v0, v1⟩] at k4
            simp only [v1, decide_false, zB, Bool.false_eq_true, ↓reduceIte]
            have := hQ H ⟨w', k1, k2⟩ k3
            rw [← k4] at this
            exact this
        · rename_i v0
          rw [if_neg (fun z => v0 z.1)] at k4
          simp only [eX7_barred_113, eX7_barred_116, pe_goto, pe_iinc_3, nisw, hget_hset, ia_l, ia_s, vin, opl, onl, Int32.reduceLT, Int32.reduceLE, Int32.reduceAdd, Int32.reduceSub, Nat.reduceLT, Nat.reduceAdd, Nat.reduceEqDiff, ↓reduceIte, true_and, and_true, List.length_nil, List.length_cons, Nat.reduceLeDiff, Nat.zero_le]
          exact ih (i + 1) H w' _ (by omega) k1 k2 k3 k4
    have key : ∀ j i H w' o4, i + j = 2 ^ K.m → mW H q sd K w' → sM K w' 0 t → fM G H → pr (d + 6) 130 (G.1 + 0, G.2.1 + 0) Q 19 [some (.ref 124), some (.int (nI k)), some (.int (mC K t k i)), some (.int (nI i)), o4] [] H := by
      intro j
      induction j with
      | zero =>
        intro i H w' o4 hi k1 k2 k3
        obtain rfl : i = 2 ^ K.m := by omega
        obtain ⟨y0, -, y2, -⟩ := k1.1
        simp only [eX7_barred_19, eX7_barred_20, eX7_barred_21, eX7_barred_22, eX7_barred_25, eX7_barred_26, eX7_barred_83, eX7_barred_84, pe_aload_0, pe_bin, pe_const, pe_getf, pe_iclt, pe_iload_3, pe_istore_3, y0, m_g14, y2, b1_e, p1, niE, hget_hset, ia_l, ia_s, vin, opl, onl, Int32.reduceLT, Int32.reduceLE, Int32.reduceAdd, Int32.reduceSub, Nat.reduceLT, Nat.reduceAdd, Nat.reduceEqDiff, ↓reduceIte, true_and, and_true, List.length_nil, List.length_cons, Nat.reduceLeDiff, Nat.zero_le]
        exact last K.n 0 H w' _ (by omega) k1 k2 k3 rfl
      | succ j ih =>
        intro i H w' o4 hi k1 k2 k3
        obtain ⟨y0, -, y2, -⟩ := k1.1
        have c1 : nI i < nI (2 ^ K.m) := nI_lt (by omega) (by omega)
        rw [eX7_barred_19]
        simp only [eX7_barred_20, eX7_barred_21, eX7_barred_22, eX7_barred_25, eX7_barred_26, eX7_barred_29, eX7_barred_30, eX7_barred_31, eX7_barred_32, pe_aload_0, pe_bin, pe_callV_2, pe_const, pe_getf, pe_iclt, pe_iload_1, pe_iload_3, y0, m_g14, m_o, y2, b1_e, p1, c1, hget_hset, ia_l, ia_s, vin, opl, onl, Int32.reduceLT, Int32.reduceLE, Int32.reduceAdd, Int32.reduceSub, Nat.reduceLT, Nat.reduceAdd, Nat.reduceEqDiff, ↓reduceIte, true_and, and_true, List.length_nil, List.length_cons, Nat.reduceLeDiff, Nat.zero_le]
        refine sp_mrun rfl hk k1 hv hvf k2 hok ?_
        intro G1 w1 e1 e2 e3 e4 e5
        obtain ⟨z0, z1, -⟩ := e1.1
        have z3 := e1.2.1
        have inner : ∀ a b, b + a = K.n → pr (d + 6) 130 (G.1 + 0, G.2.1 + 0) Q 38 [some (.ref 124), some (.int (nI k)), some (.int (og (mC K t k i) (fun p => if sT K t k (nI i) (6 + p) = 0 then b1 p else 0) b)), some (.int (nI i)), some (.int (nI b))] [] G1 := by
          intro a
          induction a with
          | zero =>
            intro b hb
            obtain rfl : b = K.n := by omega
            simp only [eX7_barred_38, eX7_barred_40, eX7_barred_41, eX7_barred_44, eX7_barred_77, eX7_barred_80, pe_aload_0, pe_getf, pe_goto, pe_iclt, pe_iinc_3, pe_iload_4, z0, m_g13, z1, niE, nisw, hget_hset, ia_l, ia_s, vin, opl, onl, Int32.reduceLT, Int32.reduceLE, Int32.reduceAdd, Int32.reduceSub, Nat.reduceLT, Nat.reduceAdd, Nat.reduceEqDiff, ↓reduceIte, true_and, and_true, List.length_nil, List.length_cons, Nat.reduceLeDiff, Nat.zero_le]
            exact ih (i + 1) G1 w1 _ (by omega) e1 e2 (k3.tr e5)
          | succ a iha =>
            intro b hb
            obtain ⟨c1, c2, c3, c4⟩ := niL (i := b) (n := K.n) (by omega) hn6
            have n26 : (26 : Int32) + nI b = nI (26 + b) := nI_add 26 b
            obtain ⟨b1', b2'⟩ := ni160 (i := 26 + b) (by omega)
            have b3' : 26 + b < 160 := by omega
            have g : w1 (26 + b) = sT K t k (nI i) (6 + b) := by
              have := e3 (6 + b) (by omega)
              rw [show 20 * 1 + (6 + b) = 26 + b by omega] at this
              exact this
            have st := iha (b + 1) (by omega)
            rw [og] at st
            rw [eX7_barred_38]
            simp only [eX7_barred_40, eX7_barred_41, eX7_barred_44, eX7_barred_47, eX7_barred_48, eX7_barred_49, eX7_barred_52, eX7_barred_54, eX7_barred_56, eX7_barred_57, eX7_barred_58, eX7_barred_61, eX7_barred_62, eX7_barred_64, eX7_barred_65, eX7_barred_68, eX7_barred_69, eX7_barred_70, eX7_barred_71, eX7_barred_74, pe_aload_0, pe_bin, pe_const, pe_getf, pe_goto, pe_iald, pe_iclt, pe_ifeq, pe_iinc_4, pe_iload_2, pe_iload_4, pe_istore_2, z0, z1, z3, m_g13, m_g15, c1, c2, c3, n26, b1', b2', b3', g, nisw, b1_e, hget_hset, ia_l, ia_s, vin, opl, onl, Int32.reduceLT, Int32.reduceLE, Int32.reduceAdd, Int32.reduceSub, Nat.reduceLT, Nat.reduceAdd, Nat.reduceEqDiff, ↓reduceIte, true_and, and_true, List.length_nil, List.length_cons, Nat.reduceLeDiff, Nat.zero_le]
            split
            · rename_i v
              rw [if_pos v] at st
              exact st
            · rename_i v
              rw [if_neg v] at st
              exact st
        simp only [eX7_barred_35, eX7_barred_36, pe_const, pe_istore_4, hget_hset, ia_l, ia_s, vin, opl, onl, Int32.reduceLT, Int32.reduceLE, Int32.reduceAdd, Int32.reduceSub, Nat.reduceLT, Nat.reduceAdd, Nat.reduceEqDiff, ↓reduceIte, true_and, and_true, List.length_nil, List.length_cons, Nat.reduceLeDiff, Nat.zero_le]
        exact inner K.n 0 (by omega)
    simp only [eX7_barred_15, eX7_barred_16, eX7_barred_17, eX7_barred_18, pe_const, pe_istore_2, pe_istore_3, hget_hset, ia_l, ia_s, vin, opl, onl, Int32.reduceLT, Int32.reduceLE, Int32.reduceAdd, Int32.reduceSub, Nat.reduceLT, Nat.reduceAdd, Nat.reduceEqDiff, ↓reduceIte, true_and, and_true, List.length_nil, List.length_cons, Nat.reduceLeDiff, Nat.zero_le]
    exact key (2 ^ K.m) 0 G w _ (by omega) hw ht (fun _ _ _ => rfl)
end MB
/-- a wet town stays wet -/
theorem aG_wet {K : Ld} {hr : Int32} (h9 : ¬ hr = -9) {co b dd w : Nat → Int32} {r : Int32} {p : Nat} (hw : ¬ w p = -9) : ∀ k, ¬ (p2s K hr co k (b, dd, w, r)).2.2.1 p = -9
  | 0 => hw
  | k + 1 => by
    have ih := aG_wet (K := K) (hr := hr) h9 (co := co) (b := b) (dd := dd) (r := r) hw k
    rw [p2s]
    generalize p2s K hr co k (b, dd, w, r) = s at *
    obtain ⟨b', d', w', r'⟩ := s
    dsimp only at ih
    unfold p2
    dsimp only
    split
    · dsimp only
      split
      · unfold upd
        split
        · exact h9
        · exact ih
      · exact ih
    · exact ih
