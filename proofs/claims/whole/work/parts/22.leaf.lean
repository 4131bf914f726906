/-! ===== sums, sets of bits ===== -/
def sm (f : Nat → Int32) : Nat → Int32
  | 0 => 0
  | k + 1 => sm f k + f k
def ob (f : Nat → Int32) : Nat → Int32
  | 0 => 0
  | k + 1 => ob f k ||| f k
def b1 (p : Nat) : Int32 := 1 <<< (nI p &&& 31)
def bt (x : Int32) (p : Nat) : Int32 := x >>> (nI p &&& 31) &&& 1
theorem b1_e {p : Nat} : (1 : Int32) <<< (nI p &&& 31) = b1 p := rfl
theorem bt_e {x : Int32} {p : Nat} : x >>> (nI p &&& 31) &&& 1 = bt x p := rfl
/-- all dung, all buckets, wet towns, worth -/
def aDu (t : Nat → Int32) (n : Nat) : Int32 := sm (fun p => t (6 + p)) n
def aBu (t : Nat → Int32) (n : Nat) : Int32 := sm t n
def aWe (t : Nat → Int32) (n : Nat) : Int32 := ob (fun p => if t (12 + p) = -9 then 0 else b1 p) n
def aWd (t : Nat → Int32) (n : Nat) : Int32 := ob (fun p => if 0 < t (6 + p) then b1 p else 0) n
def aWo (K : Ld) (t : Nat → Int32) (n : Nat) : Int32 := sm (fun p => if K.kd p = 2 then t p * K.ms p else 0) n
set_option maxRecDepth 100000 in
theorem sp_allDung {d a : Nat} {G : px_H} {t : Nat → Int32} {Q : px_Q} (hs : isS G a t) (hQ : Q (some (.int (aDu t 6))) G) : pcal (d + 1) 29 [.ref a] G Q := by
  obtain ⟨f0, f1, f2, h0, h1, h2, h3, h4⟩ := hs
  refine inX3_allDung ?_
  simp only [eX3_allDung_0, eX3_allDung_1, eX3_allDung_2, eX3_allDung_3, eX3_allDung_4, eX3_allDung_5, eX3_allDung_7, eX3_allDung_10, eX3_allDung_11, eX3_allDung_12, eX3_allDung_15, eX3_allDung_16, eX3_allDung_17, eX3_allDung_18, eX3_allDung_19, eX3_allDung_22, eX3_allDung_25, eX3_allDung_26, pe_aload_0, pe_bin, pe_const, pe_getf, pe_goto, pe_iald, pe_iclt, pe_iinc_2, pe_iload_1, pe_iload_2, pe_iret, pe_istore_1, pe_istore_2, h0, h2, sc_g0, sc_g1, sc_g2, sc_g3, sc_g4, sc_p3, sc_p4, sc_o, cl_0, cl_1, cl_2, cl_3, cl_4, cl_5, cl_6, hget_hset, ia_l, ia_s, vin, opl, onl, Int32.reduceLT, Int32.reduceLE, Int32.reduceAdd, Int32.reduceSub, Nat.reduceLT, Nat.reduceAdd, Nat.reduceEqDiff, ↓reduceIte, true_and, and_true, List.length_nil, List.length_cons, Nat.reduceLeDiff, Nat.zero_le]
  simp only [aDu, sm, ← (h4 0 (by omega)).2.1, ← (h4 1 (by omega)).2.1, ← (h4 2 (by omega)).2.1, ← (h4 3 (by omega)).2.1, ← (h4 4 (by omega)).2.1, ← (h4 5 (by omega)).2.1] at hQ
  exact hQ
set_option maxRecDepth 100000 in
theorem sp_allBuckets {d a : Nat} {G : px_H} {t : Nat → Int32} {Q : px_Q} (hs : isS G a t) (hQ : Q (some (.int (aBu t 6))) G) : pcal (d + 1) 30 [.ref a] G Q := by
  obtain ⟨f0, f1, f2, h0, h1, h2, h3, h4⟩ := hs
  refine inX3_allBuckets ?_
  simp only [eX3_allBuckets_0, eX3_allBuckets_1, eX3_allBuckets_2, eX3_allBuckets_3, eX3_allBuckets_4, eX3_allBuckets_5, eX3_allBuckets_7, eX3_allBuckets_10, eX3_allBuckets_11, eX3_allBuckets_12, eX3_allBuckets_15, eX3_allBuckets_16, eX3_allBuckets_17, eX3_allBuckets_18, eX3_allBuckets_19, eX3_allBuckets_22, eX3_allBuckets_25, eX3_allBuckets_26, pe_aload_0, pe_bin, pe_const, pe_getf, pe_goto, pe_iald, pe_iclt, pe_iinc_2, pe_iload_1, pe_iload_2, pe_iret, pe_istore_1, pe_istore_2, h0, h1, sc_g0, sc_g1, sc_g2, sc_g3, sc_g4, sc_p3, sc_p4, sc_o, cl_0, cl_1, cl_2, cl_3, cl_4, cl_5, cl_6, hget_hset, ia_l, ia_s, vin, opl, onl, Int32.reduceLT, Int32.reduceLE, Int32.reduceAdd, Int32.reduceSub, Nat.reduceLT, Nat.reduceAdd, Nat.reduceEqDiff, ↓reduceIte, true_and, and_true, List.length_nil, List.length_cons, Nat.reduceLeDiff, Nat.zero_le]
  simp only [aBu, sm, ← (h4 0 (by omega)).1, ← (h4 1 (by omega)).1, ← (h4 2 (by omega)).1, ← (h4 3 (by omega)).1, ← (h4 4 (by omega)).1, ← (h4 5 (by omega)).1] at hQ
  exact hQ
set_option maxRecDepth 100000 in
theorem sp_wetTowns {d a : Nat} {G : px_H} {t : Nat → Int32} {Q : px_Q} (hs : isS G a t) (hQ : Q (some (.int (aWe t 6))) G) : pcal (d + 1) 32 [.ref a] G Q := by
  obtain ⟨f0, f1, f2, h0, h1, h2, h3, h4⟩ := hs
  refine inX3_wetTowns ?_
  have key : ∀ k i acc, i + k = 6 → acc = aWe t i → pr d 32 (G.1 + 0, G.2.1 + 0) Q 4 [some (.ref a), some (.int acc), some (.int (nI i))] [] G := by
    intro k
    induction k with
    | zero =>
      intro i acc hi hacc
      obtain rfl : i = 6 := by omega
      simp only [eX3_wetTowns_0, eX3_wetTowns_1, eX3_wetTowns_2, eX3_wetTowns_3, eX3_wetTowns_4, eX3_wetTowns_5, eX3_wetTowns_7, eX3_wetTowns_10, eX3_wetTowns_11, eX3_wetTowns_12, eX3_wetTowns_15, eX3_wetTowns_16, eX3_wetTowns_17, eX3_wetTowns_19, eX3_wetTowns_22, eX3_wetTowns_23, eX3_wetTowns_24, eX3_wetTowns_25, eX3_wetTowns_28, eX3_wetTowns_29, eX3_wetTowns_30, eX3_wetTowns_31, eX3_wetTowns_34, eX3_wetTowns_37, eX3_wetTowns_38, pe_aload_0, pe_bin, pe_const, pe_getf, pe_goto, pe_iald, pe_iceq, pe_iclt, pe_iinc_2, pe_iload_1, pe_iload_2, pe_iret, pe_istore_1, pe_istore_2, ni66, hget_hset, ia_l, ia_s, vin, opl, onl, Int32.reduceLT, Int32.reduceLE, Int32.reduceAdd, Int32.reduceSub, Nat.reduceLT, Nat.reduceAdd, Nat.reduceEqDiff, ↓reduceIte, true_and, and_true, List.length_nil, List.length_cons, Nat.reduceLeDiff, Nat.zero_le]
      rw [hacc]
      exact hQ
    | succ k ih =>
      intro i acc hi hacc
      obtain ⟨c1, c2, c3⟩ := ni6 (i := i) (by omega)
      have c4 : i < 6 := by omega
      have c5 := (h4 i c4).2.2
      rw [eX3_wetTowns_4]
      simp only [eX3_wetTowns_0, eX3_wetTowns_1, eX3_wetTowns_2, eX3_wetTowns_3, eX3_wetTowns_5, eX3_wetTowns_7, eX3_wetTowns_10, eX3_wetTowns_11, eX3_wetTowns_12, eX3_wetTowns_15, eX3_wetTowns_16, eX3_wetTowns_17, eX3_wetTowns_19, eX3_wetTowns_22, eX3_wetTowns_23, eX3_wetTowns_24, eX3_wetTowns_25, eX3_wetTowns_28, eX3_wetTowns_29, eX3_wetTowns_30, eX3_wetTowns_31, eX3_wetTowns_34, eX3_wetTowns_37, eX3_wetTowns_38, pe_aload_0, pe_bin, pe_const, pe_getf, pe_goto, pe_iald, pe_iceq, pe_iclt, pe_iinc_2, pe_iload_1, pe_iload_2, pe_iret, pe_istore_1, pe_istore_2, h0, h3, sc_g0, sc_g1, sc_g2, sc_g3, sc_g4, sc_p3, sc_p4, sc_o, c1, c2, c3, c4, nisw, b1_e, hget_hset, ia_l, ia_s, vin, opl, onl, Int32.reduceLT, Int32.reduceLE, Int32.reduceAdd, Int32.reduceSub, Nat.reduceLT, Nat.reduceAdd, Nat.reduceEqDiff, ↓reduceIte, true_and, and_true, List.length_nil, List.length_cons, Nat.reduceLeDiff, Nat.zero_le]
      split
      · rename_i hc
        exact ih (i + 1) _ (by omega) (by rw [hacc, aWe, aWe, ob, ← c5, if_pos hc])
      · rename_i hc
        exact ih (i + 1) _ (by omega) (by rw [hacc, aWe, aWe, ob, ← c5, if_neg hc])
  simp only [eX3_wetTowns_0, eX3_wetTowns_1, eX3_wetTowns_2, eX3_wetTowns_3, eX3_wetTowns_5, eX3_wetTowns_7, eX3_wetTowns_10, eX3_wetTowns_11, eX3_wetTowns_12, eX3_wetTowns_15, eX3_wetTowns_16, eX3_wetTowns_17, eX3_wetTowns_19, eX3_wetTowns_22, eX3_wetTowns_23, eX3_wetTowns_24, eX3_wetTowns_25, eX3_wetTowns_28, eX3_wetTowns_29, eX3_wetTowns_30, eX3_wetTowns_31, eX3_wetTowns_34, eX3_wetTowns_37, eX3_wetTowns_38, pe_aload_0, pe_bin, pe_const, pe_getf, pe_goto, pe_iald, pe_iceq, pe_iclt, pe_iinc_2, pe_iload_1, pe_iload_2, pe_iret, pe_istore_1, pe_istore_2, hget_hset, ia_l, ia_s, vin, opl, onl, Int32.reduceLT, Int32.reduceLE, Int32.reduceAdd, Int32.reduceSub, Nat.reduceLT, Nat.reduceAdd, Nat.reduceEqDiff, ↓reduceIte, true_and, and_true, List.length_nil, List.length_cons, Nat.reduceLeDiff, Nat.zero_le]
  exact key 6 0 0 rfl rfl
set_option maxRecDepth 100000 in
theorem sp_withDung {d a : Nat} {G : px_H} {t : Nat → Int32} {Q : px_Q} (hs : isS G a t) (hQ : Q (some (.int (aWd t 6))) G) : pcal (d + 1) 31 [.ref a] G Q := by
  obtain ⟨f0, f1, f2, h0, h1, h2, h3, h4⟩ := hs
  refine inX3_withDung ?_
  have key : ∀ k i acc, i + k = 6 → acc = aWd t i → pr d 31 (G.1 + 0, G.2.1 + 0) Q 4 [some (.ref a), some (.int acc), some (.int (nI i))] [] G := by
    intro k
    induction k with
    | zero =>
      intro i acc hi hacc
      obtain rfl : i = 6 := by omega
      simp only [eX3_withDung_0, eX3_withDung_1, eX3_withDung_2, eX3_withDung_3, eX3_withDung_4, eX3_withDung_5, eX3_withDung_7, eX3_withDung_10, eX3_withDung_11, eX3_withDung_12, eX3_withDung_15, eX3_withDung_16, eX3_withDung_17, eX3_withDung_20, eX3_withDung_21, eX3_withDung_22, eX3_withDung_23, eX3_withDung_26, eX3_withDung_27, eX3_withDung_28, eX3_withDung_29, eX3_withDung_32, eX3_withDung_35, eX3_withDung_36, pe_aload_0, pe_bin, pe_const, pe_getf, pe_goto, pe_iald, pe_iclt, pe_ifgt, pe_iinc_2, pe_iload_1, pe_iload_2, pe_iret, pe_istore_1, pe_istore_2, ni66, hget_hset, ia_l, ia_s, vin, opl, onl, Int32.reduceLT, Int32.reduceLE, Int32.reduceAdd, Int32.reduceSub, Nat.reduceLT, Nat.reduceAdd, Nat.reduceEqDiff, ↓reduceIte, true_and, and_true, List.length_nil, List.length_cons, Nat.reduceLeDiff, Nat.zero_le]
      rw [hacc]
      exact hQ
    | succ k ih =>
      intro i acc hi hacc
      obtain ⟨c1, c2, c3⟩ := ni6 (i := i) (by omega)
      have c4 : i < 6 := by omega
      have c5 := (h4 i c4).2.1
      rw [eX3_withDung_4]
      simp only [eX3_withDung_0, eX3_withDung_1, eX3_withDung_2, eX3_withDung_3, eX3_withDung_5, eX3_withDung_7, eX3_withDung_10, eX3_withDung_11, eX3_withDung_12, eX3_withDung_15, eX3_withDung_16, eX3_withDung_17, eX3_withDung_20, eX3_withDung_21, eX3_withDung_22, eX3_withDung_23, eX3_withDung_26, eX3_withDung_27, eX3_withDung_28, eX3_withDung_29, eX3_withDung_32, eX3_withDung_35, eX3_withDung_36, pe_aload_0, pe_bin, pe_const, pe_getf, pe_goto, pe_iald, pe_iclt, pe_ifgt, pe_iinc_2, pe_iload_1, pe_iload_2, pe_iret, pe_istore_1, pe_istore_2, h0, h2, sc_g0, sc_g1, sc_g2, sc_g3, sc_g4, sc_p3, sc_p4, sc_o, c1, c2, c3, c4, nisw, b1_e, hget_hset, ia_l, ia_s, vin, opl, onl, Int32.reduceLT, Int32.reduceLE, Int32.reduceAdd, Int32.reduceSub, Nat.reduceLT, Nat.reduceAdd, Nat.reduceEqDiff, ↓reduceIte, true_and, and_true, List.length_nil, List.length_cons, Nat.reduceLeDiff, Nat.zero_le]
      split
      · rename_i hc
        exact ih (i + 1) _ (by omega) (by rw [hacc, aWd, aWd, ob, ← c5, if_pos hc])
      · rename_i hc
        exact ih (i + 1) _ (by omega) (by rw [hacc, aWd, aWd, ob, ← c5, if_neg hc])
  simp only [eX3_withDung_0, eX3_withDung_1, eX3_withDung_2, eX3_withDung_3, eX3_withDung_5, eX3_withDung_7, eX3_withDung_10, eX3_withDung_11, eX3_withDung_12, eX3_withDung_15, eX3_withDung_16, eX3_withDung_17, eX3_withDung_20, eX3_withDung_21, eX3_withDung_22, eX3_withDung_23, eX3_withDung_26, eX3_withDung_27, eX3_withDung_28, eX3_withDung_29, eX3_withDung_32, eX3_withDung_35, eX3_withDung_36, pe_aload_0, pe_bin, pe_const, pe_getf, pe_goto, pe_iald, pe_iclt, pe_ifgt, pe_iinc_2, pe_iload_1, pe_iload_2, pe_iret, pe_istore_1, pe_istore_2, hget_hset, ia_l, ia_s, vin, opl, onl, Int32.reduceLT, Int32.reduceLE, Int32.reduceAdd, Int32.reduceSub, Nat.reduceLT, Nat.reduceAdd, Nat.reduceEqDiff, ↓reduceIte, true_and, and_true, List.length_nil, List.length_cons, Nat.reduceLeDiff, Nat.zero_le]
  exact key 6 0 0 rfl rfl
/-- whether it does -/
def aDo (t : Nat → Int32) (n : Nat) : Bool := decide (aDu t n = 0) && decide (aWe t n = 0)
def zB (b : Bool) : Int32 := if b then 1 else 0
set_option maxRecDepth 100000 in
theorem sp_isDone {d a : Nat} {G : px_H} {t : Nat → Int32} {Q : px_Q} (hs : isS G a t) (hQ : Q (some (.int (zB (aDo t 6)))) G) : pcal (d + 2) 28 [.ref a] G Q := by
  obtain ⟨f0, f1, f2, h0, h1, h2, h3, h4⟩ := id hs
  refine inX3_isDone ?_
  simp only [eX3_isDone_0, eX3_isDone_1, pe_aload_0, pe_callV_0, h0, sc_g0, sc_g1, sc_g2, sc_g3, sc_g4, sc_p3, sc_p4, sc_o, hget_hset, ia_l, ia_s, vin, opl, onl, Int32.reduceLT, Int32.reduceLE, Int32.reduceAdd, Int32.reduceSub, Nat.reduceLT, Nat.reduceAdd, Nat.reduceEqDiff, ↓reduceIte, true_and, and_true, List.length_nil, List.length_cons, Nat.reduceLeDiff, Nat.zero_le]
  refine sp_allDung hs ?_
  simp only [eX3_isDone_0, eX3_isDone_1, eX3_isDone_4, eX3_isDone_7, eX3_isDone_8, eX3_isDone_11, eX3_isDone_14, eX3_isDone_15, eX3_isDone_18, eX3_isDone_19, pe_aload_0, pe_callV_0, pe_const, pe_goto, pe_ifeq, pe_zret, h0, sc_g0, sc_g1, sc_g2, sc_g3, sc_g4, sc_p3, sc_p4, sc_o, hget_hset, ia_l, ia_s, vin, opl, onl, Int32.reduceLT, Int32.reduceLE, Int32.reduceAdd, Int32.reduceSub, Nat.reduceLT, Nat.reduceAdd, Nat.reduceEqDiff, ↓reduceIte, true_and, and_true, List.length_nil, List.length_cons, Nat.reduceLeDiff, Nat.zero_le]
  split
  · rename_i c1
    refine sp_wetTowns hs ?_
    simp only [eX3_isDone_0, eX3_isDone_1, eX3_isDone_4, eX3_isDone_7, eX3_isDone_8, eX3_isDone_11, eX3_isDone_14, eX3_isDone_15, eX3_isDone_18, eX3_isDone_19, pe_aload_0, pe_callV_0, pe_const, pe_goto, pe_ifeq, pe_zret, hget_hset, ia_l, ia_s, vin, opl, onl, Int32.reduceLT, Int32.reduceLE, Int32.reduceAdd, Int32.reduceSub, Nat.reduceLT, Nat.reduceAdd, Nat.reduceEqDiff, ↓reduceIte, true_and, and_true, List.length_nil, List.length_cons, Nat.reduceLeDiff, Nat.zero_le]
    split
    · rename_i c2
      simp only [eX3_isDone_0, eX3_isDone_1, eX3_isDone_4, eX3_isDone_7, eX3_isDone_8, eX3_isDone_11, eX3_isDone_14, eX3_isDone_15, eX3_isDone_18, eX3_isDone_19, pe_aload_0, pe_callV_0, pe_const, pe_goto, pe_ifeq, pe_zret, hget_hset, ia_l, ia_s, vin, opl, onl, Int32.reduceLT, Int32.reduceLE, Int32.reduceAdd, Int32.reduceSub, Nat.reduceLT, Nat.reduceAdd, Nat.reduceEqDiff, ↓reduceIte, true_and, and_true, List.length_nil, List.length_cons, Nat.reduceLeDiff, Nat.zero_le, or_true]
      simpa [aDo, zB, c1, c2] using hQ
    · rename_i c2
      simp only [eX3_isDone_0, eX3_isDone_1, eX3_isDone_4, eX3_isDone_7, eX3_isDone_8, eX3_isDone_11, eX3_isDone_14, eX3_isDone_15, eX3_isDone_18, eX3_isDone_19, pe_aload_0, pe_callV_0, pe_const, pe_goto, pe_ifeq, pe_zret, hget_hset, ia_l, ia_s, vin, opl, onl, Int32.reduceLT, Int32.reduceLE, Int32.reduceAdd, Int32.reduceSub, Nat.reduceLT, Nat.reduceAdd, Nat.reduceEqDiff, ↓reduceIte, true_and, and_true, List.length_nil, List.length_cons, Nat.reduceLeDiff, Nat.zero_le, true_or]
      simpa [aDo, zB, c1, c2] using hQ
  · rename_i c1
    simp only [eX3_isDone_0, eX3_isDone_1, eX3_isDone_4, eX3_isDone_7, eX3_isDone_8, eX3_isDone_11, eX3_isDone_14, eX3_isDone_15, eX3_isDone_18, eX3_isDone_19, pe_aload_0, pe_callV_0, pe_const, pe_goto, pe_ifeq, pe_zret, hget_hset, ia_l, ia_s, vin, opl, onl, Int32.reduceLT, Int32.reduceLE, Int32.reduceAdd, Int32.reduceSub, Nat.reduceLT, Nat.reduceAdd, Nat.reduceEqDiff, ↓reduceIte, true_and, and_true, List.length_nil, List.length_cons, Nat.reduceLeDiff, Nat.zero_le, true_or]
    simpa [aDo, zB, c1] using hQ
theorem niL {i n : Nat} (h : i < n) (hn : n ≤ 6) : (nI i).toNatClampNeg = i ∧ 0 ≤ nI i ∧ nI i < nI n ∧ i < 6 := ⟨nI_clamp (by omega), nI_pos' (by omega), nI_lt h (by omega), by omega⟩
theorem niE {n : Nat} : ¬ nI n < nI n := Int32.lt_irrefl
set_option maxRecDepth 100000 in
theorem sp_worth {d a l : Nat} {G : px_H} {t : Nat → Int32} {K : Ld} {Q : px_Q} (hs : isS G a t) (hl : isL G l K) (hQ : Q (some (.int (aWo K t K.n))) G) : pcal (d + 1) 33 [.ref a, .ref l] G Q := by
  obtain ⟨f0, f1, f2, h0, h1, h2, h3, h4⟩ := hs
  obtain ⟨l0, l1, l2, l3, l4, l5, l6, l7⟩ := hl
  refine inX3_worth ?_
  have key : ∀ k i acc, i + k = K.n → acc = aWo K t i → pr d 33 (G.1 + 0, G.2.1 + 0) Q 4 [some (.ref a), some (.ref l), some (.int acc), some (.int (nI i))] [] G := by
    intro k
    induction k with
    | zero =>
      intro i acc hi hacc
      obtain rfl : i = K.n := by omega
      simp only [eX3_worth_0, eX3_worth_1, eX3_worth_2, eX3_worth_3, eX3_worth_4, eX3_worth_5, eX3_worth_6, eX3_worth_9, eX3_worth_12, eX3_worth_13, eX3_worth_14, eX3_worth_17, eX3_worth_18, eX3_worth_19, eX3_worth_20, eX3_worth_23, eX3_worth_24, eX3_worth_27, eX3_worth_28, eX3_worth_29, eX3_worth_30, eX3_worth_33, eX3_worth_34, eX3_worth_35, eX3_worth_36, eX3_worth_39, eX3_worth_40, eX3_worth_41, eX3_worth_42, eX3_worth_45, eX3_worth_48, eX3_worth_49, pe_aload_0, pe_aload_1, pe_bin, pe_const, pe_getf, pe_goto, pe_iald, pe_iceq, pe_iclt, pe_iinc_3, pe_iload_2, pe_iload_3, pe_iret, pe_istore_2, pe_istore_3, l0, ld_g0, ld_g1, ld_g2, ld_g3, ld_g4, ld_g5, ld_g6, ld_g7, ld_p5, ld_p6, ld_p7, ld_o, niE, hget_hset, ia_l, ia_s, vin, opl, onl, Int32.reduceLT, Int32.reduceLE, Int32.reduceAdd, Int32.reduceSub, Nat.reduceLT, Nat.reduceAdd, Nat.reduceEqDiff, ↓reduceIte, true_and, and_true, List.length_nil, List.length_cons, Nat.reduceLeDiff, Nat.zero_le]
      rw [hacc]
      exact hQ
    | succ k ih =>
      intro i acc hi hacc
      obtain ⟨c1, c2, c3, c4⟩ := niL (i := i) (n := K.n) (by omega) l6
      have c5 := (h4 i c4).1
      rw [eX3_worth_4]
      simp only [eX3_worth_0, eX3_worth_1, eX3_worth_2, eX3_worth_3, eX3_worth_5, eX3_worth_6, eX3_worth_9, eX3_worth_12, eX3_worth_13, eX3_worth_14, eX3_worth_17, eX3_worth_18, eX3_worth_19, eX3_worth_20, eX3_worth_23, eX3_worth_24, eX3_worth_27, eX3_worth_28, eX3_worth_29, eX3_worth_30, eX3_worth_33, eX3_worth_34, eX3_worth_35, eX3_worth_36, eX3_worth_39, eX3_worth_40, eX3_worth_41, eX3_worth_42, eX3_worth_45, eX3_worth_48, eX3_worth_49, pe_aload_0, pe_aload_1, pe_bin, pe_const, pe_getf, pe_goto, pe_iald, pe_iceq, pe_iclt, pe_iinc_3, pe_iload_2, pe_iload_3, pe_iret, pe_istore_2, pe_istore_3, h0, h1, l0, l1, l3, sc_g0, sc_g1, sc_g2, sc_g3, sc_g4, sc_p3, sc_p4, sc_o, ld_g0, ld_g1, ld_g2, ld_g3, ld_g4, ld_g5, ld_g6, ld_g7, ld_p5, ld_p6, ld_p7, ld_o, c1, c2, c3, c4, nisw, hget_hset, ia_l, ia_s, vin, opl, onl, Int32.reduceLT, Int32.reduceLE, Int32.reduceAdd, Int32.reduceSub, Nat.reduceLT, Nat.reduceAdd, Nat.reduceEqDiff, ↓reduceIte, true_and, and_true, List.length_nil, List.length_cons, Nat.reduceLeDiff, Nat.zero_le]
      split
      · rename_i hc
        exact ih (i + 1) _ (by omega) (by rw [hacc, aWo, aWo, sm, ← c5, if_pos hc])
      · rename_i hc
        exact ih (i + 1) _ (by omega) (by rw [hacc, aWo, aWo, sm, ← c5, if_neg hc])
  simp only [eX3_worth_0, eX3_worth_1, eX3_worth_2, eX3_worth_3, eX3_worth_5, eX3_worth_6, eX3_worth_9, eX3_worth_12, eX3_worth_13, eX3_worth_14, eX3_worth_17, eX3_worth_18, eX3_worth_19, eX3_worth_20, eX3_worth_23, eX3_worth_24, eX3_worth_27, eX3_worth_28, eX3_worth_29, eX3_worth_30, eX3_worth_33, eX3_worth_34, eX3_worth_35, eX3_worth_36, eX3_worth_39, eX3_worth_40, eX3_worth_41, eX3_worth_42, eX3_worth_45, eX3_worth_48, eX3_worth_49, pe_aload_0, pe_aload_1, pe_bin, pe_const, pe_getf, pe_goto, pe_iald, pe_iceq, pe_iclt, pe_iinc_3, pe_iload_2, pe_iload_3, pe_iret, pe_istore_2, pe_istore_3, hget_hset, ia_l, ia_s, vin, opl, onl, Int32.reduceLT, Int32.reduceLE, Int32.reduceAdd, Int32.reduceSub, Nat.reduceLT, Nat.reduceAdd, Nat.reduceEqDiff, ↓reduceIte, true_and, and_true, List.length_nil, List.length_cons, Nat.reduceLeDiff, Nat.zero_le]
  exact key K.n 0 0 (by omega) rfl
/-! ===== what a land answers ===== -/
/-- is there such a place -/
def hP (n : Nat) (x : Int32) : Bool := decide (0 ≤ x) && decide (x < nI n)
set_option maxRecDepth 100000 in
theorem sp_hasPlace {d l : Nat} {G : px_H} {K : Ld} {x : Int32} {Q : px_Q} (hl : isL G l K) (hQ : Q (some (.int (zB (hP K.n x)))) G) : pcal (d + 1) 7 [.ref l, .int x] G Q := by
  obtain ⟨l0, l1, l2, l3, l4, l5, l6, l7⟩ := hl
  refine inX1_hasPlace ?_
  simp only [eX1_hasPlace_0, eX1_hasPlace_1, pe_iflt, pe_iload_1, hget_hset, ia_l, ia_s, vin, opl, onl, Int32.reduceLT, Int32.reduceLE, Int32.reduceAdd, Int32.reduceSub, Nat.reduceLT, Nat.reduceAdd, Nat.reduceEqDiff, ↓reduceIte, true_and, and_true, List.length_nil, List.length_cons, Nat.reduceLeDiff, Nat.zero_le]
  split
  · rename_i c1
    simp only [eX1_hasPlace_0, eX1_hasPlace_1, eX1_hasPlace_4, eX1_hasPlace_5, eX1_hasPlace_6, eX1_hasPlace_9, eX1_hasPlace_12, eX1_hasPlace_13, eX1_hasPlace_16, eX1_hasPlace_17, pe_aload_0, pe_const, pe_getf, pe_goto, pe_iclt, pe_iflt, pe_iload_1, pe_zret, hget_hset, ia_l, ia_s, vin, opl, onl, Int32.reduceLT, Int32.reduceLE, Int32.reduceAdd, Int32.reduceSub, Nat.reduceLT, Nat.reduceAdd, Nat.reduceEqDiff, ↓reduceIte, true_and, and_true, List.length_nil, List.length_cons, Nat.reduceLeDiff, Nat.zero_le, true_or]
    simpa [zB, hP, Int32.not_le.mpr c1] using hQ
  · rename_i c1
    simp only [eX1_hasPlace_0, eX1_hasPlace_1, eX1_hasPlace_4, eX1_hasPlace_5, eX1_hasPlace_6, eX1_hasPlace_9, eX1_hasPlace_12, eX1_hasPlace_13, eX1_hasPlace_16, eX1_hasPlace_17, pe_aload_0, pe_const, pe_getf, pe_goto, pe_iclt, pe_iflt, pe_iload_1, pe_zret, l0, ld_g0, ld_g1, ld_g2, ld_g3, ld_g4, ld_g5, ld_g6, ld_g7, ld_p5, ld_p6, ld_p7, ld_o, hget_hset, ia_l, ia_s, vin, opl, onl, Int32.reduceLT, Int32.reduceLE, Int32.reduceAdd, Int32.reduceSub, Nat.reduceLT, Nat.reduceAdd, Nat.reduceEqDiff, ↓reduceIte, true_and, and_true, List.length_nil, List.length_cons, Nat.reduceLeDiff, Nat.zero_le]
    split
    · rename_i c2
      simp only [eX1_hasPlace_0, eX1_hasPlace_1, eX1_hasPlace_4, eX1_hasPlace_5, eX1_hasPlace_6, eX1_hasPlace_9, eX1_hasPlace_12, eX1_hasPlace_13, eX1_hasPlace_16, eX1_hasPlace_17, pe_aload_0, pe_const, pe_getf, pe_goto, pe_iclt, pe_iflt, pe_iload_1, pe_zret, hget_hset, ia_l, ia_s, vin, opl, onl, Int32.reduceLT, Int32.reduceLE, Int32.reduceAdd, Int32.reduceSub, Nat.reduceLT, Nat.reduceAdd, Nat.reduceEqDiff, ↓reduceIte, true_and, and_true, List.length_nil, List.length_cons, Nat.reduceLeDiff, Nat.zero_le, or_true]
      simpa [zB, hP, Int32.not_lt.mp c1, c2] using hQ
    · rename_i c2
      simp only [eX1_hasPlace_0, eX1_hasPlace_1, eX1_hasPlace_4, eX1_hasPlace_5, eX1_hasPlace_6, eX1_hasPlace_9, eX1_hasPlace_12, eX1_hasPlace_13, eX1_hasPlace_16, eX1_hasPlace_17, pe_aload_0, pe_const, pe_getf, pe_goto, pe_iclt, pe_iflt, pe_iload_1, pe_zret, hget_hset, ia_l, ia_s, vin, opl, onl, Int32.reduceLT, Int32.reduceLE, Int32.reduceAdd, Int32.reduceSub, Nat.reduceLT, Nat.reduceAdd, Nat.reduceEqDiff, ↓reduceIte, true_and, and_true, List.length_nil, List.length_cons, Nat.reduceLeDiff, Nat.zero_le, true_or]
      simpa [zB, hP, c2] using hQ
set_option maxRecDepth 100000 in
theorem sp_hasDitch {d l : Nat} {G : px_H} {K : Ld} {x : Int32} {Q : px_Q} (hl : isL G l K) (hQ : Q (some (.int (zB (hP K.m x)))) G) : pcal (d + 1) 8 [.ref l, .int x] G Q := by
  obtain ⟨l0, l1, l2, l3, l4, l5, l6, l7⟩ := hl
  refine inX1_hasDitch ?_
  simp only [eX1_hasDitch_0, eX1_hasDitch_1, pe_iflt, pe_iload_1, hget_hset, ia_l, ia_s, vin, opl, onl, Int32.reduceLT, Int32.reduceLE, Int32.reduceAdd, Int32.reduceSub, Nat.reduceLT, Nat.reduceAdd, Nat.reduceEqDiff, ↓reduceIte, true_and, and_true, List.length_nil, List.length_cons, Nat.reduceLeDiff, Nat.zero_le]
  split
  · rename_i c1
    simp only [eX1_hasDitch_0, eX1_hasDitch_1, eX1_hasDitch_4, eX1_hasDitch_5, eX1_hasDitch_6, eX1_hasDitch_9, eX1_hasDitch_12, eX1_hasDitch_13, eX1_hasDitch_16, eX1_hasDitch_17, pe_aload_0, pe_const, pe_getf, pe_goto, pe_iclt, pe_iflt, pe_iload_1, pe_zret, hget_hset, ia_l, ia_s, vin, opl, onl, Int32.reduceLT, Int32.reduceLE, Int32.reduceAdd, Int32.reduceSub, Nat.reduceLT, Nat.reduceAdd, Nat.reduceEqDiff, ↓reduceIte, true_and, and_true, List.length_nil, List.length_cons, Nat.reduceLeDiff, Nat.zero_le, true_or]
    simpa [zB, hP, Int32.not_le.mpr c1] using hQ
  · rename_i c1
    simp only [eX1_hasDitch_0, eX1_hasDitch_1, eX1_hasDitch_4, eX1_hasDitch_5, eX1_hasDitch_6, eX1_hasDitch_9, eX1_hasDitch_12, eX1_hasDitch_13, eX1_hasDitch_16, eX1_hasDitch_17, pe_aload_0, pe_const, pe_getf, pe_goto, pe_iclt, pe_iflt, pe_iload_1, pe_zret, l0, ld_g0, ld_g1, ld_g2, ld_g3, ld_g4, ld_g5, ld_g6, ld_g7, ld_p5, ld_p6, ld_p7, ld_o, hget_hset, ia_l, ia_s, vin, opl, onl, Int32.reduceLT, Int32.reduceLE, Int32.reduceAdd, Int32.reduceSub, Nat.reduceLT, Nat.reduceAdd, Nat.reduceEqDiff, ↓reduceIte, true_and, and_true, List.length_nil, List.length_cons, Nat.reduceLeDiff, Nat.zero_le]
    split
    · rename_i c2
      simp only [eX1_hasDitch_0, eX1_hasDitch_1, eX1_hasDitch_4, eX1_hasDitch_5, eX1_hasDitch_6, eX1_hasDitch_9, eX1_hasDitch_12, eX1_hasDitch_13, eX1_hasDitch_16, eX1_hasDitch_17, pe_aload_0, pe_const, pe_getf, pe_goto, pe_iclt, pe_iflt, pe_iload_1, pe_zret, hget_hset, ia_l, ia_s, vin, opl, onl, Int32.reduceLT, Int32.reduceLE, Int32.reduceAdd, Int32.reduceSub, Nat.reduceLT, Nat.reduceAdd, Nat.reduceEqDiff, ↓reduceIte, true_and, and_true, List.length_nil, List.length_cons, Nat.reduceLeDiff, Nat.zero_le, or_true]
      simpa [zB, hP, Int32.not_lt.mp c1, c2] using hQ
    · rename_i c2
      simp only [eX1_hasDitch_0, eX1_hasDitch_1, eX1_hasDitch_4, eX1_hasDitch_5, eX1_hasDitch_6, eX1_hasDitch_9, eX1_hasDitch_12, eX1_hasDitch_13, eX1_hasDitch_16, eX1_hasDitch_17, pe_aload_0, pe_const, pe_getf, pe_goto, pe_iclt, pe_iflt, pe_iload_1, pe_zret, hget_hset, ia_l, ia_s, vin, opl, onl, Int32.reduceLT, Int32.reduceLE, Int32.reduceAdd, Int32.reduceSub, Nat.reduceLT, Nat.reduceAdd, Nat.reduceEqDiff, ↓reduceIte, true_and, and_true, List.length_nil, List.length_cons, Nat.reduceLeDiff, Nat.zero_le, true_or]
      simpa [zB, hP, c2] using hQ
set_option maxRecDepth 100000 in
theorem sp_allDitches {d l : Nat} {G : px_H} {K : Ld} {Q : px_Q} (hl : isL G l K) (hQ : Q (some (.int (b1 K.m - 1))) G) : pcal (d + 1) 9 [.ref l] G Q := by
  obtain ⟨l0, l1, l2, l3, l4, l5, l6, l7⟩ := hl
  refine inX1_allDitches ?_
  simp only [eX1_allDitches_0, eX1_allDitches_1, eX1_allDitches_2, eX1_allDitches_5, eX1_allDitches_6, eX1_allDitches_7, eX1_allDitches_8, pe_aload_0, pe_bin, pe_const, pe_getf, pe_iret, l0, ld_g0, ld_g1, ld_g2, ld_g3, ld_g4, ld_g5, ld_g6, ld_g7, ld_p5, ld_p6, ld_p7, ld_o, b1_e, hget_hset, ia_l, ia_s, vin, opl, onl, Int32.reduceLT, Int32.reduceLE, Int32.reduceAdd, Int32.reduceSub, Nat.reduceLT, Nat.reduceAdd, Nat.reduceEqDiff, ↓reduceIte, true_and, and_true, List.length_nil, List.length_cons, Nat.reduceLeDiff, Nat.zero_le]
  exact hQ
/-- the places of a kind, as bits -/
def aOf (K : Ld) (x : Int32) (n : Nat) : Int32 := ob (fun p => if K.kd p = x then b1 p else 0) n
set_option maxRecDepth 100000 in
theorem sp_placesOf {d l : Nat} {G : px_H} {K : Ld} {x : Int32} {Q : px_Q} (hl : isL G l K) (hQ : Q (some (.int (aOf K x K.n))) G) : pcal (d + 1) 10 [.ref l, .int x] G Q := by
  obtain ⟨l0, l1, l2, l3, l4, l5, l6, l7⟩ := hl
  refine inX1_placesOf ?_
  have key : ∀ k i acc, i + k = K.n → acc = aOf K x i → pr d 10 (G.1 + 0, G.2.1 + 0) Q 4 [some (.ref l), some (.int x), some (.int acc), some (.int (nI i))] [] G := by
    intro k
    induction k with
    | zero =>
      intro i acc hi hacc
      obtain rfl : i = K.n := by omega
      simp only [eX1_placesOf_0, eX1_placesOf_1, eX1_placesOf_2, eX1_placesOf_3, eX1_placesOf_4, eX1_placesOf_5, eX1_placesOf_6, eX1_placesOf_9, eX1_placesOf_12, eX1_placesOf_13, eX1_placesOf_14, eX1_placesOf_17, eX1_placesOf_18, eX1_placesOf_19, eX1_placesOf_20, eX1_placesOf_23, eX1_placesOf_24, eX1_placesOf_25, eX1_placesOf_26, eX1_placesOf_29, eX1_placesOf_30, eX1_placesOf_31, eX1_placesOf_32, eX1_placesOf_35, eX1_placesOf_38, eX1_placesOf_39, pe_aload_0, pe_bin, pe_const, pe_getf, pe_goto, pe_iald, pe_iceq, pe_iclt, pe_iinc_3, pe_iload_1, pe_iload_2, pe_iload_3, pe_iret, pe_istore_2, pe_istore_3, l0, ld_g0, ld_g1, ld_g2, ld_g3, ld_g4, ld_g5, ld_g6, ld_g7, ld_p5, ld_p6, ld_p7, ld_o, niE, hget_hset, ia_l, ia_s, vin, opl, onl, Int32.reduceLT, Int32.reduceLE, Int32.reduceAdd, Int32.reduceSub, Nat.reduceLT, Nat.reduceAdd, Nat.reduceEqDiff, ↓reduceIte, true_and, and_true, List.length_nil, List.length_cons, Nat.reduceLeDiff, Nat.zero_le]
      rw [hacc]
      exact hQ
    | succ k ih =>
      intro i acc hi hacc
      obtain ⟨c1, c2, c3, c4⟩ := niL (i := i) (n := K.n) (by omega) l6
      rw [eX1_placesOf_4]
      simp only [eX1_placesOf_0, eX1_placesOf_1, eX1_placesOf_2, eX1_placesOf_3, eX1_placesOf_5, eX1_placesOf_6, eX1_placesOf_9, eX1_placesOf_12, eX1_placesOf_13, eX1_placesOf_14, eX1_placesOf_17, eX1_placesOf_18, eX1_placesOf_19, eX1_placesOf_20, eX1_placesOf_23, eX1_placesOf_24, eX1_placesOf_25, eX1_placesOf_26, eX1_placesOf_29, eX1_placesOf_30, eX1_placesOf_31, eX1_placesOf_32, eX1_placesOf_35, eX1_placesOf_38, eX1_placesOf_39, pe_aload_0, pe_bin, pe_const, pe_getf, pe_goto, pe_iald, pe_iceq, pe_iclt, pe_iinc_3, pe_iload_1, pe_iload_2, pe_iload_3, pe_iret, pe_istore_2, pe_istore_3, l0, l1, ld_g0, ld_g1, ld_g2, ld_g3, ld_g4, ld_g5, ld_g6, ld_g7, ld_p5, ld_p6, ld_p7, ld_o, c1, c2, c3, c4, nisw, b1_e, hget_hset, ia_l, ia_s, vin, opl, onl, Int32.reduceLT, Int32.reduceLE, Int32.reduceAdd, Int32.reduceSub, Nat.reduceLT, Nat.reduceAdd, Nat.reduceEqDiff, ↓reduceIte, true_and, and_true, List.length_nil, List.length_cons, Nat.reduceLeDiff, Nat.zero_le]
      split
      · rename_i hc
        exact ih (i + 1) _ (by omega) (by rw [hacc, aOf, aOf, ob, if_pos hc])
      · rename_i hc
        exact ih (i + 1) _ (by omega) (by rw [hacc, aOf, aOf, ob, if_neg hc])
  simp only [eX1_placesOf_0, eX1_placesOf_1, eX1_placesOf_2, eX1_placesOf_3, eX1_placesOf_5, eX1_placesOf_6, eX1_placesOf_9, eX1_placesOf_12, eX1_placesOf_13, eX1_placesOf_14, eX1_placesOf_17, eX1_placesOf_18, eX1_placesOf_19, eX1_placesOf_20, eX1_placesOf_23, eX1_placesOf_24, eX1_placesOf_25, eX1_placesOf_26, eX1_placesOf_29, eX1_placesOf_30, eX1_placesOf_31, eX1_placesOf_32, eX1_placesOf_35, eX1_placesOf_38, eX1_placesOf_39, pe_aload_0, pe_bin, pe_const, pe_getf, pe_goto, pe_iald, pe_iceq, pe_iclt, pe_iinc_3, pe_iload_1, pe_iload_2, pe_iload_3, pe_iret, pe_istore_2, pe_istore_3, hget_hset, ia_l, ia_s, vin, opl, onl, Int32.reduceLT, Int32.reduceLE, Int32.reduceAdd, Int32.reduceSub, Nat.reduceLT, Nat.reduceAdd, Nat.reduceEqDiff, ↓reduceIte, true_and, and_true, List.length_nil, List.length_cons, Nat.reduceLeDiff, Nat.zero_le]
  exact key K.n 0 0 (by omega) rfl
/-- the least ditch from place x that is open, from d on, k to look at -/
def lo (fm : Nat → Int32) (op x : Int32) : Nat → Nat → Int32
  | _, 0 => -9
  | d, k + 1 => if fm d = x ∧ bt op d = 1 then nI d else lo fm op x (d + 1) k
set_option maxRecDepth 100000 in
theorem sp_leastOpen {d l : Nat} {G : px_H} {K : Ld} {x op : Int32} {Q : px_Q} (hl : isL G l K) (hQ : Q (some (.int (lo K.fm op x 0 K.m))) G) : pcal (d + 1) 11 [.ref l, .int x, .int op] G Q := by
  obtain ⟨l0, l1, l2, l3, l4, l5, l6, l7⟩ := hl
  refine inX1_leastOpen ?_
  have key : ∀ k i, i + k = K.m → lo K.fm op x i k = lo K.fm op x 0 K.m → pr d 11 (G.1 + 0, G.2.1 + 0) Q 2 [some (.ref l), some (.int x), some (.int op), some (.int (nI i))] [] G := by
    intro k
    induction k with
    | zero =>
      intro i hi hacc
      obtain rfl : i = K.m := by omega
      simp only [eX1_leastOpen_0, eX1_leastOpen_1, eX1_leastOpen_2, eX1_leastOpen_3, eX1_leastOpen_4, eX1_leastOpen_7, eX1_leastOpen_10, eX1_leastOpen_11, eX1_leastOpen_14, eX1_leastOpen_15, eX1_leastOpen_16, eX1_leastOpen_17, eX1_leastOpen_20, eX1_leastOpen_21, eX1_leastOpen_22, eX1_leastOpen_23, eX1_leastOpen_24, eX1_leastOpen_25, eX1_leastOpen_26, eX1_leastOpen_29, eX1_leastOpen_30, eX1_leastOpen_31, eX1_leastOpen_34, eX1_leastOpen_37, eX1_leastOpen_39, pe_aload_0, pe_bin, pe_const, pe_getf, pe_goto, pe_iald, pe_iceq, pe_iclt, pe_iinc_3, pe_iload_1, pe_iload_2, pe_iload_3, pe_iret, pe_istore_3, l0, ld_g0, ld_g1, ld_g2, ld_g3, ld_g4, ld_g5, ld_g6, ld_g7, ld_p5, ld_p6, ld_p7, ld_o, niE, hget_hset, ia_l, ia_s, vin, opl, onl, Int32.reduceLT, Int32.reduceLE, Int32.reduceAdd, Int32.reduceSub, Nat.reduceLT, Nat.reduceAdd, Nat.reduceEqDiff, ↓reduceIte, true_and, and_true, List.length_nil, List.length_cons, Nat.reduceLeDiff, Nat.zero_le]
      rw [← hacc] at hQ
      exact hQ
    | succ k ih =>
      intro i hi hacc
      obtain ⟨c1, c2, c3, c4⟩ := niL (i := i) (n := K.m) (by omega) l7
      rw [eX1_leastOpen_2]
      simp only [eX1_leastOpen_0, eX1_leastOpen_1, eX1_leastOpen_3, eX1_leastOpen_4, eX1_leastOpen_7, eX1_leastOpen_10, eX1_leastOpen_11, eX1_leastOpen_14, eX1_leastOpen_15, eX1_leastOpen_16, eX1_leastOpen_17, eX1_leastOpen_20, eX1_leastOpen_21, eX1_leastOpen_22, eX1_leastOpen_23, eX1_leastOpen_24, eX1_leastOpen_25, eX1_leastOpen_26, eX1_leastOpen_29, eX1_leastOpen_30, eX1_leastOpen_31, eX1_leastOpen_34, eX1_leastOpen_37, eX1_leastOpen_39, pe_aload_0, pe_bin, pe_const, pe_getf, pe_goto, pe_iald, pe_iceq, pe_iclt, pe_iinc_3, pe_iload_1, pe_iload_2, pe_iload_3, pe_iret, pe_istore_3, l0, l4, ld_g0, ld_g1, ld_g2, ld_g3, ld_g4, ld_g5, ld_g6, ld_g7, ld_p5, ld_p6, ld_p7, ld_o, c1, c2, c3, c4, nisw, bt_e, hget_hset, ia_l, ia_s, vin, opl, onl, Int32.reduceLT, Int32.reduceLE, Int32.reduceAdd, Int32.reduceSub, Nat.reduceLT, Nat.reduceAdd, Nat.reduceEqDiff, ↓reduceIte, true_and, and_true, List.length_nil, List.length_cons, Nat.reduceLeDiff, Nat.zero_le]
      rw [lo] at hacc
      split
      · rename_i hc
        split
        · rename_i hc2
          rw [if_pos ⟨hc, hc2⟩] at hacc
          rw [← hacc] at hQ
          exact hQ
        · rename_i hc2
          rw [if_neg (fun q => hc2 q.2)] at hacc
          exact ih (i + 1) (by omega) hacc
      · rename_i hc
        rw [if_neg (fun q => hc q.1)] at hacc
        exact ih (i + 1) (by omega) hacc
  simp only [eX1_leastOpen_0, eX1_leastOpen_1, eX1_leastOpen_3, eX1_leastOpen_4, eX1_leastOpen_7, eX1_leastOpen_10, eX1_leastOpen_11, eX1_leastOpen_14, eX1_leastOpen_15, eX1_leastOpen_16, eX1_leastOpen_17, eX1_leastOpen_20, eX1_leastOpen_21, eX1_leastOpen_22, eX1_leastOpen_23, eX1_leastOpen_24, eX1_leastOpen_25, eX1_leastOpen_26, eX1_leastOpen_29, eX1_leastOpen_30, eX1_leastOpen_31, eX1_leastOpen_34, eX1_leastOpen_37, eX1_leastOpen_39, pe_aload_0, pe_bin, pe_const, pe_getf, pe_goto, pe_iald, pe_iceq, pe_iclt, pe_iinc_3, pe_iload_1, pe_iload_2, pe_iload_3, pe_iret, pe_istore_3, hget_hset, ia_l, ia_s, vin, opl, onl, Int32.reduceLT, Int32.reduceLE, Int32.reduceAdd, Int32.reduceSub, Nat.reduceLT, Nat.reduceAdd, Nat.reduceEqDiff, ↓reduceIte, true_and, and_true, List.length_nil, List.length_cons, Nat.reduceLeDiff, Nat.zero_le]
  exact key K.m 0 (by omega) rfl
