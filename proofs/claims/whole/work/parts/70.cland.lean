/-! ===== the class: a land is built ===== -/
def exB (f : Nat → Bool) : Nat → Nat → Bool
  | _, 0 => false
  | i, k + 1 => if f i = true then true else exB f (i + 1) k
theorem exB_iff {f : Nat → Bool} : ∀ k i, exB f i k = true ↔ ∃ j, i ≤ j ∧ j < i + k ∧ f j = true
  | 0, i => by
    simp only [exB, Bool.false_eq_true, false_iff]
    rintro ⟨j, h1, h2, -⟩
    omega
  | k + 1, i => by
    rw [exB]
    by_cases h : f i = true
    · rw [if_pos h]
      exact ⟨fun _ => ⟨i, by omega, by omega, h⟩, fun _ => rfl⟩
    · rw [if_neg h, exB_iff k (i + 1)]
      constructor
      · rintro ⟨j, h1, h2, h3⟩
        exact ⟨j, by omega, by omega, h3⟩
      · rintro ⟨j, h1, h2, h3⟩
        refine ⟨j, ?_, by omega, h3⟩
        rcases Nat.lt_or_ge i j with z | z
        · omega
        · obtain rfl : j = i := by omega
          exact absurd h3 h
/-- a ditch from a to b is told already -/
def jn (K : Ld) (a b : Int32) : Bool := exB (fun d => decide (K.fm d = a ∧ K.tt d = b)) 0 K.m
def dT (K : Ld) (a b : Int32) : Bool := hP K.n a && hP K.n b && !decide (a = b) && (decide (K.kd a.toNatClampNeg = 0) || decide (K.kd a.toNatClampNeg = 1)) && !jn K a b
def dF (K : Ld) (a : Int32) : Bool := exB (fun b => dT K a (nI b)) 0 K.n
def dG (K : Ld) : Bool := decide (K.m < 6) && exB (fun a => dF K (nI a)) 0 K.n
section CL
variable {d l : Nat} {G : px_H} {K : Ld} {Q : px_Q}
set_option maxRecDepth 100000 in
theorem sp_isJoined {a b : Int32} (hl : isL G l K) (hQ : Q (some (.int (zB (jn K a b)))) G) : pcal (d + 1) 17 [.ref l, .int a, .int b] G Q := by
  obtain ⟨l0, l1, l2, l3, l4, l5, l6, l7⟩ := hl
  refine inX1_isJoined ?_
  have key : ∀ k i, i + k = K.m → exB (fun d => decide (K.fm d = a ∧ K.tt d = b)) i k = jn K a b → pr d 17 (G.1 + 0, G.2.1 + 0) Q 2 [some (.ref l), some (.int a), some (.int b), some (.int (nI i))] [] G := by
    intro k
    induction k with
    | zero =>
      intro i hi hacc
      obtain rfl : i = K.m := by omega
      simp only [eX1_isJoined_2, eX1_isJoined_3, eX1_isJoined_4, eX1_isJoined_7, eX1_isJoined_38, eX1_isJoined_39, pe_aload_0, pe_const, pe_getf, pe_iclt, pe_iload_3, pe_zret, l0, ld_g0, ld_g1, ld_g2, ld_g3, ld_g4, ld_g5, ld_g6, ld_g7, ld_p5, ld_p6, ld_p7, ld_o, niE, hget_hset, ia_l, ia_s, vin, opl, onl, Int32.reduceLT, Int32.reduceLE, Int32.reduceAdd, Int32.reduceSub, Nat.reduceLT, Nat.reduceAdd, Nat.reduceEqDiff, ↓reduceIte, true_and, and_true, List.length_nil, List.length_cons, Nat.reduceLeDiff, Nat.zero_le, true_or]
      rw [← hacc] at hQ
      exact hQ
    | succ k ih =>
      intro i hi hacc
      obtain ⟨c1, c2, c3, c4⟩ := niL (i := i) (n := K.m) (by omega) l7
      rw [eX1_isJoined_2]
      simp only [eX1_isJoined_0, eX1_isJoined_1, eX1_isJoined_3, eX1_isJoined_4, eX1_isJoined_7, eX1_isJoined_10, eX1_isJoined_11, eX1_isJoined_14, eX1_isJoined_15, eX1_isJoined_16, eX1_isJoined_17, eX1_isJoined_20, eX1_isJoined_21, eX1_isJoined_24, eX1_isJoined_25, eX1_isJoined_26, eX1_isJoined_27, eX1_isJoined_30, eX1_isJoined_31, eX1_isJoined_32, eX1_isJoined_35, eX1_isJoined_38, eX1_isJoined_39, pe_aload_0, pe_const, pe_getf, pe_goto, pe_iald, pe_iceq, pe_iclt, pe_iinc_3, pe_iload_1, pe_iload_2, pe_iload_3, pe_istore_3, pe_zret, l0, l4, l5, ld_g0, ld_g1, ld_g2, ld_g3, ld_g4, ld_g5, ld_g6, ld_g7, ld_p5, ld_p6, ld_p7, ld_o, c1, c2, c3, c4, nisw, hget_hset, ia_l, ia_s, vin, opl, onl, Int32.reduceLT, Int32.reduceLE, Int32.reduceAdd, Int32.reduceSub, Nat.reduceLT, Nat.reduceAdd, Nat.reduceEqDiff, ↓reduceIte, true_and, and_true, List.length_nil, List.length_cons, Nat.reduceLeDiff, Nat.zero_le, or_true]
      rw [exB] at hacc
      split
      · rename_i hc
        split
        · rename_i hc2
          rw [if_pos (by simp [hc, hc2])] at hacc
          rw [← hacc] at hQ
          exact hQ
        · rename_i hc2
          rw [if_neg (by simp [hc2])] at hacc
          exact ih (i + 1) (by omega) hacc
      · rename_i hc
        rw [if_neg (by simp [hc])] at hacc
        exact ih (i + 1) (by omega) hacc
  simp only [eX1_isJoined_0, eX1_isJoined_1, pe_const, pe_istore_3, hget_hset, ia_l, ia_s, vin, opl, onl, Int32.reduceLT, Int32.reduceLE, Int32.reduceAdd, Int32.reduceSub, Nat.reduceLT, Nat.reduceAdd, Nat.reduceEqDiff, ↓reduceIte, true_and, and_true, List.length_nil, List.length_cons, Nat.reduceLeDiff, Nat.zero_le]
  exact key K.m 0 (by omega) rfl
set_option maxRecDepth 100000 in
theorem sp_canDigTo {a b : Int32} (hl : isL G l K) (hQ : Q (some (.int (zB (dT K a b)))) G) : pcal (d + 2) 16 [.ref l, .int a, .int b] G Q := by
  obtain ⟨l0, l1, l2, l3, l4, l5, l6, l7⟩ := id hl
  refine inX1_canDigTo ?_
  have no : dT K a b = false → pr (d + 1) 16 (G.1 + 0, G.2.1 + 0) Q 21 [some (.ref l), some (.int a), some (.int b)] [] G := by
    intro e
    rw [e] at hQ
    simp only [eX1_canDigTo_21, eX1_canDigTo_22, pe_const, pe_zret, hget_hset, ia_l, ia_s, vin, opl, onl, Int32.reduceLT, Int32.reduceLE, Int32.reduceAdd, Int32.reduceSub, Nat.reduceLT, Nat.reduceAdd, Nat.reduceEqDiff, ↓reduceIte, true_and, and_true, List.length_nil, List.length_cons, Nat.reduceLeDiff, Nat.zero_le, true_or]
    exact hQ
  simp only [eX1_canDigTo_0, eX1_canDigTo_1, eX1_canDigTo_2, pe_aload_0, pe_callV_1, pe_iload_1, l0, ld_o, hget_hset, ia_l, ia_s, vin, opl, onl, Int32.reduceLT, Int32.reduceLE, Int32.reduceAdd, Int32.reduceSub, Nat.reduceLT, Nat.reduceAdd, Nat.reduceEqDiff, ↓reduceIte, true_and, and_true, List.length_nil, List.length_cons, Nat.reduceLeDiff, Nat.zero_le]
  refine sp_hasPlace hl ?_
  simp only [eX1_canDigTo_5, pe_ifeq, zB_0, hget_hset, ia_l, ia_s, vin, opl, onl, Int32.reduceLT, Int32.reduceLE, Int32.reduceAdd, Int32.reduceSub, Nat.reduceLT, Nat.reduceAdd, Nat.reduceEqDiff, ↓reduceIte, true_and, and_true, List.length_nil, List.length_cons, Nat.reduceLeDiff, Nat.zero_le]
  split
  · rename_i u1
    exact no (by simp [dT, u1])
  · rename_i u1
    have u1' := nt u1
    simp only [eX1_canDigTo_8, eX1_canDigTo_9, eX1_canDigTo_10, pe_aload_0, pe_callV_1, pe_iload_2, l0, ld_o, hget_hset, ia_l, ia_s, vin, opl, onl, Int32.reduceLT, Int32.reduceLE, Int32.reduceAdd, Int32.reduceSub, Nat.reduceLT, Nat.reduceAdd, Nat.reduceEqDiff, ↓reduceIte, true_and, and_true, List.length_nil, List.length_cons, Nat.reduceLeDiff, Nat.zero_le]
    refine sp_hasPlace hl ?_
    simp only [eX1_canDigTo_13, pe_ifeq, zB_0, hget_hset, ia_l, ia_s, vin, opl, onl, Int32.reduceLT, Int32.reduceLE, Int32.reduceAdd, Int32.reduceSub, Nat.reduceLT, Nat.reduceAdd, Nat.reduceEqDiff, ↓reduceIte, true_and, and_true, List.length_nil, List.length_cons, Nat.reduceLeDiff, Nat.zero_le]
    split
    · rename_i u2
      exact no (by simp [dT, u2])
    · rename_i u2
      have u2' := nt u2
      simp only [eX1_canDigTo_16, eX1_canDigTo_17, eX1_canDigTo_18, pe_iceq, pe_iload_1, pe_iload_2, hget_hset, ia_l, ia_s, vin, opl, onl, Int32.reduceLT, Int32.reduceLE, Int32.reduceAdd, Int32.reduceSub, Nat.reduceLT, Nat.reduceAdd, Nat.reduceEqDiff, ↓reduceIte, true_and, and_true, List.length_nil, List.length_cons, Nat.reduceLeDiff, Nat.zero_le]
      split
      · rename_i u3
        exact no (by simp [dT, u3])
      · rename_i u3
        obtain ⟨p1, p2, p3, p4⟩ := hP_of (n := K.n) (x := a) l6 u1'
        have fin : (K.kd a.toNatClampNeg = 0 ∨ K.kd a.toNatClampNeg = 1) → pr (d + 1) 16 (G.1 + 0, G.2.1 + 0) Q 42 [some (.ref l), some (.int a), some (.int b)] [] G := by
          intro k01
          simp only [eX1_canDigTo_42, eX1_canDigTo_43, eX1_canDigTo_44, eX1_canDigTo_45, pe_aload_0, pe_callV_2, pe_iload_1, pe_iload_2, l0, ld_o, hget_hset, ia_l, ia_s, vin, opl, onl, Int32.reduceLT, Int32.reduceLE, Int32.reduceAdd, Int32.reduceSub, Nat.reduceLT, Nat.reduceAdd, Nat.reduceEqDiff, ↓reduceIte, true_and, and_true, List.length_nil, List.length_cons, Nat.reduceLeDiff, Nat.zero_le]
          refine sp_isJoined hl ?_
          have e : dT K a b = !jn K a b := by
            rcases k01 with z | z <;> simp [dT, u1', u2', u3, z]
          rw [e] at hQ
          simp only [eX1_canDigTo_48, eX1_canDigTo_51, eX1_canDigTo_52, eX1_canDigTo_55, eX1_canDigTo_56, pe_const, pe_goto, pe_ifeq, pe_zret, zB_0, hget_hset, ia_l, ia_s, vin, opl, onl, Int32.reduceLT, Int32.reduceLE, Int32.reduceAdd, Int32.reduceSub, Nat.reduceLT, Nat.reduceAdd, Nat.reduceEqDiff, ↓reduceIte, true_and, and_true, List.length_nil, List.length_cons, Nat.reduceLeDiff, Nat.zero_le, true_or, or_true]
          split
          · rename_i u4
            rw [u4] at hQ
            exact hQ
          · rename_i u4
            rw [nt u4] at hQ
            exact hQ
        simp only [eX1_canDigTo_23, eX1_canDigTo_24, eX1_canDigTo_27, eX1_canDigTo_28, eX1_canDigTo_29, pe_aload_0, pe_getf, pe_iald, pe_ifeq, pe_iload_1, l0, l1, ld_g0, ld_g1, ld_g2, ld_g3, ld_g4, ld_g5, ld_g6, ld_g7, ld_p5, ld_p6, ld_p7, ld_o, p1, p3, hget_hset, ia_l, ia_s, vin, opl, onl, Int32.reduceLT, Int32.reduceLE, Int32.reduceAdd, Int32.reduceSub, Nat.reduceLT, Nat.reduceAdd, Nat.reduceEqDiff, ↓reduceIte, true_and, and_true, List.length_nil, List.length_cons, Nat.reduceLeDiff, Nat.zero_le]
        split
        · rename_i k0
          exact fin (Or.inl k0)
        · rename_i k0
          simp only [eX1_canDigTo_32, eX1_canDigTo_33, eX1_canDigTo_36, eX1_canDigTo_37, eX1_canDigTo_38, eX1_canDigTo_39, pe_aload_0, pe_const, pe_getf, pe_iald, pe_iceq, pe_iload_1, l0, l1, ld_g0, ld_g1, ld_g2, ld_g3, ld_g4, ld_g5, ld_g6, ld_g7, ld_p5, ld_p6, ld_p7, ld_o, p1, p3, hget_hset, ia_l, ia_s, vin, opl, onl, Int32.reduceLT, Int32.reduceLE, Int32.reduceAdd, Int32.reduceSub, Nat.reduceLT, Nat.reduceAdd, Nat.reduceEqDiff, ↓reduceIte, true_and, and_true, List.length_nil, List.length_cons, Nat.reduceLeDiff, Nat.zero_le]
          split
          · rename_i k1
            exact fin (Or.inr k1)
          · rename_i k1
            have e : dT K a b = false := by simp [dT, k0, k1]
            rw [e] at hQ
            simp only [eX1_canDigTo_55, eX1_canDigTo_56, pe_const, pe_zret, hget_hset, ia_l, ia_s, vin, opl, onl, Int32.reduceLT, Int32.reduceLE, Int32.reduceAdd, Int32.reduceSub, Nat.reduceLT, Nat.reduceAdd, Nat.reduceEqDiff, ↓reduceIte, true_and, and_true, List.length_nil, List.length_cons, Nat.reduceLeDiff, Nat.zero_le, true_or]
            exact hQ
set_option maxRecDepth 100000 in
theorem sp_canDigFrom {a : Int32} (hl : isL G l K) (hQ : Q (some (.int (zB (dF K a)))) G) : pcal (d + 3) 15 [.ref l, .int a] G Q := by
  obtain ⟨l0, l1, l2, l3, l4, l5, l6, l7⟩ := id hl
  refine inX1_canDigFrom ?_
  have key : ∀ k i, i + k = K.n → exB (fun b => dT K a (nI b)) i k = dF K a → pr (d + 2) 15 (G.1 + 0, G.2.1 + 0) Q 2 [some (.ref l), some (.int a), some (.int (nI i))] [] G := by
    intro k
    induction k with
    | zero =>
      intro i hi hacc
      obtain rfl : i = K.n := by omega
      simp only [eX1_canDigFrom_2, eX1_canDigFrom_3, eX1_canDigFrom_4, eX1_canDigFrom_7, eX1_canDigFrom_27, eX1_canDigFrom_28, pe_aload_0, pe_const, pe_getf, pe_iclt, pe_iload_2, pe_zret, l0, ld_g0, ld_g1, ld_g2, ld_g3, ld_g4, ld_g5, ld_g6, ld_g7, ld_p5, ld_p6, ld_p7, ld_o, niE, hget_hset, ia_l, ia_s, vin, opl, onl, Int32.reduceLT, Int32.reduceLE, Int32.reduceAdd, Int32.reduceSub, Nat.reduceLT, Nat.reduceAdd, Nat.reduceEqDiff, ↓reduceIte, true_and, and_true, List.length_nil, List.length_cons, Nat.reduceLeDiff, Nat.zero_le, true_or]
      rw [← hacc] at hQ
      exact hQ
    | succ k ih =>
      intro i hi hacc
      obtain ⟨c1, c2, c3, c4⟩ := niL (i := i) (n := K.n) (by omega) l6
      rw [eX1_canDigFrom_2]
      simp only [eX1_canDigFrom_3, eX1_canDigFrom_4, eX1_canDigFrom_7, eX1_canDigFrom_10, eX1_canDigFrom_11, eX1_canDigFrom_12, eX1_canDigFrom_13, pe_aload_0, pe_callV_2, pe_getf, pe_iclt, pe_iload_1, pe_iload_2, l0, ld_g0, ld_g1, ld_g2, ld_g3, ld_g4, ld_g5, ld_g6, ld_g7, ld_p5, ld_p6, ld_p7, ld_o, c3, hget_hset, ia_l, ia_s, vin, opl, onl, Int32.reduceLT, Int32.reduceLE, Int32.reduceAdd, Int32.reduceSub, Nat.reduceLT, Nat.reduceAdd, Nat.reduceEqDiff, ↓reduceIte, true_and, and_true, List.length_nil, List.length_cons, Nat.reduceLeDiff, Nat.zero_le]
      refine sp_canDigTo hl ?_
      rw [exB] at hacc
      simp only [eX1_canDigFrom_16, eX1_canDigFrom_19, eX1_canDigFrom_20, eX1_canDigFrom_21, eX1_canDigFrom_24, pe_const, pe_goto, pe_ifeq, pe_iinc_2, pe_zret, zB_0, nisw, hget_hset, ia_l, ia_s, vin, opl, onl, Int32.reduceLT, Int32.reduceLE, Int32.reduceAdd, Int32.reduceSub, Nat.reduceLT, Nat.reduceAdd, Nat.reduceEqDiff, ↓reduceIte, true_and, and_true, List.length_nil, List.length_cons, Nat.reduceLeDiff, Nat.zero_le, or_true]
      split
      · rename_i u
        rw [if_neg (by simp [u])] at hacc
        exact ih (i + 1) (by omega) hacc
      · rename_i u
        rw [if_pos (nt u)] at hacc
        rw [← hacc] at hQ
        exact hQ
  simp only [eX1_canDigFrom_0, eX1_canDigFrom_1, pe_const, pe_istore_2, hget_hset, ia_l, ia_s, vin, opl, onl, Int32.reduceLT, Int32.reduceLE, Int32.reduceAdd, Int32.reduceSub, Nat.reduceLT, Nat.reduceAdd, Nat.reduceEqDiff, ↓reduceIte, true_and, and_true, List.length_nil, List.length_cons, Nat.reduceLeDiff, Nat.zero_le]
  exact key K.n 0 (by omega) rfl
set_option maxRecDepth 100000 in
theorem sp_canDig (hl : isL G l K) (hQ : Q (some (.int (zB (dG K)))) G) : pcal (d + 3) 14 [.ref l] G Q := by
  obtain ⟨l0, l1, l2, l3, l4, l5, l6, l7⟩ := id hl
  refine inX1_canDig ?_
  have em : (nI K.m < 6) = (K.m < 6) := by
    apply propext
    exact nI_ltI (b := 6) (by omega) (by omega)
  have key : ∀ k i o2, i + k = K.n → (decide (K.m < 6) && exB (fun a => dF K (nI a)) i k) = dG K → K.m < 6 → pr (d + 2) 14 (G.1 + 0, G.2.1 + 0) Q 13 [some (.ref l), some (.int (nI i)), o2] [] G := by
    intro k
    induction k with
    | zero =>
      intro i o2 hi hacc m6
      obtain rfl : i = K.n := by omega
      simp only [eX1_canDig_13, eX1_canDig_14, eX1_canDig_15, eX1_canDig_18, eX1_canDig_54, eX1_canDig_55, pe_aload_0, pe_const, pe_getf, pe_iclt, pe_iload_1, pe_zret, l0, ld_g0, ld_g1, ld_g2, ld_g3, ld_g4, ld_g5, ld_g6, ld_g7, ld_p5, ld_p6, ld_p7, ld_o, niE, hget_hset, ia_l, ia_s, vin, opl, onl, Int32.reduceLT, Int32.reduceLE, Int32.reduceAdd, Int32.reduceSub, Nat.reduceLT, Nat.reduceAdd, Nat.reduceEqDiff, ↓reduceIte, true_and, and_true, List.length_nil, List.length_cons, Nat.reduceLeDiff, Nat.zero_le, true_or]
      rw [← hacc] at hQ
      simpa [exB, zB] using hQ
    | succ k ih =>
      intro i o2 hi hacc m6
      obtain ⟨c1, c2, c3, c4⟩ := niL (i := i) (n := K.n) (by omega) l6
      rw [exB] at hacc
      have inner : ∀ k2 j, j + k2 = K.n → exB (fun b => dT K (nI i) (nI b)) j k2 = dF K (nI i) → pr (d + 2) 14 (G.1 + 0, G.2.1 + 0) Q 23 [some (.ref l), some (.int (nI i)), some (.int (nI j))] [] G := by
        intro k2
        induction k2 with
        | zero =>
          intro j hj hj2
          obtain rfl : j = K.n := by omega
          simp only [eX1_canDig_23, eX1_canDig_24, eX1_canDig_25, eX1_canDig_28, eX1_canDig_48, eX1_canDig_51, pe_aload_0, pe_getf, pe_goto, pe_iclt, pe_iinc_1, pe_iload_2, l0, ld_g0, ld_g1, ld_g2, ld_g3, ld_g4, ld_g5, ld_g6, ld_g7, ld_p5, ld_p6, ld_p7, ld_o, niE, nisw, hget_hset, ia_l, ia_s, vin, opl, onl, Int32.reduceLT, Int32.reduceLE, Int32.reduceAdd, Int32.reduceSub, Nat.reduceLT, Nat.reduceAdd, Nat.reduceEqDiff, ↓reduceIte, true_and, and_true, List.length_nil, List.length_cons, Nat.reduceLeDiff, Nat.zero_le]
          refine ih (i + 1) _ (by omega) ?_ m6
          rw [if_neg (by rw [← hj2]; simp [exB])] at hacc
          exact hacc
        | succ k2 ih2 =>
          intro j hj hj2
          obtain ⟨e1, e2, e3, e4⟩ := niL (i := j) (n := K.n) (by omega) l6
          rw [eX1_canDig_23]
          simp only [eX1_canDig_24, eX1_canDig_25, eX1_canDig_28, eX1_canDig_31, eX1_canDig_32, eX1_canDig_33, eX1_canDig_34, pe_aload_0, pe_callV_2, pe_getf, pe_iclt, pe_iload_1, pe_iload_2, l0, ld_g0, ld_g1, ld_g2, ld_g3, ld_g4, ld_g5, ld_g6, ld_g7, ld_p5, ld_p6, ld_p7, ld_o, e3, hget_hset, ia_l, ia_s, vin, opl, onl, Int32.reduceLT, Int32.reduceLE, Int32.reduceAdd, Int32.reduceSub, Nat.reduceLT, Nat.reduceAdd, Nat.reduceEqDiff, ↓reduceIte, true_and, and_true, List.length_nil, List.length_cons, Nat.reduceLeDiff, Nat.zero_le]
          refine sp_canDigTo hl ?_
          rw [exB] at hj2
          simp only [eX1_canDig_37, eX1_canDig_40, eX1_canDig_41, eX1_canDig_42, eX1_canDig_45, pe_const, pe_goto, pe_ifeq, pe_iinc_2, pe_zret, zB_0, nisw, hget_hset, ia_l, ia_s, vin, opl, onl, Int32.reduceLT, Int32.reduceLE, Int32.reduceAdd, Int32.reduceSub, Nat.reduceLT, Nat.reduceAdd, Nat.reduceEqDiff, ↓reduceIte, true_and, and_true, List.length_nil, List.length_cons, Nat.reduceLeDiff, Nat.zero_le, or_true]
          split
          · rename_i u
            rw [if_neg (by simp [u])] at hj2
            exact ih2 (j + 1) (by omega) hj2
          · rename_i u
            rw [if_pos (nt u)] at hj2
            rw [if_pos hj2.symm] at hacc
            rw [← hacc] at hQ
            simpa [m6, zB] using hQ
      rw [eX1_canDig_13]
      simp only [eX1_canDig_14, eX1_canDig_15, eX1_canDig_18, eX1_canDig_21, eX1_canDig_22, pe_aload_0, pe_const, pe_getf, pe_iclt, pe_iload_1, pe_istore_2, l0, ld_g0, ld_g1, ld_g2, ld_g3, ld_g4, ld_g5, ld_g6, ld_g7, ld_p5, ld_p6, ld_p7, ld_o, c3, hget_hset, ia_l, ia_s, vin, opl, onl, Int32.reduceLT, Int32.reduceLE, Int32.reduceAdd, Int32.reduceSub, Nat.reduceLT, Nat.reduceAdd, Nat.reduceEqDiff, ↓reduceIte, true_and, and_true, List.length_nil, List.length_cons, Nat.reduceLeDiff, Nat.zero_le]
      exact inner K.n 0 (by omega) rfl
  simp only [eX1_canDig_0, eX1_canDig_1, eX1_canDig_4, eX1_canDig_6, eX1_canDig_9, eX1_canDig_10, eX1_canDig_11, eX1_canDig_12, pe_aload_0, pe_const, pe_getf, pe_iclt, pe_istore_1, pe_zret, l0, ld_g0, ld_g1, ld_g2, ld_g3, ld_g4, ld_g5, ld_g6, ld_g7, ld_p5, ld_p6, ld_p7, ld_o, em, hget_hset, ia_l, ia_s, vin, opl, onl, Int32.reduceLT, Int32.reduceLE, Int32.reduceAdd, Int32.reduceSub, Nat.reduceLT, Nat.reduceAdd, Nat.reduceEqDiff, ↓reduceIte, true_and, and_true, List.length_nil, List.length_cons, Nat.reduceLeDiff, Nat.zero_le, true_or]
  split
  · rename_i m6
    exact key K.n 0 _ (by omega) rfl m6
  · rename_i m6
    have e : dG K = false := by simp [dG, m6]
    rw [e] at hQ
    exact hQ
/-- the land with a place more, with a ditch more -/
def adP (K : Ld) (k s v : Int32) : Ld := if K.n < 6 then (upd K.kd K.n k, upd K.st K.n s, upd K.ms K.n v, K.fm, K.tt, K.oa, K.n + 1, K.m) else K
def adD (K : Ld) (a b k : Int32) : Ld := if K.m < 6 ∧ dT K a b = true then (K.kd, K.st, K.ms, upd K.fm K.m a, upd K.tt K.m b, K.oa ||| k <<< (nI K.m &&& 31), K.n, K.m + 1) else K
def clK (K : Ld) : Ld := (K.kd, K.st, K.ms, K.fm, K.tt, 0, 0, 0)
set_option maxRecDepth 100000 in
theorem sp_clear (hl : isL G l K) (hQ : ∀ G', isL G' l (clK K) → fr G G' l (l + 6) → Q none G') : pcal (d + 1) 6 [.ref l] G Q := by
  obtain ⟨l0, l1, l2, l3, l4, l5, l6, l7⟩ := id hl
  refine inX1_clear ?_
  simp only [eX1_clear_0, eX1_clear_1, eX1_clear_2, eX1_clear_5, eX1_clear_6, eX1_clear_7, eX1_clear_10, eX1_clear_11, eX1_clear_12, eX1_clear_15, pe_aload_0, pe_const, pe_putf, pe_vret, l0, ld_g0, ld_g1, ld_g2, ld_g3, ld_g4, ld_g5, ld_g6, ld_g7, ld_p5, ld_p6, ld_p7, ld_o, hget_hset, ia_l, ia_s, vin, opl, onl, Int32.reduceLT, Int32.reduceLE, Int32.reduceAdd, Int32.reduceSub, Nat.reduceLT, Nat.reduceAdd, Nat.reduceEqDiff, ↓reduceIte, true_and, and_true, List.length_nil, List.length_cons, Nat.reduceLeDiff, Nat.zero_le]
  refine hQ _ ⟨?_, ?_, ?_, ?_, ?_, ?_, by show 0 ≤ 6; omega, by show 0 ≤ 6; omega⟩ (fun k hk => ?_)
  · rw [hget_self]; rfl
  · rw [hget_ne (by omega), hget_ne (by omega), hget_ne (by omega)]; exact l1
  · rw [hget_ne (by omega), hget_ne (by omega), hget_ne (by omega)]; exact l2
  · rw [hget_ne (by omega), hget_ne (by omega), hget_ne (by omega)]; exact l3
  · rw [hget_ne (by omega), hget_ne (by omega), hget_ne (by omega)]; exact l4
  · rw [hget_ne (by omega), hget_ne (by omega), hget_ne (by omega)]; exact l5
  · rw [hget_ne (by omega), hget_ne (by omega), hget_ne (by omega)]
set_option maxRecDepth 100000 in
theorem sp_addPlace {k s v : Int32} (hl : isL G l K) (hQ : ∀ G', isL G' l (adP K k s v) → fr G G' l (l + 6) → Q none G') : pcal (d + 1) 12 [.ref l, .int k, .int s, .int v] G Q := by
  obtain ⟨l0, l1, l2, l3, l4, l5, l6, l7⟩ := id hl
  have ne_ll_0_1 : ¬ (l = l + 1) := by omega
  have ne_ll_0_2 : ¬ (l = l + 2) := by omega
  have ne_ll_0_3 : ¬ (l = l + 3) := by omega
  have ne_ll_0_4 : ¬ (l = l + 4) := by omega
  have ne_ll_0_5 : ¬ (l = l + 5) := by omega
  have ne_ll_1_0 : ¬ (l + 1 = l) := by omega
  have ne_ll_1_2 : ¬ (l + 1 = l + 2) := by omega
  have ne_ll_1_3 : ¬ (l + 1 = l + 3) := by omega
  have ne_ll_1_4 : ¬ (l + 1 = l + 4) := by omega
  have ne_ll_1_5 : ¬ (l + 1 = l + 5) := by omega
  have ne_ll_2_0 : ¬ (l + 2 = l) := by omega
  have ne_ll_2_1 : ¬ (l + 2 = l + 1) := by omega
  have ne_ll_2_3 : ¬ (l + 2 = l + 3) := by omega
  have ne_ll_2_4 : ¬ (l + 2 = l + 4) := by omega
  have ne_ll_2_5 : ¬ (l + 2 = l + 5) := by omega
  have ne_ll_3_0 : ¬ (l + 3 = l) := by omega
  have ne_ll_3_1 : ¬ (l + 3 = l + 1) := by omega
  have ne_ll_3_2 : ¬ (l + 3 = l + 2) := by omega
  have ne_ll_3_4 : ¬ (l + 3 = l + 4) := by omega
  have ne_ll_3_5 : ¬ (l + 3 = l + 5) := by omega
  have ne_ll_4_0 : ¬ (l + 4 = l) := by omega
  have ne_ll_4_1 : ¬ (l + 4 = l + 1) := by omega
  have ne_ll_4_2 : ¬ (l + 4 = l + 2) := by omega
  have ne_ll_4_3 : ¬ (l + 4 = l + 3) := by omega
  have ne_ll_4_5 : ¬ (l + 4 = l + 5) := by omega
  have ne_ll_5_0 : ¬ (l + 5 = l) := by omega
  have ne_ll_5_1 : ¬ (l + 5 = l + 1) := by omega
  have ne_ll_5_2 : ¬ (l + 5 = l + 2) := by omega
  have ne_ll_5_3 : ¬ (l + 5 = l + 3) := by omega
  have ne_ll_5_4 : ¬ (l + 5 = l + 4) := by omega
  have em : (nI K.n < 6) = (K.n < 6) := by
    apply propext
    exact nI_ltI (b := 6) (by omega) (by omega)
  refine inX1_addPlace ?_
  simp only [eX1_addPlace_0, eX1_addPlace_1, eX1_addPlace_4, eX1_addPlace_6, pe_aload_0, pe_const, pe_getf, pe_iclt, l0, ld_g0, ld_g1, ld_g2, ld_g3, ld_g4, ld_g5, ld_g6, ld_g7, ld_p5, ld_p6, ld_p7, ld_o, em, hget_hset, ia_l, ia_s, vin, opl, onl, Int32.reduceLT, Int32.reduceLE, Int32.reduceAdd, Int32.reduceSub, Nat.reduceLT, Nat.reduceAdd, Nat.reduceEqDiff, ↓reduceIte, true_and, and_true, List.length_nil, List.length_cons, Nat.reduceLeDiff, Nat.zero_le]
  split
  · rename_i n6
    obtain ⟨c1, c2, c3⟩ := ni6 n6
    simp only [eX1_addPlace_9, eX1_addPlace_10, eX1_addPlace_13, eX1_addPlace_14, eX1_addPlace_17, eX1_addPlace_18, eX1_addPlace_19, eX1_addPlace_20, eX1_addPlace_23, eX1_addPlace_24, eX1_addPlace_27, eX1_addPlace_28, eX1_addPlace_29, eX1_addPlace_30, eX1_addPlace_33, eX1_addPlace_34, eX1_addPlace_37, eX1_addPlace_38, eX1_addPlace_39, eX1_addPlace_40, eX1_addPlace_41, eX1_addPlace_44, eX1_addPlace_45, eX1_addPlace_46, eX1_addPlace_49, pe_aload_0, pe_bin, pe_const, pe_dup_i, pe_dup_r, pe_getf, pe_iast, pe_iload_1, pe_iload_2, pe_iload_3, pe_putf, pe_vret, l0, l1, l2, l3, ld_g0, ld_g1, ld_g2, ld_g3, ld_g4, ld_g5, ld_g6, ld_g7, ld_p5, ld_p6, ld_p7, ld_o, c1, c2, n6, nisw, ne_ll_0_1, ne_ll_0_2, ne_ll_0_3, ne_ll_0_4, ne_ll_0_5, ne_ll_1_0, ne_ll_1_2, ne_ll_1_3, ne_ll_1_4, ne_ll_1_5, ne_ll_2_0, ne_ll_2_1, ne_ll_2_3, ne_ll_2_4, ne_ll_2_5, ne_ll_3_0, ne_ll_3_1, ne_ll_3_2, ne_ll_3_4, ne_ll_3_5, ne_ll_4_0, ne_ll_4_1, ne_ll_4_2, ne_ll_4_3, ne_ll_4_5, ne_ll_5_0, ne_ll_5_1, ne_ll_5_2, ne_ll_5_3, ne_ll_5_4, hget_hset, ia_l, ia_s, vin, opl, onl, Int32.reduceLT, Int32.reduceLE, Int32.reduceAdd, Int32.reduceSub, Nat.reduceLT, Nat.reduceAdd, Nat.reduceEqDiff, ↓reduceIte, true_and, and_true, List.length_nil, List.length_cons, Nat.reduceLeDiff, Nat.zero_le]
    have e : adP K k s v = (upd K.kd K.n k, upd K.st K.n s, upd K.ms K.n v, K.fm, K.tt, K.oa, K.n + 1, K.m) := if_pos n6
    rw [e] at hQ
    refine hQ _ ⟨?_, ?_, ?_, ?_, ?_, ?_, by show K.n + 1 ≤ 6; omega, l7⟩ (fun k hk => ?_)
    · simp only [hget_hset, ↓reduceIte]
    · simp only [hget_hset, ne_ll_0_1, ne_ll_0_2, ne_ll_0_3, ne_ll_0_4, ne_ll_0_5, ne_ll_1_0, ne_ll_1_2, ne_ll_1_3, ne_ll_1_4, ne_ll_1_5, ne_ll_2_0, ne_ll_2_1, ne_ll_2_3, ne_ll_2_4, ne_ll_2_5, ne_ll_3_0, ne_ll_3_1, ne_ll_3_2, ne_ll_3_4, ne_ll_3_5, ne_ll_4_0, ne_ll_4_1, ne_ll_4_2, ne_ll_4_3, ne_ll_4_5, ne_ll_5_0, ne_ll_5_1, ne_ll_5_2, ne_ll_5_3, ne_ll_5_4, ↓reduceIte]
    · simp only [hget_hset, ne_ll_0_1, ne_ll_0_2, ne_ll_0_3, ne_ll_0_4, ne_ll_0_5, ne_ll_1_0, ne_ll_1_2, ne_ll_1_3, ne_ll_1_4, ne_ll_1_5, ne_ll_2_0, ne_ll_2_1, ne_ll_2_3, ne_ll_2_4, ne_ll_2_5, ne_ll_3_0, ne_ll_3_1, ne_ll_3_2, ne_ll_3_4, ne_ll_3_5, ne_ll_4_0, ne_ll_4_1, ne_ll_4_2, ne_ll_4_3, ne_ll_4_5, ne_ll_5_0, ne_ll_5_1, ne_ll_5_2, ne_ll_5_3, ne_ll_5_4, ↓reduceIte]
    · simp only [hget_hset, ne_ll_0_1, ne_ll_0_2, ne_ll_0_3, ne_ll_0_4, ne_ll_0_5, ne_ll_1_0, ne_ll_1_2, ne_ll_1_3, ne_ll_1_4, ne_ll_1_5, ne_ll_2_0, ne_ll_2_1, ne_ll_2_3, ne_ll_2_4, ne_ll_2_5, ne_ll_3_0, ne_ll_3_1, ne_ll_3_2, ne_ll_3_4, ne_ll_3_5, ne_ll_4_0, ne_ll_4_1, ne_ll_4_2, ne_ll_4_3, ne_ll_4_5, ne_ll_5_0, ne_ll_5_1, ne_ll_5_2, ne_ll_5_3, ne_ll_5_4, ↓reduceIte]
    · simp only [hget_hset, ne_ll_0_1, ne_ll_0_2, ne_ll_0_3, ne_ll_0_4, ne_ll_0_5, ne_ll_1_0, ne_ll_1_2, ne_ll_1_3, ne_ll_1_4, ne_ll_1_5, ne_ll_2_0, ne_ll_2_1, ne_ll_2_3, ne_ll_2_4, ne_ll_2_5, ne_ll_3_0, ne_ll_3_1, ne_ll_3_2, ne_ll_3_4, ne_ll_3_5, ne_ll_4_0, ne_ll_4_1, ne_ll_4_2, ne_ll_4_3, ne_ll_4_5, ne_ll_5_0, ne_ll_5_1, ne_ll_5_2, ne_ll_5_3, ne_ll_5_4, ↓reduceIte]; exact l4
    · simp only [hget_hset, ne_ll_0_1, ne_ll_0_2, ne_ll_0_3, ne_ll_0_4, ne_ll_0_5, ne_ll_1_0, ne_ll_1_2, ne_ll_1_3, ne_ll_1_4, ne_ll_1_5, ne_ll_2_0, ne_ll_2_1, ne_ll_2_3, ne_ll_2_4, ne_ll_2_5, ne_ll_3_0, ne_ll_3_1, ne_ll_3_2, ne_ll_3_4, ne_ll_3_5, ne_ll_4_0, ne_ll_4_1, ne_ll_4_2, ne_ll_4_3, ne_ll_4_5, ne_ll_5_0, ne_ll_5_1, ne_ll_5_2, ne_ll_5_3, ne_ll_5_4, ↓reduceIte]; exact l5
    · rw [hget_ne (by omega), hget_ne (by omega), hget_ne (by omega), hget_ne (by omega)]
  · rename_i n6
    have e : adP K k s v = K := if_neg n6
    rw [e] at hQ
    simp only [eX1_addPlace_49, pe_vret, hget_hset, ia_l, ia_s, vin, opl, onl, Int32.reduceLT, Int32.reduceLE, Int32.reduceAdd, Int32.reduceSub, Nat.reduceLT, Nat.reduceAdd, Nat.reduceEqDiff, ↓reduceIte, true_and, and_true, List.length_nil, List.length_cons, Nat.reduceLeDiff, Nat.zero_le]
    exact hQ G hl (fun _ _ => rfl)
set_option maxRecDepth 100000 in
theorem sp_addDitch {a b k : Int32} (hl : isL G l K) (hQ : ∀ G', isL G' l (adD K a b k) → fr G G' l (l + 6) → Q none G') : pcal (d + 3) 13 [.ref l, .int a, .int b, .int k] G Q := by
  obtain ⟨l0, l1, l2, l3, l4, l5, l6, l7⟩ := id hl
  have ne_ll_0_1 : ¬ (l = l + 1) := by omega
  have ne_ll_0_2 : ¬ (l = l + 2) := by omega
  have ne_ll_0_3 : ¬ (l = l + 3) := by omega
  have ne_ll_0_4 : ¬ (l = l + 4) := by omega
  have ne_ll_0_5 : ¬ (l = l + 5) := by omega
  have ne_ll_1_0 : ¬ (l + 1 = l) := by omega
  have ne_ll_1_2 : ¬ (l + 1 = l + 2) := by omega
  have ne_ll_1_3 : ¬ (l + 1 = l + 3) := by omega
  have ne_ll_1_4 : ¬ (l + 1 = l + 4) := by omega
  have ne_ll_1_5 : ¬ (l + 1 = l + 5) := by omega
  have ne_ll_2_0 : ¬ (l + 2 = l) := by omega
  have ne_ll_2_1 : ¬ (l + 2 = l + 1) := by omega
  have ne_ll_2_3 : ¬ (l + 2 = l + 3) := by omega
  have ne_ll_2_4 : ¬ (l + 2 = l + 4) := by omega
  have ne_ll_2_5 : ¬ (l + 2 = l + 5) := by omega
  have ne_ll_3_0 : ¬ (l + 3 = l) := by omega
  have ne_ll_3_1 : ¬ (l + 3 = l + 1) := by omega
  have ne_ll_3_2 : ¬ (l + 3 = l + 2) := by omega
  have ne_ll_3_4 : ¬ (l + 3 = l + 4) := by omega
  have ne_ll_3_5 : ¬ (l + 3 = l + 5) := by omega
  have ne_ll_4_0 : ¬ (l + 4 = l) := by omega
  have ne_ll_4_1 : ¬ (l + 4 = l + 1) := by omega
  have ne_ll_4_2 : ¬ (l + 4 = l + 2) := by omega
  have ne_ll_4_3 : ¬ (l + 4 = l + 3) := by omega
  have ne_ll_4_5 : ¬ (l + 4 = l + 5) := by omega
  have ne_ll_5_0 : ¬ (l + 5 = l) := by omega
  have ne_ll_5_1 : ¬ (l + 5 = l + 1) := by omega
  have ne_ll_5_2 : ¬ (l + 5 = l + 2) := by omega
  have ne_ll_5_3 : ¬ (l + 5 = l + 3) := by omega
  have ne_ll_5_4 : ¬ (l + 5 = l + 4) := by omega
  have em : (nI K.m < 6) = (K.m < 6) := by
    apply propext
    exact nI_ltI (b := 6) (by omega) (by omega)
  have no : ¬ (K.m < 6 ∧ dT K a b = true) → pr (d + 2) 13 (G.1 + 0, G.2.1 + 0) Q 63 [some (.ref l), some (.int a), some (.int b), some (.int k)] [] G := by
    intro z
    rw [adD, if_neg z] at hQ
    simp only [eX1_addDitch_63, pe_vret, hget_hset, ia_l, ia_s, vin, opl, onl, Int32.reduceLT, Int32.reduceLE, Int32.reduceAdd, Int32.reduceSub, Nat.reduceLT, Nat.reduceAdd, Nat.reduceEqDiff, ↓reduceIte, true_and, and_true, List.length_nil, List.length_cons, Nat.reduceLeDiff, Nat.zero_le]
    exact hQ G hl (fun _ _ => rfl)
  refine inX1_addDitch ?_
  simp only [eX1_addDitch_0, eX1_addDitch_1, eX1_addDitch_4, eX1_addDitch_6, pe_aload_0, pe_const, pe_getf, pe_iclt, l0, ld_g0, ld_g1, ld_g2, ld_g3, ld_g4, ld_g5, ld_g6, ld_g7, ld_p5, ld_p6, ld_p7, ld_o, em, hget_hset, ia_l, ia_s, vin, opl, onl, Int32.reduceLT, Int32.reduceLE, Int32.reduceAdd, Int32.reduceSub, Nat.reduceLT, Nat.reduceAdd, Nat.reduceEqDiff, ↓reduceIte, true_and, and_true, List.length_nil, List.length_cons, Nat.reduceLeDiff, Nat.zero_le]
  split
  · rename_i m6
    obtain ⟨c1, c2, c3⟩ := ni6 m6
    simp only [eX1_addDitch_9, eX1_addDitch_10, eX1_addDitch_11, eX1_addDitch_12, pe_aload_0, pe_callV_2, pe_iload_1, pe_iload_2, l0, ld_g0, ld_g1, ld_g2, ld_g3, ld_g4, ld_g5, ld_g6, ld_g7, ld_p5, ld_p6, ld_p7, ld_o, hget_hset, ia_l, ia_s, vin, opl, onl, Int32.reduceLT, Int32.reduceLE, Int32.reduceAdd, Int32.reduceSub, Nat.reduceLT, Nat.reduceAdd, Nat.reduceEqDiff, ↓reduceIte, true_and, and_true, List.length_nil, List.length_cons, Nat.reduceLeDiff, Nat.zero_le]
    refine sp_canDigTo hl ?_
    simp only [eX1_addDitch_15, pe_ifeq, zB_0, hget_hset, ia_l, ia_s, vin, opl, onl, Int32.reduceLT, Int32.reduceLE, Int32.reduceAdd, Int32.reduceSub, Nat.reduceLT, Nat.reduceAdd, Nat.reduceEqDiff, ↓reduceIte, true_and, and_true, List.length_nil, List.length_cons, Nat.reduceLeDiff, Nat.zero_le]
    split
    · rename_i u
      exact no (fun z => by rw [u] at z; exact absurd z.2 (by decide))
    · rename_i u
      have e : adD K a b k = (K.kd, K.st, K.ms, upd K.fm K.m a, upd K.tt K.m b, K.oa ||| k <<< (nI K.m &&& 31), K.n, K.m + 1) := if_pos ⟨m6, nt u⟩
      rw [e] at hQ
      simp only [eX1_addDitch_18, eX1_addDitch_19, eX1_addDitch_22, eX1_addDitch_23, eX1_addDitch_26, eX1_addDitch_27, eX1_addDitch_28, eX1_addDitch_29, eX1_addDitch_32, eX1_addDitch_33, eX1_addDitch_36, eX1_addDitch_37, eX1_addDitch_38, eX1_addDitch_39, eX1_addDitch_40, eX1_addDitch_43, eX1_addDitch_44, eX1_addDitch_45, eX1_addDitch_48, eX1_addDitch_49, eX1_addDitch_50, eX1_addDitch_53, eX1_addDitch_54, eX1_addDitch_55, eX1_addDitch_58, eX1_addDitch_59, eX1_addDitch_60, eX1_addDitch_63, pe_aload_0, pe_bin, pe_const, pe_dup_i, pe_dup_r, pe_getf, pe_iast, pe_iload_1, pe_iload_2, pe_iload_3, pe_putf, pe_vret, l0, l4, l5, ld_g0, ld_g1, ld_g2, ld_g3, ld_g4, ld_g5, ld_g6, ld_g7, ld_p5, ld_p6, ld_p7, ld_o, c1, c2, m6, nisw, ne_ll_0_1, ne_ll_0_2, ne_ll_0_3, ne_ll_0_4, ne_ll_0_5, ne_ll_1_0, ne_ll_1_2, ne_ll_1_3, ne_ll_1_4, ne_ll_1_5, ne_ll_2_0, ne_ll_2_1, ne_ll_2_3, ne_ll_2_4, ne_ll_2_5, ne_ll_3_0, ne_ll_3_1, ne_ll_3_2, ne_ll_3_4, ne_ll_3_5, ne_ll_4_0, ne_ll_4_1, ne_ll_4_2, ne_ll_4_3, ne_ll_4_5, ne_ll_5_0, ne_ll_5_1, ne_ll_5_2, ne_ll_5_3, ne_ll_5_4, hget_hset, ia_l, ia_s, vin, opl, onl, Int32.reduceLT, Int32.reduceLE, Int32.reduceAdd, Int32.reduceSub, Nat.reduceLT, Nat.reduceAdd, Nat.reduceEqDiff, ↓reduceIte, true_and, and_true, List.length_nil, List.length_cons, Nat.reduceLeDiff, Nat.zero_le]
      refine hQ _ ⟨?_, ?_, ?_, ?_, ?_, ?_, l6, by show K.m + 1 ≤ 6; omega⟩ (fun k hk => ?_)
      · simp only [hget_hset, ↓reduceIte]
      · simp only [hget_hset, ne_ll_0_1, ne_ll_0_2, ne_ll_0_3, ne_ll_0_4, ne_ll_0_5, ne_ll_1_0, ne_ll_1_2, ne_ll_1_3, ne_ll_1_4, ne_ll_1_5, ne_ll_2_0, ne_ll_2_1, ne_ll_2_3, ne_ll_2_4, ne_ll_2_5, ne_ll_3_0, ne_ll_3_1, ne_ll_3_2, ne_ll_3_4, ne_ll_3_5, ne_ll_4_0, ne_ll_4_1, ne_ll_4_2, ne_ll_4_3, ne_ll_4_5, ne_ll_5_0, ne_ll_5_1, ne_ll_5_2, ne_ll_5_3, ne_ll_5_4, ↓reduceIte]; exact l1
      · simp only [hget_hset, ne_ll_0_1, ne_ll_0_2, ne_ll_0_3, ne_ll_0_4, ne_ll_0_5, ne_ll_1_0, ne_ll_1_2, ne_ll_1_3, ne_ll_1_4, ne_ll_1_5, ne_ll_2_0, ne_ll_2_1, ne_ll_2_3, ne_ll_2_4, ne_ll_2_5, ne_ll_3_0, ne_ll_3_1, ne_ll_3_2, ne_ll_3_4, ne_ll_3_5, ne_ll_4_0, ne_ll_4_1, ne_ll_4_2, ne_ll_4_3, ne_ll_4_5, ne_ll_5_0, ne_ll_5_1, ne_ll_5_2, ne_ll_5_3, ne_ll_5_4, ↓reduceIte]; exact l2
      · simp only [hget_hset, ne_ll_0_1, ne_ll_0_2, ne_ll_0_3, ne_ll_0_4, ne_ll_0_5, ne_ll_1_0, ne_ll_1_2, ne_ll_1_3, ne_ll_1_4, ne_ll_1_5, ne_ll_2_0, ne_ll_2_1, ne_ll_2_3, ne_ll_2_4, ne_ll_2_5, ne_ll_3_0, ne_ll_3_1, ne_ll_3_2, ne_ll_3_4, ne_ll_3_5, ne_ll_4_0, ne_ll_4_1, ne_ll_4_2, ne_ll_4_3, ne_ll_4_5, ne_ll_5_0, ne_ll_5_1, ne_ll_5_2, ne_ll_5_3, ne_ll_5_4, ↓reduceIte]; exact l3
      · simp only [hget_hset, ne_ll_0_1, ne_ll_0_2, ne_ll_0_3, ne_ll_0_4, ne_ll_0_5, ne_ll_1_0, ne_ll_1_2, ne_ll_1_3, ne_ll_1_4, ne_ll_1_5, ne_ll_2_0, ne_ll_2_1, ne_ll_2_3, ne_ll_2_4, ne_ll_2_5, ne_ll_3_0, ne_ll_3_1, ne_ll_3_2, ne_ll_3_4, ne_ll_3_5, ne_ll_4_0, ne_ll_4_1, ne_ll_4_2, ne_ll_4_3, ne_ll_4_5, ne_ll_5_0, ne_ll_5_1, ne_ll_5_2, ne_ll_5_3, ne_ll_5_4, ↓reduceIte]
      · simp only [hget_hset, ne_ll_0_1, ne_ll_0_2, ne_ll_0_3, ne_ll_0_4, ne_ll_0_5, ne_ll_1_0, ne_ll_1_2, ne_ll_1_3, ne_ll_1_4, ne_ll_1_5, ne_ll_2_0, ne_ll_2_1, ne_ll_2_3, ne_ll_2_4, ne_ll_2_5, ne_ll_3_0, ne_ll_3_1, ne_ll_3_2, ne_ll_3_4, ne_ll_3_5, ne_ll_4_0, ne_ll_4_1, ne_ll_4_2, ne_ll_4_3, ne_ll_4_5, ne_ll_5_0, ne_ll_5_1, ne_ll_5_2, ne_ll_5_3, ne_ll_5_4, ↓reduceIte]
      · rw [hget_ne (by omega), hget_ne (by omega), hget_ne (by omega), hget_ne (by omega)]
  · rename_i m6
    exact no (fun z => m6 z.1)
end CL
