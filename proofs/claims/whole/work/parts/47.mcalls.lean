/-! ===== the reference: calls that try turnings ===== -/
theorem iN_hr (h : Int32) : iN 0 12 h = aHr h := by
  unfold iN aHr
  by_cases c1 : h < 0
  · have : ¬ 0 ≤ h := Int32.not_le.mpr c1
    simp [c1, this]
  · have : 0 ≤ h := Int32.not_lt.mp c1
    by_cases c2 : 12 < h
    · have c3 : ¬ h ≤ 12 := Int32.not_le.mpr c2
      simp [c2, c3]
    · have c3 : h ≤ 12 := Int32.not_lt.mp c2
      simp [c1, c2, c3, this]
theorem iN_f {a b x : Int32} : (iN a b x = false) = (x < a ∨ b < x) := by
  unfold iN
  apply propext
  constructor
  · intro h
    by_cases c1 : x < a
    · exact Or.inl c1
    · by_cases c2 : b < x
      · exact Or.inr c2
      · simp [Int32.not_lt.mp c1, Int32.not_lt.mp c2] at h
  · rintro (h | h)
    · simp [Int32.not_le.mpr h]
    · simp [Int32.not_le.mpr h]
theorem nt {b : Bool} (h : ¬ b = false) : b = true := by cases b <;> simp at h ⊢
/-- what is let go and what buckets are worth are figures -/
def vN (K : Ld) : Prop := ∀ p, p < K.n → (K.ms p).toInt ≤ 9
/-- the reference in order, with a scene in bounds -/
def oM (G : px_H) (q : Nat → Int32) (sd : Int64) (K : Ld) (t : Nat → Int32) (c o : Nat) : Prop := rM G q sd K t ∧ vK K ∧ vF K ∧ okT K c t ∧ t 18 = nI o ∧ o < 2 ^ K.m ∧ vN K
theorem oM.o64 {G : px_H} {q : Nat → Int32} {sd : Int64} {K : Ld} {t : Nat → Int32} {c o : Nat} (h : oM G q sd K t c o) : o < 64 := by
  have := (b1_2 K.m h.2.1.1.2.1).2
  have := h.2.2.2.2.2.1
  omega
/-- whoever finds a turning with a ditch left alone finds one without -/
theorem fSs_sub {K : Ld} {t : Nat → Int32} {k o i : Nat} (ho : t 18 = nI o) (o64 : o < 64) (hi : i < K.m) (hm6 : K.m ≤ 6) : ∀ u, u ≤ 64 → ¬ (fSs K t k (b1 i) u).1 = -9 → ¬ (fSs K t k 0 u).1 = -9
  | 0, _, h => absurd rfl h
  | u + 1, hu, h => by
    have ih := fSs_sub (k := k) ho o64 hi hm6 u (by omega)
    have n9 : ¬ nI u = -9 := m9_nI (by omega)
    rw [fSs, fS] at h ⊢
    by_cases c0 : (nI u ^^^ t 18) &&& (0 : Int32) = 0 ∧ bc (nI u ^^^ t 18) < (fSs K t k 0 u).2 ∧ aDo (sT K t k (nI u)) 6 = true
    · rw [if_pos c0]; exact n9
    · rw [if_neg c0]
      by_cases c1 : (nI u ^^^ t 18) &&& b1 i = 0 ∧ bc (nI u ^^^ t 18) < (fSs K t k (b1 i) u).2 ∧ aDo (sT K t k (nI u)) 6 = true
      · rcases fSs_in (K := K) (k := k) (hd := 0) ho o64 u (by omega) with ⟨r1, r2⟩ | ⟨r, r0, r1, -⟩
        · exfalso
          refine c0 ⟨Int32.and_zero, ?_, c1.2.2⟩
          rw [r2, ho, (xor64 u o (by omega) o64).1]
          exact nI_lt (b := 13) (by have := (xor64 u o (by omega) o64).2.2; omega) (by omega)
        · rw [r1]; exact m9_nI (by omega)
      · rw [if_neg c1] at h
        exact ih h
section MC
variable {d : Nat} {G : px_H} {q : Nat → Int32} {sd : Int64} {K : Ld} {t : Nat → Int32} {c o : Nat} {Q : px_Q}
set_option maxRecDepth 100000 in
theorem sp_monce {h mny : Int32} (hm : oM G q sd K t c o) (hQ : ∀ G', rM G' q sd K t → fM G G' → Q (some (.int (aOnce K t h mny))) G') : pcal (d + 7) 127 [.ref 124, .int h, .int mny] G Q := by
  have o64 := hm.o64
  obtain ⟨⟨w, hw, ht⟩, hv, hvf, hok, ho, -⟩ := id hm
  have hm6 := hv.1.2.1
  have p2 := (b1_2 K.m hm6).2
  refine inX7_once ?_
  simp only [eX7_once_0, eX7_once_1, eX7_once_2, eX7_once_3, eX7_once_6, pe_callS_3, pe_const, pe_i2l, pe_iload_1, hget_hset, ia_l, ia_s, vin, opl, onl, Int32.reduceLT, Int32.reduceLE, Int32.reduceAdd, Int32.reduceSub, Nat.reduceLT, Nat.reduceAdd, Nat.reduceEqDiff, ↓reduceIte, true_and, and_true, List.length_nil, List.length_cons, Nat.reduceLeDiff, Nat.zero_le]
  refine sp_in (a := 0) (b := 12) rfl rfl ?_
  rw [iN_hr]
  simp only [eX7_once_9, eX7_once_12, eX7_once_14, pe_const, pe_ifeq, pe_iret, zB_0, hget_hset, ia_l, ia_s, vin, opl, onl, Int32.reduceLT, Int32.reduceLE, Int32.reduceAdd, Int32.reduceSub, Nat.reduceLT, Nat.reduceAdd, Nat.reduceEqDiff, ↓reduceIte, true_and, and_true, List.length_nil, List.length_cons, Nat.reduceLeDiff, Nat.zero_le]
  split
  · rename_i u1
    have := hQ G ⟨w, hw, ht⟩ (fun _ _ _ => rfl)
    rw [aOnce, if_pos u1] at this
    exact this
  · rename_i u1
    obtain ⟨k, hk, rfl⟩ := aHr_of (nt u1)
    have hkc : (nI k).toNatClampNeg = k := nI_clamp (by omega)
    have m0 := hw.1.1
    simp only [eX7_once_15, eX7_once_16, eX7_once_17, eX7_once_19, pe_aload_0, pe_callV_2, pe_const, pe_iload_1, m0, m_o, hget_hset, ia_l, ia_s, vin, opl, onl, Int32.reduceLT, Int32.reduceLE, Int32.reduceAdd, Int32.reduceSub, Nat.reduceLT, Nat.reduceAdd, Nat.reduceEqDiff, ↓reduceIte, true_and, and_true, List.length_nil, List.length_cons, Nat.reduceLeDiff, Nat.zero_le]
    refine sp_monceBy rfl hk (Or.inl ⟨rfl, rfl⟩) hw hv hvf ht hok ho o64 ?_
    intro G1 w1 e1 e2 e3
    have fin := hQ G1 ⟨w1, e1, e2⟩ e3
    rw [aOnce, if_neg u1, hkc] at fin
    have inv := fSs_in (K := K) (k := k) (hd := 0) ho o64 (2 ^ K.m) p2
    simp only [eX7_once_22, eX7_once_23, eX7_once_24, eX7_once_26, eX7_once_29, eX7_once_31, eX7_once_47, pe_const, pe_goto, pe_iceq, pe_iload_3, pe_iret, pe_istore_3, hget_hset, ia_l, ia_s, vin, opl, onl, Int32.reduceLT, Int32.reduceLE, Int32.reduceAdd, Int32.reduceSub, Nat.reduceLT, Nat.reduceAdd, Nat.reduceEqDiff, ↓reduceIte, true_and, and_true, List.length_nil, List.length_cons, Nat.reduceLeDiff, Nat.zero_le]
    split
    · rename_i u2
      rw [if_pos u2] at fin
      exact fin
    · rename_i u2
      rw [if_neg u2] at fin
      simp only [eX7_once_34, eX7_once_35, pe_ifeq, pe_iload_2, hget_hset, ia_l, ia_s, vin, opl, onl, Int32.reduceLT, Int32.reduceLE, Int32.reduceAdd, Int32.reduceSub, Nat.reduceLT, Nat.reduceAdd, Nat.reduceEqDiff, ↓reduceIte, true_and, and_true, List.length_nil, List.length_cons, Nat.reduceLeDiff, Nat.zero_le]
      split
      · rename_i u3
        rw [if_pos u3] at fin
        simp only [eX7_once_46, eX7_once_47, pe_iload_3, pe_iret, hget_hset, ia_l, ia_s, vin, opl, onl, Int32.reduceLT, Int32.reduceLE, Int32.reduceAdd, Int32.reduceSub, Nat.reduceLT, Nat.reduceAdd, Nat.reduceEqDiff, ↓reduceIte, true_and, and_true, List.length_nil, List.length_cons, Nat.reduceLeDiff, Nat.zero_le]
        exact fin
      · rename_i u3
        rw [if_neg u3] at fin
        have z0 := e1.1.1
        simp only [eX7_once_38, eX7_once_39, eX7_once_40, pe_aload_0, pe_callV_1, pe_iload_3, z0, m_o, hget_hset, ia_l, ia_s, vin, opl, onl, Int32.reduceLT, Int32.reduceLE, Int32.reduceAdd, Int32.reduceSub, Nat.reduceLT, Nat.reduceAdd, Nat.reduceEqDiff, ↓reduceIte, true_and, and_true, List.length_nil, List.length_cons, Nat.reduceLeDiff, Nat.zero_le]
        refine sp_mturned e1 e2 ?_
        simp only [eX7_once_43, eX7_once_46, eX7_once_47, pe_goto, pe_iload_3, pe_iret, hget_hset, ia_l, ia_s, vin, opl, onl, Int32.reduceLT, Int32.reduceLE, Int32.reduceAdd, Int32.reduceSub, Nat.reduceLT, Nat.reduceAdd, Nat.reduceEqDiff, ↓reduceIte, true_and, and_true, List.length_nil, List.length_cons, Nat.reduceLeDiff, Nat.zero_le]
        rcases inv with ⟨v1, -⟩ | ⟨v, v0, v1, -⟩
        · exact absurd v1 u2
        · rw [v1, ho] at fin ⊢
          obtain ⟨x1, x2, -⟩ := xor64 v o (by omega) o64
          rw [x1] at fin
          rw [x2]
          exact fin
set_option maxRecDepth 100000 in
theorem sp_mstuck {di h : Int32} (hm : oM G q sd K t c o) (hQ : ∀ G', rM G' q sd K t → fM G G' → Q (some (.int (aStuck K t di h))) G') : pcal (d + 7) 132 [.ref 124, .int di, .int h] G Q := by
  have o64 := hm.o64
  obtain ⟨⟨w, hw, ht⟩, hv, hvf, hok, ho, om⟩ := id hm
  have hm6 := hv.1.2.1
  have p2 := (b1_2 K.m hm6).2
  have m0 := hw.1.1
  refine inX7_stuck ?_
  simp only [eX7_stuck_0, eX7_stuck_1, eX7_stuck_2, pe_aload_0, pe_callV_1, pe_iload_1, m0, m_o, hget_hset, ia_l, ia_s, vin, opl, onl, Int32.reduceLT, Int32.reduceLE, Int32.reduceAdd, Int32.reduceSub, Nat.reduceLT, Nat.reduceAdd, Nat.reduceEqDiff, ↓reduceIte, true_and, and_true, List.length_nil, List.length_cons, Nat.reduceLeDiff, Nat.zero_le]
  refine sp_isDitch hw.1 ?_
  simp only [eX7_stuck_5, eX7_stuck_8, eX7_stuck_9, eX7_stuck_10, eX7_stuck_11, eX7_stuck_12, eX7_stuck_13, eX7_stuck_16, pe_callS_3, pe_const, pe_i2l, pe_ifeq, pe_iload_2, pe_iret, zB_0, hget_hset, ia_l, ia_s, vin, opl, onl, Int32.reduceLT, Int32.reduceLE, Int32.reduceAdd, Int32.reduceSub, Nat.reduceLT, Nat.reduceAdd, Nat.reduceEqDiff, ↓reduceIte, true_and, and_true, List.length_nil, List.length_cons, Nat.reduceLeDiff, Nat.zero_le]
  split
  · rename_i u0
    have := hQ G ⟨w, hw, ht⟩ (fun _ _ _ => rfl)
    rw [aStuck, if_pos u0] at this
    exact this
  · rename_i u0
    refine sp_in (a := 0) (b := 12) rfl rfl ?_
    rw [iN_hr]
    simp only [eX7_stuck_19, eX7_stuck_22, eX7_stuck_24, pe_const, pe_ifeq, pe_iret, zB_0, hget_hset, ia_l, ia_s, vin, opl, onl, Int32.reduceLT, Int32.reduceLE, Int32.reduceAdd, Int32.reduceSub, Nat.reduceLT, Nat.reduceAdd, Nat.reduceEqDiff, ↓reduceIte, true_and, and_true, List.length_nil, List.length_cons, Nat.reduceLeDiff, Nat.zero_le]
    split
    · rename_i u1
      have := hQ G ⟨w, hw, ht⟩ (fun _ _ _ => rfl)
      rw [aStuck, if_neg u0, if_pos u1] at this
      exact this
    · rename_i u1
      obtain ⟨k, hk, rfl⟩ := aHr_of (nt u1)
      have hkc : (nI k).toNatClampNeg = k := nI_clamp (by omega)
      obtain ⟨i, hi, rfl⟩ : ∃ i, i < K.m ∧ di = nI i := by
        have := nt u0
        unfold hP at this
        simp only [Bool.and_eq_true, decide_eq_true_eq] at this
        obtain ⟨j, hj, rfl⟩ := nI_of (x := di) (Int32.not_lt.mpr this.1)
        exact ⟨j, (nI_ltI hj (by omega)).mp this.2, rfl⟩
      simp only [eX7_stuck_25, eX7_stuck_26, eX7_stuck_27, eX7_stuck_29, pe_aload_0, pe_callV_2, pe_const, pe_iload_2, m0, m_o, hget_hset, ia_l, ia_s, vin, opl, onl, Int32.reduceLT, Int32.reduceLE, Int32.reduceAdd, Int32.reduceSub, Nat.reduceLT, Nat.reduceAdd, Nat.reduceEqDiff, ↓reduceIte, true_and, and_true, List.length_nil, List.length_cons, Nat.reduceLeDiff, Nat.zero_le]
      refine sp_monceBy rfl hk (Or.inl ⟨rfl, rfl⟩) hw hv hvf ht hok ho o64 ?_
      intro G1 w1 e1 e2 e3
      have z0 := e1.1.1
      simp only [eX7_stuck_32, eX7_stuck_33, eX7_stuck_34, eX7_stuck_35, eX7_stuck_36, pe_aload_0, pe_callV_2, pe_iload_1, pe_iload_2, pe_istore_3, z0, m_o, hget_hset, ia_l, ia_s, vin, opl, onl, Int32.reduceLT, Int32.reduceLE, Int32.reduceAdd, Int32.reduceSub, Nat.reduceLT, Nat.reduceAdd, Nat.reduceEqDiff, ↓reduceIte, true_and, and_true, List.length_nil, List.length_cons, Nat.reduceLeDiff, Nat.zero_le]
      refine sp_monceBy (hd := b1 i) rfl hk (Or.inr ⟨i, hi, rfl, rfl⟩) e1 hv hvf e2 hok ho o64 ?_
      intro G2 w2 f1 f2 f3
      have y0 := f1.1.1
      have fin := hQ G2 ⟨w2, f1, f2⟩ (e3.tr f3)
      rw [aStuck, if_neg u0, if_neg u1, hkc, b1_e] at fin
      simp only [eX7_stuck_39, eX7_stuck_41, eX7_stuck_43, eX7_stuck_45, eX7_stuck_48, eX7_stuck_50, eX7_stuck_65, pe_const, pe_goto, pe_iceq, pe_iload_4, pe_iret, pe_istore_4, hget_hset, ia_l, ia_s, vin, opl, onl, Int32.reduceLT, Int32.reduceLE, Int32.reduceAdd, Int32.reduceSub, Nat.reduceLT, Nat.reduceAdd, Nat.reduceEqDiff, ↓reduceIte, true_and, and_true, List.length_nil, List.length_cons, Nat.reduceLeDiff, Nat.zero_le]
      split
      · rename_i u2
        rw [if_pos u2] at fin
        exact fin
      · rename_i u2
        rw [if_neg u2] at fin
        have i1 := fSs_in (K := K) (k := k) (hd := b1 i) ho o64 (2 ^ K.m) p2
        have i2 := fSs_in (K := K) (k := k) (hd := 0) ho o64 (2 ^ K.m) p2
        simp only [eX7_stuck_53, eX7_stuck_54, eX7_stuck_56, pe_aload_0, pe_callV_1, pe_iload_4, y0, m_o, hget_hset, ia_l, ia_s, vin, opl, onl, Int32.reduceLT, Int32.reduceLE, Int32.reduceAdd, Int32.reduceSub, Nat.reduceLT, Nat.reduceAdd, Nat.reduceEqDiff, ↓reduceIte, true_and, and_true, List.length_nil, List.length_cons, Nat.reduceLeDiff, Nat.zero_le]
        refine sp_mturned f1 f2 ?_
        simp only [eX7_stuck_59, eX7_stuck_60, eX7_stuck_61, pe_aload_0, pe_callV_1, pe_iload_3, y0, m_o, hget_hset, ia_l, ia_s, vin, opl, onl, Int32.reduceLT, Int32.reduceLE, Int32.reduceAdd, Int32.reduceSub, Nat.reduceLT, Nat.reduceAdd, Nat.reduceEqDiff, ↓reduceIte, true_and, and_true, List.length_nil, List.length_cons, Nat.reduceLeDiff, Nat.zero_le]
        refine sp_mturned f1 f2 ?_
        simp only [eX7_stuck_64, eX7_stuck_65, pe_bin, pe_iret, hget_hset, ia_l, ia_s, vin, opl, onl, Int32.reduceLT, Int32.reduceLE, Int32.reduceAdd, Int32.reduceSub, Nat.reduceLT, Nat.reduceAdd, Nat.reduceEqDiff, ↓reduceIte, true_and, and_true, List.length_nil, List.length_cons, Nat.reduceLeDiff, Nat.zero_le]
        rcases i1 with ⟨v1, -⟩ | ⟨v, v0, v1, -⟩
        · exact absurd v1 u2
        · have sub : ∀ a, on8 ((fSs K t k 0 (2 ^ K.m)).1 ^^^ t 18) = a → bc ((fSs K t k 0 (2 ^ K.m)).1 ^^^ t 18) = a := by
            intro a ha
            rcases i2 with ⟨r1, -⟩ | ⟨r, r0, r1, -⟩
            · exfalso
              exact fSs_sub ho o64 hi hm6 (2 ^ K.m) p2 u2 r1
            · rw [r1, ho] at ha ⊢
              obtain ⟨x1, x2, -⟩ := xor64 r o (by omega) o64
              rw [x1, ← x2]
              exact ha
          rw [sub _ rfl] at fin
          rw [v1, ho] at fin
          rw [v1, ho]
          obtain ⟨x1, x2, -⟩ := xor64 v o (by omega) o64
          rw [x1, ← x2] at fin
          exact fin
theorem i_mul9 {a b : Int32} (h1 : 0 ≤ a.toInt) (h2 : a.toInt ≤ 1000000) (h3 : 0 ≤ b.toInt) (h4 : b.toInt ≤ 9) : 0 ≤ (a * b).toInt ∧ (a * b).toInt ≤ 9000000 := by
  have h5 : a.toInt * b.toInt ≤ 1000000 * 9 := Int.mul_le_mul h2 h4 h3 (by omega)
  have h6 : 0 ≤ a.toInt * b.toInt := Int.mul_nonneg h1 h3
  have : (a * b).toInt = a.toInt * b.toInt := by
    rw [Int32.toInt_mul]
    exact Int.bmod_eq_of_le (by omega) (by omega)
  rw [this]
  omega
theorem aWo_num {K : Ld} (hv : vK K) (hn : vN K) {t : Nat → Int32} {c : Nat} (h : okT K c t) : ∀ k, k ≤ K.n → 0 ≤ (aWo K t k).toInt ∧ (aWo K t k).toInt ≤ 9000000 * k
  | 0, _ => by
    have : (aWo K t 0).toInt = 0 := i_0
    omega
  | k + 1, hk => by
    obtain ⟨h1, h2⟩ := aWo_num hv hn h k (by omega)
    have h6 := hv.1.1
    have a1 := h.2.1 k (by omega)
    have a2 := h.2.1.le (p := k) (by omega)
    have a3 := h.2.2.1
    have a4 := h.1
    have b1 := hv.2 k (by omega)
    have b2 := hn k (by omega)
    obtain ⟨m1, m2⟩ := i_mul9 a1 (by omega) b1 b2
    have e : aWo K t (k + 1) = aWo K t k + (if K.kd k = 2 then t k * K.ms k else 0) := rfl
    rw [e]
    split
    · rw [i_add h1 m1 (by omega)]; omega
    · rw [Int32.add_zero]; omega
theorem rSs_in {K : Ld} {t : Nat → Int32} {k : Nat} (hw : ∀ u, 0 ≤ (aWo K (sT K t k (nI u)) K.n).toInt) : ∀ u, u ≤ 64 → ((rSs K t k u).1 = -9 ∧ (rSs K t k u).2 = -1) ∨ (¬ (rSs K t k u).1 = -9 ∧ 0 ≤ ((rSs K t k u).2).toInt)
  | 0, _ => Or.inl ⟨rfl, rfl⟩
  | u + 1, h => by
    have ih := rSs_in hw u (by omega)
    rw [rSs, rS]
    split
    · exact Or.inr ⟨m9_nI (by omega), hw u⟩
    · exact ih
/-- the most so far, as the reference keeps it -/
def mMo (K : Ld) (t : Nat → Int32) (k u : Nat) : Int32 := if (rSs K t k u).1 = -9 then -9 else (rSs K t k u).2
set_option maxRecDepth 100000 in
theorem sp_mrichest {h : Int32} (hm : oM G q sd K t c o) (hQ : ∀ G', rM G' q sd K t → fM G G' → Q (some (.int (aRich K t h))) G') : pcal (d + 7) 129 [.ref 124, .int h] G Q := by
  have o64 := hm.o64
  obtain ⟨⟨w, hw, ht⟩, hv, hvf, hok, ho, -, hvn⟩ := id hm
  have hm6 := hv.1.2.1
  have hn6 := hv.1.1
  obtain ⟨p1, p2⟩ := b1_2 K.m hm6
  refine inX7_richest ?_
  simp only [eX7_richest_0, eX7_richest_1, eX7_richest_2, eX7_richest_3, eX7_richest_6, pe_callS_3, pe_const, pe_i2l, pe_iload_1, hget_hset, ia_l, ia_s, vin, opl, onl, Int32.reduceLT, Int32.reduceLE, Int32.reduceAdd, Int32.reduceSub, Nat.reduceLT, Nat.reduceAdd, Nat.reduceEqDiff, ↓reduceIte, true_and, and_true, List.length_nil, List.length_cons, Nat.reduceLeDiff, Nat.zero_le]
  refine sp_in (a := 0) (b := 12) rfl rfl ?_
  rw [iN_hr]
  simp only [eX7_richest_9, eX7_richest_12, eX7_richest_14, pe_const, pe_ifeq, pe_iret, zB_0, hget_hset, ia_l, ia_s, vin, opl, onl, Int32.reduceLT, Int32.reduceLE, Int32.reduceAdd, Int32.reduceSub, Nat.reduceLT, Nat.reduceAdd, Nat.reduceEqDiff, ↓reduceIte, true_and, and_true, List.length_nil, List.length_cons, Nat.reduceLeDiff, Nat.zero_le]
  split
  · rename_i u1
    have := hQ G ⟨w, hw, ht⟩ (fun _ _ _ => rfl)
    rw [aRich, if_pos u1] at this
    exact this
  · rename_i u1
    obtain ⟨k, hk, rfl⟩ := aHr_of (nt u1)
    have hkc : (nI k).toNatClampNeg = k := nI_clamp (by omega)
    rw [aRich, if_neg u1, hkc] at hQ
    have okS : ∀ u, okT K c (sT K t k (nI u)) := fun u => okT_aH hv (okT_so hok _) 0 k
    have w0 : ∀ u, 0 ≤ (aWo K (sT K t k (nI u)) K.n).toInt := fun u => (aWo_num hv hvn (okS u) K.n (Nat.le_refl _)).1
    have key : ∀ j i H w' o5, i + j = 2 ^ K.m → mW H q sd K w' → sM K w' 0 t → fM G H → pr (d + 6) 129 (G.1 + 0, G.2.1 + 0) Q 24 [some (.ref 124), some (.int (nI k)), some (.int (rSs K t k i).1), some (.int (mMo K t k i)), some (.int (nI i)), o5] [] H := by
      intro j
      induction j with
      | zero =>
        intro i H w' o5 hi k1 k2 k3
        obtain rfl : i = 2 ^ K.m := by omega
        obtain ⟨y0, -, y2, -⟩ := k1.1
        simp only [eX7_richest_24, eX7_richest_26, eX7_richest_27, eX7_richest_28, eX7_richest_31, eX7_richest_32, eX7_richest_99, eX7_richest_100, pe_aload_0, pe_bin, pe_const, pe_getf, pe_iclt, pe_iload_2, pe_iload_4, pe_iret, y0, m_g14, y2, b1_e, p1, niE, hget_hset, ia_l, ia_s, vin, opl, onl, Int32.reduceLT, Int32.reduceLE, Int32.reduceAdd, Int32.reduceSub, Nat.reduceLT, Nat.reduceAdd, Nat.reduceEqDiff, ↓reduceIte, true_and, and_true, List.length_nil, List.length_cons, Nat.reduceLeDiff, Nat.zero_le]
        exact hQ H ⟨w', k1, k2⟩ k3
      | succ j ih =>
        intro i H w' o5 hi k1 k2 k3
        obtain ⟨y0, -, y2, -⟩ := k1.1
        have c1 : nI i < nI (2 ^ K.m) := nI_lt (by omega) (by omega)
        have st : rSs K t k (i + 1) = rS K t k i (rSs K t k i) := rfl
        have inv := rSs_in w0 i (by omega)
        have n9 : ¬ nI i = -9 := m9_nI (by omega)
        rw [eX7_richest_24]
        simp only [eX7_richest_26, eX7_richest_27, eX7_richest_28, eX7_richest_31, eX7_richest_32, eX7_richest_35, eX7_richest_36, eX7_richest_38, eX7_richest_39, pe_aload_0, pe_bin, pe_callV_2, pe_const, pe_getf, pe_iclt, pe_iload_1, pe_iload_4, y0, m_g14, m_o, y2, b1_e, p1, c1, hget_hset, ia_l, ia_s, vin, opl, onl, Int32.reduceLT, Int32.reduceLE, Int32.reduceAdd, Int32.reduceSub, Nat.reduceLT, Nat.reduceAdd, Nat.reduceEqDiff, ↓reduceIte, true_and, and_true, List.length_nil, List.length_cons, Nat.reduceLeDiff, Nat.zero_le]
        refine sp_mrun rfl hk k1 hv hvf k2 hok ?_
        intro G1 w1 e1 e2 e3 e4 e5
        have z0 := e1.1.1
        simp only [eX7_richest_42, eX7_richest_43, eX7_richest_44, pe_aload_0, pe_callV_1, pe_const, z0, m_o, hget_hset, ia_l, ia_s, vin, opl, onl, Int32.reduceLT, Int32.reduceLE, Int32.reduceAdd, Int32.reduceSub, Nat.reduceLT, Nat.reduceAdd, Nat.reduceEqDiff, ↓reduceIte, true_and, and_true, List.length_nil, List.length_cons, Nat.reduceLeDiff, Nat.zero_le]
        refine sp_mdoes (L := 1) rfl (by omega) e1.1 e1.2.1 e3 ?_
        rw [aDo_n hn6 (okS i)]
        have fin : ∀ b : Bool, (b = true ↔ (aDo (sT K t k (nI i)) 6 = true ∧ (rSs K t k i).2 < aWo K (sT K t k (nI i)) K.n)) → pr (d + 6) 129 (G.1 + 0, G.2.1 + 0) Q 64 [some (.ref 124), some (.int (nI k)), some (.int (rSs K t k i).1), some (.int (mMo K t k i)), some (.int (nI i)), o5] [.int (zB b)] G1 := by
          intro b hb
          cases b with
          | false =>
            simp only [eX7_richest_64, eX7_richest_66, eX7_richest_68, eX7_richest_71, eX7_richest_73, eX7_richest_76, eX7_richest_77, eX7_richest_78, eX7_richest_80, eX7_richest_91, eX7_richest_92, eX7_richest_93, eX7_richest_96, pe_goto, pe_ifeq, pe_iinc_4, pe_iload_2, pe_iload_3, pe_iload_4, pe_iload_5, pe_istore_2, pe_istore_3, pe_istore_5, zB, Bool.false_eq_true, nisw, hget_hset, ia_l, ia_s, vin, opl, onl, Int32.reduceLT, Int32.reduceLE, Int32.reduceAdd, Int32.reduceSub, Nat.reduceLT, Nat.reduceAdd, Nat.reduceEqDiff, ↓reduceIte, true_and, and_true, List.length_nil, List.length_cons, Nat.reduceLeDiff, Nat.zero_le]
            have e : rSs K t k (i + 1) = rSs K t k i := by rw [st, rS, if_neg (fun z => absurd (hb.mpr z) (by decide))]
            have e' : mMo K t k (i + 1) = mMo K t k i := by unfold mMo; rw [e]
            rw [← e, ← e']
            exact ih (i + 1) G1 w1 _ (by omega) e1 e2 (k3.tr e5)
          | true =>
            simp only [eX7_richest_64, eX7_richest_66, eX7_richest_68, eX7_richest_71, eX7_richest_73, eX7_richest_76, eX7_richest_77, eX7_richest_78, eX7_richest_80, eX7_richest_83, eX7_richest_84, eX7_richest_85, pe_aload_0, pe_callV_1, pe_const, pe_goto, pe_ifeq, pe_iload_2, pe_iload_4, pe_iload_5, pe_istore_2, pe_istore_5, zB, ie_1_0, z0, m_o, hget_hset, ia_l, ia_s, vin, opl, onl, Int32.reduceLT, Int32.reduceLE, Int32.reduceAdd, Int32.reduceSub, Nat.reduceLT, Nat.reduceAdd, Nat.reduceEqDiff, ↓reduceIte, true_and, and_true, List.length_nil, List.length_cons, Nat.reduceLeDiff, Nat.zero_le]
            refine sp_mworth (L := 1) rfl (by omega) e1.1 e1.2.1 e3 ?_
            simp only [eX7_richest_88, eX7_richest_91, eX7_richest_92, eX7_richest_93, eX7_richest_96, pe_goto, pe_iinc_4, pe_iload_3, pe_istore_3, nisw, hget_hset, ia_l, ia_s, vin, opl, onl, Int32.reduceLT, Int32.reduceLE, Int32.reduceAdd, Int32.reduceSub, Nat.reduceLT, Nat.reduceAdd, Nat.reduceEqDiff, ↓reduceIte, true_and, and_true, List.length_nil, List.length_cons, Nat.reduceLeDiff, Nat.zero_le]
            have e : rSs K t k (i + 1) = (nI i, aWo K (sT K t k (nI i)) K.n) := by rw [st, rS, if_pos (hb.mp rfl)]
            have ea : (rSs K t k (i + 1)).1 = nI i := by rw [e]
            have e' : mMo K t k (i + 1) = aWo K (sT K t k (nI i)) K.n := by unfold mMo; rw [e]; exact if_neg n9
            rw [← e', ← ea]
            exact ih (i + 1) G1 w1 _ (by omega) e1 e2 (k3.tr e5)
        by_cases dd : aDo (sT K t k (nI i)) 6 = true
        · simp only [eX7_richest_47, eX7_richest_50, eX7_richest_51, eX7_richest_52, pe_aload_0, pe_callV_1, pe_const, pe_ifeq, dd, zB, ie_1_0, z0, m_o, hget_hset, ia_l, ia_s, vin, opl, onl, Int32.reduceLT, Int32.reduceLE, Int32.reduceAdd, Int32.reduceSub, Nat.reduceLT, Nat.reduceAdd, Nat.reduceEqDiff, ↓reduceIte, true_and, and_true, List.length_nil, List.length_cons, Nat.reduceLeDiff, Nat.zero_le]
          refine sp_mworth (L := 1) rfl (by omega) e1.1 e1.2.1 e3 ?_
          simp only [eX7_richest_55, eX7_richest_56, eX7_richest_59, eX7_richest_60, eX7_richest_63, pe_const, pe_goto, pe_icgt, pe_iload_3, hget_hset, ia_l, ia_s, vin, opl, onl, Int32.reduceLT, Int32.reduceLE, Int32.reduceAdd, Int32.reduceSub, Nat.reduceLT, Nat.reduceAdd, Nat.reduceEqDiff, ↓reduceIte, true_and, and_true, List.length_nil, List.length_cons, Nat.reduceLeDiff, Nat.zero_le]
          have cmp : mMo K t k i < aWo K (sT K t k (nI i)) K.n ↔ (rSs K t k i).2 < aWo K (sT K t k (nI i)) K.n := by
            unfold mMo
            rcases inv with ⟨v1, v2⟩ | ⟨v1, v2⟩
            · rw [if_pos v1, v2, i_lt, i_lt]
              have a9 : (-9 : Int32).toInt = -9 := by decide
              have a1 : (-1 : Int32).toInt = -1 := by decide
              have := w0 i
              omega
            · rw [if_neg v1]
          split
          · rename_i z
            exact fin true ⟨fun _ => ⟨dd, cmp.mp z⟩, fun _ => rfl⟩
          · rename_i z
            exact fin false ⟨fun y => absurd y (by decide), fun y => absurd (cmp.mpr y.2) z⟩
        · have dd' : aDo (sT K t k (nI i)) 6 = false := by simpa using dd
          simp only [eX7_richest_47, eX7_richest_63, pe_const, pe_ifeq, dd', zB, Bool.false_eq_true, hget_hset, ia_l, ia_s, vin, opl, onl, Int32.reduceLT, Int32.reduceLE, Int32.reduceAdd, Int32.reduceSub, Nat.reduceLT, Nat.reduceAdd, Nat.reduceEqDiff, ↓reduceIte, true_and, and_true, List.length_nil, List.length_cons, Nat.reduceLeDiff, Nat.zero_le]
          exact fin false ⟨fun y => absurd y (by decide), fun y => absurd y.1 dd⟩
    simp only [eX7_richest_15, eX7_richest_17, eX7_richest_18, eX7_richest_20, eX7_richest_21, eX7_richest_22, pe_const, pe_istore_2, pe_istore_3, pe_istore_4, hget_hset, ia_l, ia_s, vin, opl, onl, Int32.reduceLT, Int32.reduceLE, Int32.reduceAdd, Int32.reduceSub, Nat.reduceLT, Nat.reduceAdd, Nat.reduceEqDiff, ↓reduceIte, true_and, and_true, List.length_nil, List.length_cons, Nat.reduceLeDiff, Nat.zero_le]
    exact key (2 ^ K.m) 0 G w _ (by omega) hw ht (fun _ _ _ => rfl)
set_option maxRecDepth 100000 in
theorem sp_mfree {di h : Int32} (hm : oM G q sd K t c o) (hQ : ∀ G', rM G' q sd K t → fM G G' → Q (some (.int (aFree K t di h))) G') : pcal (d + 7) 131 [.ref 124, .int di, .int h] G Q := by
  have o64 := hm.o64
  obtain ⟨⟨w, hw, ht⟩, hv, hvf, hok, ho, -, hvn⟩ := id hm
  have hm6 := hv.1.2.1
  have hn6 := hv.1.1
  obtain ⟨p1, p2⟩ := b1_2 K.m hm6
  have m0 := hw.1.1
  refine inX7_free ?_
  simp only [eX7_free_0, eX7_free_1, eX7_free_2, pe_aload_0, pe_callV_1, pe_iload_1, m0, m_o, hget_hset, ia_l, ia_s, vin, opl, onl, Int32.reduceLT, Int32.reduceLE, Int32.reduceAdd, Int32.reduceSub, Nat.reduceLT, Nat.reduceAdd, Nat.reduceEqDiff, ↓reduceIte, true_and, and_true, List.length_nil, List.length_cons, Nat.reduceLeDiff, Nat.zero_le]
  refine sp_isDitch hw.1 ?_
  simp only [eX7_free_5, eX7_free_8, eX7_free_9, eX7_free_10, eX7_free_11, eX7_free_12, eX7_free_13, eX7_free_16, pe_callS_3, pe_const, pe_i2l, pe_ifeq, pe_iload_2, pe_iret, zB_0, hget_hset, ia_l, ia_s, vin, opl, onl, Int32.reduceLT, Int32.reduceLE, Int32.reduceAdd, Int32.reduceSub, Nat.reduceLT, Nat.reduceAdd, Nat.reduceEqDiff, ↓reduceIte, true_and, and_true, List.length_nil, List.length_cons, Nat.reduceLeDiff, Nat.zero_le]
  split
  · rename_i u0
    have := hQ G ⟨w, hw, ht⟩ (fun _ _ _ => rfl)
    rw [aFree, if_pos u0] at this
    exact this
  · rename_i u0
    refine sp_in (a := 0) (b := 12) rfl rfl ?_
    rw [iN_hr]
    simp only [eX7_free_19, eX7_free_22, eX7_free_24, pe_const, pe_ifeq, pe_iret, zB_0, hget_hset, ia_l, ia_s, vin, opl, onl, Int32.reduceLT, Int32.reduceLE, Int32.reduceAdd, Int32.reduceSub, Nat.reduceLT, Nat.reduceAdd, Nat.reduceEqDiff, ↓reduceIte, true_and, and_true, List.length_nil, List.length_cons, Nat.reduceLeDiff, Nat.zero_le]
    split
    · rename_i u1
      have := hQ G ⟨w, hw, ht⟩ (fun _ _ _ => rfl)
      rw [aFree, if_neg u0, if_pos u1] at this
      exact this
    · rename_i u1
      obtain ⟨k, hk, rfl⟩ := aHr_of (nt u1)
      have hkc : (nI k).toNatClampNeg = k := nI_clamp (by omega)
      rw [aFree, if_neg u0, if_neg u1, hkc] at hQ
      have okS : ∀ u, okT K c (sT K t k (nI u)) := fun u => okT_aH hv (okT_so hok _) 0 k
      have key : ∀ j i H w', i + j = 2 ^ K.m → mW H q sd K w' → sM K w' 0 t → fM G H → pr (d + 6) 131 (G.1 + 0, G.2.1 + 0) Q 30 [some (.ref 124), some (.int di), some (.int (nI k)), some (.int (cS K t k di i)), some (.int (nI i))] [] H := by
        intro j
        induction j with
        | zero =>
          intro i H w' hi k1 k2 k3
          obtain rfl : i = 2 ^ K.m := by omega
          obtain ⟨y0, -, y2, -⟩ := k1.1
          simp only [eX7_free_30, eX7_free_32, eX7_free_33, eX7_free_34, eX7_free_37, eX7_free_38, eX7_free_79, eX7_free_80, pe_aload_0, pe_bin, pe_const, pe_getf, pe_iclt, pe_iload_3, pe_iload_4, pe_iret, y0, m_g14, y2, b1_e, p1, niE, hget_hset, ia_l, ia_s, vin, opl, onl, Int32.reduceLT, Int32.reduceLE, Int32.reduceAdd, Int32.reduceSub, Nat.reduceLT, Nat.reduceAdd, Nat.reduceEqDiff, ↓reduceIte, true_and, and_true, List.length_nil, List.length_cons, Nat.reduceLeDiff, Nat.zero_le]
          exact hQ H ⟨w', k1, k2⟩ k3
        | succ j ih =>
          intro i H w' hi k1 k2 k3
          obtain ⟨y0, -, y2, -⟩ := k1.1
          have c1 : nI i < nI (2 ^ K.m) := nI_lt (by omega) (by omega)
          have st : cS K t k di (i + 1) = if nI i >>> (di &&& 31) &&& 1 = 1 then cS K t k di i + (if aDo (sT K t k (nI i)) 6 = true then 1 else 0) else cS K t k di i := rfl
          rw [eX7_free_30]
          simp only [eX7_free_32, eX7_free_33, eX7_free_34, eX7_free_37, eX7_free_38, eX7_free_41, eX7_free_42, eX7_free_44, eX7_free_45, pe_aload_0, pe_bin, pe_callV_2, pe_const, pe_getf, pe_iclt, pe_iload_2, pe_iload_4, y0, m_g14, m_o, y2, b1_e, p1, c1, hget_hset, ia_l, ia_s, vin, opl, onl, Int32.reduceLT, Int32.reduceLE, Int32.reduceAdd, Int32.reduceSub, Nat.reduceLT, Nat.reduceAdd, Nat.reduceEqDiff, ↓reduceIte, true_and, and_true, List.length_nil, List.length_cons, Nat.reduceLeDiff, Nat.zero_le]
          refine sp_mrun rfl hk k1 hv hvf k2 hok ?_
          intro G1 w1 e1 e2 e3 e4 e5
          have z0 := e1.1.1
          have go : ∀ v, v = cS K t k di (i + 1) → pr (d + 6) 131 (G.1 + 0, G.2.1 + 0) Q 30 [some (.ref 124), some (.int di), some (.int (nI k)), some (.int v), some (.int (nI (i + 1)))] [] G1 := by
            intro v hv'
            rw [hv']
            exact ih (i + 1) G1 w1 (by omega) e1 e2 (k3.tr e5)
          simp only [eX7_free_48, eX7_free_49, eX7_free_51, eX7_free_52, pe_callS_2, pe_iload_1, pe_iload_3, pe_iload_4, hget_hset, ia_l, ia_s, vin, opl, onl, Int32.reduceLT, Int32.reduceLE, Int32.reduceAdd, Int32.reduceSub, Nat.reduceLT, Nat.reduceAdd, Nat.reduceEqDiff, ↓reduceIte, true_and, and_true, List.length_nil, List.length_cons, Nat.reduceLeDiff, Nat.zero_le]
          refine sp_has ?_
          by_cases b : nI i >>> (di &&& 31) &&& 1 = 1
          · rw [if_pos b] at st
            simp only [eX7_free_55, eX7_free_58, eX7_free_59, eX7_free_60, pe_aload_0, pe_callV_1, pe_const, pe_ifeq, b, decide_true, zB, ie_1_0, z0, m_o, hget_hset, ia_l, ia_s, vin, opl, onl, Int32.reduceLT, Int32.reduceLE, Int32.reduceAdd, Int32.reduceSub, Nat.reduceLT, Nat.reduceAdd, Nat.reduceEqDiff, ↓reduceIte, true_and, and_true, List.length_nil, List.length_cons, Nat.reduceLeDiff, Nat.zero_le]
            refine sp_mdoes (L := 1) rfl (by omega) e1.1 e1.2.1 e3 ?_
            rw [aDo_n hn6 (okS i)]
            by_cases dd : aDo (sT K t k (nI i)) 6 = true
            · rw [if_pos dd] at st
              simp only [eX7_free_63, eX7_free_66, eX7_free_67, eX7_free_70, eX7_free_71, eX7_free_72, eX7_free_73, eX7_free_76, pe_bin, pe_const, pe_goto, pe_ifeq, pe_iinc_4, pe_istore_3, dd, zB, ie_1_0, nisw, hget_hset, ia_l, ia_s, vin, opl, onl, Int32.reduceLT, Int32.reduceLE, Int32.reduceAdd, Int32.reduceSub, Nat.reduceLT, Nat.reduceAdd, Nat.reduceEqDiff, ↓reduceIte, true_and, and_true, List.length_nil, List.length_cons, Nat.reduceLeDiff, Nat.zero_le]
              exact go _ st.symm
            · rw [if_neg dd] at st
              have dd' : aDo (sT K t k (nI i)) 6 = false := by simpa using dd
              simp only [eX7_free_63, eX7_free_66, eX7_free_67, eX7_free_70, eX7_free_71, eX7_free_72, eX7_free_73, eX7_free_76, pe_bin, pe_const, pe_goto, pe_ifeq, pe_iinc_4, pe_istore_3, dd', zB, Bool.false_eq_true, nisw, hget_hset, ia_l, ia_s, vin, opl, onl, Int32.reduceLT, Int32.reduceLE, Int32.reduceAdd, Int32.reduceSub, Nat.reduceLT, Nat.reduceAdd, Nat.reduceEqDiff, ↓reduceIte, true_and, and_true, List.length_nil, List.length_cons, Nat.reduceLeDiff, Nat.zero_le]
              exact go _ st.symm
          · rw [if_neg b] at st
            simp only [eX7_free_55, eX7_free_70, eX7_free_71, eX7_free_72, eX7_free_73, eX7_free_76, pe_bin, pe_const, pe_goto, pe_ifeq, pe_iinc_4, pe_istore_3, b, decide_false, zB, Bool.false_eq_true, nisw, hget_hset, ia_l, ia_s, vin, opl, onl, Int32.reduceLT, Int32.reduceLE, Int32.reduceAdd, Int32.reduceSub, Nat.reduceLT, Nat.reduceAdd, Nat.reduceEqDiff, ↓reduceIte, true_and, and_true, List.length_nil, List.length_cons, Nat.reduceLeDiff, Nat.zero_le]
            exact go _ (by rw [st, Int32.add_zero])
      simp only [eX7_free_25, eX7_free_26, eX7_free_27, eX7_free_28, pe_const, pe_istore_3, pe_istore_4, hget_hset, ia_l, ia_s, vin, opl, onl, Int32.reduceLT, Int32.reduceLE, Int32.reduceAdd, Int32.reduceSub, Nat.reduceLT, Nat.reduceAdd, Nat.reduceEqDiff, ↓reduceIte, true_and, and_true, List.length_nil, List.length_cons, Nat.reduceLeDiff, Nat.zero_le]
      exact key (2 ^ K.m) 0 G w (by omega) hw ht (fun _ _ _ => rfl)
end MC
