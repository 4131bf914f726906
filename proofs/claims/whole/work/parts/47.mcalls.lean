/-! ===== the reference: calls that try turnings ===== -/
theorem iN_hr (h : Int32) : iN 0 12 h = aHr h := by
  unfold iN aHr
  by_cases c1 : h < 0
  · have : ¬ 0 ≤ h := Int32.not_le.mpr c1
    simp [c1, this]
  · have : 0 ≤ h := Int32.not_lt.mp c1
    by_cases c2 : 12 < h
    · have c3 : ¬ h ≤ 12 := Int32.not_le.mpr c2
      simp [c2, c3]
    · have c3 : h ≤ 12 := Int32.not_lt.mp c2
      simp [c1, c2, c3, this]
theorem iN_f {a b x : Int32} : (iN a b x = false) = (x < a ∨ b < x) := by
  unfold iN
  apply propext
  constructor
  · intro h
    by_cases c1 : x < a
    · exact Or.inl c1
    · by_cases c2 : b < x
      · exact Or.inr c2
      · simp [Int32.not_lt.mp c1, Int32.not_lt.mp c2] at h
  · rintro (h | h)
    · simp [Int32.not_le.mpr h]
    · simp [Int32.not_le.mpr h]
theorem nt {b : Bool} (h : ¬ b = false) : b = true := by cases b <;> simp at h ⊢
/-- the reference in order, with a scene in bounds -/
def oM (G : px_H) (q : Nat → Int32) (sd : Int64) (K : Ld) (t : Nat → Int32) (c o : Nat) : Prop := rM G q sd K t ∧ vK K ∧ vF K ∧ okT K c t ∧ t 18 = nI o ∧ o < 2 ^ K.m
theorem oM.o64 {G : px_H} {q : Nat → Int32} {sd : Int64} {K : Ld} {t : Nat → Int32} {c o : Nat} (h : oM G q sd K t c o) : o < 64 := by
  have := (b1_2 K.m h.2.1.1.2.1).2
  have := h.2.2.2.2.2
  omega
/-- whoever finds a turning with a ditch left alone finds one without -/
theorem fSs_sub {K : Ld} {t : Nat → Int32} {k o i : Nat} (ho : t 18 = nI o) (o64 : o < 64) (hi : i < K.m) (hm6 : K.m ≤ 6) : ∀ u, u ≤ 64 → ¬ (fSs K t k (b1 i) u).1 = -9 → ¬ (fSs K t k 0 u).1 = -9
  | 0, _, h => absurd rfl h
  | u + 1, hu, h => by
    have ih := fSs_sub (k := k) ho o64 hi hm6 u (by omega)
    have n9 : ¬ nI u = -9 := m9_nI (by omega)
    rw [fSs, fS] at h ⊢
    by_cases c0 : (nI u ^^^ t 18) &&& (0 : Int32) = 0 ∧ bc (nI u ^^^ t 18) < (fSs K t k 0 u).2 ∧ aDo (sT K t k (nI u)) 6 = true
    · rw [if_pos c0]; exact n9
    · rw [if_neg c0]
      by_cases c1 : (nI u ^^^ t 18) &&& b1 i = 0 ∧ bc (nI u ^^^ t 18) < (fSs K t k (b1 i) u).2 ∧ aDo (sT K t k (nI u)) 6 = true
      · rcases fSs_in (K := K) (k := k) (hd := 0) ho o64 u (by omega) with ⟨r1, r2⟩ | ⟨r, r0, r1, -⟩
        · exfalso
          refine c0 ⟨Int32.and_zero, ?_, c1.2.2⟩
          rw [r2, ho, (xor64 u o (by omega) o64).1]
          exact nI_lt (b := 13) (by have := (xor64 u o (by omega) o64).2.2; omega) (by omega)
        · rw [r1]; exact m9_nI (by omega)
      · rw [if_neg c1] at h
        exact ih h
section MC
variable {d : Nat} {G : px_H} {q : Nat → Int32} {sd : Int64} {K : Ld} {t : Nat → Int32} {c o : Nat} {Q : px_Q}
set_option maxRecDepth 100000 in
theorem sp_monce {h mny : Int32} (hm : oM G q sd K t c o) (hQ : ∀ G', rM G' q sd K t → fM G G' → Q (some (.int (aOnce K t h mny))) G') : pcal (d + 7) 127 [.ref 124, .int h, .int mny] G Q := by
  have o64 := hm.o64
  obtain ⟨⟨w, hw, ht⟩, hv, hvf, hok, ho, -⟩ := id hm
  have hm6 := hv.1.2.1
  have p2 := (b1_2 K.m hm6).2
  refine inX7_once ?_
  simp only [eX7_once_0, eX7_once_1, eX7_once_2, eX7_once_3, eX7_once_6, pe_callS_3, pe_const, pe_i2l, pe_iload_1, hget_hset, ia_l, ia_s, vin, opl, onl, Int32.reduceLT, Int32.reduceLE, Int32.reduceAdd, Int32.reduceSub, Nat.reduceLT, Nat.reduceAdd, Nat.reduceEqDiff, ↓reduceIte, true_and, and_true, List.length_nil, List.length_cons, Nat.reduceLeDiff, Nat.zero_le]
  refine sp_in (a := 0) (b := 12) rfl rfl ?_
  rw [iN_hr]
  simp only [eX7_once_9, eX7_once_12, eX7_once_14, pe_const, pe_ifeq, pe_iret, zB_0, hget_hset, ia_l, ia_s, vin, opl, onl, Int32.reduceLT, Int32.reduceLE, Int32.reduceAdd, Int32.reduceSub, Nat.reduceLT, Nat.reduceAdd, Nat.reduceEqDiff, ↓reduceIte, true_and, and_true, List.length_nil, List.length_cons, Nat.reduceLeDiff, Nat.zero_le]
  split
  · rename_i u1
    have := hQ G ⟨w, hw, ht⟩ (fun _ _ _ => rfl)
    rw [aOnce, if_pos u1] at this
    exact this
  · rename_i u1
    obtain ⟨k, hk, rfl⟩ := aHr_of (nt u1)
    have hkc : (nI k).toNatClampNeg = k := nI_clamp (by omega)
    have m0 := hw.1.1
    simp only [eX7_once_15, eX7_once_16, eX7_once_17, eX7_once_19, pe_aload_0, pe_callV_2, pe_const, pe_iload_1, m0, m_o, hget_hset, ia_l, ia_s, vin, opl, onl, Int32.reduceLT, Int32.reduceLE, Int32.reduceAdd, Int32.reduceSub, Nat.reduceLT, Nat.reduceAdd, Nat.reduceEqDiff, ↓reduceIte, true_and, and_true, List.length_nil, List.length_cons, Nat.reduceLeDiff, Nat.zero_le]
    refine sp_monceBy rfl hk (Or.inl ⟨rfl, rfl⟩) hw hv hvf ht hok ho o64 ?_
    intro G1 w1 e1 e2 e3
    have fin := hQ G1 ⟨w1, e1, e2⟩ e3
    rw [aOnce, if_neg u1, hkc] at fin
    have inv := fSs_in (K := K) (k := k) (hd := 0) ho o64 (2 ^ K.m) p2
    simp only [eX7_once_22, eX7_once_23, eX7_once_24, eX7_once_26, eX7_once_29, eX7_once_31, eX7_once_47, pe_const, pe_goto, pe_iceq, pe_iload_3, pe_iret, pe_istore_3, hget_hset, ia_l, ia_s, vin, opl, onl, Int32.reduceLT, Int32.reduceLE, Int32.reduceAdd, Int32.reduceSub, Nat.reduceLT, Nat.reduceAdd, Nat.reduceEqDiff, ↓reduceIte, true_and, and_true, List.length_nil, List.length_cons, Nat.reduceLeDiff, Nat.zero_le]
    split
    · rename_i u2
      rw [if_pos u2] at fin
      exact fin
    · rename_i u2
      rw [if_neg u2] at fin
      simp only [eX7_once_34, eX7_once_35, pe_ifeq, pe_iload_2, hget_hset, ia_l, ia_s, vin, opl, onl, Int32.reduceLT, Int32.reduceLE, Int32.reduceAdd, Int32.reduceSub, Nat.reduceLT, Nat.reduceAdd, Nat.reduceEqDiff, ↓reduceIte, true_and, and_true, List.length_nil, List.length_cons, Nat.reduceLeDiff, Nat.zero_le]
      split
      · rename_i u3
        rw [if_pos u3] at fin
        simp only [eX7_once_46, eX7_once_47, pe_iload_3, pe_iret, hget_hset, ia_l, ia_s, vin, opl, onl, Int32.reduceLT, Int32.reduceLE, Int32.reduceAdd, Int32.reduceSub, Nat.reduceLT, Nat.reduceAdd, Nat.reduceEqDiff, ↓reduceIte, true_and, and_true, List.length_nil, List.length_cons, Nat.reduceLeDiff, Nat.zero_le]
        exact fin
      · rename_i u3
        rw [if_neg u3] at fin
        have z0 := e1.1.1
        simp only [eX7_once_38, eX7_once_39, eX7_once_40, pe_aload_0, pe_callV_1, pe_iload_3, z0, m_o, hget_hset, ia_l, ia_s, vin, opl, onl, Int32.reduceLT, Int32.reduceLE, Int32.reduceAdd, Int32.reduceSub, Nat.reduceLT, Nat.reduceAdd, Nat.reduceEqDiff, ↓reduceIte, true_and, and_true, List.length_nil, List.length_cons, Nat.reduceLeDiff, Nat.zero_le]
        refine sp_mturned e1 e2 ?_
        simp only [eX7_once_43, eX7_once_46, eX7_once_47, pe_goto, pe_iload_3, pe_iret, hget_hset, ia_l, ia_s, vin, opl, onl, Int32.reduceLT, Int32.reduceLE, Int32.reduceAdd, Int32.reduceSub, Nat.reduceLT, Nat.reduceAdd, Nat.reduceEqDiff, ↓reduceIte, true_and, and_true, List.length_nil, List.length_cons, Nat.reduceLeDiff, Nat.zero_le]
        rcases inv with ⟨v1, -⟩ | ⟨v, v0, v1, -⟩
        · exact absurd v1 u2
        · rw [v1, ho] at fin ⊢
          obtain ⟨x1, x2, -⟩ := xor64 v o (by omega) o64
          rw [x1] at fin
          rw [x2]
          exact fin
set_option maxRecDepth 100000 in
theorem sp_mstuck {di h : Int32} (hm : oM G q sd K t c o) (hQ : ∀ G', rM G' q sd K t → fM G G' → Q (some (.int (aStuck K t di h))) G') : pcal (d + 7) 132 [.ref 124, .int di, .int h] G Q := by
  have o64 := hm.o64
  obtain ⟨⟨w, hw, ht⟩, hv, hvf, hok, ho, om⟩ := id hm
  have hm6 := hv.1.2.1
  have p2 := (b1_2 K.m hm6).2
  have m0 := hw.1.1
  refine inX7_stuck ?_
  simp only [eX7_stuck_0, eX7_stuck_1, eX7_stuck_2, pe_aload_0, pe_callV_1, pe_iload_1, m0, m_o, hget_hset, ia_l, ia_s, vin, opl, onl, Int32.reduceLT, Int32.reduceLE, Int32.reduceAdd, Int32.reduceSub, Nat.reduceLT, Nat.reduceAdd, Nat.reduceEqDiff, ↓reduceIte, true_and, and_true, List.length_nil, List.length_cons, Nat.reduceLeDiff, Nat.zero_le]
  refine sp_isDitch hw.1 ?_
  simp only [eX7_stuck_5, eX7_stuck_8, eX7_stuck_9, eX7_stuck_10, eX7_stuck_11, eX7_stuck_12, eX7_stuck_13, eX7_stuck_16, pe_callS_3, pe_const, pe_i2l, pe_ifeq, pe_iload_2, pe_iret, zB_0, hget_hset, ia_l, ia_s, vin, opl, onl, Int32.reduceLT, Int32.reduceLE, Int32.reduceAdd, Int32.reduceSub, Nat.reduceLT, Nat.reduceAdd, Nat.reduceEqDiff, ↓reduceIte, true_and, and_true, List.length_nil, List.length_cons, Nat.reduceLeDiff, Nat.zero_le]
  split
  · rename_i u0
    have := hQ G ⟨w, hw, ht⟩ (fun _ _ _ => rfl)
    rw [aStuck, if_pos u0] at this
    exact this
  · rename_i u0
    refine sp_in (a := 0) (b := 12) rfl rfl ?_
    rw [iN_hr]
    simp only [eX7_stuck_19, eX7_stuck_22, eX7_stuck_24, pe_const, pe_ifeq, pe_iret, zB_0, hget_hset, ia_l, ia_s, vin, opl, onl, Int32.reduceLT, Int32.reduceLE, Int32.reduceAdd, Int32.reduceSub, Nat.reduceLT, Nat.reduceAdd, Nat.reduceEqDiff, ↓reduceIte, true_and, and_true, List.length_nil, List.length_cons, Nat.reduceLeDiff, Nat.zero_le]
    split
    · rename_i u1
      have := hQ G ⟨w, hw, ht⟩ (fun _ _ _ => rfl)
      rw [aStuck, if_neg u0, if_pos u1] at this
      exact this
    · rename_i u1
      obtain ⟨k, hk, rfl⟩ := aHr_of (nt u1)
      have hkc : (nI k).toNatClampNeg = k := nI_clamp (by omega)
      obtain ⟨i, hi, rfl⟩ : ∃ i, i < K.m ∧ di = nI i := by
        have := nt u0
        unfold hP at this
        simp only [Bool.and_eq_true, decide_eq_true_eq] at this
        obtain ⟨j, hj, rfl⟩ := nI_of (x := di) (Int32.not_lt.mpr this.1)
        exact ⟨j, (nI_ltI hj (by omega)).mp this.2, rfl⟩
      simp only [eX7_stuck_25, eX7_stuck_26, eX7_stuck_27, eX7_stuck_29, pe_aload_0, pe_callV_2, pe_const, pe_iload_2, m0, m_o, hget_hset, ia_l, ia_s, vin, opl, onl, Int32.reduceLT, Int32.reduceLE, Int32.reduceAdd, Int32.reduceSub, Nat.reduceLT, Nat.reduceAdd, Nat.reduceEqDiff, ↓reduceIte, true_and, and_true, List.length_nil, List.length_cons, Nat.reduceLeDiff, Nat.zero_le]
      refine sp_monceBy rfl hk (Or.inl ⟨rfl, rfl⟩) hw hv hvf ht hok ho o64 ?_
      intro G1 w1 e1 e2 e3
      have z0 := e1.1.1
      simp only [eX7_stuck_32, eX7_stuck_33, eX7_stuck_34, eX7_stuck_35, eX7_stuck_36, pe_aload_0, pe_callV_2, pe_iload_1, pe_iload_2, pe_istore_3, z0, m_o, hget_hset, ia_l, ia_s, vin, opl, onl, Int32.reduceLT, Int32.reduceLE, Int32.reduceAdd, Int32.reduceSub, Nat.reduceLT, Nat.reduceAdd, Nat.reduceEqDiff, ↓reduceIte, true_and, and_true, List.length_nil, List.length_cons, Nat.reduceLeDiff, Nat.zero_le]
      refine sp_monceBy (hd := b1 i) rfl hk (Or.inr ⟨i, hi, rfl, rfl⟩) e1 hv hvf e2 hok ho o64 ?_
      intro G2 w2 f1 f2 f3
      have y0 := f1.1.1
      have fin := hQ G2 ⟨w2, f1, f2⟩ (e3.tr f3)
      rw [aStuck, if_neg u0, if_neg u1, hkc, b1_e] at fin
      simp only [eX7_stuck_39, eX7_stuck_41, eX7_stuck_43, eX7_stuck_45, eX7_stuck_48, eX7_stuck_50, eX7_stuck_65, pe_const, pe_goto, pe_iceq, pe_iload_4, pe_iret, pe_istore_4, hget_hset, ia_l, ia_s, vin, opl, onl, Int32.reduceLT, Int32.reduceLE, Int32.reduceAdd, Int32.reduceSub, Nat.reduceLT, Nat.reduceAdd, Nat.reduceEqDiff, ↓reduceIte, true_and, and_true, List.length_nil, List.length_cons, Nat.reduceLeDiff, Nat.zero_le]
      split
      · rename_i u2
        rw [if_pos u2] at fin
        exact fin
      · rename_i u2
        rw [if_neg u2] at fin
        have i1 := fSs_in (K := K) (k := k) (hd := b1 i) ho o64 (2 ^ K.m) p2
        have i2 := fSs_in (K := K) (k := k) (hd := 0) ho o64 (2 ^ K.m) p2
        simp only [eX7_stuck_53, eX7_stuck_54, eX7_stuck_56, pe_aload_0, pe_callV_1, pe_iload_4, y0, m_o, hget_hset, ia_l, ia_s, vin, opl, onl, Int32.reduceLT, Int32.reduceLE, Int32.reduceAdd, Int32.reduceSub, Nat.reduceLT, Nat.reduceAdd, Nat.reduceEqDiff, ↓reduceIte, true_and, and_true, List.length_nil, List.length_cons, Nat.reduceLeDiff, Nat.zero_le]
        refine sp_mturned f1 f2 ?_
        simp only [eX7_stuck_59, eX7_stuck_60, eX7_stuck_61, pe_aload_0, pe_callV_1, pe_iload_3, y0, m_o, hget_hset, ia_l, ia_s, vin, opl, onl, Int32.reduceLT, Int32.reduceLE, Int32.reduceAdd, Int32.reduceSub, Nat.reduceLT, Nat.reduceAdd, Nat.reduceEqDiff, ↓reduceIte, true_and, and_true, List.length_nil, List.length_cons, Nat.reduceLeDiff, Nat.zero_le]
        refine sp_mturned f1 f2 ?_
        simp only [eX7_stuck_64, eX7_stuck_65, pe_bin, pe_iret, hget_hset, ia_l, ia_s, vin, opl, onl, Int32.reduceLT, Int32.reduceLE, Int32.reduceAdd, Int32.reduceSub, Nat.reduceLT, Nat.reduceAdd, Nat.reduceEqDiff, ↓reduceIte, true_and, and_true, List.length_nil, List.length_cons, Nat.reduceLeDiff, Nat.zero_le]
        rcases i1 with ⟨v1, -⟩ | ⟨v, v0, v1, -⟩
        · exact absurd v1 u2
        · have sub : ∀ a, on8 ((fSs K t k 0 (2 ^ K.m)).1 ^^^ t 18) = a → bc ((fSs K t k 0 (2 ^ K.m)).1 ^^^ t 18) = a := by
            intro a ha
            rcases i2 with ⟨r1, -⟩ | ⟨r, r0, r1, -⟩
            · exfalso
              exact fSs_sub ho o64 hi hm6 (2 ^ K.m) p2 u2 r1
            · rw [r1, ho] at ha ⊢
              obtain ⟨x1, x2, -⟩ := xor64 r o (by omega) o64
              rw [x1, ← x2]
              exact ha
          rw [sub _ rfl] at fin
          rw [v1, ho] at fin
          rw [v1, ho]
          obtain ⟨x1, x2, -⟩ := xor64 v o (by omega) o64
          rw [x1, ← x2] at fin
          exact fin
end MC
