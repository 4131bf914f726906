/-! ===== chance and mean of the reference ===== -/
def wn (r D X : Nat) : Nat := X ^ pcn r * (10 - X) ^ pcn (wo D r)
theorem wt_wn {r D X : Nat} (hX : X ≤ 10) : wt r D (nI X) = nI (wn r D X) := by
  have e10 : (10 : Int32) - nI X = nI (10 - X) := nI_sb (a := 10) hX (by omega)
  rw [wt, e10, pwr_n, pwr_n]
  exact (Int32.ofNat_mul _ _).symm
/-- the weights of the sets below i -/
def tn (X D : Nat) : Nat → Nat
  | 0 => 0
  | i + 1 => tn X D i + (if wo i D = 0 then wn i D X else 0)
theorem tn_64' : ∀ D X, D < 64 → X < 64 → X ≤ 10 → tn X D 64 = 10 ^ pcn D := all64x (by decide +kernel)
theorem tn_mono {X D : Nat} : ∀ k i, tn X D i ≤ tn X D (i + k)
  | 0, i => Nat.le_refl _
  | k + 1, i => by
    have := tn_mono (X := X) (D := D) k i
    rw [← Nat.add_assoc, tn]
    omega
theorem tn_64 {X D i : Nat} (hX : X ≤ 10) (hD : D < 64) (hi : i ≤ 64) : tn X D i ≤ 1000000 := by
  have h1 := tn_mono (X := X) (D := D) (64 - i) i
  rw [show i + (64 - i) = 64 by omega, tn_64' D X hD (by omega) hX] at h1
  have h2 : 10 ^ pcn D ≤ 10 ^ 6 := Nat.pow_le_pow_right (by omega) (bcN D hD).2
  omega
theorem wn_64 {X D r : Nat} (hX : X ≤ 10) (hD : D < 64) (hr : r < 64) (h0 : wo r D = 0) : wn r D X ≤ 1000000 := by
  have h := tn_64 (i := r + 1) hX hD (by omega)
  rw [tn, if_pos h0] at h
  omega
theorem wt_0 {X D : Nat} (hX : X ≤ 10) (hD : D < 64) : ∀ r, r < 64 → wo r D = 0 → ¬ 0 < wt r D (nI X) → wt r D (nI X) = 0 := by
  intro r hr h0 hp
  have h1 := wn_64 hX hD hr h0
  rw [wt_wn hX] at hp ⊢
  by_cases z : wn r D X = 0
  · rw [z]; rfl
  · exact absurd (nI_lt (a := 0) (by omega) (by omega)) hp
theorem sm_nat {f : Nat → Int32} {B : Nat} : ∀ n, (∀ p, p < n → 0 ≤ (f p).toInt ∧ (f p).toInt ≤ B) → ∃ a, a ≤ B * n ∧ sm f n = nI a
  | 0, _ => ⟨0, by omega, rfl⟩
  | n + 1, h => by
    obtain ⟨a, h1, h2⟩ := sm_nat (f := f) n (fun p hp => h p (by omega))
    obtain ⟨h3, h4⟩ := h n (by omega)
    obtain ⟨j, hj, e⟩ := nI_of (x := f n) (fun z => by rw [i_lt, i_0] at z; omega)
    rw [e, nI_toInt hj] at h4
    refine ⟨a + j, by rw [Nat.mul_succ]; omega, ?_⟩
    rw [sm, h2, e, nI_add]
theorem aDu_nat {K : Ld} {c : Nat} {t : Nat → Int32} (h : okT K c t) : ∃ a, a ≤ 54 ∧ aDu t 6 = nI a := by
  obtain ⟨a, h1, h2⟩ := sm_nat (f := fun p => t (6 + p)) (B := 9) 6 (fun p hp => ⟨(h.2.2.2.2.1 p hp).1, (h.2.2.2.2.1 p hp).2.1⟩)
  exact ⟨a, by omega, h2⟩
theorem oS_nat {K : Ld} {t : Nat → Int32} {k D X c : Nat} {od : Int32} (hv : vK K) (hok : okT K c t) (hc : c ≤ 999990) (hX : X ≤ 10) (hD : D < 64) (hDn : D < 2 ^ K.n) : ∀ i, i ≤ 64 → ∃ s, s ≤ 54 * tn X D i ∧ oS K t k D (nI X) od i = nI s
  | 0, _ => ⟨0, by omega, rfl⟩
  | i + 1, hi => by
    obtain ⟨s, h1, h2⟩ := oS_nat (k := k) (od := od) hv hok hc hX hD hDn i (by omega)
    rw [oS, tn]
    by_cases w0 : wo i D = 0
    · rw [if_pos w0]
      by_cases p0 : 0 < wt i D (nI X)
      · rw [if_pos ⟨w0, p0⟩, h2, wt_wn hX]
        have i2 : i < 2 ^ K.n := by
          have := (wo_sub i D (by omega) hD w0).1
          omega
        have okA := okT_aH hv (okT_ad hok hc hv.1.1 i2) 0 k
        obtain ⟨a, a1, a2⟩ := aDu_nat okA
        have val : ∃ v, v ≤ 54 ∧ (if od = 0 then zB (aDo (aH K 0 k (aAd (nI i) t)) 6) else aDu (aH K 0 k (aAd (nI i) t)) 6) = nI v := by
          split
          · cases aDo (aH K 0 k (aAd (nI i) t)) 6 with
            | true => exact ⟨1, by omega, rfl⟩
            | false => exact ⟨0, by omega, rfl⟩
          · exact ⟨a, a1, a2⟩
        obtain ⟨v, v1, v2⟩ := val
        rw [v2]
        refine ⟨s + wn i D X * v, ?_, ?_⟩
        · have := Nat.mul_le_mul_left (wn i D X) v1
          rw [Nat.mul_add]
          omega
        · have mul : nI (wn i D X) * nI v = nI (wn i D X * v) := (Int32.ofNat_mul _ _).symm
          rw [mul, nI_add]
      · rw [if_neg (fun z => p0 z.2)]
        exact ⟨s, by rw [Nat.mul_add]; omega, h2⟩
    · rw [if_neg w0, if_neg (show ¬ (wo i D = 0 ∧ 0 < wt i D (nI X)) from fun z => w0 z.1)]
      exact ⟨s, h1, h2⟩
/-- the dams as bits -/
def isD (K : Ld) (D : Nat) : Prop := D < 64 ∧ D < 2 ^ K.n ∧ aOf K 0 K.n = nI D ∧ ∀ p, p < 6 → (D.testBit p = true ↔ (p < K.n ∧ K.kd p = 0))
theorem isD_of {K : Ld} (hn : K.n ≤ 6) : ∃ D, isD K D := by
  obtain ⟨j, h1, h2, h3⟩ := ob_bits (fun p => decide (K.kd p = 0)) (f := fun p => if K.kd p = 0 then b1 p else 0) (fun p => by simp) K.n hn
  obtain ⟨D, g1, g2⟩ := aOf_lt K 0 hn
  have p6 := (p2m hn).2
  have e : D = j := (nI_eq (by omega) (by omega)).mp (g2.symm.trans h2)
  subst e
  refine ⟨D, h1, g1, g2, fun p hp => ?_⟩
  rw [h3 p hp]
  simp
section MCh
variable {d : Nat} {G : px_H} {q : Nat → Int32} {sd : Int64} {K : Ld} {t : Nat → Int32} {c o : Nat} {Q : px_Q}
theorem aCh_bad {D : Nat} {x h up od : Int32} (hb : iN 0 10 x = false ∨ aHr h = false) : aCh K t D x h up od = -2 := by
  rw [aCh, if_pos]
  rcases hb with z | z
  · rw [iN_f] at z
    rcases z with z | z
    · exact Or.inl z
    · exact Or.inr (Or.inl z)
  · exact Or.inr (Or.inr z)
theorem i10_of {x : Int32} (h : iN 0 10 x = true) : ∃ X, X ≤ 10 ∧ x = nI X := by
  unfold iN at h
  simp only [Bool.and_eq_true, decide_eq_true_eq] at h
  exact nI_of2 (M := 10) (n := 10) (by decide) (Int32.not_lt.mpr h.1) h.2
theorem aCh_ok {D X k : Nat} {up od : Int32} (hX : X ≤ 10) (hk : k ≤ 12) : aCh K t D (nI X) (nI k) up od = aFr (oS K t k D (nI X) od 64) (pwr 10 (pcn D)) up := by
  have e : (nI k).toNatClampNeg = k := nI_clamp (by omega)
  have hr : aHr (nI k) = true := by
    unfold aHr
    simp
    exact ⟨nI_pos' (by omega), Int32.not_lt.mp (nI_nlt (a := 12) (b := k) (by omega) (by omega))⟩
  have n1 : ¬ nI X < 0 := nI_nlt (a := X) (b := 0) (by omega) (by omega)
  have n2 : ¬ (10 : Int32) < nI X := nI_nlt (a := 10) (b := X) (by omega) (by omega)
  rw [aCh, if_neg (by rintro (z | z | z); exact n1 z; exact n2 z; rw [hr] at z; exact absurd z (by decide)), e]
set_option maxRecDepth 100000 in
theorem sp_mchance {D : Nat} {x h up : Int32} (hm : oM G q sd K t c o) (hc : c ≤ 999990) (hD : isD K D) (hQ : ∀ G', rM G' q sd K t → fM G G' → Q (some (.int (aCh K t D x h up 0))) G') : pcal (d + 6) 139 [.ref 124, .int x, .int h, .int up] G Q := by
  obtain ⟨⟨w, hw, ht⟩, hv, hvf, hok, -⟩ := id hm
  obtain ⟨d1, d2, d3, d4⟩ := hD
  have m0 := hw.1.1
  have no := hQ G ⟨w, hw, ht⟩ (fun _ _ _ => rfl)
  have p6 := (bcN D d1).2
  refine inX7_chance ?_
  simp only [eX7_chance_0, eX7_chance_1, eX7_chance_2, eX7_chance_3, eX7_chance_6, pe_callS_3, pe_const, pe_i2l, pe_iload_1, hget_hset, ia_l, ia_s, vin, opl, onl, Int32.reduceLT, Int32.reduceLE, Int32.reduceAdd, Int32.reduceSub, Nat.reduceLT, Nat.reduceAdd, Nat.reduceEqDiff, ↓reduceIte, true_and, and_true, List.length_nil, List.length_cons, Nat.reduceLeDiff, Nat.zero_le]
  refine sp_in (a := 0) (b := 10) rfl rfl ?_
  simp only [eX7_chance_9, eX7_chance_12, eX7_chance_13, eX7_chance_14, eX7_chance_15, eX7_chance_18, eX7_chance_24, eX7_chance_26, pe_callS_3, pe_const, pe_i2l, pe_ifeq, pe_iload_2, pe_iret, zB_0, hget_hset, ia_l, ia_s, vin, opl, onl, Int32.reduceLT, Int32.reduceLE, Int32.reduceAdd, Int32.reduceSub, Nat.reduceLT, Nat.reduceAdd, Nat.reduceEqDiff, ↓reduceIte, true_and, and_true, List.length_nil, List.length_cons, Nat.reduceLeDiff, Nat.zero_le]
  split
  · rename_i u1
    rw [aCh_bad (Or.inl u1)] at no
    exact no
  · rename_i u1
    refine sp_in (a := 0) (b := 12) rfl rfl ?_
    rw [iN_hr]
    simp only [eX7_chance_21, eX7_chance_24, eX7_chance_26, pe_const, pe_ifeq, pe_iret, zB_0, hget_hset, ia_l, ia_s, vin, opl, onl, Int32.reduceLT, Int32.reduceLE, Int32.reduceAdd, Int32.reduceSub, Nat.reduceLT, Nat.reduceAdd, Nat.reduceEqDiff, ↓reduceIte, true_and, and_true, List.length_nil, List.length_cons, Nat.reduceLeDiff, Nat.zero_le]
    split
    · rename_i u2
      rw [aCh_bad (Or.inr u2)] at no
      exact no
    · rename_i u2
      obtain ⟨k, hk, rfl⟩ := aHr_of (nt u2)
      obtain ⟨X, hX, rfl⟩ := i10_of (nt u1)
      obtain ⟨s, s1, s2⟩ := oS_nat (k := k) (od := 0) hv hok hc hX d1 d2 64 (by omega)
      have s3 := tn_64 (i := 64) hX d1 (by omega)
      have t0 : 0 < 10 ^ pcn D := Nat.pow_pos (by omega)
      have t1 : 10 ^ pcn D ≤ 10 ^ 6 := Nat.pow_le_pow_right (by omega) p6
      have g0 : 0 < Nat.gcd (10 ^ pcn D) s := Nat.gcd_pos_of_pos_left _ t0
      have g1 : Nat.gcd (10 ^ pcn D) s ≤ 10 ^ pcn D := Nat.gcd_le_left _ t0
      have g2 : ¬ nI (Nat.gcd (10 ^ pcn D) s) = 0 := nI_ne0 (by omega) (by omega)
      simp only [eX7_chance_27, eX7_chance_28, eX7_chance_29, eX7_chance_30, eX7_chance_31, pe_aload_0, pe_callV_3, pe_const, pe_iload_1, pe_iload_2, m0, m_o, hget_hset, ia_l, ia_s, vin, opl, onl, Int32.reduceLT, Int32.reduceLE, Int32.reduceAdd, Int32.reduceSub, Nat.reduceLT, Nat.reduceAdd, Nat.reduceEqDiff, ↓reduceIte, true_and, and_true, List.length_nil, List.length_cons, Nat.reduceLeDiff, Nat.zero_le]
      refine sp_mparts hw ht hv hvf hok hc hk hX d1 d2 d3 d4 (wt_0 hX d1) ?_
      intro G1 w1 e1 e2 e3
      have fin := hQ G1 ⟨w1, e1, e2⟩ e3
      have e10 : (10 : Int32) = nI 10 := rfl
      rw [aCh_ok hX hk, e10, pwr_n, s2, aFr_gcd (by omega) (by omega) t0] at fin
      rw [s2]
      have z0 := e1.1.1
      simp only [eX7_chance_34, eX7_chance_36, eX7_chance_37, pe_aload_0, pe_callV_0, pe_istore_4, z0, m_o, hget_hset, ia_l, ia_s, vin, opl, onl, Int32.reduceLT, Int32.reduceLE, Int32.reduceAdd, Int32.reduceSub, Nat.reduceLT, Nat.reduceAdd, Nat.reduceEqDiff, ↓reduceIte, true_and, and_true, List.length_nil, List.length_cons, Nat.reduceLeDiff, Nat.zero_le]
      refine sp_mdams e1.1 ?_
      rw [d3]
      simp only [eX7_chance_40, pe_callS_1, hget_hset, ia_l, ia_s, vin, opl, onl, Int32.reduceLT, Int32.reduceLE, Int32.reduceAdd, Int32.reduceSub, Nat.reduceLT, Nat.reduceAdd, Nat.reduceEqDiff, ↓reduceIte, true_and, and_true, List.length_nil, List.length_cons, Nat.reduceLeDiff, Nat.zero_le]
      refine sp_ones ?_
      rw [on8_bc D d1]
      simp only [eX7_chance_43, pe_callS_1, hget_hset, ia_l, ia_s, vin, opl, onl, Int32.reduceLT, Int32.reduceLE, Int32.reduceAdd, Int32.reduceSub, Nat.reduceLT, Nat.reduceAdd, Nat.reduceEqDiff, ↓reduceIte, true_and, and_true, List.length_nil, List.length_cons, Nat.reduceLeDiff, Nat.zero_le]
      refine sp_tenTo (by omega) ?_
      simp only [eX7_chance_46, eX7_chance_48, eX7_chance_49, pe_ifeq, pe_iload_3, pe_istore_5, hget_hset, ia_l, ia_s, vin, opl, onl, Int32.reduceLT, Int32.reduceLE, Int32.reduceAdd, Int32.reduceSub, Nat.reduceLT, Nat.reduceAdd, Nat.reduceEqDiff, ↓reduceIte, true_and, and_true, List.length_nil, List.length_cons, Nat.reduceLeDiff, Nat.zero_le]
      split
      · rename_i u3
        rw [if_pos u3] at fin
        simp only [eX7_chance_65, eX7_chance_67, eX7_chance_69, eX7_chance_71, pe_callS_2, pe_iload_4, pe_iload_5, hget_hset, ia_l, ia_s, vin, opl, onl, Int32.reduceLT, Int32.reduceLE, Int32.reduceAdd, Int32.reduceSub, Nat.reduceLT, Nat.reduceAdd, Nat.reduceEqDiff, ↓reduceIte, true_and, and_true, List.length_nil, List.length_cons, Nat.reduceLeDiff, Nat.zero_le]
        refine sp_mcommon (by omega) (by omega) ?_
        simp only [eX7_chance_74, eX7_chance_75, pe_idiv, pe_iret, g2, not_false_eq_true, hget_hset, ia_l, ia_s, vin, opl, onl, Int32.reduceLT, Int32.reduceLE, Int32.reduceAdd, Int32.reduceSub, Nat.reduceLT, Nat.reduceAdd, Nat.reduceEqDiff, ↓reduceIte, true_and, and_true, List.length_nil, List.length_cons, Nat.reduceLeDiff, Nat.zero_le]
        rw [pk_div (by omega) g0 (by omega)]
        exact fin
      · rename_i u3
        rw [if_neg u3] at fin
        simp only [eX7_chance_52, eX7_chance_54, eX7_chance_56, eX7_chance_58, pe_callS_2, pe_iload_4, pe_iload_5, hget_hset, ia_l, ia_s, vin, opl, onl, Int32.reduceLT, Int32.reduceLE, Int32.reduceAdd, Int32.reduceSub, Nat.reduceLT, Nat.reduceAdd, Nat.reduceEqDiff, ↓reduceIte, true_and, and_true, List.length_nil, List.length_cons, Nat.reduceLeDiff, Nat.zero_le]
        refine sp_mcommon (by omega) (by omega) ?_
        simp only [eX7_chance_61, eX7_chance_62, eX7_chance_65, eX7_chance_67, eX7_chance_69, eX7_chance_71, eX7_chance_74, eX7_chance_75, pe_callS_2, pe_goto, pe_idiv, pe_iload_4, pe_iload_5, pe_iret, g2, not_false_eq_true, hget_hset, ia_l, ia_s, vin, opl, onl, Int32.reduceLT, Int32.reduceLE, Int32.reduceAdd, Int32.reduceSub, Nat.reduceLT, Nat.reduceAdd, Nat.reduceEqDiff, ↓reduceIte, true_and, and_true, List.length_nil, List.length_cons, Nat.reduceLeDiff, Nat.zero_le]
        rw [pk_div (by omega) g0 (by omega)]
        exact fin
set_option maxRecDepth 100000 in
theorem sp_mmean {D : Nat} {x h up : Int32} (hm : oM G q sd K t c o) (hc : c ≤ 999990) (hD : isD K D) (hQ : ∀ G', rM G' q sd K t → fM G G' → Q (some (.int (aCh K t D x h up 1))) G') : pcal (d + 6) 140 [.ref 124, .int x, .int h, .int up] G Q := by
  obtain ⟨⟨w, hw, ht⟩, hv, hvf, hok, -⟩ := id hm
  obtain ⟨d1, d2, d3, d4⟩ := hD
  have m0 := hw.1.1
  have no := hQ G ⟨w, hw, ht⟩ (fun _ _ _ => rfl)
  have p6 := (bcN D d1).2
  refine inX7_mean ?_
  simp only [eX7_mean_0, eX7_mean_1, eX7_mean_2, eX7_mean_3, eX7_mean_6, pe_callS_3, pe_const, pe_i2l, pe_iload_1, hget_hset, ia_l, ia_s, vin, opl, onl, Int32.reduceLT, Int32.reduceLE, Int32.reduceAdd, Int32.reduceSub, Nat.reduceLT, Nat.reduceAdd, Nat.reduceEqDiff, ↓reduceIte, true_and, and_true, List.length_nil, List.length_cons, Nat.reduceLeDiff, Nat.zero_le]
  refine sp_in (a := 0) (b := 10) rfl rfl ?_
  simp only [eX7_mean_9, eX7_mean_12, eX7_mean_13, eX7_mean_14, eX7_mean_15, eX7_mean_18, eX7_mean_24, eX7_mean_26, pe_callS_3, pe_const, pe_i2l, pe_ifeq, pe_iload_2, pe_iret, zB_0, hget_hset, ia_l, ia_s, vin, opl, onl, Int32.reduceLT, Int32.reduceLE, Int32.reduceAdd, Int32.reduceSub, Nat.reduceLT, Nat.reduceAdd, Nat.reduceEqDiff, ↓reduceIte, true_and, and_true, List.length_nil, List.length_cons, Nat.reduceLeDiff, Nat.zero_le]
  split
  · rename_i u1
    rw [aCh_bad (Or.inl u1)] at no
    exact no
  · rename_i u1
    refine sp_in (a := 0) (b := 12) rfl rfl ?_
    rw [iN_hr]
    simp only [eX7_mean_21, eX7_mean_24, eX7_mean_26, pe_const, pe_ifeq, pe_iret, zB_0, hget_hset, ia_l, ia_s, vin, opl, onl, Int32.reduceLT, Int32.reduceLE, Int32.reduceAdd, Int32.reduceSub, Nat.reduceLT, Nat.reduceAdd, Nat.reduceEqDiff, ↓reduceIte, true_and, and_true, List.length_nil, List.length_cons, Nat.reduceLeDiff, Nat.zero_le]
    split
    · rename_i u2
      rw [aCh_bad (Or.inr u2)] at no
      exact no
    · rename_i u2
      obtain ⟨k, hk, rfl⟩ := aHr_of (nt u2)
      obtain ⟨X, hX, rfl⟩ := i10_of (nt u1)
      obtain ⟨s, s1, s2⟩ := oS_nat (k := k) (od := 1) hv hok hc hX d1 d2 64 (by omega)
      have s3 := tn_64 (i := 64) hX d1 (by omega)
      have t0 : 0 < 10 ^ pcn D := Nat.pow_pos (by omega)
      have t1 : 10 ^ pcn D ≤ 10 ^ 6 := Nat.pow_le_pow_right (by omega) p6
      have g0 : 0 < Nat.gcd (10 ^ pcn D) s := Nat.gcd_pos_of_pos_left _ t0
      have g1 : Nat.gcd (10 ^ pcn D) s ≤ 10 ^ pcn D := Nat.gcd_le_left _ t0
      have g2 : ¬ nI (Nat.gcd (10 ^ pcn D) s) = 0 := nI_ne0 (by omega) (by omega)
      simp only [eX7_mean_27, eX7_mean_28, eX7_mean_29, eX7_mean_30, eX7_mean_31, pe_aload_0, pe_callV_3, pe_const, pe_iload_1, pe_iload_2, m0, m_o, hget_hset, ia_l, ia_s, vin, opl, onl, Int32.reduceLT, Int32.reduceLE, Int32.reduceAdd, Int32.reduceSub, Nat.reduceLT, Nat.reduceAdd, Nat.reduceEqDiff, ↓reduceIte, true_and, and_true, List.length_nil, List.length_cons, Nat.reduceLeDiff, Nat.zero_le]
      refine sp_mparts hw ht hv hvf hok hc hk hX d1 d2 d3 d4 (wt_0 hX d1) ?_
      intro G1 w1 e1 e2 e3
      have fin := hQ G1 ⟨w1, e1, e2⟩ e3
      have e10 : (10 : Int32) = nI 10 := rfl
      rw [aCh_ok hX hk, e10, pwr_n, s2, aFr_gcd (by omega) (by omega) t0] at fin
      rw [s2]
      have z0 := e1.1.1
      simp only [eX7_mean_34, eX7_mean_36, eX7_mean_37, pe_aload_0, pe_callV_0, pe_istore_4, z0, m_o, hget_hset, ia_l, ia_s, vin, opl, onl, Int32.reduceLT, Int32.reduceLE, Int32.reduceAdd, Int32.reduceSub, Nat.reduceLT, Nat.reduceAdd, Nat.reduceEqDiff, ↓reduceIte, true_and, and_true, List.length_nil, List.length_cons, Nat.reduceLeDiff, Nat.zero_le]
      refine sp_mdams e1.1 ?_
      rw [d3]
      simp only [eX7_mean_40, pe_callS_1, hget_hset, ia_l, ia_s, vin, opl, onl, Int32.reduceLT, Int32.reduceLE, Int32.reduceAdd, Int32.reduceSub, Nat.reduceLT, Nat.reduceAdd, Nat.reduceEqDiff, ↓reduceIte, true_and, and_true, List.length_nil, List.length_cons, Nat.reduceLeDiff, Nat.zero_le]
      refine sp_ones ?_
      rw [on8_bc D d1]
      simp only [eX7_mean_43, pe_callS_1, hget_hset, ia_l, ia_s, vin, opl, onl, Int32.reduceLT, Int32.reduceLE, Int32.reduceAdd, Int32.reduceSub, Nat.reduceLT, Nat.reduceAdd, Nat.reduceEqDiff, ↓reduceIte, true_and, and_true, List.length_nil, List.length_cons, Nat.reduceLeDiff, Nat.zero_le]
      refine sp_tenTo (by omega) ?_
      simp only [eX7_mean_46, eX7_mean_48, eX7_mean_49, pe_ifeq, pe_iload_3, pe_istore_5, hget_hset, ia_l, ia_s, vin, opl, onl, Int32.reduceLT, Int32.reduceLE, Int32.reduceAdd, Int32.reduceSub, Nat.reduceLT, Nat.reduceAdd, Nat.reduceEqDiff, ↓reduceIte, true_and, and_true, List.length_nil, List.length_cons, Nat.reduceLeDiff, Nat.zero_le]
      split
      · rename_i u3
        rw [if_pos u3] at fin
        simp only [eX7_mean_65, eX7_mean_67, eX7_mean_69, eX7_mean_71, pe_callS_2, pe_iload_4, pe_iload_5, hget_hset, ia_l, ia_s, vin, opl, onl, Int32.reduceLT, Int32.reduceLE, Int32.reduceAdd, Int32.reduceSub, Nat.reduceLT, Nat.reduceAdd, Nat.reduceEqDiff, ↓reduceIte, true_and, and_true, List.length_nil, List.length_cons, Nat.reduceLeDiff, Nat.zero_le]
        refine sp_mcommon (by omega) (by omega) ?_
        simp only [eX7_mean_74, eX7_mean_75, pe_idiv, pe_iret, g2, not_false_eq_true, hget_hset, ia_l, ia_s, vin, opl, onl, Int32.reduceLT, Int32.reduceLE, Int32.reduceAdd, Int32.reduceSub, Nat.reduceLT, Nat.reduceAdd, Nat.reduceEqDiff, ↓reduceIte, true_and, and_true, List.length_nil, List.length_cons, Nat.reduceLeDiff, Nat.zero_le]
        rw [pk_div (by omega) g0 (by omega)]
        exact fin
      · rename_i u3
        rw [if_neg u3] at fin
        simp only [eX7_mean_52, eX7_mean_54, eX7_mean_56, eX7_mean_58, pe_callS_2, pe_iload_4, pe_iload_5, hget_hset, ia_l, ia_s, vin, opl, onl, Int32.reduceLT, Int32.reduceLE, Int32.reduceAdd, Int32.reduceSub, Nat.reduceLT, Nat.reduceAdd, Nat.reduceEqDiff, ↓reduceIte, true_and, and_true, List.length_nil, List.length_cons, Nat.reduceLeDiff, Nat.zero_le]
        refine sp_mcommon (by omega) (by omega) ?_
        simp only [eX7_mean_61, eX7_mean_62, eX7_mean_65, eX7_mean_67, eX7_mean_69, eX7_mean_71, eX7_mean_74, eX7_mean_75, pe_callS_2, pe_goto, pe_idiv, pe_iload_4, pe_iload_5, pe_iret, g2, not_false_eq_true, hget_hset, ia_l, ia_s, vin, opl, onl, Int32.reduceLT, Int32.reduceLE, Int32.reduceAdd, Int32.reduceSub, Nat.reduceLT, Nat.reduceAdd, Nat.reduceEqDiff, ↓reduceIte, true_and, and_true, List.length_nil, List.length_cons, Nat.reduceLeDiff, Nat.zero_le]
        rw [pk_div (by omega) g0 (by omega)]
        exact fin
end MCh
