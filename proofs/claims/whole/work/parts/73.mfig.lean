/-! ===== the reference: figures, where ditches can begin and lead ===== -/
def fgO (tx : Nat → Int32) (len i : Nat) (A : Int32) : Bool := decide (i < len) && (iN 0 9 (tx i - 48) && !decide (A >>> ((tx i - 48) &&& 31) &&& 1 = 0))
theorem upd_self {q : Nat → Int32} {k : Nat} : upd q k (q k) = q := by
  funext j
  unfold upd
  split
  · rename_i h; rw [h]
  · rfl
/-- only the reference's numbers and what it reads have changed -/
def fN' (G G' : px_H) : Prop := ∀ k, k ≠ 124 → hget G' k = hget G k
section MF
variable {d : Nat} {G : px_H} {q : Nat → Int32} {sd : Int64} {K : Ld} {Q : px_Q}
set_option maxRecDepth 100000 in
theorem sp_mfigure {len i : Nat} {tx : Nat → Int32} {A : Int32} (m0 : hget G 124 = some (c_m q sd)) (htx : hget G 136 = some (c_ia 48 tx)) (hlen : len ≤ 48) (h17 : q 17 = nI len) (h18 : q 18 = nI i) (hi : i ≤ 48)
    (hQ : ∀ G' q' v, hget G' 124 = some (c_m q' sd) → fN' G G' → ((q 19 = -9 ∧ fgO tx len i A = true ∧ v = tx i - 48 ∧ q' = upd q 18 (nI (i + 1))) ∨ (q 19 = -9 ∧ fgO tx len i A = false ∧ v = 0 ∧ q' = upd q 19 (nI i)) ∨ (¬ q 19 = -9 ∧ v = 0 ∧ q' = q)) → Q (some (.int v)) G') : pcal (d + 2) 96 [.ref 124, .int A] G Q := by
  have n9 : ∀ k, k ≤ 48 → ¬ nI k = -9 := fun k hk => m9_nI (by omega)
  have bad : ∀ v : Int32, ¬ q 19 = -9 → pr (d + 1) 96 (G.1 + 0, G.2.1 + 0) Q 57 [some (.ref 124), some (.int A), some (.int v)] [] G := by
    intro v h9
    simp only [eX7_figure_57, eX7_figure_58, eX7_figure_59, eX7_figure_62, eX7_figure_64, eX7_figure_74, eX7_figure_75, eX7_figure_78, eX7_figure_81, eX7_figure_82, pe_aload_0, pe_const, pe_getf, pe_iceq, pe_iret, pe_putf, m0, m_g19, m_p19, h9, hget_hset, ia_l, ia_s, vin, opl, onl, Int32.reduceLT, Int32.reduceLE, Int32.reduceAdd, Int32.reduceSub, Nat.reduceLT, Nat.reduceAdd, Nat.reduceEqDiff, ↓reduceIte, true_and, and_true, List.length_nil, List.length_cons, Nat.reduceLeDiff, Nat.zero_le]
    refine hQ _ q 0 (by rw [hget_self, upd_self]) (fun k hk => hget_ne hk) (Or.inr (Or.inr ⟨h9, rfl, rfl⟩))
  have fall : ∀ v : Int32, q 19 = -9 → fgO tx len i A = false → pr (d + 1) 96 (G.1 + 0, G.2.1 + 0) Q 57 [some (.ref 124), some (.int A), some (.int v)] [] G := by
    intro v h9 hf
    simp only [eX7_figure_57, eX7_figure_58, eX7_figure_59, eX7_figure_62, eX7_figure_64, eX7_figure_67, eX7_figure_68, eX7_figure_71, eX7_figure_78, eX7_figure_81, eX7_figure_82, pe_aload_0, pe_const, pe_getf, pe_goto, pe_iceq, pe_iret, pe_putf, m0, m_g18, m_g19, m_p19, h9, h18, hget_hset, ia_l, ia_s, vin, opl, onl, Int32.reduceLT, Int32.reduceLE, Int32.reduceAdd, Int32.reduceSub, Nat.reduceLT, Nat.reduceAdd, Nat.reduceEqDiff, ↓reduceIte, true_and, and_true, List.length_nil, List.length_cons, Nat.reduceLeDiff, Nat.zero_le]
    exact hQ _ (upd q 19 (nI i)) 0 (hget_self _ _ _) (fun k hk => hget_ne hk) (Or.inr (Or.inl ⟨h9, hf, rfl, rfl⟩))
  have none' : ∀ o2, (¬ q 19 = -9 ∨ (q 19 = -9 ∧ fgO tx len i A = false)) → pr (d + 1) 96 (G.1 + 0, G.2.1 + 0) Q 35 [some (.ref 124), some (.int A), o2] [] G := by
    intro o2 h
    have e1 : (-1 : Int32).toInt64 = (-1 : Int32).toInt64 := rfl
    simp only [eX7_figure_35, eX7_figure_36, eX7_figure_37, eX7_figure_38, eX7_figure_39, eX7_figure_40, eX7_figure_43, pe_callS_3, pe_const, pe_i2l, pe_iload_2, pe_istore_2, hget_hset, ia_l, ia_s, vin, opl, onl, Int32.reduceLT, Int32.reduceLE, Int32.reduceAdd, Int32.reduceSub, Nat.reduceLT, Nat.reduceAdd, Nat.reduceEqDiff, ↓reduceIte, true_and, and_true, List.length_nil, List.length_cons, Nat.reduceLeDiff, Nat.zero_le]
    refine sp_in (a := 0) (b := 9) rfl rfl ?_
    have e : iN 0 9 (-1) = false := by decide
    rw [e]
    simp only [eX7_figure_46, pe_ifeq, zB_0, hget_hset, ia_l, ia_s, vin, opl, onl, Int32.reduceLT, Int32.reduceLE, Int32.reduceAdd, Int32.reduceSub, Nat.reduceLT, Nat.reduceAdd, Nat.reduceEqDiff, ↓reduceIte, true_and, and_true, List.length_nil, List.length_cons, Nat.reduceLeDiff, Nat.zero_le]
    rcases h with h | ⟨h1, h2⟩
    · exact bad _ h
    · exact fall _ h1 h2
  refine inX7_figure ?_
  simp only [eX7_figure_0, eX7_figure_1, eX7_figure_4, eX7_figure_6, pe_aload_0, pe_const, pe_getf, pe_iceq, m0, m_g19, hget_hset, ia_l, ia_s, vin, opl, onl, Int32.reduceLT, Int32.reduceLE, Int32.reduceAdd, Int32.reduceSub, Nat.reduceLT, Nat.reduceAdd, Nat.reduceEqDiff, ↓reduceIte, true_and, and_true, List.length_nil, List.length_cons, Nat.reduceLeDiff, Nat.zero_le]
  by_cases h9 : q 19 = -9
  · rw [if_pos h9]
    simp only [eX7_figure_9, eX7_figure_10, eX7_figure_13, eX7_figure_14, eX7_figure_17, pe_aload_0, pe_getf, pe_iclt, m0, m_g17, m_g18, h17, h18, hget_hset, ia_l, ia_s, vin, opl, onl, Int32.reduceLT, Int32.reduceLE, Int32.reduceAdd, Int32.reduceSub, Nat.reduceLT, Nat.reduceAdd, Nat.reduceEqDiff, ↓reduceIte, true_and, and_true, List.length_nil, List.length_cons, Nat.reduceLeDiff, Nat.zero_le]
    by_cases il : i < len
    · rw [if_pos (nI_lt il (by omega))]
      have c3 : (nI i).toNatClampNeg = i := nI_clamp (by omega)
      have c4 : 0 ≤ nI i := nI_pos' (by omega)
      have c5 : i < 48 := by omega
      simp only [eX7_figure_20, eX7_figure_21, eX7_figure_24, eX7_figure_25, eX7_figure_28, eX7_figure_29, eX7_figure_31, eX7_figure_32, eX7_figure_36, eX7_figure_37, eX7_figure_38, eX7_figure_39, eX7_figure_40, eX7_figure_43, pe_aload_0, pe_bin, pe_callS_3, pe_const, pe_getf, pe_goto, pe_i2l, pe_iald, pe_iload_2, pe_istore_2, m0, m_g16, m_g18, h18, htx, c3, c4, c5, hget_hset, ia_l, ia_s, vin, opl, onl, Int32.reduceLT, Int32.reduceLE, Int32.reduceAdd, Int32.reduceSub, Nat.reduceLT, Nat.reduceAdd, Nat.reduceEqDiff, ↓reduceIte, true_and, and_true, List.length_nil, List.length_cons, Nat.reduceLeDiff, Nat.zero_le]
      refine sp_in (a := 0) (b := 9) rfl rfl ?_
      simp only [eX7_figure_46, eX7_figure_49, eX7_figure_50, eX7_figure_51, eX7_figure_52, eX7_figure_53, eX7_figure_54, pe_bin, pe_const, pe_ifeq, pe_iload_1, pe_iload_2, zB_0, hget_hset, ia_l, ia_s, vin, opl, onl, Int32.reduceLT, Int32.reduceLE, Int32.reduceAdd, Int32.reduceSub, Nat.reduceLT, Nat.reduceAdd, Nat.reduceEqDiff, ↓reduceIte, true_and, and_true, List.length_nil, List.length_cons, Nat.reduceLeDiff, Nat.zero_le]
      by_cases u : iN 0 9 (tx i - 48) = false
      · rw [if_pos u]
        exact fall _ h9 (by simp [fgO, u])
      · rw [if_neg u]
        by_cases v : A >>> (tx i - 48 &&& 31) &&& 1 = 0
        · rw [if_pos v]
          exact fall _ h9 (by simp [fgO, v])
        · rw [if_neg v]
          simp only [eX7_figure_83, eX7_figure_84, eX7_figure_85, eX7_figure_88, eX7_figure_89, eX7_figure_90, eX7_figure_93, eX7_figure_94, pe_aload_0, pe_bin, pe_const, pe_dup_i, pe_dup_r, pe_getf, pe_iload_2, pe_iret, pe_putf, m0, m_g18, m_p18, h18, nisw, hget_hset, ia_l, ia_s, vin, opl, onl, Int32.reduceLT, Int32.reduceLE, Int32.reduceAdd, Int32.reduceSub, Nat.reduceLT, Nat.reduceAdd, Nat.reduceEqDiff, ↓reduceIte, true_and, and_true, List.length_nil, List.length_cons, Nat.reduceLeDiff, Nat.zero_le]
          exact hQ _ _ _ (hget_self _ _ _) (fun k hk => hget_ne hk) (Or.inl ⟨h9, by simp [fgO, il, nt u, v], rfl, rfl⟩)
    · rw [if_neg (nI_nlt (by omega) (by omega))]
      exact none' _ (Or.inr ⟨h9, by simp [fgO, il]⟩)
  · rw [if_neg h9]
    exact none' _ (Or.inl h9)
/-- where a ditch from p can lead, n places, g told already -/
def lfV (n p : Nat) (g : Int32) : Int32 := (b1 n - 1) &&& (b1 p ^^^ -1) &&& (g ^^^ -1)
theorem lfV_b : ∀ n, n < 7 → ∀ p, p < 6 → ∀ g, g < 64 → lfV n p (nI g) = nI (wo (wo (2 ^ n - 1) (2 ^ p)) g) ∧ wo (wo (2 ^ n - 1) (2 ^ p)) g < 64 := by decide +kernel
theorem lfV_t : ∀ n, n < 7 → ∀ p, p < 6 → ∀ g, g < 64 → ∀ b, b < 6 → (wo (wo (2 ^ n - 1) (2 ^ p)) g).testBit b = (decide (b < n) && !decide (b = p) && !g.testBit b) := by decide +kernel
set_option maxRecDepth 100000 in
theorem sp_mleft {n p : Nat} {rg : Nat → Int32} (m0 : hget G 124 = some (c_m q sd)) (h5 : hget G 130 = some (c_ia 6 rg)) (h7 : q 7 = nI n) (hp : p < 6) (hQ : Q (some (.int (lfV n p (rg p)))) G) : pcal (d + 1) 97 [.ref 124, .int (nI p)] G Q := by
  obtain ⟨c1, c2, -⟩ := ni6 hp
  refine inX7_left ?_
  simp only [eX7_left_0, eX7_left_1, eX7_left_2, eX7_left_5, eX7_left_6, eX7_left_7, eX7_left_8, eX7_left_9, eX7_left_10, eX7_left_11, eX7_left_12, eX7_left_13, eX7_left_14, eX7_left_15, eX7_left_18, eX7_left_19, eX7_left_20, eX7_left_21, eX7_left_22, eX7_left_23, pe_aload_0, pe_bin, pe_const, pe_getf, pe_iald, pe_iload_1, pe_iret, m0, m_g5, m_g7, h5, h7, b1_e, c1, c2, hp, hget_hset, ia_l, ia_s, vin, opl, onl, Int32.reduceLT, Int32.reduceLE, Int32.reduceAdd, Int32.reduceSub, Nat.reduceLT, Nat.reduceAdd, Nat.reduceEqDiff, ↓reduceIte, true_and, and_true, List.length_nil, List.length_cons, Nat.reduceLeDiff, Nat.zero_le]
  exact hQ
theorem ltM {x : Int32} (h : x = 0 ∨ x = 1 ∨ x = 2 ∨ x = 3) : (x < 2) = (x = 0 ∨ x = 1) := by
  apply propext
  rcases h with e | e | e | e <;> rw [e] <;> decide
theorem nI_64_0 : ∀ L, L < 64 → (nI L = 0 ↔ ∀ b, b < 6 → L.testBit b = false) := by decide +kernel
/-- from p a ditch can be dug: told by the reference's bits -/
theorem dF_bits {K : Ld} {rk rh rr rf rt rg : Nat → Int32} (hw : wfL K) (hr : rdRel K q rk rh rr rf rt rg) {p : Nat} (hp : p < K.n) : (dF K (nI p) = true ↔ ((K.kd p = 0 ∨ K.kd p = 1) ∧ ¬ lfV K.n p (rg p) = 0)) ∧ ((K.kd p = 0 ∨ K.kd p = 1) → ∃ L, L < 64 ∧ lfV K.n p (rg p) = nI L ∧ ∀ b, b < 6 → (L.testBit b = true ↔ dT K (nI p) (nI b) = true)) := by
  have n6 := hw.1
  obtain ⟨g, g1, g2, g3⟩ := hr.2.2.2.2.2 p hp
  obtain ⟨e1, e2⟩ := lfV_b K.n (by omega) p (by omega) g g1
  have ec : (nI p).toNatClampNeg = p := nI_clamp (by omega)
  have hPn : ∀ b, b < 6 → (hP K.n (nI b) = true ↔ b < K.n) := by
    intro b hb
    unfold hP
    simp only [nI_pos' (show b < 2 ^ 31 by omega), decide_true, Bool.true_and, decide_eq_true_eq]
    exact nI_ltI (by omega) (by omega)
  have bits : (K.kd p = 0 ∨ K.kd p = 1) → ∀ b, b < 6 → ((wo (wo (2 ^ K.n - 1) (2 ^ p)) g).testBit b = true ↔ dT K (nI p) (nI b) = true) := by
    intro k01 b hb
    rw [lfV_t K.n (by omega) p (by omega) g g1 b hb, dT_iff, ec, hPn b hb, hPn p (by omega), ← g3 b hb]
    simp only [Bool.and_eq_true, decide_eq_true_eq, Bool.not_eq_true', decide_eq_false_iff_not]
    constructor
    · rintro ⟨⟨a1, a2⟩, a3⟩
      exact ⟨hp, a1, fun z => a2 ((nI_eq (by omega) (by omega)).mp z).symm, k01, by rw [a3]; decide⟩
    · rintro ⟨-, a1, a2, -, a3⟩
      exact ⟨⟨a1, fun z => a2 (by rw [z])⟩, by cases e : g.testBit b with | true => exact absurd e a3 | false => rfl⟩
  refine ⟨?_, fun k01 => ⟨_, e2, by rw [g2]; exact e1, bits k01⟩⟩
  constructor
  · intro h
    unfold dF at h
    rw [exB_iff] at h
    obtain ⟨b, -, b2, b3⟩ := h
    have k01 : K.kd p = 0 ∨ K.kd p = 1 := by
      have := (dT_iff.mp b3).2.2.2.1
      rw [ec] at this
      exact this
    refine ⟨k01, fun z => ?_⟩
    rw [g2, e1] at z
    have := (nI_64_0 _ e2).mp z b (by omega)
    rw [(bits k01 b (by omega)).mpr b3] at this
    exact absurd this (by decide)
  · rintro ⟨k01, h⟩
    unfold dF
    rw [exB_iff]
    rw [g2, e1, nI_64_0 _ e2] at h
    have : ∃ b, b < 6 ∧ (wo (wo (2 ^ K.n - 1) (2 ^ p)) g).testBit b = true := by
      by_cases z : ∃ b, b < 6 ∧ (wo (wo (2 ^ K.n - 1) (2 ^ p)) g).testBit b = true
      · exact z
      · refine absurd (fun b hb => ?_) h
        cases e : (wo (wo (2 ^ K.n - 1) (2 ^ p)) g).testBit b with
        | false => rfl
        | true => exact absurd ⟨b, hb, e⟩ z
    obtain ⟨b, b1, b2⟩ := this
    have b3 := (bits k01 b b1).mp b2
    have b4 := (hPn b b1).mp (dT_iff.mp b3).2.1
    exact ⟨b, by omega, by omega, b3⟩
def bgF (K : Ld) (p : Nat) : Int32 := if dF K (nI p) = true then b1 p else 0
set_option maxRecDepth 100000 in
theorem sp_mbegins {rk rh rr rf rt rg : Nat → Int32} (hw : wfL K) (hr : rdRel K q rk rh rr rf rt rg) (m0 : hget G 124 = some (c_m q sd)) (h0 : hget G 125 = some (c_ia 6 rk)) (h5 : hget G 130 = some (c_ia 6 rg)) (hQ : Q (some (.int (ob (bgF K) K.n))) G) : pcal (d + 2) 98 [.ref 124] G Q := by
  have n6 := hw.1
  have h7 := hr.2.1
  refine inX7_begins ?_
  have key : ∀ k i acc, i + k = K.n → acc = ob (bgF K) i → pr (d + 1) 98 (G.1 + 0, G.2.1 + 0) Q 4 [some (.ref 124), some (.int acc), some (.int (nI i))] [] G := by
    intro k
    induction k with
    | zero =>
      intro i acc hi hacc
      obtain rfl : i = K.n := by omega
      simp only [eX7_begins_4, eX7_begins_5, eX7_begins_6, eX7_begins_9, eX7_begins_46, eX7_begins_47, pe_aload_0, pe_getf, pe_iclt, pe_iload_1, pe_iload_2, pe_iret, m0, m_g7, h7, niE, hget_hset, ia_l, ia_s, vin, opl, onl, Int32.reduceLT, Int32.reduceLE, Int32.reduceAdd, Int32.reduceSub, Nat.reduceLT, Nat.reduceAdd, Nat.reduceEqDiff, ↓reduceIte, true_and, and_true, List.length_nil, List.length_cons, Nat.reduceLeDiff, Nat.zero_le]
      rw [hacc]
      exact hQ
    | succ k ih =>
      intro i acc hi hacc
      obtain ⟨c1, c2, c3, c4⟩ := niL (i := i) (n := K.n) (by omega) n6
      have ki := (hr.2.2.2.1 i (by omega)).1
      have kk := (hw.2.2.1 i (by omega)).1
      obtain ⟨b1', -⟩ := dF_bits hw hr (p := i) (by omega)
      have go : ∀ x, x = bgF K i → pr (d + 1) 98 (G.1 + 0, G.2.1 + 0) Q 38 [some (.ref 124), some (.int acc), some (.int (nI i))] [.int x, .int acc] G := by
        intro x hx
        simp only [eX7_begins_38, eX7_begins_39, eX7_begins_40, eX7_begins_43, pe_bin, pe_goto, pe_iinc_2, pe_istore_1, nisw, hget_hset, ia_l, ia_s, vin, opl, onl, Int32.reduceLT, Int32.reduceLE, Int32.reduceAdd, Int32.reduceSub, Nat.reduceLT, Nat.reduceAdd, Nat.reduceEqDiff, ↓reduceIte, true_and, and_true, List.length_nil, List.length_cons, Nat.reduceLeDiff, Nat.zero_le]
        exact ih (i + 1) _ (by omega) (by rw [hacc, hx, ob])
      rw [eX7_begins_4]
      simp only [eX7_begins_5, eX7_begins_6, eX7_begins_9, eX7_begins_12, eX7_begins_13, eX7_begins_14, eX7_begins_17, eX7_begins_18, eX7_begins_19, eX7_begins_20, pe_aload_0, pe_const, pe_getf, pe_iald, pe_iclt, pe_iload_1, pe_iload_2, m0, m_g0, m_g7, h0, h7, ki, ltM kk, c1, c2, c3, c4, hget_hset, ia_l, ia_s, vin, opl, onl, Int32.reduceLT, Int32.reduceLE, Int32.reduceAdd, Int32.reduceSub, Nat.reduceLT, Nat.reduceAdd, Nat.reduceEqDiff, ↓reduceIte, true_and, and_true, List.length_nil, List.length_cons, Nat.reduceLeDiff, Nat.zero_le]
      by_cases k01 : K.kd i = 0 ∨ K.kd i = 1
      · rw [if_pos k01]
        simp only [eX7_begins_23, eX7_begins_24, eX7_begins_25, pe_aload_0, pe_callV_1, pe_iload_2, m0, m_o, hget_hset, ia_l, ia_s, vin, opl, onl, Int32.reduceLT, Int32.reduceLE, Int32.reduceAdd, Int32.reduceSub, Nat.reduceLT, Nat.reduceAdd, Nat.reduceEqDiff, ↓reduceIte, true_and, and_true, List.length_nil, List.length_cons, Nat.reduceLeDiff, Nat.zero_le]
        refine sp_mleft m0 h5 h7 c4 ?_
        simp only [eX7_begins_28, eX7_begins_31, eX7_begins_32, eX7_begins_33, eX7_begins_34, pe_bin, pe_const, pe_goto, pe_ifeq, pe_iload_2, b1_e, hget_hset, ia_l, ia_s, vin, opl, onl, Int32.reduceLT, Int32.reduceLE, Int32.reduceAdd, Int32.reduceSub, Nat.reduceLT, Nat.reduceAdd, Nat.reduceEqDiff, ↓reduceIte, true_and, and_true, List.length_nil, List.length_cons, Nat.reduceLeDiff, Nat.zero_le]
        by_cases z : lfV K.n i (rg i) = 0
        · rw [if_pos z]
          simp only [eX7_begins_37, pe_const, hget_hset, ia_l, ia_s, vin, opl, onl, Int32.reduceLT, Int32.reduceLE, Int32.reduceAdd, Int32.reduceSub, Nat.reduceLT, Nat.reduceAdd, Nat.reduceEqDiff, ↓reduceIte, true_and, and_true, List.length_nil, List.length_cons, Nat.reduceLeDiff, Nat.zero_le]
          exact go 0 (by unfold bgF; rw [if_neg (fun h => (b1'.mp h).2 z)])
        · rw [if_neg z]
          exact go _ (by unfold bgF; rw [if_pos (b1'.mpr ⟨k01, z⟩)])
      · rw [if_neg k01]
        simp only [eX7_begins_37, pe_const, hget_hset, ia_l, ia_s, vin, opl, onl, Int32.reduceLT, Int32.reduceLE, Int32.reduceAdd, Int32.reduceSub, Nat.reduceLT, Nat.reduceAdd, Nat.reduceEqDiff, ↓reduceIte, true_and, and_true, List.length_nil, List.length_cons, Nat.reduceLeDiff, Nat.zero_le]
        exact go 0 (by unfold bgF; rw [if_neg (fun h => k01 (b1'.mp h).1)])
  simp only [eX7_begins_0, eX7_begins_1, eX7_begins_2, eX7_begins_3, pe_const, pe_istore_1, pe_istore_2, hget_hset, ia_l, ia_s, vin, opl, onl, Int32.reduceLT, Int32.reduceLE, Int32.reduceAdd, Int32.reduceSub, Nat.reduceLT, Nat.reduceAdd, Nat.reduceEqDiff, ↓reduceIte, true_and, and_true, List.length_nil, List.length_cons, Nat.reduceLeDiff, Nat.zero_le]
  exact key K.n 0 0 (by omega) rfl
theorem bg_bits (hw : wfL K) : ∃ L, L < 64 ∧ ob (bgF K) K.n = nI L ∧ ∀ b, b < 6 → (L.testBit b = true ↔ (b < K.n ∧ dF K (nI b) = true)) := by
  obtain ⟨j, h1, h2, h3⟩ := ob_bits (fun p => dF K (nI p)) (f := bgF K) (fun p => rfl) K.n hw.1
  refine ⟨j, h1, h2, fun b hb => ?_⟩
  rw [h3 b hb]
  simp
/-! what figures are allowed, by stage -/
theorem bt_10 : ∀ L, L < 64 → ∀ v, v < 10 → (nI L >>> (nI v &&& 31) &&& 1 = 0 ↔ ¬ (v < 6 ∧ L.testBit v = true)) := by decide +kernel
theorem fa_all : ∀ v, v < 10 → ¬ ((1023 : Int32) >>> (nI v &&& 31) &&& 1 = 0) ∧ ((1022 : Int32) >>> (nI v &&& 31) &&& 1 = 0 ↔ v = 0) ∧ ((3 : Int32) >>> (nI v &&& 31) &&& 1 = 0 ↔ ¬ v < 2) := by decide +kernel
theorem i9_of {x : Int32} (h : iN 0 9 x = true) : ∃ v, v < 10 ∧ x = nI v := by
  unfold iN at h
  simp only [Bool.and_eq_true, decide_eq_true_eq] at h
  obtain ⟨v, h1, h2⟩ := nI_of2 (M := 9) (n := 9) (by decide) (Int32.not_lt.mpr h.1) h.2
  exact ⟨v, by omega, h2⟩
theorem iN_09 {v : Nat} (h : v < 10) : iN 0 9 (nI v) = true := by
  unfold iN
  have h1 : (0 : Int32) ≤ nI v := nI_pos' (by omega)
  have h2 : nI v ≤ 9 := Int32.not_lt.mp (nI_nlt (a := 9) (b := v) (by omega) (by omega))
  simp [h1, h2]
theorem fa_1023 {x : Int32} : (iN 0 9 x && !decide ((1023 : Int32) >>> (x &&& 31) &&& 1 = 0)) = iN 0 9 x := by
  cases e : iN 0 9 x with
  | false => rfl
  | true =>
    obtain ⟨v, h1, rfl⟩ := i9_of e
    simp [(fa_all v h1).1]
theorem iN_19 : ∀ v, v < 10 → iN 1 9 (nI v) = !decide (v = 0) := by decide +kernel
theorem iN_19f {x : Int32} (h : iN 0 9 x = false) : iN 1 9 x = false := by
  rw [iN_f] at h ⊢
  rcases h with z | z
  · exact Or.inl (Int32.lt_trans z (by decide))
  · exact Or.inr z
theorem fa_1022 {x : Int32} : (iN 0 9 x && !decide ((1022 : Int32) >>> (x &&& 31) &&& 1 = 0)) = iN 1 9 x := by
  cases e : iN 0 9 x with
  | false => rw [iN_19f e]; rfl
  | true =>
    obtain ⟨v, h1, rfl⟩ := i9_of e
    rw [iN_19 v h1]
    simp [(fa_all v h1).2.1]
theorem i01 : ∀ v, v < 10 → (decide (nI v = 0) || decide (nI v = 1)) = decide (v < 2) := by decide +kernel
theorem i01f {x : Int32} (h : iN 0 9 x = false) : (decide (x = 0) || decide (x = 1)) = false := by
  rw [iN_f] at h
  have h0 : ¬ x = 0 := by rintro rfl; exact absurd h (by decide)
  have h1 : ¬ x = 1 := by rintro rfl; exact absurd h (by decide)
  simp [h0, h1]
theorem fa_3 {x : Int32} : (iN 0 9 x && !decide ((3 : Int32) >>> (x &&& 31) &&& 1 = 0)) = (decide (x = 0) || decide (x = 1)) := by
  cases e : iN 0 9 x with
  | false => rw [i01f e]; rfl
  | true =>
    obtain ⟨v, h1, rfl⟩ := i9_of e
    rw [i01 v h1]
    have h3 := (fa_all v h1).2.2
    by_cases z : v < 2
    · have h4 : ¬ ((3 : Int32) >>> (nI v &&& 31) &&& 1 = 0) := fun y => h3.mp y z
      simp [h4, z]
    · have h4 := h3.mpr z
      simp [h4, z]
theorem hP_9 {n : Nat} {x : Int32} (hn : n ≤ 6) (h : hP n x = true) : iN 0 9 x = true := by
  obtain ⟨p1, p2, p3, p4⟩ := hP_of hn h
  rw [p4]
  exact iN_09 (by omega)
theorem dF_hP {x : Int32} (h : dF K x = true) : hP K.n x = true := by
  unfold dF at h
  rw [exB_iff] at h
  obtain ⟨b, -, -, b3⟩ := h
  exact (dT_iff.mp b3).1
/-- where a bit set tells a test of figures -/
theorem fa_set {x : Int32} {L : Nat} {T : Int32 → Bool} (hn : K.n ≤ 6) (hL : L < 64) (hb : ∀ b, b < 6 → (L.testBit b = true ↔ T (nI b) = true)) (hT : ∀ y, T y = true → hP K.n y = true) : (iN 0 9 x && !decide (nI L >>> (x &&& 31) &&& 1 = 0)) = T x := by
  cases e : iN 0 9 x with
  | false =>
    cases t : T x with
    | false => rfl
    | true =>
      have := hP_9 hn (hT x t)
      rw [e] at this
      exact absurd this (by decide)
  | true =>
    obtain ⟨v, h1, rfl⟩ := i9_of e
    have h2 := bt_10 L hL v h1
    cases t : T (nI v) with
    | true =>
      obtain ⟨-, -, p3, -⟩ := hP_of hn (hT _ t)
      rw [nI_clamp (by omega)] at p3
      have : ¬ (nI L >>> (nI v &&& 31) &&& 1 = 0) := fun z => h2.mp z ⟨p3, (hb v p3).mpr t⟩
      simp [this]
    | false =>
      have : nI L >>> (nI v &&& 31) &&& 1 = 0 := h2.mpr (fun z => by rw [(hb v z.1).mp z.2] at t; exact absurd t (by decide))
      simp [this]
end MF
