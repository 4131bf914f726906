/-! ===== the reference: count, seen, seed, text ===== -/
section MP
variable {d : Nat} {G : px_H} {q : Nat → Int32} {sd : Int64} {K : Ld} {t : Nat → Int32} {c o : Nat} {Q : px_Q} {sz : Nat} {T : Nat → Nat → Int32}
set_option maxRecDepth 100000 in
theorem sp_mcount {n : Nat} {le x : Int32} (hm : rM G q sd K t) (hn6 : K.n ≤ 6) (hok : okT K c t) (h17 : q 17 = le) (h21 : q 21 = nI sz) (h24 : q 24 = nI n) (hQ : Q (some (.int (aCo K t le sz n x))) G) : pcal (d + 2) 150 [.ref 124, .int x] G Q := by
  obtain ⟨w, hw, ht⟩ := id hm
  obtain ⟨hk, hw0, f, hf⟩ := id hw
  obtain ⟨m0, m1, m2, m3, m4, -⟩ := id hk
  have s0 := sM0 ht
  refine inX7_count ?_
  have key : ∀ k i acc, i + k = K.n → acc = aBu t i → pr (d + 1) 150 (G.1 + 0, G.2.1 + 0) Q 4 [some (.ref 124), some (.int x), some (.int acc), some (.int (nI i))] [] G := by
    intro k
    induction k with
    | zero =>
      intro i acc hi hacc
      obtain rfl : i = K.n := by omega
      rw [aBu_n hn6 hok] at hacc
      subst hacc
      have c18 : (18 : Int32).toNatClampNeg = 18 := by decide
      have c19 : (19 : Int32).toNatClampNeg = 19 := by decide
      have g18 := s0 18 (by omega)
      have g19 := s0 19 (by omega)
      simp only [eX7_count_4, eX7_count_5, eX7_count_6, eX7_count_9, eX7_count_27, eX7_count_28, pe_aload_0, pe_getf, pe_iclt, pe_iload_1, pe_iload_3, pe_switch, m0, m_g13, m1, niE, px_sw, hget_hset, ia_l, ia_s, vin, opl, onl, Int32.reduceLT, Int32.reduceLE, Int32.reduceAdd, Int32.reduceSub, Nat.reduceLT, Nat.reduceAdd, Nat.reduceEqDiff, ↓reduceIte, true_and, and_true, List.length_nil, List.length_cons, Nat.reduceLeDiff, Nat.zero_le]
      rw [aCo] at hQ
      by_cases w0 : x = 0
      · rw [if_pos w0]; rw [if_pos w0] at hQ
        simp only [eX7_count_88, eX7_count_89, eX7_count_92, pe_aload_0, pe_getf, pe_iret, m0, m_g17, h17, hget_hset, ia_l, ia_s, vin, opl, onl, Int32.reduceLT, Int32.reduceLE, Int32.reduceAdd, Int32.reduceSub, Nat.reduceLT, Nat.reduceAdd, Nat.reduceEqDiff, ↓reduceIte, true_and, and_true, List.length_nil, List.length_cons, Nat.reduceLeDiff, Nat.zero_le]
        exact hQ
      rw [if_neg w0]; rw [if_neg w0] at hQ
      by_cases w1 : x = 1
      · rw [if_pos w1]; rw [if_pos w1] at hQ
        simp only [eX7_count_93, eX7_count_94, eX7_count_97, pe_aload_0, pe_getf, pe_iret, m0, m_g13, m1, hget_hset, ia_l, ia_s, vin, opl, onl, Int32.reduceLT, Int32.reduceLE, Int32.reduceAdd, Int32.reduceSub, Nat.reduceLT, Nat.reduceAdd, Nat.reduceEqDiff, ↓reduceIte, true_and, and_true, List.length_nil, List.length_cons, Nat.reduceLeDiff, Nat.zero_le]
        exact hQ
      rw [if_neg w1]; rw [if_neg w1] at hQ
      by_cases w2 : x = 2
      · rw [if_pos w2]; rw [if_pos w2] at hQ
        simp only [eX7_count_98, eX7_count_99, eX7_count_102, pe_aload_0, pe_getf, pe_iret, m0, m_g14, m2, hget_hset, ia_l, ia_s, vin, opl, onl, Int32.reduceLT, Int32.reduceLE, Int32.reduceAdd, Int32.reduceSub, Nat.reduceLT, Nat.reduceAdd, Nat.reduceEqDiff, ↓reduceIte, true_and, and_true, List.length_nil, List.length_cons, Nat.reduceLeDiff, Nat.zero_le]
        exact hQ
      rw [if_neg w2]; rw [if_neg w2] at hQ
      by_cases w3 : x = 3
      · rw [if_pos w3]; rw [if_pos w3] at hQ
        simp only [eX7_count_103, eX7_count_104, eX7_count_107, eX7_count_109, eX7_count_110, pe_aload_0, pe_const, pe_getf, pe_iald, pe_iret, m0, m_g15, hw0, c19, g19, hget_hset, ia_l, ia_s, vin, opl, onl, Int32.reduceLT, Int32.reduceLE, Int32.reduceAdd, Int32.reduceSub, Nat.reduceLT, Nat.reduceAdd, Nat.reduceEqDiff, ↓reduceIte, true_and, and_true, List.length_nil, List.length_cons, Nat.reduceLeDiff, Nat.zero_le]
        exact hQ
      rw [if_neg w3]; rw [if_neg w3] at hQ
      by_cases w4 : x = 4
      · rw [if_pos w4]; rw [if_pos w4] at hQ
        simp only [eX7_count_111, eX7_count_112, eX7_count_115, eX7_count_117, eX7_count_118, pe_aload_0, pe_const, pe_getf, pe_iald, pe_iret, m0, m_g15, hw0, c18, g18, hget_hset, ia_l, ia_s, vin, opl, onl, Int32.reduceLT, Int32.reduceLE, Int32.reduceAdd, Int32.reduceSub, Nat.reduceLT, Nat.reduceAdd, Nat.reduceEqDiff, ↓reduceIte, true_and, and_true, List.length_nil, List.length_cons, Nat.reduceLeDiff, Nat.zero_le]
        exact hQ
      rw [if_neg w4]; rw [if_neg w4] at hQ
      by_cases w5 : x = 5
      · rw [if_pos w5]; rw [if_pos w5] at hQ
        simp only [eX7_count_119, eX7_count_120, eX7_count_121, pe_aload_0, pe_callV_1, pe_const, m0, m_o, hget_hset, ia_l, ia_s, vin, opl, onl, Int32.reduceLT, Int32.reduceLE, Int32.reduceAdd, Int32.reduceSub, Nat.reduceLT, Nat.reduceAdd, Nat.reduceEqDiff, ↓reduceIte, true_and, and_true, List.length_nil, List.length_cons, Nat.reduceLeDiff, Nat.zero_le]
        refine sp_mallDung (L := 0) rfl (by omega) hk hw0 ht ?_
        simp only [eX7_count_124, pe_iret, aDu_n hn6 hok, hget_hset, ia_l, ia_s, vin, opl, onl, Int32.reduceLT, Int32.reduceLE, Int32.reduceAdd, Int32.reduceSub, Nat.reduceLT, Nat.reduceAdd, Nat.reduceEqDiff, ↓reduceIte, true_and, and_true, List.length_nil, List.length_cons, Nat.reduceLeDiff, Nat.zero_le]
        exact hQ
      rw [if_neg w5]; rw [if_neg w5] at hQ
      by_cases w6 : x = 6
      · rw [if_pos w6]; rw [if_pos w6] at hQ
        simp only [eX7_count_125, eX7_count_126, pe_iload_2, pe_iret, hget_hset, ia_l, ia_s, vin, opl, onl, Int32.reduceLT, Int32.reduceLE, Int32.reduceAdd, Int32.reduceSub, Nat.reduceLT, Nat.reduceAdd, Nat.reduceEqDiff, ↓reduceIte, true_and, and_true, List.length_nil, List.length_cons, Nat.reduceLeDiff, Nat.zero_le]
        exact hQ
      rw [if_neg w6]; rw [if_neg w6] at hQ
      by_cases w7 : x = 7
      · rw [if_pos w7]; rw [if_pos w7] at hQ
        simp only [eX7_count_127, eX7_count_128, eX7_count_129, pe_aload_0, pe_callV_1, pe_const, m0, m_o, hget_hset, ia_l, ia_s, vin, opl, onl, Int32.reduceLT, Int32.reduceLE, Int32.reduceAdd, Int32.reduceSub, Nat.reduceLT, Nat.reduceAdd, Nat.reduceEqDiff, ↓reduceIte, true_and, and_true, List.length_nil, List.length_cons, Nat.reduceLeDiff, Nat.zero_le]
        refine sp_mwet (L := 0) rfl (by omega) hk hw0 ht ?_
        simp only [eX7_count_132, pe_iret, aWe_n hn6 hok, hget_hset, ia_l, ia_s, vin, opl, onl, Int32.reduceLT, Int32.reduceLE, Int32.reduceAdd, Int32.reduceSub, Nat.reduceLT, Nat.reduceAdd, Nat.reduceEqDiff, ↓reduceIte, true_and, and_true, List.length_nil, List.length_cons, Nat.reduceLeDiff, Nat.zero_le]
        exact hQ
      rw [if_neg w7]; rw [if_neg w7] at hQ
      by_cases w8 : x = 8
      · rw [if_pos w8]; rw [if_pos w8] at hQ
        simp only [eX7_count_133, eX7_count_134, eX7_count_135, pe_aload_0, pe_callV_1, pe_const, m0, m_o, hget_hset, ia_l, ia_s, vin, opl, onl, Int32.reduceLT, Int32.reduceLE, Int32.reduceAdd, Int32.reduceSub, Nat.reduceLT, Nat.reduceAdd, Nat.reduceEqDiff, ↓reduceIte, true_and, and_true, List.length_nil, List.length_cons, Nat.reduceLeDiff, Nat.zero_le]
        refine sp_mworth (L := 0) rfl (by omega) hk hw0 ht ?_
        simp only [eX7_count_138, pe_iret, hget_hset, ia_l, ia_s, vin, opl, onl, Int32.reduceLT, Int32.reduceLE, Int32.reduceAdd, Int32.reduceSub, Nat.reduceLT, Nat.reduceAdd, Nat.reduceEqDiff, ↓reduceIte, true_and, and_true, List.length_nil, List.length_cons, Nat.reduceLeDiff, Nat.zero_le]
        exact hQ
      rw [if_neg w8]; rw [if_neg w8] at hQ
      by_cases w9 : x = 9
      · rw [if_pos w9]; rw [if_pos w9] at hQ
        simp only [eX7_count_139, eX7_count_140, eX7_count_143, pe_aload_0, pe_getf, pe_iret, m0, m_g21, h21, hget_hset, ia_l, ia_s, vin, opl, onl, Int32.reduceLT, Int32.reduceLE, Int32.reduceAdd, Int32.reduceSub, Nat.reduceLT, Nat.reduceAdd, Nat.reduceEqDiff, ↓reduceIte, true_and, and_true, List.length_nil, List.length_cons, Nat.reduceLeDiff, Nat.zero_le]
        exact hQ
      rw [if_neg w9]; rw [if_neg w9] at hQ
      by_cases w10 : x = 10
      · rw [if_pos w10]; rw [if_pos w10] at hQ
        simp only [eX7_count_144, eX7_count_145, eX7_count_148, pe_aload_0, pe_getf, pe_iret, m0, m_g24, h24, hget_hset, ia_l, ia_s, vin, opl, onl, Int32.reduceLT, Int32.reduceLE, Int32.reduceAdd, Int32.reduceSub, Nat.reduceLT, Nat.reduceAdd, Nat.reduceEqDiff, ↓reduceIte, true_and, and_true, List.length_nil, List.length_cons, Nat.reduceLeDiff, Nat.zero_le]
        exact hQ
      rw [if_neg w10]; rw [if_neg w10] at hQ
      simp only [eX7_count_149, eX7_count_151, pe_const, pe_iret, hget_hset, ia_l, ia_s, vin, opl, onl, Int32.reduceLT, Int32.reduceLE, Int32.reduceAdd, Int32.reduceSub, Nat.reduceLT, Nat.reduceAdd, Nat.reduceEqDiff, ↓reduceIte, true_and, and_true, List.length_nil, List.length_cons, Nat.reduceLeDiff, Nat.zero_le]
      exact hQ
    | succ k ih =>
      intro i acc hi hacc
      obtain ⟨c1, c2, c3, c4⟩ := niL (i := i) (n := K.n) (by omega) m3
      have c7 : i < 160 := by omega
      have f2 := s0 i (by omega)
      rw [eX7_count_4]
      simp only [eX7_count_5, eX7_count_6, eX7_count_9, eX7_count_12, eX7_count_13, eX7_count_14, eX7_count_17, eX7_count_18, eX7_count_19, eX7_count_20, eX7_count_21, eX7_count_24, pe_aload_0, pe_bin, pe_getf, pe_goto, pe_iald, pe_iclt, pe_iinc_3, pe_iload_2, pe_iload_3, pe_istore_2, m0, m_g13, m_g15, m1, hw0, c1, c2, c3, c7, f2, nisw, hget_hset, ia_l, ia_s, vin, opl, onl, Int32.reduceLT, Int32.reduceLE, Int32.reduceAdd, Int32.reduceSub, Nat.reduceLT, Nat.reduceAdd, Nat.reduceEqDiff, ↓reduceIte, true_and, and_true, List.length_nil, List.length_cons, Nat.reduceLeDiff, Nat.zero_le]
      exact ih (i + 1) _ (by omega) (by rw [hacc, aBu, aBu, sm])
  simp only [eX7_count_0, eX7_count_1, eX7_count_2, eX7_count_3, pe_const, pe_istore_2, pe_istore_3, hget_hset, ia_l, ia_s, vin, opl, onl, Int32.reduceLT, Int32.reduceLE, Int32.reduceAdd, Int32.reduceSub, Nat.reduceLT, Nat.reduceAdd, Nat.reduceEqDiff, ↓reduceIte, true_and, and_true, List.length_nil, List.length_cons, Nat.reduceLeDiff, Nat.zero_le]
  exact key K.n 0 0 (by omega) rfl
/-- what was seen, as the reference keeps it -/
def mV (G : px_H) (q : Nat → Int32) (n : Nat) (pp tm mn : Nat → Int32) : Prop := q 24 = nI n ∧ n ≤ 6 ∧ hget G 139 = some (c_ia 6 pp) ∧ hget G 140 = some (c_ia 6 tm) ∧ hget G 141 = some (c_ia 6 mn)
set_option maxRecDepth 100000 in
theorem sp_msee {n : Nat} {p x k : Int32} {pp tm mn : Nat → Int32} (hm : rM G q sd K t) (hV : mV G q n pp tm mn) (hQ : ∀ G' q' n' pp' tm' mn', (n', pp', tm', mn') = (if seR K n p x k = 0 then (n + 1, upd pp n p, upd tm n x, upd mn n k) else (n, pp, tm, mn)) → rM G' q' sd K t → mV G' q' n' pp' tm' mn' → (∀ k, k ≠ 24 → q' k = q k) → (∀ k, k ≠ 124 → k ≠ 139 → k ≠ 140 → k ≠ 141 → hget G' k = hget G k) → Q (some (.int (if seR K n p x k = 0 then nI (n + 1) else seR K n p x k))) G') : pcal (d + 3) 141 [.ref 124, .int p, .int x, .int k] G Q := by
  obtain ⟨w, hw, ht⟩ := id hm
  obtain ⟨hk, hw0, f, hf⟩ := id hw
  have m0 := hk.1
  obtain ⟨h24, hn, v1, v2, v3⟩ := id hV
  have no : ∀ e, seR K n p x k = e → ¬ e = 0 → Q (some (.int e)) G := by
    intro e h1 h2
    have := hQ G q n pp tm mn (by rw [if_neg (by rw [h1]; exact h2)]) hm hV (fun _ _ => rfl) (fun _ _ _ _ _ => rfl)
    rw [if_neg (by rw [h1]; exact h2), h1] at this
    exact this
  refine inX7_see ?_
  simp only [eX7_see_0, eX7_see_1, eX7_see_2, pe_aload_0, pe_callV_1, pe_iload_1, m0, m_o, hget_hset, ia_l, ia_s, vin, opl, onl, Int32.reduceLT, Int32.reduceLE, Int32.reduceAdd, Int32.reduceSub, Nat.reduceLT, Nat.reduceAdd, Nat.reduceEqDiff, ↓reduceIte, true_and, and_true, List.length_nil, List.length_cons, Nat.reduceLeDiff, Nat.zero_le]
  refine sp_isPlace hk ?_
  simp only [eX7_see_5, eX7_see_8, eX7_see_9, eX7_see_10, eX7_see_11, eX7_see_12, eX7_see_13, eX7_see_16, pe_callS_3, pe_const, pe_i2l, pe_ifeq, pe_iload_2, pe_iret, zB_0, hget_hset, ia_l, ia_s, vin, opl, onl, Int32.reduceLT, Int32.reduceLE, Int32.reduceAdd, Int32.reduceSub, Nat.reduceLT, Nat.reduceAdd, Nat.reduceEqDiff, ↓reduceIte, true_and, and_true, List.length_nil, List.length_cons, Nat.reduceLeDiff, Nat.zero_le]
  split
  · rename_i u0
    exact no _ (by rw [seR, if_pos u0]) (by decide)
  · rename_i u0
    refine sp_in (a := 0) (b := 12) rfl rfl ?_
    rw [iN_hr]
    simp only [eX7_see_19, eX7_see_22, eX7_see_23, eX7_see_24, eX7_see_25, eX7_see_28, eX7_see_31, eX7_see_34, eX7_see_36, pe_callS_3, pe_const, pe_i2l, pe_ifeq, pe_iload_3, pe_iret, zB_0, hget_hset, ia_l, ia_s, vin, opl, onl, Int32.reduceLT, Int32.reduceLE, Int32.reduceAdd, Int32.reduceSub, Nat.reduceLT, Nat.reduceAdd, Nat.reduceEqDiff, ↓reduceIte, true_and, and_true, List.length_nil, List.length_cons, Nat.reduceLeDiff, Nat.zero_le]
    split
    · rename_i u1
      exact no _ (by rw [seR, if_neg u0, if_pos (Or.inl u1)]) (by decide)
    · rename_i u1
      refine sp_in (a := 0) (b := 99) rfl rfl ?_
      simp only [eX7_see_31, eX7_see_34, eX7_see_36, pe_const, pe_ifeq, pe_iret, zB_0, iN_f, hget_hset, ia_l, ia_s, vin, opl, onl, Int32.reduceLT, Int32.reduceLE, Int32.reduceAdd, Int32.reduceSub, Nat.reduceLT, Nat.reduceAdd, Nat.reduceEqDiff, ↓reduceIte, true_and, and_true, List.length_nil, List.length_cons, Nat.reduceLeDiff, Nat.zero_le]
      split
      · rename_i u2
        exact no _ (by rw [seR, if_neg u0, if_pos (Or.inr u2)]) (by decide)
      · rename_i u2
        have un : ¬ (aHr x = false ∨ k < 0 ∨ 99 < k) := fun z => z.elim u1 u2
        have e6 : nI n = 6 ↔ n = 6 := nI_eq (b := 6) (by omega) (by omega)
        simp only [eX7_see_37, eX7_see_38, eX7_see_41, eX7_see_43, eX7_see_46, eX7_see_48, pe_aload_0, pe_const, pe_getf, pe_iceq, pe_iret, m0, m_g24, h24, hget_hset, ia_l, ia_s, vin, opl, onl, Int32.reduceLT, Int32.reduceLE, Int32.reduceAdd, Int32.reduceSub, Nat.reduceLT, Nat.reduceAdd, Nat.reduceEqDiff, ↓reduceIte, true_and, and_true, List.length_nil, List.length_cons, Nat.reduceLeDiff, Nat.zero_le]
        split
        · rename_i u3
          exact no _ (by rw [seR, if_neg u0, if_neg un, if_neg (by have := e6.mp u3; omega)]) (by decide)
        · rename_i u3
          have hn6 : n < 6 := by
            have : ¬ n = 6 := fun y => u3 (e6.mpr y)
            omega
          obtain ⟨c1, c2, c3⟩ := ni6 hn6
          have e0 : seR K n p x k = 0 := by rw [seR, if_neg u0, if_neg un, if_pos hn6]
          have u24 : ∀ v, upd q 24 v 24 = v := fun v => if_pos rfl
          simp only [eX7_see_49, eX7_see_50, eX7_see_53, eX7_see_54, eX7_see_57, eX7_see_58, eX7_see_59, eX7_see_60, eX7_see_63, eX7_see_64, eX7_see_67, eX7_see_68, eX7_see_69, eX7_see_70, eX7_see_73, eX7_see_74, eX7_see_77, eX7_see_78, eX7_see_79, eX7_see_80, eX7_see_81, eX7_see_84, eX7_see_85, eX7_see_86, eX7_see_89, eX7_see_90, eX7_see_93, pe_aload_0, pe_bin, pe_const, pe_dup_i, pe_dup_r, pe_getf, pe_iast, pe_iload_1, pe_iload_2, pe_iload_3, pe_iret, pe_putf, m0, v1, v2, v3, m_g24, m_g25, m_g26, m_g27, m_p24, h24, u24, c1, c2, hn6, nisw, hget_hset, ia_l, ia_s, vin, opl, onl, Int32.reduceLT, Int32.reduceLE, Int32.reduceAdd, Int32.reduceSub, Nat.reduceLT, Nat.reduceAdd, Nat.reduceEqDiff, ↓reduceIte, true_and, and_true, List.length_nil, List.length_cons, Nat.reduceLeDiff, Nat.zero_le]
          have := hQ (hset (hset (hset (hset G 139 (c_ia 6 (upd pp n p))) 140 (c_ia 6 (upd tm n x))) 141 (c_ia 6 (upd mn n k))) 124 (c_m (upd q 24 (nI (n + 1))) sd)) (upd q 24 (nI (n + 1))) _ _ _ _ (by rw [if_pos e0]) ⟨w, ⟨hk.qA (hget_self _ _ _) (if_neg (by decide)) (if_neg (by decide)) ?_ ?_ ?_ ?_, ?_, f, ?_⟩, ht⟩ ⟨if_pos rfl, by omega, ?_, ?_, ?_⟩ (fun k hk => if_neg hk) (fun k a b c' d' => ?_)
          · rw [if_pos e0] at this
            exact this
          all_goals first
            | (simp only [hget_hset, Nat.reduceEqDiff, ↓reduceIte]; done)
            | (simp only [hget_hset, Nat.reduceEqDiff, ↓reduceIte]; exact hw0)
            | (simp only [hget_hset, Nat.reduceEqDiff, ↓reduceIte]; exact hf)
            | (rw [hget_ne a, hget_ne d', hget_ne c', hget_ne b])
set_option maxRecDepth 100000 in
theorem sp_munsee {n : Nat} {pp tm mn : Nat → Int32} (hm : rM G q sd K t) (hV : mV G q n pp tm mn) (hQ : rM (hset G 124 (c_m (upd q 24 0) sd)) (upd q 24 0) sd K t → mV (hset G 124 (c_m (upd q 24 0) sd)) (upd q 24 0) 0 pp tm mn → Q (some (.int (nI n))) (hset G 124 (c_m (upd q 24 0) sd))) : pcal (d + 1) 142 [.ref 124] G Q := by
  obtain ⟨w, hw, ht⟩ := id hm
  obtain ⟨hk, hw0, f, hf⟩ := id hw
  have m0 := hk.1
  obtain ⟨h24, hn, v1, v2, v3⟩ := id hV
  refine inX7_unsee ?_
  simp only [eX7_unsee_0, eX7_unsee_1, eX7_unsee_4, eX7_unsee_5, eX7_unsee_6, eX7_unsee_7, eX7_unsee_10, eX7_unsee_11, pe_aload_0, pe_const, pe_getf, pe_iload_1, pe_iret, pe_istore_1, pe_putf, m0, m_g24, m_p24, h24, hget_hset, ia_l, ia_s, vin, opl, onl, Int32.reduceLT, Int32.reduceLE, Int32.reduceAdd, Int32.reduceSub, Nat.reduceLT, Nat.reduceAdd, Nat.reduceEqDiff, ↓reduceIte, true_and, and_true, List.length_nil, List.length_cons, Nat.reduceLeDiff, Nat.zero_le]
  refine hQ ⟨w, ⟨hk.qA (hget_self _ _ _) (if_neg (by decide)) (if_neg (by decide)) (hget_ne (by omega)) (hget_ne (by omega)) (hget_ne (by omega)) (hget_ne (by omega)), (hget_ne (by omega)).trans hw0, f, (hget_ne (by omega)).trans hf⟩, ht⟩ ⟨if_pos rfl, by omega, (hget_ne (by omega)).trans v1, (hget_ne (by omega)).trans v2, (hget_ne (by omega)).trans v3⟩
set_option maxRecDepth 100000 in
theorem sp_mseed {z : Int64} (m0 : hget G 124 = some (c_m q sd)) (hQ : Q (some (.long sd)) (hset G 124 (c_m q z))) : pcal (d + 1) 146 [.ref 124, .long z] G Q := by
  refine inX7_seed ?_
  simp only [eX7_seed_0, eX7_seed_1, eX7_seed_4, eX7_seed_5, eX7_seed_6, eX7_seed_7, eX7_seed_10, eX7_seed_11, pe_aload_0, pe_getf, pe_lload_1, pe_lload_3, pe_lret, pe_lstore_3, pe_putf, m0, m_g31, m_p31, hget_hset, ia_l, ia_s, vin, opl, onl, Int32.reduceLT, Int32.reduceLE, Int32.reduceAdd, Int32.reduceSub, Nat.reduceLT, Nat.reduceAdd, Nat.reduceEqDiff, ↓reduceIte, true_and, and_true, List.length_nil, List.length_cons, Nat.reduceLeDiff, Nat.zero_le]
  exact hQ
set_option maxRecDepth 100000 in
theorem sp_mwipe (m0 : hget G 124 = some (c_m q sd)) (hQ : Q (some (.int (q 17))) (hset G 124 (c_m (upd q 17 0) sd))) : pcal (d + 1) 95 [.ref 124] G Q := by
  refine inX7_wipe ?_
  simp only [eX7_wipe_0, eX7_wipe_1, eX7_wipe_4, eX7_wipe_5, eX7_wipe_6, eX7_wipe_7, eX7_wipe_10, eX7_wipe_11, pe_aload_0, pe_const, pe_getf, pe_iload_1, pe_iret, pe_istore_1, pe_putf, m0, m_g17, m_p17, hget_hset, ia_l, ia_s, vin, opl, onl, Int32.reduceLT, Int32.reduceLE, Int32.reduceAdd, Int32.reduceSub, Nat.reduceLT, Nat.reduceAdd, Nat.reduceEqDiff, ↓reduceIte, true_and, and_true, List.length_nil, List.length_cons, Nat.reduceLeDiff, Nat.zero_le]
  exact hQ
set_option maxRecDepth 100000 in
theorem sp_mwrite {n : Nat} {x : Int32} {tx : Nat → Int32} (m0 : hget G 124 = some (c_m q sd)) (h17 : q 17 = nI n) (h136 : hget G 136 = some (c_ia 48 tx)) (hn : n ≤ 48) (hQ : ∀ G' q' n' tx', (n', tx') = (if wrR n x = 0 then (n + 1, upd tx n x) else (n, tx)) → hget G' 124 = some (c_m q' sd) → q' 17 = nI n' → (∀ k, k ≠ 17 → q' k = q k) → hget G' 136 = some (c_ia 48 tx') → (∀ k, k ≠ 124 → k ≠ 136 → hget G' k = hget G k) → Q (some (.int (if wrR n x = 0 then nI (n + 1) else wrR n x))) G') : pcal (d + 2) 94 [.ref 124, .int x] G Q := by
  have no : ∀ e, wrR n x = e → ¬ e = 0 → Q (some (.int e)) G := by
    intro e h1 h2
    have := hQ G q n tx (by rw [if_neg (by rw [h1]; exact h2)]) m0 h17 (fun _ _ => rfl) h136 (fun _ _ _ => rfl)
    rw [if_neg (by rw [h1]; exact h2), h1] at this
    exact this
  refine inX7_write ?_
  simp only [eX7_write_0, eX7_write_1, eX7_write_2, eX7_write_3, eX7_write_6, pe_callS_3, pe_const, pe_i2l, pe_iload_1, hget_hset, ia_l, ia_s, vin, opl, onl, Int32.reduceLT, Int32.reduceLE, Int32.reduceAdd, Int32.reduceSub, Nat.reduceLT, Nat.reduceAdd, Nat.reduceEqDiff, ↓reduceIte, true_and, and_true, List.length_nil, List.length_cons, Nat.reduceLeDiff, Nat.zero_le]
  refine sp_in (a := 0) (b := 255) rfl rfl ?_
  simp only [eX7_write_9, eX7_write_12, eX7_write_14, eX7_write_15, eX7_write_16, eX7_write_19, eX7_write_21, pe_aload_0, pe_const, pe_getf, pe_iceq, pe_ifeq, pe_iret, zB_0, iN_f, m0, m_g17, h17, hget_hset, ia_l, ia_s, vin, opl, onl, Int32.reduceLT, Int32.reduceLE, Int32.reduceAdd, Int32.reduceSub, Nat.reduceLT, Nat.reduceAdd, Nat.reduceEqDiff, ↓reduceIte, true_and, and_true, List.length_nil, List.length_cons, Nat.reduceLeDiff, Nat.zero_le]
  split
  · rename_i u0
    exact no _ (by rw [wrR, if_pos u0]) (by decide)
  · rename_i u0
    have e6 : nI n = 48 ↔ n = 48 := nI_eq (b := 48) (by omega) (by omega)
    split
    · rename_i u1
      simp only [eX7_write_24, eX7_write_26, pe_const, pe_iret, hget_hset, ia_l, ia_s, vin, opl, onl, Int32.reduceLT, Int32.reduceLE, Int32.reduceAdd, Int32.reduceSub, Nat.reduceLT, Nat.reduceAdd, Nat.reduceEqDiff, ↓reduceIte, true_and, and_true, List.length_nil, List.length_cons, Nat.reduceLeDiff, Nat.zero_le]
      exact no _ (by rw [wrR, if_neg u0, if_neg (by have := e6.mp u1; omega)]) (by decide)
    · rename_i u1
      have hn6 : n < 48 := by
        have : ¬ n = 48 := fun y => u1 (e6.mpr y)
        omega
      have e0 : wrR n x = 0 := by rw [wrR, if_neg u0, if_pos hn6]
      have c1 : (nI n).toNatClampNeg = n := nI_clamp (by omega)
      have c2 : 0 ≤ nI n := nI_pos' (by omega)
      have u17 : ∀ v, upd q 17 v 17 = v := fun v => if_pos rfl
      simp only [eX7_write_27, eX7_write_28, eX7_write_31, eX7_write_32, eX7_write_35, eX7_write_36, eX7_write_37, eX7_write_38, eX7_write_39, eX7_write_42, eX7_write_43, eX7_write_44, eX7_write_47, eX7_write_48, eX7_write_51, pe_aload_0, pe_bin, pe_const, pe_dup_i, pe_dup_r, pe_getf, pe_iast, pe_iload_1, pe_iret, pe_putf, m0, h136, m_g16, m_g17, m_p17, h17, u17, c1, c2, hn6, nisw, hget_hset, ia_l, ia_s, vin, opl, onl, Int32.reduceLT, Int32.reduceLE, Int32.reduceAdd, Int32.reduceSub, Nat.reduceLT, Nat.reduceAdd, Nat.reduceEqDiff, ↓reduceIte, true_and, and_true, List.length_nil, List.length_cons, Nat.reduceLeDiff, Nat.zero_le]
      have := hQ (hset (hset G 136 (c_ia 48 (upd tx n x))) 124 (c_m (upd q 17 (nI (n + 1))) sd)) (upd q 17 (nI (n + 1))) _ _ (by rw [if_pos e0]) (hget_self _ _ _) (if_pos rfl) (fun k hk => if_neg hk) (by rw [hget_ne (by omega)]; exact hget_self _ _ _) (fun k a b => by rw [hget_ne a, hget_ne b])
      rw [if_pos e0] at this
      exact this
end MP
