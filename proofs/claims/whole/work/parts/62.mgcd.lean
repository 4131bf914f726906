/-! ===== the greatest common divisor, both ways ===== -/
theorem gD_gcd : ∀ k l s, l < 2 ^ 31 → s < 2 ^ 31 → s < 2 ^ k → gD (2 * k) (nI l) (nI s) = nI (Nat.gcd s l)
  | 0, l, s, hl, hs, hk => by
    obtain rfl : s = 0 := by omega
    rw [Nat.mul_zero, gD, Nat.gcd_zero_left]
  | k + 1, l, s, hl, hs, hk => by
    rw [show 2 * (k + 1) = 2 * k + 1 + 1 by omega, gD]
    by_cases z : s = 0
    · subst z
      rw [if_pos (show nI 0 = 0 from rfl), Nat.gcd_zero_left]
    · rw [if_neg (nI_ne0 (by omega) (by omega)), pk_rem hl (by omega) hs, gD]
      have h1 : l % s < s := Nat.mod_lt _ (by omega)
      by_cases z2 : l % s = 0
      · rw [z2, if_pos (show nI 0 = 0 from rfl), Nat.gcd_rec, z2, Nat.gcd_zero_left]
      · rw [if_neg (nI_ne0 (by omega) (by omega)), pk_rem hs (by omega) (by omega)]
        have h2 : s % (l % s) < l % s := Nat.mod_lt _ (by omega)
        have h3 : s % (l % s) < 2 ^ k := by
          have e := Nat.div_add_mod s (l % s)
          have e1 : 1 ≤ s / (l % s) := Nat.div_pos (by omega) (by omega)
          have e2 : l % s * 1 ≤ l % s * (s / (l % s)) := Nat.mul_le_mul_left _ e1
          have e3 : 2 ^ (k + 1) = 2 * 2 ^ k := by rw [Nat.pow_succ, Nat.mul_comm]
          omega
        rw [gD_gcd k (l % s) (s % (l % s)) (by omega) (by omega) h3]
        rw [Nat.gcd_rec s l, Nat.gcd_rec (l % s) s]
theorem abI_n {a : Nat} (h : a < 2 ^ 31) : abI (nI a) = nI a := by
  unfold abI
  rw [if_pos (nI_pos' h)]
/-- the class's fraction, of numbers that are not negative -/
theorem aFr_gcd {a b : Nat} {up : Int32} (ha : a < 2 ^ 31) (hb : b < 2 ^ 31) (b0 : 0 < b) : aFr (nI a) (nI b) up = if up = 0 then nI (b / Nat.gcd b a) else nI (a / Nat.gcd b a) := by
  have g0 : 0 < Nat.gcd b a := Nat.gcd_pos_of_pos_left _ b0
  have g1 : Nat.gcd b a ≤ b := Nat.gcd_le_left _ b0
  have e : gD 64 (abI (nI a)) (abI (nI b)) = nI (Nat.gcd b a) := by
    rw [abI_n ha, abI_n hb]
    exact gD_gcd 32 a b ha hb (by omega)
  unfold aFr
  rw [e, if_neg (show ¬ nI (Nat.gcd b a) < 1 from nI_nlt (b := 1) (by omega) (by omega)), pk_div hb g0 (by omega), pk_div ha g0 (by omega)]
section MZ
variable {d : Nat} {G : px_H} {Q : px_Q}
set_option maxRecDepth 100000 in
theorem sp_mcommon {a b : Nat} (ha : a < 2 ^ 31) (hb : b < 2 ^ 31) (hQ : Q (some (.int (nI (Nat.gcd b a)))) G) : pcal (d + 1) 134 [.int (nI a), .int (nI b)] G Q := by
  refine inX7_common ?_
  have key : ∀ y x o4, x < 2 ^ 31 → y < 2 ^ 31 → Nat.gcd y x = Nat.gcd b a → pr d 134 (G.1 + 0, G.2.1 + 0) Q 4 [some (.int (nI a)), some (.int (nI b)), some (.int (nI x)), some (.int (nI y)), o4] [] G := by
    intro y
    induction y using Nat.strongRecOn with
    | _ y ih =>
      intro x o4 hx hy hg
      by_cases z : y = 0
      · subst z
        rw [Nat.gcd_zero_left] at hg
        have e0 : nI 0 = 0 := rfl
        simp only [eX7_common_4, eX7_common_5, eX7_common_21, eX7_common_22, pe_ifeq, pe_iload_2, pe_iload_3, pe_iret, e0, hget_hset, ia_l, ia_s, vin, opl, onl, Int32.reduceLT, Int32.reduceLE, Int32.reduceAdd, Int32.reduceSub, Nat.reduceLT, Nat.reduceAdd, Nat.reduceEqDiff, ↓reduceIte, true_and, and_true, List.length_nil, List.length_cons, Nat.reduceLeDiff, Nat.zero_le]
        rw [hg]
        exact hQ
      · have n0 : ¬ nI y = 0 := nI_ne0 (by omega) (by omega)
        have r := pk_rem (a := x) (d := y) hx (by omega) hy
        have lt : x % y < y := Nat.mod_lt _ (by omega)
        rw [eX7_common_4]
        simp only [eX7_common_5, eX7_common_8, eX7_common_9, eX7_common_10, eX7_common_11, eX7_common_13, eX7_common_14, eX7_common_15, eX7_common_17, eX7_common_18, pe_goto, pe_ifeq, pe_iload_2, pe_iload_3, pe_iload_4, pe_irem, pe_istore_2, pe_istore_3, pe_istore_4, n0, r, not_false_eq_true, hget_hset, ia_l, ia_s, vin, opl, onl, Int32.reduceLT, Int32.reduceLE, Int32.reduceAdd, Int32.reduceSub, Nat.reduceLT, Nat.reduceAdd, Nat.reduceEqDiff, ↓reduceIte, true_and, and_true, List.length_nil, List.length_cons, Nat.reduceLeDiff, Nat.zero_le]
        exact ih (x % y) lt y _ hy (by omega) (by rw [← hg, ← Nat.gcd_rec])
  simp only [eX7_common_0, eX7_common_1, eX7_common_2, eX7_common_3, pe_iload_0, pe_iload_1, pe_istore_2, pe_istore_3, hget_hset, ia_l, ia_s, vin, opl, onl, Int32.reduceLT, Int32.reduceLE, Int32.reduceAdd, Int32.reduceSub, Nat.reduceLT, Nat.reduceAdd, Nat.reduceEqDiff, ↓reduceIte, true_and, and_true, List.length_nil, List.length_cons, Nat.reduceLeDiff, Nat.zero_le]
  exact key b a _ ha hb rfl
end MZ
