/-! ===== the class: the reader ===== -/
/-- does letter x fit at stage g -/
def fitB (g : Nat) (f : Int32) (K : Ld) (x : Int32) : Bool := match g with
  | 0 => decide (x = 82)
  | 1 => if x = 67 then dG K else if x = 68 ∨ x = 77 ∨ x = 83 ∨ x = 84 then decide (K.n < 6) else false
  | 2 => iN 0 9 (x - 48)
  | 3 => iN 1 9 (x - 48)
  | 4 => iN 0 9 (x - 48)
  | 5 => iN 1 9 (x - 48)
  | 6 => dF K (x - 48)
  | 7 => dT K f (x - 48)
  | _ => decide (x - 48 = 0) || decide (x - 48 = 1)
abbrev RS : Type := Nat × Int32 × Int32 × Ld
/-- what a letter that fits makes of stage, numbers and land -/
def takeS (r : RS) (x : Int32) : RS := match r with
  | (0, f, s, K) => (1, f, s, K)
  | (1, f, s, K) => if x = 67 then (6, f, s, K) else if x = 68 then (2, f, s, K) else if x = 77 then (5, f, s, K) else if x = 83 then (4, f, s, K) else (1, f, s, adP K 3 0 0)
  | (2, _, s, K) => (3, x - 48, s, K)
  | (3, f, s, K) => (1, f, s, adP K 0 f (x - 48))
  | (4, f, s, K) => (1, f, s, adP K 1 (x - 48) 0)
  | (5, f, s, K) => (1, f, s, adP K 2 0 (x - 48))
  | (6, _, s, K) => (7, x - 48, s, K)
  | (7, f, _, K) => (8, f, x - 48, K)
  | (_, f, s, K) => (1, f, s, adD K f s (x - 48))
theorem iN_or {a b x : Int32} : iN a b x = false ↔ (x < a ∨ b < x) := by rw [iN_f]
section CR
variable {d l : Nat} {G : px_H} {K : Ld} {Q : px_Q} {f s x : Int32}
set_option maxRecDepth 100000 in
theorem sp_fitsPart (hr : hget G 4 = some (c_rd 1 f s)) (hl : isL G l K) (hQ : Q (some (.int (zB (fitB 1 f K x)))) G) : pcal (d + 4) 21 [.ref 4, .ref l, .int x] G Q := by
  obtain ⟨l0, l1, l2, l3, l4, l5, l6, l7⟩ := id hl
  have em : (nI K.n < 6) = (K.n < 6) := by
    apply propext
    exact nI_ltI (b := 6) (by omega) (by omega)
  have five : (x = 68 ∨ x = 77 ∨ x = 83 ∨ x = 84) → ¬ x = 67 → pr (d + 3) 21 (G.1 + 0, G.2.1 + 0) Q 52 [some (.ref 4), some (.ref l), some (.int x)] [] G := by
    intro h h67
    simp only [fitB, h67, h, ↓reduceIte] at hQ
    simp only [eX2_fitsPart_52, eX2_fitsPart_53, eX2_fitsPart_56, eX2_fitsPart_58, pe_aload_1, pe_const, pe_getf, pe_iclt, l0, ld_g0, ld_g1, ld_g2, ld_g3, ld_g4, ld_g5, ld_g6, ld_g7, ld_p5, ld_p6, ld_p7, ld_o, em, hget_hset, ia_l, ia_s, vin, opl, onl, Int32.reduceLT, Int32.reduceLE, Int32.reduceAdd, Int32.reduceSub, Nat.reduceLT, Nat.reduceAdd, Nat.reduceEqDiff, ↓reduceIte, true_and, and_true, List.length_nil, List.length_cons, Nat.reduceLeDiff, Nat.zero_le]
    split
    · rename_i u
      simp only [eX2_fitsPart_61, eX2_fitsPart_62, eX2_fitsPart_65, eX2_fitsPart_66, pe_const, pe_goto, pe_zret, hget_hset, ia_l, ia_s, vin, opl, onl, Int32.reduceLT, Int32.reduceLE, Int32.reduceAdd, Int32.reduceSub, Nat.reduceLT, Nat.reduceAdd, Nat.reduceEqDiff, ↓reduceIte, true_and, and_true, List.length_nil, List.length_cons, Nat.reduceLeDiff, Nat.zero_le, or_true]
      simpa [u, zB] using hQ
    · rename_i u
      simp only [eX2_fitsPart_65, eX2_fitsPart_66, pe_const, pe_zret, hget_hset, ia_l, ia_s, vin, opl, onl, Int32.reduceLT, Int32.reduceLE, Int32.reduceAdd, Int32.reduceSub, Nat.reduceLT, Nat.reduceAdd, Nat.reduceEqDiff, ↓reduceIte, true_and, and_true, List.length_nil, List.length_cons, Nat.reduceLeDiff, Nat.zero_le, true_or]
      simpa [u, zB] using hQ
  refine inX2_fitsPart ?_
  simp only [eX2_fitsPart_0, eX2_fitsPart_1, pe_iload_2, pe_switch, px_sw, hget_hset, ia_l, ia_s, vin, opl, onl, Int32.reduceLT, Int32.reduceLE, Int32.reduceAdd, Int32.reduceSub, Nat.reduceLT, Nat.reduceAdd, Nat.reduceEqDiff, ↓reduceIte, true_and, and_true, List.length_nil, List.length_cons, Nat.reduceLeDiff, Nat.zero_le]
  by_cases a : x = 67
  · rw [if_pos a]
    simp only [fitB, a, ↓reduceIte] at hQ
    simp only [eX2_fitsPart_67, eX2_fitsPart_68, pe_aload_1, pe_callV_0, l0, ld_o, hget_hset, ia_l, ia_s, vin, opl, onl, Int32.reduceLT, Int32.reduceLE, Int32.reduceAdd, Int32.reduceSub, Nat.reduceLT, Nat.reduceAdd, Nat.reduceEqDiff, ↓reduceIte, true_and, and_true, List.length_nil, List.length_cons, Nat.reduceLeDiff, Nat.zero_le]
    refine sp_canDig hl ?_
    simp only [eX2_fitsPart_71, pe_zret, zB_01, hget_hset, ia_l, ia_s, vin, opl, onl, Int32.reduceLT, Int32.reduceLE, Int32.reduceAdd, Int32.reduceSub, Nat.reduceLT, Nat.reduceAdd, Nat.reduceEqDiff, ↓reduceIte, true_and, and_true, List.length_nil, List.length_cons, Nat.reduceLeDiff, Nat.zero_le]
    exact hQ
  · rw [if_neg a]
    by_cases b : x = 68
    · rw [if_pos b]; exact five (Or.inl b) a
    · rw [if_neg b]
      by_cases c : x = 77
      · rw [if_pos c]; exact five (Or.inr (Or.inl c)) a
      · rw [if_neg c]
        by_cases e : x = 83
        · rw [if_pos e]; exact five (Or.inr (Or.inr (Or.inl e))) a
        · rw [if_neg e]
          by_cases z : x = 84
          · rw [if_pos z]; exact five (Or.inr (Or.inr (Or.inr z))) a
          · rw [if_neg z]
            simp only [fitB, a, b, c, e, z, or_self, ↓reduceIte] at hQ
            simp only [eX2_fitsPart_72, eX2_fitsPart_73, pe_const, pe_zret, hget_hset, ia_l, ia_s, vin, opl, onl, Int32.reduceLT, Int32.reduceLE, Int32.reduceAdd, Int32.reduceSub, Nat.reduceLT, Nat.reduceAdd, Nat.reduceEqDiff, ↓reduceIte, true_and, and_true, List.length_nil, List.length_cons, Nat.reduceLeDiff, Nat.zero_le, true_or]
            exact hQ
set_option maxRecDepth 100000 in
theorem sp_fits {g : Nat} (hg : g ≤ 8) (hr : hget G 4 = some (c_rd (nI g) f s)) (hl : isL G l K) (hQ : Q (some (.int (zB (fitB g f K x)))) G) : pcal (d + 5) 20 [.ref 4, .ref l, .int x] G Q := by
  obtain ⟨l0, l1, l2, l3, l4, l5, l6, l7⟩ := id hl
  refine inX2_fits ?_
  simp only [eX2_fits_0, eX2_fits_1, eX2_fits_3, eX2_fits_4, eX2_fits_5, eX2_fits_6, eX2_fits_9, pe_aload_0, pe_bin, pe_const, pe_getf, pe_iload_2, pe_istore_3, pe_switch, hr, rd_g0, hget_hset, ia_l, ia_s, vin, opl, onl, Int32.reduceLT, Int32.reduceLE, Int32.reduceAdd, Int32.reduceSub, Nat.reduceLT, Nat.reduceAdd, Nat.reduceEqDiff, ↓reduceIte, true_and, and_true, List.length_nil, List.length_cons, Nat.reduceLeDiff, Nat.zero_le]
  have fig09 : iN 0 9 (x - 48) = fitB g f K x → pr (d + 4) 20 (G.1 + 0, G.2.1 + 0) Q 75 [some (.ref 4), some (.ref l), some (.int x), some (.int (x - 48))] [] G := by
    intro e
    rw [← e] at hQ
    simp only [eX2_fits_75, eX2_fits_76, pe_iflt, pe_iload_3, hget_hset, ia_l, ia_s, vin, opl, onl, Int32.reduceLT, Int32.reduceLE, Int32.reduceAdd, Int32.reduceSub, Nat.reduceLT, Nat.reduceAdd, Nat.reduceEqDiff, ↓reduceIte, true_and, and_true, List.length_nil, List.length_cons, Nat.reduceLeDiff, Nat.zero_le]
    split
    · rename_i u
      rw [iN_or.mpr (Or.inl u)] at hQ
      simp only [eX2_fits_89, eX2_fits_90, pe_const, pe_zret, hget_hset, ia_l, ia_s, vin, opl, onl, Int32.reduceLT, Int32.reduceLE, Int32.reduceAdd, Int32.reduceSub, Nat.reduceLT, Nat.reduceAdd, Nat.reduceEqDiff, ↓reduceIte, true_and, and_true, List.length_nil, List.length_cons, Nat.reduceLeDiff, Nat.zero_le, true_or]
      exact hQ
    · rename_i u
      simp only [eX2_fits_79, eX2_fits_80, eX2_fits_82, pe_const, pe_icgt, pe_iload_3, hget_hset, ia_l, ia_s, vin, opl, onl, Int32.reduceLT, Int32.reduceLE, Int32.reduceAdd, Int32.reduceSub, Nat.reduceLT, Nat.reduceAdd, Nat.reduceEqDiff, ↓reduceIte, true_and, and_true, List.length_nil, List.length_cons, Nat.reduceLeDiff, Nat.zero_le]
      split
      · rename_i v
        rw [iN_or.mpr (Or.inr v)] at hQ
        simp only [eX2_fits_89, eX2_fits_90, pe_const, pe_zret, hget_hset, ia_l, ia_s, vin, opl, onl, Int32.reduceLT, Int32.reduceLE, Int32.reduceAdd, Int32.reduceSub, Nat.reduceLT, Nat.reduceAdd, Nat.reduceEqDiff, ↓reduceIte, true_and, and_true, List.length_nil, List.length_cons, Nat.reduceLeDiff, Nat.zero_le, true_or]
        exact hQ
      · rename_i v
        rw [show iN 0 9 (x - 48) = true from nt (fun z => by rcases iN_or.mp z with z | z; exact u z; exact v z)] at hQ
        simp only [eX2_fits_85, eX2_fits_86, eX2_fits_89, eX2_fits_90, pe_const, pe_goto, pe_zret, hget_hset, ia_l, ia_s, vin, opl, onl, Int32.reduceLT, Int32.reduceLE, Int32.reduceAdd, Int32.reduceSub, Nat.reduceLT, Nat.reduceAdd, Nat.reduceEqDiff, ↓reduceIte, true_and, and_true, List.length_nil, List.length_cons, Nat.reduceLeDiff, Nat.zero_le, or_true]
        exact hQ
  have fig19 : iN 1 9 (x - 48) = fitB g f K x → pr (d + 4) 20 (G.1 + 0, G.2.1 + 0) Q 91 [some (.ref 4), some (.ref l), some (.int x), some (.int (x - 48))] [] G := by
    intro e
    rw [← e] at hQ
    simp only [eX2_fits_91, eX2_fits_92, eX2_fits_93, pe_const, pe_iclt, pe_iload_3, hget_hset, ia_l, ia_s, vin, opl, onl, Int32.reduceLT, Int32.reduceLE, Int32.reduceAdd, Int32.reduceSub, Nat.reduceLT, Nat.reduceAdd, Nat.reduceEqDiff, ↓reduceIte, true_and, and_true, List.length_nil, List.length_cons, Nat.reduceLeDiff, Nat.zero_le]
    split
    · rename_i u
      rw [iN_or.mpr (Or.inl u)] at hQ
      simp only [eX2_fits_106, eX2_fits_107, pe_const, pe_zret, hget_hset, ia_l, ia_s, vin, opl, onl, Int32.reduceLT, Int32.reduceLE, Int32.reduceAdd, Int32.reduceSub, Nat.reduceLT, Nat.reduceAdd, Nat.reduceEqDiff, ↓reduceIte, true_and, and_true, List.length_nil, List.length_cons, Nat.reduceLeDiff, Nat.zero_le, true_or]
      exact hQ
    · rename_i u
      simp only [eX2_fits_96, eX2_fits_97, eX2_fits_99, pe_const, pe_icgt, pe_iload_3, hget_hset, ia_l, ia_s, vin, opl, onl, Int32.reduceLT, Int32.reduceLE, Int32.reduceAdd, Int32.reduceSub, Nat.reduceLT, Nat.reduceAdd, Nat.reduceEqDiff, ↓reduceIte, true_and, and_true, List.length_nil, List.length_cons, Nat.reduceLeDiff, Nat.zero_le]
      split
      · rename_i v
        rw [iN_or.mpr (Or.inr v)] at hQ
        simp only [eX2_fits_106, eX2_fits_107, pe_const, pe_zret, hget_hset, ia_l, ia_s, vin, opl, onl, Int32.reduceLT, Int32.reduceLE, Int32.reduceAdd, Int32.reduceSub, Nat.reduceLT, Nat.reduceAdd, Nat.reduceEqDiff, ↓reduceIte, true_and, and_true, List.length_nil, List.length_cons, Nat.reduceLeDiff, Nat.zero_le, true_or]
        exact hQ
      · rename_i v
        rw [show iN 1 9 (x - 48) = true from nt (fun z => by rcases iN_or.mp z with z | z; exact u z; exact v z)] at hQ
        simp only [eX2_fits_102, eX2_fits_103, eX2_fits_106, eX2_fits_107, pe_const, pe_goto, pe_zret, hget_hset, ia_l, ia_s, vin, opl, onl, Int32.reduceLT, Int32.reduceLE, Int32.reduceAdd, Int32.reduceSub, Nat.reduceLT, Nat.reduceAdd, Nat.reduceEqDiff, ↓reduceIte, true_and, and_true, List.length_nil, List.length_cons, Nat.reduceLeDiff, Nat.zero_le, or_true]
        exact hQ
  rcases (show g = 0 ∨ g = 1 ∨ g = 2 ∨ g = 3 ∨ g = 4 ∨ g = 5 ∨ g = 6 ∨ g = 7 ∨ g = 8 by omega) with rfl | rfl | rfl | rfl | rfl | rfl | rfl | rfl | rfl
  · rw [show px_sw (nI 0) [(0, 56), (1, 68), (2, 75), (3, 91), (4, 75), (5, 91), (6, 108), (7, 114)] 124 = 56 by decide]
    simp only [eX2_fits_56, eX2_fits_57, eX2_fits_59, pe_const, pe_iceq, pe_iload_2, hget_hset, ia_l, ia_s, vin, opl, onl, Int32.reduceLT, Int32.reduceLE, Int32.reduceAdd, Int32.reduceSub, Nat.reduceLT, Nat.reduceAdd, Nat.reduceEqDiff, ↓reduceIte, true_and, and_true, List.length_nil, List.length_cons, Nat.reduceLeDiff, Nat.zero_le]
    split
    · rename_i u
      simp only [eX2_fits_62, eX2_fits_63, eX2_fits_66, eX2_fits_67, pe_const, pe_goto, pe_zret, hget_hset, ia_l, ia_s, vin, opl, onl, Int32.reduceLT, Int32.reduceLE, Int32.reduceAdd, Int32.reduceSub, Nat.reduceLT, Nat.reduceAdd, Nat.reduceEqDiff, ↓reduceIte, true_and, and_true, List.length_nil, List.length_cons, Nat.reduceLeDiff, Nat.zero_le, or_true]
      simpa [fitB, u, zB] using hQ
    · rename_i u
      simp only [eX2_fits_66, eX2_fits_67, pe_const, pe_zret, hget_hset, ia_l, ia_s, vin, opl, onl, Int32.reduceLT, Int32.reduceLE, Int32.reduceAdd, Int32.reduceSub, Nat.reduceLT, Nat.reduceAdd, Nat.reduceEqDiff, ↓reduceIte, true_and, and_true, List.length_nil, List.length_cons, Nat.reduceLeDiff, Nat.zero_le, true_or]
      simpa [fitB, u, zB] using hQ
  · rw [show px_sw (nI 1) [(0, 56), (1, 68), (2, 75), (3, 91), (4, 75), (5, 91), (6, 108), (7, 114)] 124 = 68 by decide]
    simp only [eX2_fits_68, eX2_fits_69, eX2_fits_70, eX2_fits_71, pe_aload_0, pe_aload_1, pe_callV_2, pe_iload_2, hr, rd_o, hget_hset, ia_l, ia_s, vin, opl, onl, Int32.reduceLT, Int32.reduceLE, Int32.reduceAdd, Int32.reduceSub, Nat.reduceLT, Nat.reduceAdd, Nat.reduceEqDiff, ↓reduceIte, true_and, and_true, List.length_nil, List.length_cons, Nat.reduceLeDiff, Nat.zero_le]
    refine sp_fitsPart (f := f) (s := s) hr hl ?_
    simp only [eX2_fits_74, pe_zret, zB_01, hget_hset, ia_l, ia_s, vin, opl, onl, Int32.reduceLT, Int32.reduceLE, Int32.reduceAdd, Int32.reduceSub, Nat.reduceLT, Nat.reduceAdd, Nat.reduceEqDiff, ↓reduceIte, true_and, and_true, List.length_nil, List.length_cons, Nat.reduceLeDiff, Nat.zero_le]
    exact hQ
  · rw [show px_sw (nI 2) [(0, 56), (1, 68), (2, 75), (3, 91), (4, 75), (5, 91), (6, 108), (7, 114)] 124 = 75 by decide]
    exact fig09 rfl
  · rw [show px_sw (nI 3) [(0, 56), (1, 68), (2, 75), (3, 91), (4, 75), (5, 91), (6, 108), (7, 114)] 124 = 91 by decide]
    exact fig19 rfl
  · rw [show px_sw (nI 4) [(0, 56), (1, 68), (2, 75), (3, 91), (4, 75), (5, 91), (6, 108), (7, 114)] 124 = 75 by decide]
    exact fig09 rfl
  · rw [show px_sw (nI 5) [(0, 56), (1, 68), (2, 75), (3, 91), (4, 75), (5, 91), (6, 108), (7, 114)] 124 = 91 by decide]
    exact fig19 rfl
  · rw [show px_sw (nI 6) [(0, 56), (1, 68), (2, 75), (3, 91), (4, 75), (5, 91), (6, 108), (7, 114)] 124 = 108 by decide]
    simp only [eX2_fits_108, eX2_fits_109, eX2_fits_110, pe_aload_1, pe_callV_1, pe_iload_3, l0, ld_o, hget_hset, ia_l, ia_s, vin, opl, onl, Int32.reduceLT, Int32.reduceLE, Int32.reduceAdd, Int32.reduceSub, Nat.reduceLT, Nat.reduceAdd, Nat.reduceEqDiff, ↓reduceIte, true_and, and_true, List.length_nil, List.length_cons, Nat.reduceLeDiff, Nat.zero_le]
    refine sp_canDigFrom hl ?_
    simp only [eX2_fits_113, pe_zret, zB_01, hget_hset, ia_l, ia_s, vin, opl, onl, Int32.reduceLT, Int32.reduceLE, Int32.reduceAdd, Int32.reduceSub, Nat.reduceLT, Nat.reduceAdd, Nat.reduceEqDiff, ↓reduceIte, true_and, and_true, List.length_nil, List.length_cons, Nat.reduceLeDiff, Nat.zero_le]
    exact hQ
  · rw [show px_sw (nI 7) [(0, 56), (1, 68), (2, 75), (3, 91), (4, 75), (5, 91), (6, 108), (7, 114)] 124 = 114 by decide]
    simp only [eX2_fits_114, eX2_fits_115, eX2_fits_116, eX2_fits_119, eX2_fits_120, pe_aload_0, pe_aload_1, pe_callV_2, pe_getf, pe_iload_3, l0, ld_o, hr, rd_g1, hget_hset, ia_l, ia_s, vin, opl, onl, Int32.reduceLT, Int32.reduceLE, Int32.reduceAdd, Int32.reduceSub, Nat.reduceLT, Nat.reduceAdd, Nat.reduceEqDiff, ↓reduceIte, true_and, and_true, List.length_nil, List.length_cons, Nat.reduceLeDiff, Nat.zero_le]
    refine sp_canDigTo hl ?_
    simp only [eX2_fits_123, pe_zret, zB_01, hget_hset, ia_l, ia_s, vin, opl, onl, Int32.reduceLT, Int32.reduceLE, Int32.reduceAdd, Int32.reduceSub, Nat.reduceLT, Nat.reduceAdd, Nat.reduceEqDiff, ↓reduceIte, true_and, and_true, List.length_nil, List.length_cons, Nat.reduceLeDiff, Nat.zero_le]
    exact hQ
  · rw [show px_sw (nI 8) [(0, 56), (1, 68), (2, 75), (3, 91), (4, 75), (5, 91), (6, 108), (7, 114)] 124 = 124 by decide]
    simp only [eX2_fits_124, eX2_fits_125, pe_ifeq, pe_iload_3, hget_hset, ia_l, ia_s, vin, opl, onl, Int32.reduceLT, Int32.reduceLE, Int32.reduceAdd, Int32.reduceSub, Nat.reduceLT, Nat.reduceAdd, Nat.reduceEqDiff, ↓reduceIte, true_and, and_true, List.length_nil, List.length_cons, Nat.reduceLeDiff, Nat.zero_le]
    split
    · rename_i u
      simp only [eX2_fits_133, eX2_fits_134, eX2_fits_137, eX2_fits_138, pe_const, pe_goto, pe_zret, hget_hset, ia_l, ia_s, vin, opl, onl, Int32.reduceLT, Int32.reduceLE, Int32.reduceAdd, Int32.reduceSub, Nat.reduceLT, Nat.reduceAdd, Nat.reduceEqDiff, ↓reduceIte, true_and, and_true, List.length_nil, List.length_cons, Nat.reduceLeDiff, Nat.zero_le, or_true]
      simpa [fitB, u, zB] using hQ
    · rename_i u
      simp only [eX2_fits_128, eX2_fits_129, eX2_fits_130, pe_const, pe_iceq, pe_iload_3, hget_hset, ia_l, ia_s, vin, opl, onl, Int32.reduceLT, Int32.reduceLE, Int32.reduceAdd, Int32.reduceSub, Nat.reduceLT, Nat.reduceAdd, Nat.reduceEqDiff, ↓reduceIte, true_and, and_true, List.length_nil, List.length_cons, Nat.reduceLeDiff, Nat.zero_le]
      split
      · rename_i v
        simp only [eX2_fits_133, eX2_fits_134, eX2_fits_137, eX2_fits_138, pe_const, pe_goto, pe_zret, hget_hset, ia_l, ia_s, vin, opl, onl, Int32.reduceLT, Int32.reduceLE, Int32.reduceAdd, Int32.reduceSub, Nat.reduceLT, Nat.reduceAdd, Nat.reduceEqDiff, ↓reduceIte, true_and, and_true, List.length_nil, List.length_cons, Nat.reduceLeDiff, Nat.zero_le, or_true]
        simpa [fitB, v, zB] using hQ
      · rename_i v
        simp only [eX2_fits_137, eX2_fits_138, pe_const, pe_zret, hget_hset, ia_l, ia_s, vin, opl, onl, Int32.reduceLT, Int32.reduceLE, Int32.reduceAdd, Int32.reduceSub, Nat.reduceLT, Nat.reduceAdd, Nat.reduceEqDiff, ↓reduceIte, true_and, and_true, List.length_nil, List.length_cons, Nat.reduceLeDiff, Nat.zero_le, true_or]
        simpa [fitB, u, v, zB] using hQ
/-- the reader and the land at l hold r -/
def isR (G : px_H) (l : Nat) (r : RS) : Prop := r.1 ≤ 8 ∧ hget G 4 = some (c_rd (nI r.1) r.2.1 r.2.2.1) ∧ isL G l r.2.2.2
def fR (G G' : px_H) (l : Nat) : Prop := ∀ k, k ≠ 4 → (k < l ∨ l + 6 ≤ k) → hget G' k = hget G k
theorem fR.tr {G G' G'' : px_H} {l : Nat} (h : fR G G' l) (h' : fR G' G'' l) : fR G G'' l := fun k a b => (h' k a b).trans (h k a b)
set_option maxRecDepth 100000 in
theorem sp_takePart (h4l : 4 < l) (hr : hget G 4 = some (c_rd 1 f s)) (hl : isL G l K) (hQ : ∀ G', isR G' l (takeS (1, f, s, K) x) → fR G G' l → Q none G') : pcal (d + 2) 23 [.ref 4, .ref l, .int x] G Q := by
  obtain ⟨l0, l1, l2, l3, l4, l5, l6, l7⟩ := id hl
  have put : ∀ g, g ≤ 8 → takeS (1, f, s, K) x = (g, f, s, K) → Q none (hset G 4 (c_rd (nI g) f s)) := by
    intro g h1 h2
    rw [h2] at hQ
    exact hQ _ ⟨h1, hget_self _ _ _, hl.kept (fun k a b => hget_ne (by omega))⟩ (fun k a b => hget_ne a)
  refine inX2_takePart ?_
  simp only [eX2_takePart_0, eX2_takePart_1, pe_iload_2, pe_switch, px_sw, hget_hset, ia_l, ia_s, vin, opl, onl, Int32.reduceLT, Int32.reduceLE, Int32.reduceAdd, Int32.reduceSub, Nat.reduceLT, Nat.reduceAdd, Nat.reduceEqDiff, ↓reduceIte, true_and, and_true, List.length_nil, List.length_cons, Nat.reduceLeDiff, Nat.zero_le]
  by_cases a : x = 67
  · rw [if_pos a]
    simp only [eX2_takePart_68, eX2_takePart_69, eX2_takePart_71, eX2_takePart_74, eX2_takePart_77, eX2_takePart_78, eX2_takePart_79, eX2_takePart_80, eX2_takePart_81, eX2_takePart_84, pe_aload_0, pe_aload_1, pe_callV_3, pe_const, pe_goto, pe_putf, pe_vret, hr, rd_p0, hget_hset, ia_l, ia_s, vin, opl, onl, Int32.reduceLT, Int32.reduceLE, Int32.reduceAdd, Int32.reduceSub, Nat.reduceLT, Nat.reduceAdd, Nat.reduceEqDiff, ↓reduceIte, true_and, and_true, List.length_nil, List.length_cons, Nat.reduceLeDiff, Nat.zero_le]
    exact put 6 (by omega) (by simp [takeS, a])
  · rw [if_neg a]
    by_cases b : x = 68
    · rw [if_pos b]
      simp only [eX2_takePart_44, eX2_takePart_45, eX2_takePart_46, eX2_takePart_49, eX2_takePart_84, pe_aload_0, pe_const, pe_goto, pe_putf, pe_vret, hr, rd_p0, hget_hset, ia_l, ia_s, vin, opl, onl, Int32.reduceLT, Int32.reduceLE, Int32.reduceAdd, Int32.reduceSub, Nat.reduceLT, Nat.reduceAdd, Nat.reduceEqDiff, ↓reduceIte, true_and, and_true, List.length_nil, List.length_cons, Nat.reduceLeDiff, Nat.zero_le]
      exact put 2 (by omega) (by simp [takeS, b])
    · rw [if_neg b]
      by_cases c : x = 77
      · rw [if_pos c]
        simp only [eX2_takePart_60, eX2_takePart_61, eX2_takePart_62, eX2_takePart_65, eX2_takePart_84, pe_aload_0, pe_const, pe_goto, pe_putf, pe_vret, hr, rd_p0, hget_hset, ia_l, ia_s, vin, opl, onl, Int32.reduceLT, Int32.reduceLE, Int32.reduceAdd, Int32.reduceSub, Nat.reduceLT, Nat.reduceAdd, Nat.reduceEqDiff, ↓reduceIte, true_and, and_true, List.length_nil, List.length_cons, Nat.reduceLeDiff, Nat.zero_le]
        exact put 5 (by omega) (by simp [takeS, c])
      · rw [if_neg c]
        by_cases e : x = 83
        · rw [if_pos e]
          simp only [eX2_takePart_52, eX2_takePart_53, eX2_takePart_54, eX2_takePart_57, eX2_takePart_84, pe_aload_0, pe_const, pe_goto, pe_putf, pe_vret, hr, rd_p0, hget_hset, ia_l, ia_s, vin, opl, onl, Int32.reduceLT, Int32.reduceLE, Int32.reduceAdd, Int32.reduceSub, Nat.reduceLT, Nat.reduceAdd, Nat.reduceEqDiff, ↓reduceIte, true_and, and_true, List.length_nil, List.length_cons, Nat.reduceLeDiff, Nat.zero_le]
          exact put 4 (by omega) (by simp [takeS, e])
        · rw [if_neg e]
          simp only [eX2_takePart_77, eX2_takePart_78, eX2_takePart_79, eX2_takePart_80, eX2_takePart_81, pe_aload_1, pe_callV_3, pe_const, l0, ld_o, hget_hset, ia_l, ia_s, vin, opl, onl, Int32.reduceLT, Int32.reduceLE, Int32.reduceAdd, Int32.reduceSub, Nat.reduceLT, Nat.reduceAdd, Nat.reduceEqDiff, ↓reduceIte, true_and, and_true, List.length_nil, List.length_cons, Nat.reduceLeDiff, Nat.zero_le]
          refine sp_addPlace hl ?_
          intro G' h1 h2
          simp only [eX2_takePart_84, pe_vret, hget_hset, ia_l, ia_s, vin, opl, onl, Int32.reduceLT, Int32.reduceLE, Int32.reduceAdd, Int32.reduceSub, Nat.reduceLT, Nat.reduceAdd, Nat.reduceEqDiff, ↓reduceIte, true_and, and_true, List.length_nil, List.length_cons, Nat.reduceLeDiff, Nat.zero_le]
          have et : takeS (1, f, s, K) x = (1, f, s, adP K 3 0 0) := by simp [takeS, a, b, c, e]
          rw [et] at hQ
          exact hQ G' ⟨by omega, (h2 4 (by omega)).trans hr, h1⟩ (fun k q1 q2 => h2 k q2)
set_option maxRecDepth 100000 in
theorem sp_take {g : Nat} (hg : g ≤ 8) (h4l : 4 < l) (hr : hget G 4 = some (c_rd (nI g) f s)) (hl : isL G l K) (hQ : ∀ G', isR G' l (takeS (g, f, s, K) x) → fR G G' l → Q none G') : pcal (d + 4) 22 [.ref 4, .ref l, .int x] G Q := by
  obtain ⟨l0, l1, l2, l3, l4, l5, l6, l7⟩ := id hl
  refine inX2_take ?_
  simp only [eX2_take_0, eX2_take_1, eX2_take_3, eX2_take_4, eX2_take_5, eX2_take_6, eX2_take_9, pe_aload_0, pe_bin, pe_const, pe_getf, pe_iload_2, pe_istore_3, pe_switch, hr, rd_g0, hget_hset, ia_l, ia_s, vin, opl, onl, Int32.reduceLT, Int32.reduceLE, Int32.reduceAdd, Int32.reduceSub, Nat.reduceLT, Nat.reduceAdd, Nat.reduceEqDiff, ↓reduceIte, true_and, and_true, List.length_nil, List.length_cons, Nat.reduceLeDiff, Nat.zero_le]
  have hlk : ∀ c, isL (hset G 4 c) l K := fun c => hl.kept (fun k a b => hget_ne (by omega))
  have hlk2 : ∀ c c', isL (hset (hset G 4 c) 4 c') l K := fun c c' => hl.kept (fun k a b => by rw [hget_ne (by omega), hget_ne (by omega)])
  rcases (show g = 0 ∨ g = 1 ∨ g = 2 ∨ g = 3 ∨ g = 4 ∨ g = 5 ∨ g = 6 ∨ g = 7 ∨ g = 8 by omega) with rfl | rfl | rfl | rfl | rfl | rfl | rfl | rfl | rfl
  · rw [show px_sw (nI 0) [(0, 56), (1, 64), (2, 73), (3, 86), (4, 104), (5, 119), (6, 134), (7, 148)] 162 = 56 by decide]
    simp only [eX2_take_56, eX2_take_57, eX2_take_58, eX2_take_61, eX2_take_180, pe_aload_0, pe_const, pe_goto, pe_putf, pe_vret, hr, rd_p0, hget_hset, ia_l, ia_s, vin, opl, onl, Int32.reduceLT, Int32.reduceLE, Int32.reduceAdd, Int32.reduceSub, Nat.reduceLT, Nat.reduceAdd, Nat.reduceEqDiff, ↓reduceIte, true_and, and_true, List.length_nil, List.length_cons, Nat.reduceLeDiff, Nat.zero_le]
    exact hQ _ ⟨by simp [takeS], by rw [hget_self]; rfl, hlk _⟩ (fun k a b => hget_ne a)
  · rw [show px_sw (nI 1) [(0, 56), (1, 64), (2, 73), (3, 86), (4, 104), (5, 119), (6, 134), (7, 148)] 162 = 64 by decide]
    simp only [eX2_take_64, eX2_take_65, eX2_take_66, eX2_take_67, pe_aload_0, pe_aload_1, pe_callV_2, pe_iload_2, hr, rd_o, hget_hset, ia_l, ia_s, vin, opl, onl, Int32.reduceLT, Int32.reduceLE, Int32.reduceAdd, Int32.reduceSub, Nat.reduceLT, Nat.reduceAdd, Nat.reduceEqDiff, ↓reduceIte, true_and, and_true, List.length_nil, List.length_cons, Nat.reduceLeDiff, Nat.zero_le]
    refine sp_takePart h4l hr hl ?_
    intro G' h1 h2
    simp only [eX2_take_70, eX2_take_180, pe_goto, pe_vret, hget_hset, ia_l, ia_s, vin, opl, onl, Int32.reduceLT, Int32.reduceLE, Int32.reduceAdd, Int32.reduceSub, Nat.reduceLT, Nat.reduceAdd, Nat.reduceEqDiff, ↓reduceIte, true_and, and_true, List.length_nil, List.length_cons, Nat.reduceLeDiff, Nat.zero_le]
    exact hQ G' h1 h2
  · rw [show px_sw (nI 2) [(0, 56), (1, 64), (2, 73), (3, 86), (4, 104), (5, 119), (6, 134), (7, 148)] 162 = 73 by decide]
    simp only [eX2_take_73, eX2_take_74, eX2_take_75, eX2_take_78, eX2_take_79, eX2_take_80, eX2_take_83, eX2_take_180, pe_aload_0, pe_const, pe_goto, pe_iload_3, pe_putf, pe_vret, hr, rd_p0, rd_p1, rd_p2, hget_hset, ia_l, ia_s, vin, opl, onl, Int32.reduceLT, Int32.reduceLE, Int32.reduceAdd, Int32.reduceSub, Nat.reduceLT, Nat.reduceAdd, Nat.reduceEqDiff, ↓reduceIte, true_and, and_true, List.length_nil, List.length_cons, Nat.reduceLeDiff, Nat.zero_le]
    exact hQ _ ⟨by simp [takeS], by rw [hget_self]; rfl, hlk2 _ _⟩ (fun k a b => by rw [hget_ne a, hget_ne a])
  · rw [show px_sw (nI 3) [(0, 56), (1, 64), (2, 73), (3, 86), (4, 104), (5, 119), (6, 134), (7, 148)] 162 = 86 by decide]
    simp only [eX2_take_86, eX2_take_87, eX2_take_88, eX2_take_89, eX2_take_92, eX2_take_93, pe_aload_0, pe_aload_1, pe_callV_3, pe_const, pe_getf, pe_iload_3, l0, ld_o, hr, rd_g1, rd_g2, hget_hset, ia_l, ia_s, vin, opl, onl, Int32.reduceLT, Int32.reduceLE, Int32.reduceAdd, Int32.reduceSub, Nat.reduceLT, Nat.reduceAdd, Nat.reduceEqDiff, ↓reduceIte, true_and, and_true, List.length_nil, List.length_cons, Nat.reduceLeDiff, Nat.zero_le]
    refine sp_addPlace hl ?_
    intro G' h1 h2
    have hr' := (h2 4 (by omega)).trans hr
    simp only [eX2_take_96, eX2_take_97, eX2_take_98, eX2_take_101, eX2_take_180, pe_aload_0, pe_const, pe_goto, pe_putf, pe_vret, hr', rd_p0, hget_hset, ia_l, ia_s, vin, opl, onl, Int32.reduceLT, Int32.reduceLE, Int32.reduceAdd, Int32.reduceSub, Nat.reduceLT, Nat.reduceAdd, Nat.reduceEqDiff, ↓reduceIte, true_and, and_true, List.length_nil, List.length_cons, Nat.reduceLeDiff, Nat.zero_le]
    exact hQ _ ⟨by simp [takeS], by rw [hget_self]; rfl, h1.kept (fun k a b => hget_ne (by omega))⟩ (fun k a b => by rw [hget_ne a]; exact h2 k b)
  · rw [show px_sw (nI 4) [(0, 56), (1, 64), (2, 73), (3, 86), (4, 104), (5, 119), (6, 134), (7, 148)] 162 = 104 by decide]
    simp only [eX2_take_104, eX2_take_105, eX2_take_106, eX2_take_107, eX2_take_108, pe_aload_1, pe_callV_3, pe_const, pe_iload_3, l0, ld_o, hr, rd_g1, rd_g2, hget_hset, ia_l, ia_s, vin, opl, onl, Int32.reduceLT, Int32.reduceLE, Int32.reduceAdd, Int32.reduceSub, Nat.reduceLT, Nat.reduceAdd, Nat.reduceEqDiff, ↓reduceIte, true_and, and_true, List.length_nil, List.length_cons, Nat.reduceLeDiff, Nat.zero_le]
    refine sp_addPlace hl ?_
    intro G' h1 h2
    have hr' := (h2 4 (by omega)).trans hr
    simp only [eX2_take_111, eX2_take_112, eX2_take_113, eX2_take_116, eX2_take_180, pe_aload_0, pe_const, pe_goto, pe_putf, pe_vret, hr', rd_p0, hget_hset, ia_l, ia_s, vin, opl, onl, Int32.reduceLT, Int32.reduceLE, Int32.reduceAdd, Int32.reduceSub, Nat.reduceLT, Nat.reduceAdd, Nat.reduceEqDiff, ↓reduceIte, true_and, and_true, List.length_nil, List.length_cons, Nat.reduceLeDiff, Nat.zero_le]
    exact hQ _ ⟨by simp [takeS], by rw [hget_self]; rfl, h1.kept (fun k a b => hget_ne (by omega))⟩ (fun k a b => by rw [hget_ne a]; exact h2 k b)
  · rw [show px_sw (nI 5) [(0, 56), (1, 64), (2, 73), (3, 86), (4, 104), (5, 119), (6, 134), (7, 148)] 162 = 119 by decide]
    simp only [eX2_take_119, eX2_take_120, eX2_take_121, eX2_take_122, eX2_take_123, pe_aload_1, pe_callV_3, pe_const, pe_iload_3, l0, ld_o, hr, rd_g1, rd_g2, hget_hset, ia_l, ia_s, vin, opl, onl, Int32.reduceLT, Int32.reduceLE, Int32.reduceAdd, Int32.reduceSub, Nat.reduceLT, Nat.reduceAdd, Nat.reduceEqDiff, ↓reduceIte, true_and, and_true, List.length_nil, List.length_cons, Nat.reduceLeDiff, Nat.zero_le]
    refine sp_addPlace hl ?_
    intro G' h1 h2
    have hr' := (h2 4 (by omega)).trans hr
    simp only [eX2_take_126, eX2_take_127, eX2_take_128, eX2_take_131, eX2_take_180, pe_aload_0, pe_const, pe_goto, pe_putf, pe_vret, hr', rd_p0, hget_hset, ia_l, ia_s, vin, opl, onl, Int32.reduceLT, Int32.reduceLE, Int32.reduceAdd, Int32.reduceSub, Nat.reduceLT, Nat.reduceAdd, Nat.reduceEqDiff, ↓reduceIte, true_and, and_true, List.length_nil, List.length_cons, Nat.reduceLeDiff, Nat.zero_le]
    exact hQ _ ⟨by simp [takeS], by rw [hget_self]; rfl, h1.kept (fun k a b => hget_ne (by omega))⟩ (fun k a b => by rw [hget_ne a]; exact h2 k b)
  · rw [show px_sw (nI 6) [(0, 56), (1, 64), (2, 73), (3, 86), (4, 104), (5, 119), (6, 134), (7, 148)] 162 = 134 by decide]
    simp only [eX2_take_134, eX2_take_135, eX2_take_136, eX2_take_139, eX2_take_140, eX2_take_142, eX2_take_145, eX2_take_180, pe_aload_0, pe_const, pe_goto, pe_iload_3, pe_putf, pe_vret, hr, rd_p0, rd_p1, rd_p2, hget_hset, ia_l, ia_s, vin, opl, onl, Int32.reduceLT, Int32.reduceLE, Int32.reduceAdd, Int32.reduceSub, Nat.reduceLT, Nat.reduceAdd, Nat.reduceEqDiff, ↓reduceIte, true_and, and_true, List.length_nil, List.length_cons, Nat.reduceLeDiff, Nat.zero_le]
    exact hQ _ ⟨by simp [takeS], by rw [hget_self]; rfl, hlk2 _ _⟩ (fun k a b => by rw [hget_ne a, hget_ne a])
  · rw [show px_sw (nI 7) [(0, 56), (1, 64), (2, 73), (3, 86), (4, 104), (5, 119), (6, 134), (7, 148)] 162 = 148 by decide]
    simp only [eX2_take_148, eX2_take_149, eX2_take_150, eX2_take_153, eX2_take_154, eX2_take_156, eX2_take_159, eX2_take_180, pe_aload_0, pe_const, pe_goto, pe_iload_3, pe_putf, pe_vret, hr, rd_p0, rd_p1, rd_p2, hget_hset, ia_l, ia_s, vin, opl, onl, Int32.reduceLT, Int32.reduceLE, Int32.reduceAdd, Int32.reduceSub, Nat.reduceLT, Nat.reduceAdd, Nat.reduceEqDiff, ↓reduceIte, true_and, and_true, List.length_nil, List.length_cons, Nat.reduceLeDiff, Nat.zero_le]
    exact hQ _ ⟨by simp [takeS], by rw [hget_self]; rfl, hlk2 _ _⟩ (fun k a b => by rw [hget_ne a, hget_ne a])
  · rw [show px_sw (nI 8) [(0, 56), (1, 64), (2, 73), (3, 86), (4, 104), (5, 119), (6, 134), (7, 148)] 162 = 162 by decide]
    simp only [eX2_take_162, eX2_take_163, eX2_take_164, eX2_take_167, eX2_take_168, eX2_take_171, eX2_take_172, pe_aload_0, pe_aload_1, pe_callV_3, pe_getf, pe_iload_3, l0, ld_o, hr, rd_g1, rd_g2, hget_hset, ia_l, ia_s, vin, opl, onl, Int32.reduceLT, Int32.reduceLE, Int32.reduceAdd, Int32.reduceSub, Nat.reduceLT, Nat.reduceAdd, Nat.reduceEqDiff, ↓reduceIte, true_and, and_true, List.length_nil, List.length_cons, Nat.reduceLeDiff, Nat.zero_le]
    refine sp_addDitch hl ?_
    intro G' h1 h2
    have hr' := (h2 4 (by omega)).trans hr
    simp only [eX2_take_175, eX2_take_176, eX2_take_177, eX2_take_180, pe_aload_0, pe_const, pe_putf, pe_vret, hr', rd_p0, hget_hset, ia_l, ia_s, vin, opl, onl, Int32.reduceLT, Int32.reduceLE, Int32.reduceAdd, Int32.reduceSub, Nat.reduceLT, Nat.reduceAdd, Nat.reduceEqDiff, ↓reduceIte, true_and, and_true, List.length_nil, List.length_cons, Nat.reduceLeDiff, Nat.zero_le]
    exact hQ _ ⟨by simp [takeS], by rw [hget_self]; rfl, h1.kept (fun k a b => hget_ne (by omega))⟩ (fun k a b => by rw [hget_ne a]; exact h2 k b)
/-- the text read from letter i on, k letters left: what read answers, and the land then -/
def rdC (tx : Nat → Int32) (len : Nat) : Nat → Nat → RS → Int32 × Ld
  | 0, _, r => (if r.1 = 1 then -9 else nI len, r.2.2.2)
  | k + 1, i, r => if fitB r.1 r.2.1 r.2.2.2 (tx i) = true then rdC tx len k (i + 1) (takeS r (tx i)) else (nI i, r.2.2.2)
theorem nI_1g {g : Nat} (h : g ≤ 8) : (nI g = 1) = (g = 1) := by
  apply propext
  exact nI_eq (b := 1) (by omega) (by omega)
set_option maxRecDepth 100000 in
theorem sp_read {len : Nat} {a b c : Int32} {tx : Nat → Int32} (h4l : 4 < l) (hlen : len ≤ 48) (hr : hget G 4 = some (c_rd a b c)) (hl : isL G l K) (htx : hget G 3 = some (c_ia 48 tx)) (hQ : ∀ G' r, isR G' l r → (rdC tx len len 0 (0, b, c, clK K)).2 = r.2.2.2 → fR G G' l → Q (some (.int (rdC tx len len 0 (0, b, c, clK K)).1)) G') : pcal (d + 6) 19 [.ref 4, .ref l, .ref 3, .int (nI len)] G Q := by
  have l0 := hl.1
  refine inX2_read ?_
  simp only [eX2_read_0, eX2_read_1, pe_aload_1, pe_callV_0, l0, ld_o, hget_hset, ia_l, ia_s, vin, opl, onl, Int32.reduceLT, Int32.reduceLE, Int32.reduceAdd, Int32.reduceSub, Nat.reduceLT, Nat.reduceAdd, Nat.reduceEqDiff, ↓reduceIte, true_and, and_true, List.length_nil, List.length_cons, Nat.reduceLeDiff, Nat.zero_le]
  refine sp_clear hl ?_
  intro G1 g1 g2
  have r1 : hget G1 4 = some (c_rd a b c) := (g2 4 (by omega)).trans hr
  have t1 : hget G1 3 = some (c_ia 48 tx) := (g2 3 (by omega)).trans htx
  have key : ∀ k i H r, i + k = len → isR H l r → hget H 3 = some (c_ia 48 tx) → fR G H l → rdC tx len k i r = rdC tx len len 0 (0, b, c, clK K) → pr (d + 5) 19 (G.1 + 0, G.2.1 + 0) Q 12 [some (.ref 4), some (.ref l), some (.ref 3), some (.int (nI len)), some (.int (nI i))] [] H := by
    intro k
    induction k with
    | zero =>
      intro i H r hi k1 k2 k3 k4
      obtain rfl : i = len := by omega
      obtain ⟨q1, q2, q3⟩ := id k1
      have fin := hQ H r k1 (by rw [← k4]; rfl) k3
      rw [← k4, rdC] at fin
      simp only [eX2_read_12, eX2_read_14, eX2_read_15, eX2_read_55, eX2_read_56, eX2_read_59, eX2_read_60, eX2_read_63, eX2_read_65, eX2_read_68, eX2_read_69, pe_aload_0, pe_const, pe_getf, pe_goto, pe_iceq, pe_iclt, pe_iload_3, pe_iload_4, pe_iret, niE, q2, rd_g0, nI_1g q1, hget_hset, ia_l, ia_s, vin, opl, onl, Int32.reduceLT, Int32.reduceLE, Int32.reduceAdd, Int32.reduceSub, Nat.reduceLT, Nat.reduceAdd, Nat.reduceEqDiff, ↓reduceIte, true_and, and_true, List.length_nil, List.length_cons, Nat.reduceLeDiff, Nat.zero_le]
      split
      · rename_i u
        rw [if_pos u] at fin
        exact fin
      · rename_i u
        rw [if_neg u] at fin
        exact fin
    | succ k ih =>
      intro i H r hi k1 k2 k3 k4
      obtain ⟨q1, q2, q3⟩ := id k1
      obtain ⟨g, f, s, K'⟩ := r
      dsimp only at q1 q2 q3
      have c1 : nI i < nI len := nI_lt (by omega) (by omega)
      have c2 : nI i < Int32.ofNat 48 := nI_lt (b := 48) (by omega) (by omega)
      have c3 : (nI i).toNatClampNeg = i := nI_clamp (by omega)
      have c4 : 0 ≤ nI i := nI_pos' (by omega)
      have c5 : i < 48 := by omega
      rw [rdC] at k4
      dsimp only at k4
      rw [eX2_read_12]
      simp only [eX2_read_14, eX2_read_15, eX2_read_18, eX2_read_20, eX2_read_21, eX2_read_22, eX2_read_25, eX2_read_26, eX2_read_27, eX2_read_28, eX2_read_30, eX2_read_31, pe_alen, pe_aload_0, pe_aload_1, pe_aload_2, pe_callV_2, pe_iald, pe_iclt, pe_iload_3, pe_iload_4, k2, ia_n, q2, rd_o, c1, c2, c3, c4, c5, hget_hset, ia_l, ia_s, vin, opl, onl, Int32.reduceLT, Int32.reduceLE, Int32.reduceAdd, Int32.reduceSub, Nat.reduceLT, Nat.reduceAdd, Nat.reduceEqDiff, ↓reduceIte, true_and, and_true, List.length_nil, List.length_cons, Nat.reduceLeDiff, Nat.zero_le]
      refine sp_fits q1 q2 q3 ?_
      simp only [eX2_read_34, eX2_read_37, eX2_read_39, eX2_read_40, eX2_read_41, eX2_read_42, eX2_read_43, eX2_read_45, eX2_read_46, pe_aload_0, pe_aload_1, pe_aload_2, pe_callV_2, pe_iald, pe_ifeq, pe_iload_4, pe_iret, zB_0, k2, q2, rd_o, c3, c4, c5, hget_hset, ia_l, ia_s, vin, opl, onl, Int32.reduceLT, Int32.reduceLE, Int32.reduceAdd, Int32.reduceSub, Nat.reduceLT, Nat.reduceAdd, Nat.reduceEqDiff, ↓reduceIte, true_and, and_true, List.length_nil, List.length_cons, Nat.reduceLeDiff, Nat.zero_le]
      split
      · rename_i u
        rw [if_neg (by simp [u])] at k4
        have fin := hQ H (g, f, s, K') k1 (by rw [← k4]) k3
        rw [← k4] at fin
        exact fin
      · rename_i u
        rw [if_pos (nt u)] at k4
        refine sp_take q1 h4l q2 q3 ?_
        intro G2 h1 h2
        simp only [eX2_read_49, eX2_read_52, pe_goto, pe_iinc_4, nisw, hget_hset, ia_l, ia_s, vin, opl, onl, Int32.reduceLT, Int32.reduceLE, Int32.reduceAdd, Int32.reduceSub, Nat.reduceLT, Nat.reduceAdd, Nat.reduceEqDiff, ↓reduceIte, true_and, and_true, List.length_nil, List.length_cons, Nat.reduceLeDiff, Nat.zero_le]
        exact ih (i + 1) G2 _ (by omega) h1 ((h2 3 (by omega) (by omega)).trans k2) (k3.tr h2) k4
  simp only [eX2_read_4, eX2_read_5, eX2_read_6, eX2_read_9, eX2_read_10, pe_aload_0, pe_const, pe_istore_4, pe_putf, r1, rd_p0, hget_hset, ia_l, ia_s, vin, opl, onl, Int32.reduceLT, Int32.reduceLE, Int32.reduceAdd, Int32.reduceSub, Nat.reduceLT, Nat.reduceAdd, Nat.reduceEqDiff, ↓reduceIte, true_and, and_true, List.length_nil, List.length_cons, Nat.reduceLeDiff, Nat.zero_le]
  refine key len 0 _ (0, b, c, clK K) (by omega) ⟨by simp, by rw [hget_self]; rfl, g1.kept (fun k q1 q2 => hget_ne (by omega))⟩ ((hget_ne (by omega)).trans t1) (fun k q1 q2 => by rw [hget_ne q1]; exact g2 k q2) rfl
end CR
