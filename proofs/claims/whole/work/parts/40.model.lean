/-! ===== the reference: its cell, its small answers ===== -/
/-- the reference at role 124: q k is its number in field k -/
def c_m (q : Nat → Int32) (sd : Int64) : px_E := .inr (.inr (7, [.ref 125, .ref 126, .ref 127, .ref 128, .ref 129, .ref 130, .int (q 6), .int (q 7), .int (q 8), .ref 131, .ref 132, .ref 133, .ref 134, .int (q 13), .int (q 14), .ref 135, .ref 136, .int (q 17), .int (q 18), .int (q 19), .ref 137, .int (q 21), .int (q 22), .ref 138, .int (q 24), .ref 139, .ref 140, .ref 141, .ref 142, .ref 143, .ref 144, .long sd, .ref 145, .ref 146]))
section CM
variable {f : Value → Prop} {h : px_E → Prop} {p : Prop} {q : Nat → Int32} {x : Int32} {sd z : Int64}
theorem m_g0 : pgf (some (c_m q sd)) 7 0 f = f (.ref 125) := by simp [c_m, pgf]
theorem m_g1 : pgf (some (c_m q sd)) 7 1 f = f (.ref 126) := by simp [c_m, pgf]
theorem m_g2 : pgf (some (c_m q sd)) 7 2 f = f (.ref 127) := by simp [c_m, pgf]
theorem m_g3 : pgf (some (c_m q sd)) 7 3 f = f (.ref 128) := by simp [c_m, pgf]
theorem m_g4 : pgf (some (c_m q sd)) 7 4 f = f (.ref 129) := by simp [c_m, pgf]
theorem m_g5 : pgf (some (c_m q sd)) 7 5 f = f (.ref 130) := by simp [c_m, pgf]
theorem m_g6 : pgf (some (c_m q sd)) 7 6 f = f (.int (q 6)) := by simp [c_m, pgf]
theorem m_g7 : pgf (some (c_m q sd)) 7 7 f = f (.int (q 7)) := by simp [c_m, pgf]
theorem m_g8 : pgf (some (c_m q sd)) 7 8 f = f (.int (q 8)) := by simp [c_m, pgf]
theorem m_g9 : pgf (some (c_m q sd)) 7 9 f = f (.ref 131) := by simp [c_m, pgf]
theorem m_g10 : pgf (some (c_m q sd)) 7 10 f = f (.ref 132) := by simp [c_m, pgf]
theorem m_g11 : pgf (some (c_m q sd)) 7 11 f = f (.ref 133) := by simp [c_m, pgf]
theorem m_g12 : pgf (some (c_m q sd)) 7 12 f = f (.ref 134) := by simp [c_m, pgf]
theorem m_g13 : pgf (some (c_m q sd)) 7 13 f = f (.int (q 13)) := by simp [c_m, pgf]
theorem m_g14 : pgf (some (c_m q sd)) 7 14 f = f (.int (q 14)) := by simp [c_m, pgf]
theorem m_g15 : pgf (some (c_m q sd)) 7 15 f = f (.ref 135) := by simp [c_m, pgf]
theorem m_g16 : pgf (some (c_m q sd)) 7 16 f = f (.ref 136) := by simp [c_m, pgf]
theorem m_g17 : pgf (some (c_m q sd)) 7 17 f = f (.int (q 17)) := by simp [c_m, pgf]
theorem m_g18 : pgf (some (c_m q sd)) 7 18 f = f (.int (q 18)) := by simp [c_m, pgf]
theorem m_g19 : pgf (some (c_m q sd)) 7 19 f = f (.int (q 19)) := by simp [c_m, pgf]
theorem m_g20 : pgf (some (c_m q sd)) 7 20 f = f (.ref 137) := by simp [c_m, pgf]
theorem m_g21 : pgf (some (c_m q sd)) 7 21 f = f (.int (q 21)) := by simp [c_m, pgf]
theorem m_g22 : pgf (some (c_m q sd)) 7 22 f = f (.int (q 22)) := by simp [c_m, pgf]
theorem m_g23 : pgf (some (c_m q sd)) 7 23 f = f (.ref 138) := by simp [c_m, pgf]
theorem m_g24 : pgf (some (c_m q sd)) 7 24 f = f (.int (q 24)) := by simp [c_m, pgf]
theorem m_g25 : pgf (some (c_m q sd)) 7 25 f = f (.ref 139) := by simp [c_m, pgf]
theorem m_g26 : pgf (some (c_m q sd)) 7 26 f = f (.ref 140) := by simp [c_m, pgf]
theorem m_g27 : pgf (some (c_m q sd)) 7 27 f = f (.ref 141) := by simp [c_m, pgf]
theorem m_g28 : pgf (some (c_m q sd)) 7 28 f = f (.ref 142) := by simp [c_m, pgf]
theorem m_g29 : pgf (some (c_m q sd)) 7 29 f = f (.ref 143) := by simp [c_m, pgf]
theorem m_g30 : pgf (some (c_m q sd)) 7 30 f = f (.ref 144) := by simp [c_m, pgf]
theorem m_g31 : pgf (some (c_m q sd)) 7 31 f = f (.long sd) := by simp [c_m, pgf]
theorem m_g32 : pgf (some (c_m q sd)) 7 32 f = f (.ref 145) := by simp [c_m, pgf]
theorem m_g33 : pgf (some (c_m q sd)) 7 33 f = f (.ref 146) := by simp [c_m, pgf]
theorem m_p6 : pput (some (c_m q sd)) 7 6 0 (.int x) h = h (c_m (upd q 6 x) sd) := by simp [c_m, pput, ppf, pfit, upd]
theorem m_p7 : pput (some (c_m q sd)) 7 7 0 (.int x) h = h (c_m (upd q 7 x) sd) := by simp [c_m, pput, ppf, pfit, upd]
theorem m_p8 : pput (some (c_m q sd)) 7 8 0 (.int x) h = h (c_m (upd q 8 x) sd) := by simp [c_m, pput, ppf, pfit, upd]
theorem m_p13 : pput (some (c_m q sd)) 7 13 0 (.int x) h = h (c_m (upd q 13 x) sd) := by simp [c_m, pput, ppf, pfit, upd]
theorem m_p14 : pput (some (c_m q sd)) 7 14 0 (.int x) h = h (c_m (upd q 14 x) sd) := by simp [c_m, pput, ppf, pfit, upd]
theorem m_p17 : pput (some (c_m q sd)) 7 17 0 (.int x) h = h (c_m (upd q 17 x) sd) := by simp [c_m, pput, ppf, pfit, upd]
theorem m_p18 : pput (some (c_m q sd)) 7 18 0 (.int x) h = h (c_m (upd q 18 x) sd) := by simp [c_m, pput, ppf, pfit, upd]
theorem m_p19 : pput (some (c_m q sd)) 7 19 0 (.int x) h = h (c_m (upd q 19 x) sd) := by simp [c_m, pput, ppf, pfit, upd]
theorem m_p21 : pput (some (c_m q sd)) 7 21 0 (.int x) h = h (c_m (upd q 21 x) sd) := by simp [c_m, pput, ppf, pfit, upd]
theorem m_p22 : pput (some (c_m q sd)) 7 22 0 (.int x) h = h (c_m (upd q 22 x) sd) := by simp [c_m, pput, ppf, pfit, upd]
theorem m_p24 : pput (some (c_m q sd)) 7 24 0 (.int x) h = h (c_m (upd q 24 x) sd) := by simp [c_m, pput, ppf, pfit, upd]
theorem m_p31 : pput (some (c_m q sd)) 7 31 1 (.long z) h = h (c_m q z) := by simp [c_m, pput, ppf, pfit]
theorem m_o : pobj (some (c_m q sd)) 7 p = p := by simp [c_m, pobj, ppf]
end CM
theorem i64le {x y : Int32} : x.toInt64 ≤ y.toInt64 ↔ x ≤ y := by
  rw [Int64.le_iff_toInt_le, Int32.le_iff_toInt_le, Int32.toInt_toInt64, Int32.toInt_toInt64]
set_option maxRecDepth 100000 in
theorem sp_in64 {d : Nat} {G : px_H} {x a b : Int64} {Q : px_Q} (hQ : Q (some (.int (zB (decide (a ≤ x) && decide (x ≤ b))))) G) : pcal (d + 1) 91 [.long x, .long a, .long b] G Q := by
  refine inX7_in ?_
  simp only [eX7_in_0, eX7_in_1, eX7_in_2, eX7_in_3, pe_iflt, pe_lcmp, pe_lload_0, pe_lload_2, hget_hset, ia_l, ia_s, vin, opl, onl, Int32.reduceLT, Int32.reduceLE, Int32.reduceAdd, Int32.reduceSub, Nat.reduceLT, Nat.reduceAdd, Nat.reduceEqDiff, ↓reduceIte, true_and, and_true, List.length_nil, List.length_cons, Nat.reduceLeDiff, Nat.zero_le]
  split
  · rename_i c1
    rw [lg_cmp_lt] at c1
    simp only [eX7_in_0, eX7_in_1, eX7_in_2, eX7_in_3, eX7_in_6, eX7_in_7, eX7_in_9, eX7_in_10, eX7_in_13, eX7_in_14, eX7_in_17, eX7_in_18, pe_const, pe_goto, pe_ifgt, pe_iflt, pe_lcmp, pe_lload_0, pe_lload_2, pe_lload_4, pe_zret, hget_hset, ia_l, ia_s, vin, opl, onl, Int32.reduceLT, Int32.reduceLE, Int32.reduceAdd, Int32.reduceSub, Nat.reduceLT, Nat.reduceAdd, Nat.reduceEqDiff, ↓reduceIte, true_and, and_true, List.length_nil, List.length_cons, Nat.reduceLeDiff, Nat.zero_le, true_or]
    simpa [zB, Int64.not_le.mpr c1] using hQ
  · rename_i c1
    rw [lg_cmp_lt, Int64.not_lt] at c1
    simp only [eX7_in_0, eX7_in_1, eX7_in_2, eX7_in_3, eX7_in_6, eX7_in_7, eX7_in_9, eX7_in_10, eX7_in_13, eX7_in_14, eX7_in_17, eX7_in_18, pe_const, pe_goto, pe_ifgt, pe_iflt, pe_lcmp, pe_lload_0, pe_lload_2, pe_lload_4, pe_zret, hget_hset, ia_l, ia_s, vin, opl, onl, Int32.reduceLT, Int32.reduceLE, Int32.reduceAdd, Int32.reduceSub, Nat.reduceLT, Nat.reduceAdd, Nat.reduceEqDiff, ↓reduceIte, true_and, and_true, List.length_nil, List.length_cons, Nat.reduceLeDiff, Nat.zero_le]
    split
    · rename_i c2
      rw [lg_cmp_gt] at c2
      simp only [eX7_in_0, eX7_in_1, eX7_in_2, eX7_in_3, eX7_in_6, eX7_in_7, eX7_in_9, eX7_in_10, eX7_in_13, eX7_in_14, eX7_in_17, eX7_in_18, pe_const, pe_goto, pe_ifgt, pe_iflt, pe_lcmp, pe_lload_0, pe_lload_2, pe_lload_4, pe_zret, hget_hset, ia_l, ia_s, vin, opl, onl, Int32.reduceLT, Int32.reduceLE, Int32.reduceAdd, Int32.reduceSub, Nat.reduceLT, Nat.reduceAdd, Nat.reduceEqDiff, ↓reduceIte, true_and, and_true, List.length_nil, List.length_cons, Nat.reduceLeDiff, Nat.zero_le, true_or]
      simpa [zB, Int64.not_le.mpr c2] using hQ
    · rename_i c2
      rw [lg_cmp_gt, Int64.not_lt] at c2
      simp only [eX7_in_0, eX7_in_1, eX7_in_2, eX7_in_3, eX7_in_6, eX7_in_7, eX7_in_9, eX7_in_10, eX7_in_13, eX7_in_14, eX7_in_17, eX7_in_18, pe_const, pe_goto, pe_ifgt, pe_iflt, pe_lcmp, pe_lload_0, pe_lload_2, pe_lload_4, pe_zret, hget_hset, ia_l, ia_s, vin, opl, onl, Int32.reduceLT, Int32.reduceLE, Int32.reduceAdd, Int32.reduceSub, Nat.reduceLT, Nat.reduceAdd, Nat.reduceEqDiff, ↓reduceIte, true_and, and_true, List.length_nil, List.length_cons, Nat.reduceLeDiff, Nat.zero_le, or_true]
      simpa [zB, c1, c2] using hQ
/-- x lies between a and b -/
def iN (a b x : Int32) : Bool := decide (a ≤ x) && decide (x ≤ b)
theorem sp_in {d : Nat} {G : px_H} {x a b : Int32} {u v : Int64} {Q : px_Q} (hu : u = a.toInt64) (hv : v = b.toInt64) (hQ : Q (some (.int (zB (iN a b x)))) G) : pcal (d + 1) 91 [.long x.toInt64, .long u, .long v] G Q := by
  subst hu hv
  refine sp_in64 ?_
  simp only [i64le]
  exact hQ
set_option maxRecDepth 100000 in
theorem sp_has {d : Nat} {G : px_H} {x y : Int32} {Q : px_Q} (hQ : Q (some (.int (zB (decide (x >>> (y &&& 31) &&& 1 = 1))))) G) : pcal (d + 1) 92 [.int x, .int y] G Q := by
  refine inX7_has ?_
  simp only [eX7_has_0, eX7_has_1, eX7_has_2, eX7_has_3, eX7_has_4, eX7_has_5, eX7_has_6, eX7_has_9, eX7_has_10, eX7_has_13, eX7_has_14, pe_bin, pe_const, pe_goto, pe_iceq, pe_iload_0, pe_iload_1, pe_zret, hget_hset, ia_l, ia_s, vin, opl, onl, Int32.reduceLT, Int32.reduceLE, Int32.reduceAdd, Int32.reduceSub, Nat.reduceLT, Nat.reduceAdd, Nat.reduceEqDiff, ↓reduceIte, true_and, and_true, List.length_nil, List.length_cons, Nat.reduceLeDiff, Nat.zero_le]
  split
  · rename_i c1
    simp only [hget_hset, ia_l, ia_s, vin, opl, onl, Int32.reduceLT, Int32.reduceLE, Int32.reduceAdd, Int32.reduceSub, Nat.reduceLT, Nat.reduceAdd, Nat.reduceEqDiff, ↓reduceIte, true_and, and_true, List.length_nil, List.length_cons, Nat.reduceLeDiff, Nat.zero_le, or_true]
    simpa [zB, c1] using hQ
  · rename_i c1
    simp only [hget_hset, ia_l, ia_s, vin, opl, onl, Int32.reduceLT, Int32.reduceLE, Int32.reduceAdd, Int32.reduceSub, Nat.reduceLT, Nat.reduceAdd, Nat.reduceEqDiff, ↓reduceIte, true_and, and_true, List.length_nil, List.length_cons, Nat.reduceLeDiff, Nat.zero_le, true_or]
    simpa [zB, c1] using hQ
/-- how many of the first eight bits are set, as the reference counts -/
def on8 (x : Int32) : Int32 := sm (fun k => bt x k) 8
theorem on8_bc : ∀ j, j < 64 → on8 (nI j) = nI (pcn j) := by decide +kernel
set_option maxRecDepth 100000 in
theorem sp_ones {d : Nat} {G : px_H} {x : Int32} {Q : px_Q} (hQ : Q (some (.int (on8 x))) G) : pcal (d + 1) 93 [.int x] G Q := by
  refine inX7_ones ?_
  simp only [eX7_ones_0, eX7_ones_1, eX7_ones_2, eX7_ones_3, eX7_ones_4, eX7_ones_5, eX7_ones_7, eX7_ones_10, eX7_ones_11, eX7_ones_12, eX7_ones_13, eX7_ones_14, eX7_ones_15, eX7_ones_16, eX7_ones_17, eX7_ones_18, eX7_ones_21, eX7_ones_24, eX7_ones_25, pe_bin, pe_const, pe_goto, pe_iclt, pe_iinc_2, pe_iload_0, pe_iload_1, pe_iload_2, pe_iret, pe_istore_1, pe_istore_2, hget_hset, ia_l, ia_s, vin, opl, onl, Int32.reduceLT, Int32.reduceLE, Int32.reduceAdd, Int32.reduceSub, Nat.reduceLT, Nat.reduceAdd, Nat.reduceEqDiff, ↓reduceIte, true_and, and_true, List.length_nil, List.length_cons, Nat.reduceLeDiff, Nat.zero_le]
  exact hQ
/-- the land of the reference: as the class has it, below its numbers -/
def mK (G : px_H) (q : Nat → Int32) (sd : Int64) (K : Ld) : Prop := hget G 124 = some (c_m q sd) ∧ q 13 = nI K.n ∧ q 14 = nI K.m ∧ K.n ≤ 6 ∧ K.m ≤ 6 ∧ ∃ kd ms fm tt : Nat → Int32, hget G 131 = some (c_ia 6 kd) ∧ hget G 132 = some (c_ia 6 ms) ∧ hget G 133 = some (c_ia 6 fm) ∧ hget G 134 = some (c_ia 6 tt) ∧ (∀ p, p < K.n → kd p = K.kd p ∧ ms p = K.ms p) ∧ ∀ i, i < K.m → fm i = K.fm i ∧ tt i = K.tt i
theorem mK.kept {G G' : px_H} {q : Nat → Int32} {sd : Int64} {K : Ld} (h : mK G q sd K) (h0 : hget G' 124 = hget G 124) (h1 : hget G' 131 = hget G 131) (h2 : hget G' 132 = hget G 132) (h3 : hget G' 133 = hget G 133) (h4 : hget G' 134 = hget G 134) : mK G' q sd K := by
  unfold mK at h ⊢
  rw [h0, h1, h2, h3, h4]
  exact h
theorem hP_pred {n : Nat} (hn : n ≤ 6) (x : Int32) : iN 0 (nI n - 1) x = hP n x := by
  unfold iN hP
  have e1 : (nI n - 1).toInt = (n : Int) - 1 := by
    rcases (show n = 0 ∨ n = 1 ∨ n = 2 ∨ n = 3 ∨ n = 4 ∨ n = 5 ∨ n = 6 by omega) with rfl | rfl | rfl | rfl | rfl | rfl | rfl <;> decide
  have e2 : (nI n).toInt = (n : Int) := nI_toInt (by omega)
  have : (x ≤ nI n - 1) = (x < nI n) := by
    rw [Int32.le_iff_toInt_le, Int32.lt_iff_toInt_lt, e1, e2]
    exact propext ⟨fun _ => by omega, fun _ => by omega⟩
  simp only [this]
set_option maxRecDepth 100000 in
theorem sp_isPlace {d : Nat} {G : px_H} {q : Nat → Int32} {sd : Int64} {K : Ld} {x : Int32} {Q : px_Q} (hm : mK G q sd K) (hQ : Q (some (.int (zB (hP K.n x)))) G) : pcal (d + 2) 103 [.ref 124, .int x] G Q := by
  obtain ⟨m0, m1, m2, m3, m4, -⟩ := hm
  refine inX7_isPlace ?_
  simp only [eX7_isPlace_0, eX7_isPlace_1, eX7_isPlace_2, eX7_isPlace_3, eX7_isPlace_4, eX7_isPlace_7, eX7_isPlace_8, eX7_isPlace_9, eX7_isPlace_10, pe_aload_0, pe_bin, pe_callS_3, pe_const, pe_getf, pe_i2l, pe_iload_1, m0, m_g13, m1, hget_hset, ia_l, ia_s, vin, opl, onl, Int32.reduceLT, Int32.reduceLE, Int32.reduceAdd, Int32.reduceSub, Nat.reduceLT, Nat.reduceAdd, Nat.reduceEqDiff, ↓reduceIte, true_and, and_true, List.length_nil, List.length_cons, Nat.reduceLeDiff, Nat.zero_le]
  refine sp_in (a := 0) rfl rfl ?_
  rw [hP_pred m3]
  simp only [eX7_isPlace_0, eX7_isPlace_1, eX7_isPlace_2, eX7_isPlace_3, eX7_isPlace_4, eX7_isPlace_7, eX7_isPlace_8, eX7_isPlace_9, eX7_isPlace_10, eX7_isPlace_13, pe_aload_0, pe_bin, pe_callS_3, pe_const, pe_getf, pe_i2l, pe_iload_1, pe_zret, hget_hset, ia_l, ia_s, vin, opl, onl, Int32.reduceLT, Int32.reduceLE, Int32.reduceAdd, Int32.reduceSub, Nat.reduceLT, Nat.reduceAdd, Nat.reduceEqDiff, ↓reduceIte, true_and, and_true, List.length_nil, List.length_cons, Nat.reduceLeDiff, Nat.zero_le]
  exact ⟨by unfold zB; split <;> simp, hQ⟩
set_option maxRecDepth 100000 in
theorem sp_isDitch {d : Nat} {G : px_H} {q : Nat → Int32} {sd : Int64} {K : Ld} {x : Int32} {Q : px_Q} (hm : mK G q sd K) (hQ : Q (some (.int (zB (hP K.m x)))) G) : pcal (d + 2) 104 [.ref 124, .int x] G Q := by
  obtain ⟨m0, m1, m2, m3, m4, -⟩ := hm
  refine inX7_isDitch ?_
  simp only [eX7_isDitch_0, eX7_isDitch_1, eX7_isDitch_2, eX7_isDitch_3, eX7_isDitch_4, eX7_isDitch_7, eX7_isDitch_8, eX7_isDitch_9, eX7_isDitch_10, pe_aload_0, pe_bin, pe_callS_3, pe_const, pe_getf, pe_i2l, pe_iload_1, m0, m_g14, m2, hget_hset, ia_l, ia_s, vin, opl, onl, Int32.reduceLT, Int32.reduceLE, Int32.reduceAdd, Int32.reduceSub, Nat.reduceLT, Nat.reduceAdd, Nat.reduceEqDiff, ↓reduceIte, true_and, and_true, List.length_nil, List.length_cons, Nat.reduceLeDiff, Nat.zero_le]
  refine sp_in (a := 0) rfl rfl ?_
  rw [hP_pred m4]
  simp only [eX7_isDitch_0, eX7_isDitch_1, eX7_isDitch_2, eX7_isDitch_3, eX7_isDitch_4, eX7_isDitch_7, eX7_isDitch_8, eX7_isDitch_9, eX7_isDitch_10, eX7_isDitch_13, pe_aload_0, pe_bin, pe_callS_3, pe_const, pe_getf, pe_i2l, pe_iload_1, pe_zret, hget_hset, ia_l, ia_s, vin, opl, onl, Int32.reduceLT, Int32.reduceLE, Int32.reduceAdd, Int32.reduceSub, Nat.reduceLT, Nat.reduceAdd, Nat.reduceEqDiff, ↓reduceIte, true_and, and_true, List.length_nil, List.length_cons, Nat.reduceLeDiff, Nat.zero_le]
  exact ⟨by unfold zB; split <;> simp, hQ⟩
