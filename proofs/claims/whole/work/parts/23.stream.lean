/-! ===== an hour, as the class lets it go by ===== -/
def mnI (x y : Int32) : Int32 := if y < x then y else x
/-- every ditch joins places that there are -/
def vL (K : Ld) : Prop := K.n ≤ 6 ∧ K.m ≤ 6 ∧ ∀ d, d < K.m → (0 ≤ K.fm d ∧ (K.fm d).toNatClampNeg < K.n) ∧ (0 ≤ K.tt d ∧ (K.tt d).toNatClampNeg < K.n)
set_option maxRecDepth 100000 in
theorem sp_arrive {d a l s p : Nat} {G : px_H} {K : Ld} {f0 f1 f2 : Nat → Int32} {op hr am : Int32} {Q : px_Q} (hl : isL G l K) (hs : hget G s = some (c_sr s)) (h0 : hget G a = some (c_sc a op hr)) (h1 : hget G (a + 1) = some (c_ia 6 f0)) (h2 : hget G (a + 2) = some (c_ia 6 f1)) (h3 : hget G (a + 3) = some (c_ia 6 f2)) (hp : p < 6) (hla : l + 6 ≤ a ∨ a + 4 ≤ l)
    (hQ : ∀ G' r, r = (if K.kd p = 1 then mnI (f1 p) am else 0) → hget G' (a + 1) = some (c_ia 6 (upd f0 p (f0 p + am))) → hget G' (a + 2) = some (c_ia 6 (if K.kd p = 1 then upd f1 p (f1 p - mnI (f1 p) am) else f1)) → hget G' (a + 3) = some (c_ia 6 (if K.kd p = 3 ∧ f2 p = -9 then upd f2 p hr else f2)) → fr G G' (a + 1) (a + 4) → Q (some (.int r)) G') : pcal (d + 1) 40 [.ref s, .ref l, .ref a, .int (nI p), .int am] G Q := by
  obtain ⟨l0, l1, l2, l3, l4, l5, l6, l7⟩ := hl
  obtain ⟨c1, c2, c3⟩ := ni6 hp
  have ne_la_0_0 : ¬ (l = a) := by omega
  have ne_la_0_1 : ¬ (l = a + 1) := by omega
  have ne_la_0_2 : ¬ (l = a + 2) := by omega
  have ne_la_0_3 : ¬ (l = a + 3) := by omega
  have ne_la_1_0 : ¬ (l + 1 = a) := by omega
  have ne_la_1_1 : ¬ (l + 1 = a + 1) := by omega
  have ne_la_1_2 : ¬ (l + 1 = a + 2) := by omega
  have ne_la_1_3 : ¬ (l + 1 = a + 3) := by omega
  have ne_la_2_0 : ¬ (l + 2 = a) := by omega
  have ne_la_2_1 : ¬ (l + 2 = a + 1) := by omega
  have ne_la_2_2 : ¬ (l + 2 = a + 2) := by omega
  have ne_la_2_3 : ¬ (l + 2 = a + 3) := by omega
  have ne_la_3_0 : ¬ (l + 3 = a) := by omega
  have ne_la_3_1 : ¬ (l + 3 = a + 1) := by omega
  have ne_la_3_2 : ¬ (l + 3 = a + 2) := by omega
  have ne_la_3_3 : ¬ (l + 3 = a + 3) := by omega
  have ne_la_4_0 : ¬ (l + 4 = a) := by omega
  have ne_la_4_1 : ¬ (l + 4 = a + 1) := by omega
  have ne_la_4_2 : ¬ (l + 4 = a + 2) := by omega
  have ne_la_4_3 : ¬ (l + 4 = a + 3) := by omega
  have ne_la_5_0 : ¬ (l + 5 = a) := by omega
  have ne_la_5_1 : ¬ (l + 5 = a + 1) := by omega
  have ne_la_5_2 : ¬ (l + 5 = a + 2) := by omega
  have ne_la_5_3 : ¬ (l + 5 = a + 3) := by omega
  have ne_aa_0_1 : ¬ (a = a + 1) := by omega
  have ne_aa_0_2 : ¬ (a = a + 2) := by omega
  have ne_aa_0_3 : ¬ (a = a + 3) := by omega
  have ne_aa_1_0 : ¬ (a + 1 = a) := by omega
  have ne_aa_1_2 : ¬ (a + 1 = a + 2) := by omega
  have ne_aa_1_3 : ¬ (a + 1 = a + 3) := by omega
  have ne_aa_2_0 : ¬ (a + 2 = a) := by omega
  have ne_aa_2_1 : ¬ (a + 2 = a + 1) := by omega
  have ne_aa_2_3 : ¬ (a + 2 = a + 3) := by omega
  have ne_aa_3_0 : ¬ (a + 3 = a) := by omega
  have ne_aa_3_1 : ¬ (a + 3 = a + 1) := by omega
  have ne_aa_3_2 : ¬ (a + 3 = a + 2) := by omega
  refine inX5_arrive ?_
  simp only [eX5_arrive_0, eX5_arrive_1, eX5_arrive_4, eX5_arrive_5, eX5_arrive_6, eX5_arrive_7, eX5_arrive_9, eX5_arrive_10, eX5_arrive_11, eX5_arrive_12, eX5_arrive_15, eX5_arrive_16, eX5_arrive_17, eX5_arrive_18, eX5_arrive_21, eX5_arrive_22, eX5_arrive_25, eX5_arrive_26, eX5_arrive_27, eX5_arrive_29, eX5_arrive_32, eX5_arrive_33, eX5_arrive_36, eX5_arrive_37, eX5_arrive_38, eX5_arrive_41, eX5_arrive_42, eX5_arrive_43, eX5_arrive_46, eX5_arrive_47, eX5_arrive_48, eX5_arrive_49, eX5_arrive_52, eX5_arrive_53, eX5_arrive_54, eX5_arrive_55, eX5_arrive_58, eX5_arrive_59, eX5_arrive_60, eX5_arrive_62, eX5_arrive_65, eX5_arrive_67, eX5_arrive_68, eX5_arrive_71, eX5_arrive_72, eX5_arrive_73, eX5_arrive_74, eX5_arrive_76, eX5_arrive_77, eX5_arrive_78, eX5_arrive_80, pe_aload_1, pe_aload_2, pe_bin, pe_const, pe_dup2_ir, pe_getf, pe_iald, pe_iast, pe_iceq, pe_iload_3, pe_iload_4, pe_iload_5, pe_iret, pe_istore_5, pe_mmin, l0, l1, h0, h1, h2, h3, sc_g0, sc_g1, sc_g2, sc_g3, sc_g4, sc_p3, sc_p4, sc_o, ld_g0, ld_g1, ld_g2, ld_g3, ld_g4, ld_g5, ld_g6, ld_g7, ld_p5, ld_p6, ld_p7, ld_o, c1, c2, hp, ne_la_0_0, ne_la_0_1, ne_la_0_2, ne_la_0_3, ne_la_1_0, ne_la_1_1, ne_la_1_2, ne_la_1_3, ne_la_2_0, ne_la_2_1, ne_la_2_2, ne_la_2_3, ne_la_3_0, ne_la_3_1, ne_la_3_2, ne_la_3_3, ne_la_4_0, ne_la_4_1, ne_la_4_2, ne_la_4_3, ne_la_5_0, ne_la_5_1, ne_la_5_2, ne_la_5_3, ne_aa_0_1, ne_aa_0_2, ne_aa_0_3, ne_aa_1_0, ne_aa_1_2, ne_aa_1_3, ne_aa_2_0, ne_aa_2_1, ne_aa_2_3, ne_aa_3_0, ne_aa_3_1, ne_aa_3_2, ie_m9_0, ie_m9_1, ie_m9_2, ie_m9_3, ie_0_m9, ie_0_1, ie_0_2, ie_0_3, ie_1_m9, ie_1_0, ie_1_2, ie_1_3, ie_2_m9, ie_2_0, ie_2_1, ie_2_3, ie_3_m9, ie_3_0, ie_3_1, ie_3_2, hget_hset, ia_l, ia_s, vin, opl, onl, Int32.reduceLT, Int32.reduceLE, Int32.reduceAdd, Int32.reduceSub, Nat.reduceLT, Nat.reduceAdd, Nat.reduceEqDiff, ↓reduceIte, true_and, and_true, List.length_nil, List.length_cons, Nat.reduceLeDiff, Nat.zero_le]
  have frm : ∀ (H : px_H) (c : px_E) (j : Nat), a + 1 ≤ j → j < a + 4 → fr G H (a + 1) (a + 4) → fr G (hset H j c) (a + 1) (a + 4) := by
    intro H c j q1 q2 q3 k hk
    rw [hget_ne (by omega)]
    exact q3 k hk
  have fr0 : fr G G (a + 1) (a + 4) := fun _ _ => rfl
  split
  · rename_i k3
    have k1 : ¬ K.kd p = 1 := by rw [k3]; decide
    split
    · rename_i w9
      refine hQ _ _ ?_ ?_ ?_ ?_ (frm _ _ _ (by omega) (by omega) (frm _ _ _ (by omega) (by omega) fr0))
      · rw [if_neg k1]
      · simp only [ne_aa_0_1, ne_aa_0_2, ne_aa_0_3, ne_aa_1_0, ne_aa_1_2, ne_aa_1_3, ne_aa_2_0, ne_aa_2_1, ne_aa_2_3, ne_aa_3_0, ne_aa_3_1, ne_aa_3_2, hget_hset, ia_l, ia_s, vin, opl, onl, Int32.reduceLT, Int32.reduceLE, Int32.reduceAdd, Int32.reduceSub, Nat.reduceLT, Nat.reduceAdd, Nat.reduceEqDiff, ↓reduceIte, true_and, and_true, List.length_nil, List.length_cons, Nat.reduceLeDiff, Nat.zero_le]
      · simp only [ne_aa_0_1, ne_aa_0_2, ne_aa_0_3, ne_aa_1_0, ne_aa_1_2, ne_aa_1_3, ne_aa_2_0, ne_aa_2_1, ne_aa_2_3, ne_aa_3_0, ne_aa_3_1, ne_aa_3_2, hget_hset, ia_l, ia_s, vin, opl, onl, Int32.reduceLT, Int32.reduceLE, Int32.reduceAdd, Int32.reduceSub, Nat.reduceLT, Nat.reduceAdd, Nat.reduceEqDiff, ↓reduceIte, true_and, and_true, List.length_nil, List.length_cons, Nat.reduceLeDiff, Nat.zero_le, h2, k1]
      · simp only [ne_aa_0_1, ne_aa_0_2, ne_aa_0_3, ne_aa_1_0, ne_aa_1_2, ne_aa_1_3, ne_aa_2_0, ne_aa_2_1, ne_aa_2_3, ne_aa_3_0, ne_aa_3_1, ne_aa_3_2, hget_hset, ia_l, ia_s, vin, opl, onl, Int32.reduceLT, Int32.reduceLE, Int32.reduceAdd, Int32.reduceSub, Nat.reduceLT, Nat.reduceAdd, Nat.reduceEqDiff, ↓reduceIte, true_and, and_true, List.length_nil, List.length_cons, Nat.reduceLeDiff, Nat.zero_le, k3, w9]
    · rename_i w9
      refine hQ _ _ ?_ ?_ ?_ ?_ (frm _ _ _ (by omega) (by omega) fr0)
      · rw [if_neg k1]
      · simp only [ne_aa_0_1, ne_aa_0_2, ne_aa_0_3, ne_aa_1_0, ne_aa_1_2, ne_aa_1_3, ne_aa_2_0, ne_aa_2_1, ne_aa_2_3, ne_aa_3_0, ne_aa_3_1, ne_aa_3_2, hget_hset, ia_l, ia_s, vin, opl, onl, Int32.reduceLT, Int32.reduceLE, Int32.reduceAdd, Int32.reduceSub, Nat.reduceLT, Nat.reduceAdd, Nat.reduceEqDiff, ↓reduceIte, true_and, and_true, List.length_nil, List.length_cons, Nat.reduceLeDiff, Nat.zero_le]
      · simp only [ne_aa_0_1, ne_aa_0_2, ne_aa_0_3, ne_aa_1_0, ne_aa_1_2, ne_aa_1_3, ne_aa_2_0, ne_aa_2_1, ne_aa_2_3, ne_aa_3_0, ne_aa_3_1, ne_aa_3_2, hget_hset, ia_l, ia_s, vin, opl, onl, Int32.reduceLT, Int32.reduceLE, Int32.reduceAdd, Int32.reduceSub, Nat.reduceLT, Nat.reduceAdd, Nat.reduceEqDiff, ↓reduceIte, true_and, and_true, List.length_nil, List.length_cons, Nat.reduceLeDiff, Nat.zero_le, h2, k1]
      · simp only [ne_aa_0_1, ne_aa_0_2, ne_aa_0_3, ne_aa_1_0, ne_aa_1_2, ne_aa_1_3, ne_aa_2_0, ne_aa_2_1, ne_aa_2_3, ne_aa_3_0, ne_aa_3_1, ne_aa_3_2, hget_hset, ia_l, ia_s, vin, opl, onl, Int32.reduceLT, Int32.reduceLE, Int32.reduceAdd, Int32.reduceSub, Nat.reduceLT, Nat.reduceAdd, Nat.reduceEqDiff, ↓reduceIte, true_and, and_true, List.length_nil, List.length_cons, Nat.reduceLeDiff, Nat.zero_le, h3, w9, and_false]
  · rename_i k3
    split
    · rename_i k1
      refine hQ _ _ ?_ ?_ ?_ ?_ (frm _ _ _ (by omega) (by omega) (frm _ _ _ (by omega) (by omega) fr0))
      · rw [if_pos k1]; rfl
      · simp only [ne_aa_0_1, ne_aa_0_2, ne_aa_0_3, ne_aa_1_0, ne_aa_1_2, ne_aa_1_3, ne_aa_2_0, ne_aa_2_1, ne_aa_2_3, ne_aa_3_0, ne_aa_3_1, ne_aa_3_2, hget_hset, ia_l, ia_s, vin, opl, onl, Int32.reduceLT, Int32.reduceLE, Int32.reduceAdd, Int32.reduceSub, Nat.reduceLT, Nat.reduceAdd, Nat.reduceEqDiff, ↓reduceIte, true_and, and_true, List.length_nil, List.length_cons, Nat.reduceLeDiff, Nat.zero_le]
      · simp only [ne_aa_0_1, ne_aa_0_2, ne_aa_0_3, ne_aa_1_0, ne_aa_1_2, ne_aa_1_3, ne_aa_2_0, ne_aa_2_1, ne_aa_2_3, ne_aa_3_0, ne_aa_3_1, ne_aa_3_2, hget_hset, ia_l, ia_s, vin, opl, onl, Int32.reduceLT, Int32.reduceLE, Int32.reduceAdd, Int32.reduceSub, Nat.reduceLT, Nat.reduceAdd, Nat.reduceEqDiff, ↓reduceIte, true_and, and_true, List.length_nil, List.length_cons, Nat.reduceLeDiff, Nat.zero_le, k1]; rfl
      · simp only [ne_aa_0_1, ne_aa_0_2, ne_aa_0_3, ne_aa_1_0, ne_aa_1_2, ne_aa_1_3, ne_aa_2_0, ne_aa_2_1, ne_aa_2_3, ne_aa_3_0, ne_aa_3_1, ne_aa_3_2, hget_hset, ia_l, ia_s, vin, opl, onl, Int32.reduceLT, Int32.reduceLE, Int32.reduceAdd, Int32.reduceSub, Nat.reduceLT, Nat.reduceAdd, Nat.reduceEqDiff, ↓reduceIte, true_and, and_true, List.length_nil, List.length_cons, Nat.reduceLeDiff, Nat.zero_le, h3, k3, false_and]
    · rename_i k1
      refine hQ _ _ ?_ ?_ ?_ ?_ (frm _ _ _ (by omega) (by omega) fr0)
      · rw [if_neg k1]
      · simp only [ne_aa_0_1, ne_aa_0_2, ne_aa_0_3, ne_aa_1_0, ne_aa_1_2, ne_aa_1_3, ne_aa_2_0, ne_aa_2_1, ne_aa_2_3, ne_aa_3_0, ne_aa_3_1, ne_aa_3_2, hget_hset, ia_l, ia_s, vin, opl, onl, Int32.reduceLT, Int32.reduceLE, Int32.reduceAdd, Int32.reduceSub, Nat.reduceLT, Nat.reduceAdd, Nat.reduceEqDiff, ↓reduceIte, true_and, and_true, List.length_nil, List.length_cons, Nat.reduceLeDiff, Nat.zero_le]
      · simp only [ne_aa_0_1, ne_aa_0_2, ne_aa_0_3, ne_aa_1_0, ne_aa_1_2, ne_aa_1_3, ne_aa_2_0, ne_aa_2_1, ne_aa_2_3, ne_aa_3_0, ne_aa_3_1, ne_aa_3_2, hget_hset, ia_l, ia_s, vin, opl, onl, Int32.reduceLT, Int32.reduceLE, Int32.reduceAdd, Int32.reduceSub, Nat.reduceLT, Nat.reduceAdd, Nat.reduceEqDiff, ↓reduceIte, true_and, and_true, List.length_nil, List.length_cons, Nat.reduceLeDiff, Nat.zero_le, h2, k1]
      · simp only [ne_aa_0_1, ne_aa_0_2, ne_aa_0_3, ne_aa_1_0, ne_aa_1_2, ne_aa_1_3, ne_aa_2_0, ne_aa_2_1, ne_aa_2_3, ne_aa_3_0, ne_aa_3_1, ne_aa_3_2, hget_hset, ia_l, ia_s, vin, opl, onl, Int32.reduceLT, Int32.reduceLE, Int32.reduceAdd, Int32.reduceSub, Nat.reduceLT, Nat.reduceAdd, Nat.reduceEqDiff, ↓reduceIte, true_and, and_true, List.length_nil, List.length_cons, Nat.reduceLeDiff, Nat.zero_le, h3, k3, false_and]
/-- ditch d: what it takes from its place, if it is the place's first open one -/
def p1 (K : Ld) (op : Int32) (d : Nat) (q : (Nat → Int32) × (Nat → Int32) × Int32) : (Nat → Int32) × (Nat → Int32) × Int32 :=
  if bt op d = 1 ∧ q.2.2 >>> (K.fm d &&& 31) &&& 1 = 0 then
    (upd q.1 (K.fm d).toNatClampNeg (q.1 (K.fm d).toNatClampNeg - (if K.kd (K.fm d).toNatClampNeg = 0 then mnI (q.1 (K.fm d).toNatClampNeg) (K.ms (K.fm d).toNatClampNeg) else q.1 (K.fm d).toNatClampNeg)),
     upd q.2.1 (K.tt d).toNatClampNeg (q.2.1 (K.tt d).toNatClampNeg + (if K.kd (K.fm d).toNatClampNeg = 0 then mnI (q.1 (K.fm d).toNatClampNeg) (K.ms (K.fm d).toNatClampNeg) else q.1 (K.fm d).toNatClampNeg)),
     q.2.2 ||| 1 <<< (K.fm d &&& 31))
  else q
def p1s (K : Ld) (op : Int32) : Nat → (Nat → Int32) × (Nat → Int32) × Int32 → (Nat → Int32) × (Nat → Int32) × Int32
  | 0, q => q
  | k + 1, q => p1 K op k (p1s K op k q)
/-- place p: what has come to it -/
def p2 (K : Ld) (hr : Int32) (co : Nat → Int32) (p : Nat) (q : (Nat → Int32) × (Nat → Int32) × (Nat → Int32) × Int32) : (Nat → Int32) × (Nat → Int32) × (Nat → Int32) × Int32 :=
  if 0 < co p then
    (upd q.1 p (q.1 p + co p), (if K.kd p = 1 then upd q.2.1 p (q.2.1 p - mnI (q.2.1 p) (co p)) else q.2.1), (if K.kd p = 3 ∧ q.2.2.1 p = -9 then upd q.2.2.1 p hr else q.2.2.1), q.2.2.2 + (if K.kd p = 1 then mnI (q.2.1 p) (co p) else 0))
  else q
def p2s (K : Ld) (hr : Int32) (co : Nat → Int32) : Nat → (Nat → Int32) × (Nat → Int32) × (Nat → Int32) × Int32 → (Nat → Int32) × (Nat → Int32) × (Nat → Int32) × Int32
  | 0, q => q
  | k + 1, q => p2 K hr co k (p2s K hr co k q)
def p2c (co : Nat → Int32) (n : Nat) : Nat → Int32 := fun q => if q < n ∧ 0 < co q then 0 else co q
theorem p2c_s {co : Nat → Int32} {i : Nat} : p2c co (i + 1) = if 0 < co i then upd (p2c co i) i 0 else p2c co i := by
  by_cases h : 0 < co i
  · rw [if_pos h]
    funext q
    simp only [p2c, upd]
    by_cases hq : q = i
    · subst hq
      simp [h]
    · have e : q < i + 1 ↔ q < i := by omega
      simp [hq, e]
  · rw [if_neg h]
    funext q
    simp only [p2c]
    by_cases hq : q = i
    · subst hq
      simp [h]
    · have e : q < i + 1 ↔ q < i := by omega
      simp [e]
set_option maxRecDepth 100000 in
theorem pass_1 {d a l s : Nat} {G : px_H} {K : Ld} {op hr x : Int32} {Q : px_Q} {lim : Nat × Nat} {b0 c0 : Nat → Int32} {g0 : Int32} (hl : isL G l K) (hv : vL K) (hs0 : hget G s = some (c_sr s)) (h0 : hget G a = some (c_sc a op hr)) (hla : l + 6 ≤ a ∨ a + 4 ≤ l) (hls : l + 6 ≤ s ∨ s + 2 ≤ l) (has : a + 4 ≤ s ∨ s + 2 ≤ a)
    (hn : ∀ H o6 o7 o5, hget H (a + 1) = some (c_ia 6 (p1s K op K.m (b0, c0, g0)).1) → hget H (s + 1) = some (c_ia 6 (p1s K op K.m (b0, c0, g0)).2.1) → (∀ k, k ≠ a + 1 → k ≠ s + 1 → hget H k = hget G k) → pr d 39 lim Q 124 [some (.ref s), some (.ref l), some (.ref a), some (.int x), some (.int (p1s K op K.m (b0, c0, g0)).2.2), o5, o6, o7] [] H) :
    ∀ k i H g o6 o7, i + k = K.m → hget H (a + 1) = some (c_ia 6 (p1s K op i (b0, c0, g0)).1) → hget H (s + 1) = some (c_ia 6 (p1s K op i (b0, c0, g0)).2.1) → g = (p1s K op i (b0, c0, g0)).2.2 → (∀ k, k ≠ a + 1 → k ≠ s + 1 → hget H k = hget G k) →
      pr d 39 lim Q 6 [some (.ref s), some (.ref l), some (.ref a), some (.int x), some (.int g), some (.int (nI i)), o6, o7] [] H := by
  obtain ⟨l0, l1, l2, l3, l4, l5, l6, l7⟩ := hl
  have ne_sa_0_0 : ¬ (s = a) := by omega
  have ne_sa_0_1 : ¬ (s = a + 1) := by omega
  have ne_sa_0_2 : ¬ (s = a + 2) := by omega
  have ne_sa_0_3 : ¬ (s = a + 3) := by omega
  have ne_sa_1_0 : ¬ (s + 1 = a) := by omega
  have ne_sa_1_1 : ¬ (s + 1 = a + 1) := by omega
  have ne_sa_1_2 : ¬ (s + 1 = a + 2) := by omega
  have ne_sa_1_3 : ¬ (s + 1 = a + 3) := by omega
  have ne_la_0_0 : ¬ (l = a) := by omega
  have ne_la_0_1 : ¬ (l = a + 1) := by omega
  have ne_la_0_2 : ¬ (l = a + 2) := by omega
  have ne_la_0_3 : ¬ (l = a + 3) := by omega
  have ne_la_1_0 : ¬ (l + 1 = a) := by omega
  have ne_la_1_1 : ¬ (l + 1 = a + 1) := by omega
  have ne_la_1_2 : ¬ (l + 1 = a + 2) := by omega
  have ne_la_1_3 : ¬ (l + 1 = a + 3) := by omega
  have ne_la_2_0 : ¬ (l + 2 = a) := by omega
  have ne_la_2_1 : ¬ (l + 2 = a + 1) := by omega
  have ne_la_2_2 : ¬ (l + 2 = a + 2) := by omega
  have ne_la_2_3 : ¬ (l + 2 = a + 3) := by omega
  have ne_la_3_0 : ¬ (l + 3 = a) := by omega
  have ne_la_3_1 : ¬ (l + 3 = a + 1) := by omega
  have ne_la_3_2 : ¬ (l + 3 = a + 2) := by omega
  have ne_la_3_3 : ¬ (l + 3 = a + 3) := by omega
  have ne_la_4_0 : ¬ (l + 4 = a) := by omega
  have ne_la_4_1 : ¬ (l + 4 = a + 1) := by omega
  have ne_la_4_2 : ¬ (l + 4 = a + 2) := by omega
  have ne_la_4_3 : ¬ (l + 4 = a + 3) := by omega
  have ne_la_5_0 : ¬ (l + 5 = a) := by omega
  have ne_la_5_1 : ¬ (l + 5 = a + 1) := by omega
  have ne_la_5_2 : ¬ (l + 5 = a + 2) := by omega
  have ne_la_5_3 : ¬ (l + 5 = a + 3) := by omega
  have ne_ls_0_0 : ¬ (l = s) := by omega
  have ne_ls_0_1 : ¬ (l = s + 1) := by omega
  have ne_ls_1_0 : ¬ (l + 1 = s) := by omega
  have ne_ls_1_1 : ¬ (l + 1 = s + 1) := by omega
  have ne_ls_2_0 : ¬ (l + 2 = s) := by omega
  have ne_ls_2_1 : ¬ (l + 2 = s + 1) := by omega
  have ne_ls_3_0 : ¬ (l + 3 = s) := by omega
  have ne_ls_3_1 : ¬ (l + 3 = s + 1) := by omega
  have ne_ls_4_0 : ¬ (l + 4 = s) := by omega
  have ne_ls_4_1 : ¬ (l + 4 = s + 1) := by omega
  have ne_ls_5_0 : ¬ (l + 5 = s) := by omega
  have ne_ls_5_1 : ¬ (l + 5 = s + 1) := by omega
  have ne_as_0_0 : ¬ (a = s) := by omega
  have ne_as_0_1 : ¬ (a = s + 1) := by omega
  have ne_as_1_0 : ¬ (a + 1 = s) := by omega
  have ne_as_1_1 : ¬ (a + 1 = s + 1) := by omega
  have ne_as_2_0 : ¬ (a + 2 = s) := by omega
  have ne_as_2_1 : ¬ (a + 2 = s + 1) := by omega
  have ne_as_3_0 : ¬ (a + 3 = s) := by omega
  have ne_as_3_1 : ¬ (a + 3 = s + 1) := by omega
  have ne_aa_0_1 : ¬ (a = a + 1) := by omega
  have ne_aa_0_2 : ¬ (a = a + 2) := by omega
  have ne_aa_0_3 : ¬ (a = a + 3) := by omega
  have ne_aa_1_0 : ¬ (a + 1 = a) := by omega
  have ne_aa_1_2 : ¬ (a + 1 = a + 2) := by omega
  have ne_aa_1_3 : ¬ (a + 1 = a + 3) := by omega
  have ne_aa_2_0 : ¬ (a + 2 = a) := by omega
  have ne_aa_2_1 : ¬ (a + 2 = a + 1) := by omega
  have ne_aa_2_3 : ¬ (a + 2 = a + 3) := by omega
  have ne_aa_3_0 : ¬ (a + 3 = a) := by omega
  have ne_aa_3_1 : ¬ (a + 3 = a + 1) := by omega
  have ne_aa_3_2 : ¬ (a + 3 = a + 2) := by omega
  have ne_ss : ¬ (s = s + 1) := by omega
  intro k
  induction k with
  | zero =>
    intro i H g o6 o7 hi k1 k2 k3 k4
    obtain rfl : i = K.m := by omega
    have m0 : hget H l = some (c_ld l K.oa (nI K.n) (nI K.m)) := (k4 l (by omega) (by omega)).trans l0
    subst k3
    simp only [eX5_pass_6, eX5_pass_8, eX5_pass_9, eX5_pass_12, pe_iload_5, pe_aload_1, pe_getf, pe_iclt, m0, ld_g0, ld_g1, ld_g2, ld_g3, ld_g4, ld_g5, ld_g6, ld_g7, ld_p5, ld_p6, ld_p7, ld_o, niE, ↓reduceIte]
    exact hn H _ _ _ k1 k2 k4
  | succ k ih =>
    intro i H g o6 o7 hi k1 k2 k3 k4
    obtain ⟨c1, c2, c3, c4⟩ := niL (i := i) (n := K.m) (by omega) l7
    obtain ⟨⟨v1, v2⟩, v3, v4⟩ := hv.2.2 i (by omega)
    have v5 : (K.fm i).toNatClampNeg < 6 := by omega
    have v6 : (K.tt i).toNatClampNeg < 6 := by omega
    have m0 : hget H l = some (c_ld l K.oa (nI K.n) (nI K.m)) := (k4 l (by omega) (by omega)).trans l0
    have m1 : hget H (l + 1) = some (c_ia 6 K.kd) := (k4 _ (by omega) (by omega)).trans l1
    have m3 : hget H (l + 3) = some (c_ia 6 K.ms) := (k4 _ (by omega) (by omega)).trans l3
    have m4 : hget H (l + 4) = some (c_ia 6 K.fm) := (k4 _ (by omega) (by omega)).trans l4
    have m5 : hget H (l + 5) = some (c_ia 6 K.tt) := (k4 _ (by omega) (by omega)).trans l5
    have n0 : hget H a = some (c_sc a op hr) := (k4 _ (by omega) (by omega)).trans h0
    have s0 : hget H s = some (c_sr s) := (k4 _ (by omega) (by omega)).trans hs0
    have st : p1s K op (i + 1) (b0, c0, g0) = p1 K op i (p1s K op i (b0, c0, g0)) := rfl
    generalize hq : p1s K op i (b0, c0, g0) = q at k1 k2 k3 st
    obtain ⟨b, co, gg⟩ := q
    dsimp only at k1 k2 k3
    subst k3
    rw [eX5_pass_6]
    simp only [eX5_pass_8, eX5_pass_9, eX5_pass_12, eX5_pass_15, eX5_pass_16, eX5_pass_19, eX5_pass_21, eX5_pass_22, eX5_pass_24, eX5_pass_25, eX5_pass_28, eX5_pass_30, eX5_pass_31, eX5_pass_32, eX5_pass_33, eX5_pass_34, eX5_pass_37, eX5_pass_39, eX5_pass_41, eX5_pass_42, eX5_pass_43, eX5_pass_44, eX5_pass_47, eX5_pass_49, eX5_pass_50, eX5_pass_52, eX5_pass_53, eX5_pass_54, eX5_pass_56, eX5_pass_57, eX5_pass_60, eX5_pass_62, eX5_pass_63, eX5_pass_65, eX5_pass_66, eX5_pass_69, eX5_pass_71, eX5_pass_72, eX5_pass_75, eX5_pass_77, eX5_pass_78, eX5_pass_81, eX5_pass_83, eX5_pass_84, eX5_pass_87, eX5_pass_89, eX5_pass_90, eX5_pass_93, eX5_pass_95, eX5_pass_96, eX5_pass_97, eX5_pass_99, eX5_pass_100, eX5_pass_101, eX5_pass_102, eX5_pass_105, eX5_pass_106, eX5_pass_109, eX5_pass_111, eX5_pass_112, eX5_pass_113, eX5_pass_114, eX5_pass_116, eX5_pass_117, eX5_pass_118, eX5_pass_121, pe_aload_0, pe_aload_1, pe_aload_2, pe_bin, pe_const, pe_dup2_ir, pe_getf, pe_goto, pe_iald, pe_iast, pe_iceq, pe_iclt, pe_ifeq, pe_iinc_5, pe_iload_4, pe_iload_5, pe_iload_6, pe_iload_7, pe_istore_4, pe_istore_6, pe_istore_7, pe_mmin, m0, m1, m3, m4, m5, n0, k1, k2, s0, sc_g0, sc_g1, sc_g2, sc_g3, sc_g4, sc_p3, sc_p4, sc_o, ld_g0, ld_g1, ld_g2, ld_g3, ld_g4, ld_g5, ld_g6, ld_g7, ld_p5, ld_p6, ld_p7, ld_o, sr_g0, c1, c2, c3, c4, v1, v2, v3, v4, v5, v6, ne_sa_0_0, ne_sa_0_1, ne_sa_0_2, ne_sa_0_3, ne_sa_1_0, ne_sa_1_1, ne_sa_1_2, ne_sa_1_3, ne_la_0_0, ne_la_0_1, ne_la_0_2, ne_la_0_3, ne_la_1_0, ne_la_1_1, ne_la_1_2, ne_la_1_3, ne_la_2_0, ne_la_2_1, ne_la_2_2, ne_la_2_3, ne_la_3_0, ne_la_3_1, ne_la_3_2, ne_la_3_3, ne_la_4_0, ne_la_4_1, ne_la_4_2, ne_la_4_3, ne_la_5_0, ne_la_5_1, ne_la_5_2, ne_la_5_3, ne_ls_0_0, ne_ls_0_1, ne_ls_1_0, ne_ls_1_1, ne_ls_2_0, ne_ls_2_1, ne_ls_3_0, ne_ls_3_1, ne_ls_4_0, ne_ls_4_1, ne_ls_5_0, ne_ls_5_1, ne_as_0_0, ne_as_0_1, ne_as_1_0, ne_as_1_1, ne_as_2_0, ne_as_2_1, ne_as_3_0, ne_as_3_1, ne_aa_0_1, ne_aa_0_2, ne_aa_0_3, ne_aa_1_0, ne_aa_1_2, ne_aa_1_3, ne_aa_2_0, ne_aa_2_1, ne_aa_2_3, ne_aa_3_0, ne_aa_3_1, ne_aa_3_2, ne_ss, nisw, bt_e, hget_hset, ia_l, ia_s, vin, opl, onl, Int32.reduceLT, Int32.reduceLE, Int32.reduceAdd, Int32.reduceSub, Nat.reduceLT, Nat.reduceAdd, Nat.reduceEqDiff, ↓reduceIte, true_and, and_true, List.length_nil, List.length_cons, Nat.reduceLeDiff, Nat.zero_le]
    have go : ∀ H' g' o6 o7, hget H' (a + 1) = some (c_ia 6 (p1 K op i (b, co, g)).1) → hget H' (s + 1) = some (c_ia 6 (p1 K op i (b, co, g)).2.1) → g' = (p1 K op i (b, co, g)).2.2 → (∀ k, k ≠ a + 1 → k ≠ s + 1 → hget H' k = hget H k) → pr d 39 lim Q 6 [some (.ref s), some (.ref l), some (.ref a), some (.int x), some (.int g'), some (.int (nI (i + 1))), o6, o7] [] H' := by
      intro H' g' o6 o7 e1 e2 e3 e4
      rw [← st] at e1 e2 e3
      exact ih (i + 1) H' g' o6 o7 (by omega) e1 e2 e3 (fun k q1 q2 => (e4 k q1 q2).trans (k4 k q1 q2))
    split
    · rename_i t1
      split
      · rename_i t2
        have tt : bt op i = 1 ∧ g >>> (K.fm i &&& 31) &&& 1 = 0 := ⟨t1, t2⟩
        split
        · rename_i t3
          refine go _ _ _ _ ?_ ?_ ?_ ?_
          · simp only [p1, tt, t3, ne_as_0_0, ne_as_0_1, ne_as_1_0, ne_as_1_1, ne_as_2_0, ne_as_2_1, ne_as_3_0, ne_as_3_1, hget_hset, ia_l, ia_s, vin, opl, onl, Int32.reduceLT, Int32.reduceLE, Int32.reduceAdd, Int32.reduceSub, Nat.reduceLT, Nat.reduceAdd, Nat.reduceEqDiff, ↓reduceIte, true_and, and_true, List.length_nil, List.length_cons, Nat.reduceLeDiff, Nat.zero_le, and_self]; rfl
          · simp only [p1, tt, t3, hget_hset, ia_l, ia_s, vin, opl, onl, Int32.reduceLT, Int32.reduceLE, Int32.reduceAdd, Int32.reduceSub, Nat.reduceLT, Nat.reduceAdd, Nat.reduceEqDiff, ↓reduceIte, true_and, and_true, List.length_nil, List.length_cons, Nat.reduceLeDiff, Nat.zero_le, and_self]; rfl
          · simp only [p1, tt, and_self, ↓reduceIte]
          · intro k q1 q2
            simp only [hget_hset, q1, q2, ↓reduceIte]
        · rename_i t3
          refine go _ _ _ _ ?_ ?_ ?_ ?_
          · simp only [p1, tt, t3, ne_as_0_0, ne_as_0_1, ne_as_1_0, ne_as_1_1, ne_as_2_0, ne_as_2_1, ne_as_3_0, ne_as_3_1, hget_hset, ia_l, ia_s, vin, opl, onl, Int32.reduceLT, Int32.reduceLE, Int32.reduceAdd, Int32.reduceSub, Nat.reduceLT, Nat.reduceAdd, Nat.reduceEqDiff, ↓reduceIte, true_and, and_true, List.length_nil, List.length_cons, Nat.reduceLeDiff, Nat.zero_le, and_self]
          · simp only [p1, tt, t3, hget_hset, ia_l, ia_s, vin, opl, onl, Int32.reduceLT, Int32.reduceLE, Int32.reduceAdd, Int32.reduceSub, Nat.reduceLT, Nat.reduceAdd, Nat.reduceEqDiff, ↓reduceIte, true_and, and_true, List.length_nil, List.length_cons, Nat.reduceLeDiff, Nat.zero_le, and_self]
          · simp only [p1, tt, and_self, ↓reduceIte]
          · intro k q1 q2
            simp only [hget_hset, q1, q2, ↓reduceIte]
      · rename_i t2
        have tt : ¬ (bt op i = 1 ∧ g >>> (K.fm i &&& 31) &&& 1 = 0) := fun z => t2 z.2
        refine go _ _ _ _ ?_ ?_ ?_ ?_
        · simp only [p1, tt, ↓reduceIte]; exact k1
        · simp only [p1, tt, ↓reduceIte]; exact k2
        · simp only [p1, tt, ↓reduceIte]
        · intro k q1 q2; rfl
    · rename_i t1
      have tt : ¬ (bt op i = 1 ∧ g >>> (K.fm i &&& 31) &&& 1 = 0) := fun z => t1 z.1
      refine go _ _ _ _ ?_ ?_ ?_ ?_
      · simp only [p1, tt, ↓reduceIte]; exact k1
      · simp only [p1, tt, ↓reduceIte]; exact k2
      · simp only [p1, tt, ↓reduceIte]
      · intro k q1 q2; rfl
set_option maxRecDepth 100000 in
theorem pass_2 {d a l s : Nat} {G : px_H} {K : Ld} {op hr x g : Int32} {Q : px_Q} {lim : Nat × Nat} {b0 d0 w0 co : Nat → Int32} (hl : isL G l K) (hs0 : hget G s = some (c_sr s)) (h0 : hget G a = some (c_sc a op hr)) (hla : l + 6 ≤ a ∨ a + 4 ≤ l) (hls : l + 6 ≤ s ∨ s + 2 ≤ l) (has : a + 4 ≤ s ∨ s + 2 ≤ a)
    (hQ : ∀ G' r, r = (p2s K hr co K.n (b0, d0, w0, 0)).2.2.2 → hget G' (a + 1) = some (c_ia 6 (p2s K hr co K.n (b0, d0, w0, 0)).1) → hget G' (a + 2) = some (c_ia 6 (p2s K hr co K.n (b0, d0, w0, 0)).2.1) → hget G' (a + 3) = some (c_ia 6 (p2s K hr co K.n (b0, d0, w0, 0)).2.2.1) → hget G' (s + 1) = some (c_ia 6 (p2c co K.n)) → (∀ k, (k < a + 1 ∨ a + 4 ≤ k) → k ≠ s + 1 → hget G' k = hget G k) → Q (some (.int r)) G') :
    ∀ k i H r o7, i + k = K.n → r = (p2s K hr co i (b0, d0, w0, 0)).2.2.2 → hget H (a + 1) = some (c_ia 6 (p2s K hr co i (b0, d0, w0, 0)).1) → hget H (a + 2) = some (c_ia 6 (p2s K hr co i (b0, d0, w0, 0)).2.1) → hget H (a + 3) = some (c_ia 6 (p2s K hr co i (b0, d0, w0, 0)).2.2.1) → hget H (s + 1) = some (c_ia 6 (p2c co i)) → (∀ k, (k < a + 1 ∨ a + 4 ≤ k) → k ≠ s + 1 → hget H k = hget G k) →
      pr (d + 1) 39 lim Q 140 [some (.ref s), some (.ref l), some (.ref a), some (.int x), some (.int g), some (.int r), some (.int (nI i)), o7] [] H := by
  have hl0 := hl
  obtain ⟨l0, l1, l2, l3, l4, l5, l6, l7⟩ := hl
  intro k
  induction k with
  | zero =>
    intro i H r o7 hi k0 k1 k2 k3 k4 k5
    obtain rfl : i = K.n := by omega
    have m0 : hget H l = some (c_ld l K.oa (nI K.n) (nI K.m)) := (k5 l (by omega) (by omega)).trans l0
    simp only [eX5_pass_140, eX5_pass_142, eX5_pass_143, eX5_pass_146, eX5_pass_193, eX5_pass_195, pe_aload_1, pe_getf, pe_iclt, pe_iload_5, pe_iload_6, pe_iret, m0, ld_g0, ld_g1, ld_g2, ld_g3, ld_g4, ld_g5, ld_g6, ld_g7, ld_p5, ld_p6, ld_p7, ld_o, niE, ↓reduceIte]
    exact hQ H r k0 k1 k2 k3 k4 k5
  | succ k ih =>
    intro i H r o7 hi k0 k1 k2 k3 k4 k5
    obtain ⟨c1, c2, c3, c4⟩ := niL (i := i) (n := K.n) (by omega) l6
    have m0 : hget H l = some (c_ld l K.oa (nI K.n) (nI K.m)) := (k5 l (by omega) (by omega)).trans l0
    have hlH : isL H l K := hl0.kept (fun k q1 q2 => k5 k (by omega) (by omega))
    have n0 : hget H a = some (c_sc a op hr) := (k5 _ (by omega) (by omega)).trans h0
    have s0 : hget H s = some (c_sr s) := (k5 _ (by omega) (by omega)).trans hs0
    have st : p2s K hr co (i + 1) (b0, d0, w0, 0) = p2 K hr co i (p2s K hr co i (b0, d0, w0, 0)) := rfl
    generalize hq : p2s K hr co i (b0, d0, w0, 0) = q at k0 k1 k2 k3 st
    obtain ⟨b, dd, w, acc⟩ := q
    dsimp only at k0 k1 k2 k3
    subst k0
    have pci : p2c co i i = co i := by simp [p2c]
    rw [eX5_pass_140]
    simp only [eX5_pass_142, eX5_pass_143, eX5_pass_146, eX5_pass_149, eX5_pass_150, eX5_pass_153, eX5_pass_155, eX5_pass_156, eX5_pass_159, eX5_pass_161, eX5_pass_162, eX5_pass_163, eX5_pass_164, eX5_pass_166, eX5_pass_167, eX5_pass_170, eX5_pass_172, eX5_pass_173, eX5_pass_187, eX5_pass_190, pe_aload_0, pe_aload_1, pe_aload_2, pe_callV_4, pe_getf, pe_goto, pe_iald, pe_iclt, pe_ifgt, pe_iinc_6, pe_iload_5, pe_iload_6, m0, k4, s0, ld_g0, ld_g1, ld_g2, ld_g3, ld_g4, ld_g5, ld_g6, ld_g7, ld_p5, ld_p6, ld_p7, ld_o, sr_g0, sr_o, pci, c1, c2, c3, c4, nisw, hget_hset, ia_l, ia_s, vin, opl, onl, Int32.reduceLT, Int32.reduceLE, Int32.reduceAdd, Int32.reduceSub, Nat.reduceLT, Nat.reduceAdd, Nat.reduceEqDiff, ↓reduceIte, true_and, and_true, List.length_nil, List.length_cons, Nat.reduceLeDiff, Nat.zero_le]
    split
    · rename_i t1
      refine sp_arrive hlH s0 n0 k1 k2 k3 c4 hla ?_
      intro G' r' e0 e1 e2 e3 e4
      have s0' : hget G' s = some (c_sr s) := (e4 s (by omega)).trans s0
      have s1' : hget G' (s + 1) = some (c_ia 6 (p2c co i)) := (e4 _ (by omega)).trans k4
      simp only [eX5_pass_176, eX5_pass_177, eX5_pass_179, eX5_pass_180, eX5_pass_183, eX5_pass_185, eX5_pass_186, eX5_pass_187, eX5_pass_190, pe_aload_0, pe_bin, pe_const, pe_getf, pe_goto, pe_iast, pe_iinc_6, pe_iload_6, pe_istore_5, s0', s1', sr_g0, c1, c2, c4, nisw, hget_hset, ia_l, ia_s, vin, opl, onl, Int32.reduceLT, Int32.reduceLE, Int32.reduceAdd, Int32.reduceSub, Nat.reduceLT, Nat.reduceAdd, Nat.reduceEqDiff, ↓reduceIte, true_and, and_true, List.length_nil, List.length_cons, Nat.reduceLeDiff, Nat.zero_le]
      refine ih (i + 1) _ _ _ (by omega) ?_ ?_ ?_ ?_ ?_ ?_
      · rw [st]; simp only [p2, t1, ↓reduceIte, e0]
      · rw [st]; simp only [p2, t1, ↓reduceIte]; rw [hget_ne (by omega)]; exact e1
      · rw [st]; simp only [p2, t1, ↓reduceIte]; rw [hget_ne (by omega)]; exact e2
      · rw [st]; simp only [p2, t1, ↓reduceIte]; rw [hget_ne (by omega)]; exact e3
      · rw [hget_self, p2c_s, if_pos t1]
      · intro k q1 q2
        rw [hget_ne q2, e4 k q1]
        exact k5 k q1 q2
    · rename_i t1
      refine ih (i + 1) _ _ _ (by omega) ?_ ?_ ?_ ?_ ?_ k5
      · rw [st]; simp only [p2, t1, ↓reduceIte]
      · rw [st]; simp only [p2, t1, ↓reduceIte]; exact k1
      · rw [st]; simp only [p2, t1, ↓reduceIte]; exact k2
      · rw [st]; simp only [p2, t1, ↓reduceIte]; exact k3
      · rw [p2c_s, if_neg t1]; exact k4
set_option maxRecDepth 100000 in
/-- an hour, cell by cell -/
theorem sp_passR {d a l s : Nat} {G : px_H} {K : Ld} {op hr x : Int32} {Q : px_Q} {f0 f1 f2 c0 : Nat → Int32} (hl : isL G l K) (hv : vL K) (hs0 : hget G s = some (c_sr s)) (hs1 : hget G (s + 1) = some (c_ia 6 c0)) (h0 : hget G a = some (c_sc a op hr)) (h1 : hget G (a + 1) = some (c_ia 6 f0)) (h2 : hget G (a + 2) = some (c_ia 6 f1)) (h3 : hget G (a + 3) = some (c_ia 6 f2)) (hla : l + 6 ≤ a ∨ a + 4 ≤ l) (hls : l + 6 ≤ s ∨ s + 2 ≤ l) (has : a + 4 ≤ s ∨ s + 2 ≤ a)
    (hQ : ∀ G' r, r = (p2s K (hr + 1) (p1s K op K.m (f0, c0, x)).2.1 K.n ((p1s K op K.m (f0, c0, x)).1, f1, f2, 0)).2.2.2 → hget G' a = some (c_sc a op (hr + 1)) → hget G' (a + 1) = some (c_ia 6 (p2s K (hr + 1) (p1s K op K.m (f0, c0, x)).2.1 K.n ((p1s K op K.m (f0, c0, x)).1, f1, f2, 0)).1) → hget G' (a + 2) = some (c_ia 6 (p2s K (hr + 1) (p1s K op K.m (f0, c0, x)).2.1 K.n ((p1s K op K.m (f0, c0, x)).1, f1, f2, 0)).2.1) → hget G' (a + 3) = some (c_ia 6 (p2s K (hr + 1) (p1s K op K.m (f0, c0, x)).2.1 K.n ((p1s K op K.m (f0, c0, x)).1, f1, f2, 0)).2.2.1) → hget G' (s + 1) = some (c_ia 6 (p2c (p1s K op K.m (f0, c0, x)).2.1 K.n)) → (∀ k, (k < a ∨ a + 4 ≤ k) → k ≠ s + 1 → hget G' k = hget G k) → Q (some (.int r)) G') :
    pcal (d + 2) 39 [.ref s, .ref l, .ref a, .int x] G Q := by
  refine inX5_pass ?_
  simp only [eX5_pass_0, eX5_pass_1, eX5_pass_3, eX5_pass_4, pe_const, pe_iload_3, pe_istore_4, pe_istore_5, hget_hset, ia_l, ia_s, vin, opl, onl, Int32.reduceLT, Int32.reduceLE, Int32.reduceAdd, Int32.reduceSub, Nat.reduceLT, Nat.reduceAdd, Nat.reduceEqDiff, ↓reduceIte, true_and, and_true, List.length_nil, List.length_cons, Nat.reduceLeDiff, Nat.zero_le]
  refine pass_1 hl hv hs0 h0 hla hls has ?_ K.m 0 G x none none (by omega) h1 hs1 rfl (fun _ _ _ => rfl)
  intro H o6 o7 o5 k1 k2 k3
  have n0 : hget H a = some (c_sc a op hr) := (k3 _ (by omega) (by omega)).trans h0
  generalize p1s K op K.m (f0, c0, x) = q at *
  simp only [eX5_pass_124, eX5_pass_125, eX5_pass_126, eX5_pass_129, eX5_pass_130, eX5_pass_131, eX5_pass_134, eX5_pass_135, eX5_pass_137, eX5_pass_138, pe_aload_2, pe_bin, pe_const, pe_dup_i, pe_dup_r, pe_getf, pe_istore_5, pe_istore_6, pe_putf, n0, sc_g0, sc_g1, sc_g2, sc_g3, sc_g4, sc_p3, sc_p4, sc_o, hget_hset, ia_l, ia_s, vin, opl, onl, Int32.reduceLT, Int32.reduceLE, Int32.reduceAdd, Int32.reduceSub, Nat.reduceLT, Nat.reduceAdd, Nat.reduceEqDiff, ↓reduceIte, true_and, and_true, List.length_nil, List.length_cons, Nat.reduceLeDiff, Nat.zero_le]
  have hl' : isL (hset H a (c_sc a op (hr + 1))) l K := hl.kept (fun k q1 q2 => by rw [hget_ne (by omega)]; exact k3 k (by omega) (by omega))
  refine pass_2 (G := hset H a (c_sc a op (hr + 1))) (op := op) (hr := hr + 1) (b0 := q.1) (d0 := f1) (w0 := f2) (co := q.2.1) hl' (by rw [hget_ne (by omega)]; exact (k3 _ (by omega) (by omega)).trans hs0) (hget_self _ _ _) hla hls has ?_ K.n 0 _ 0 _ (by omega) rfl (by rw [hget_ne (by omega)]; exact k1) (by rw [hget_ne (by omega)]; exact (k3 _ (by omega) (by omega)).trans h2) (by rw [hget_ne (by omega)]; exact (k3 _ (by omega) (by omega)).trans h3) ?_ (fun _ _ _ => rfl)
  · intro G' r e0 e1 e2 e3 e4 e5
    refine hQ G' r e0 ?_ e1 e2 e3 e4 ?_
    · rw [e5 a (by omega) (by omega), hget_self]
    · intro k q1 q2
      rw [e5 k (by omega) q2, hget_ne (by omega)]
      exact k3 k (by omega) q2
  · rw [hget_ne (by omega), k2]
    have : p2c q.2.1 0 = q.2.1 := by funext z; simp [p2c]
    rw [this]
