/-! ===== the reference's hour, walked ===== -/
/-- the row w with u at level L -/
def lft (w : Nat → Int32) (L : Nat) (u : Nat → Int32) : Nat → Int32 := fun j => if 20 * L ≤ j ∧ j < 20 * L + 20 then u (j - 20 * L) else w j
theorem lft_g {w u : Nat → Int32} {L a k : Nat} (ha : a < 20) (hk : k = 20 * L + a) : lft w L u k = u a := by
  subst hk
  unfold lft
  rw [if_pos ⟨by omega, by omega⟩, show 20 * L + a - 20 * L = a by omega]
theorem lft_u {w u : Nat → Int32} {L a k : Nat} {v : Int32} (ha : a < 20) (hk : k = 20 * L + a) : upd (lft w L u) k v = lft w L (upd u a v) := by
  subst hk
  funext j
  unfold lft upd
  by_cases e : j = 20 * L + a
  · rw [if_pos e, if_pos ⟨by omega, by omega⟩, if_pos (by omega)]
  · rw [if_neg e]
    by_cases c : 20 * L ≤ j ∧ j < 20 * L + 20
    · rw [if_pos c, if_neg (by omega)]
      exact if_pos c
    · rw [if_neg c]
      exact if_neg c
theorem lft_s {w t : Nat → Int32} {L : Nat} (h : ∀ j, j < 20 → w (20 * L + j) = t j) : lft w L t = w := by
  funext j
  unfold lft
  split
  · have := h (j - 20 * L) (by omega)
    rw [← this, show 20 * L + (j - 20 * L) = j by omega]
  · rfl
theorem lft_m {K : Ld} {w u : Nat → Int32} {L : Nat} : sM K (lft w L u) L u := fun j hj => lft_g hj.1 rfl
theorem lft_f {w u : Nat → Int32} {L : Nat} : fL w (lft w L u) L := fun j hj => if_neg (by omega)
/-- the reference with its land and its row of scenes -/
def mW (G : px_H) (q : Nat → Int32) (sd : Int64) (K : Ld) (w : Nat → Int32) : Prop := mK G q sd K ∧ hget G 135 = some (c_ia 160 w) ∧ ∃ f, hget G 137 = some (c_ia 6 f)
/-- only the row of scenes and the row of flows have changed -/
def fM (G G' : px_H) : Prop := ∀ k, k ≠ 135 → k ≠ 137 → hget G' k = hget G k
theorem fM.tr {G G' G'' : px_H} (h : fM G G') (h' : fM G' G'') : fM G G'' := fun k a b => (h' k a b).trans (h k a b)
theorem mK.fM {G G' : px_H} {q : Nat → Int32} {sd : Int64} {K : Ld} (h : mK G q sd K) (hf : fM G G') : mK G' q sd K := h.kept (hf _ (by omega) (by omega)) (hf _ (by omega) (by omega)) (hf _ (by omega) (by omega)) (hf _ (by omega) (by omega)) (hf _ (by omega) (by omega))
set_option maxRecDepth 100000 in
theorem mpass_1 {d L : Nat} {x : Int32} {G : px_H} {q : Nat → Int32} {sd : Int64} {K : Ld} {w t : Nat → Int32} {Q : px_Q} {lim : Nat × Nat} (hL8 : L < 8) (hm : mK G q sd K) (hvf : vF K) (hw : hget G 135 = some (c_ia 160 w)) (ht : sM K w L t) (hx : ∀ p, p < 6 → bt x p = 0 ∨ bt x p = 1)
    (hn : ∀ H f o4 o5 o6 o7 o8, hget H 137 = some (c_ia 6 f) → (∀ p, p < K.n → f p = fW K x t p) → (∀ k, k ≠ 137 → hget H k = hget G k) → pr (d + 2) 108 lim Q 126 [some (.ref 124), some (.int (nI L)), some (.int x), some (.int (nI (20 * L))), o4, o5, o6, o7, o8] [] H) :
    ∀ k i H f o5 o6 o7 o8, i + k = K.n → hget H 137 = some (c_ia 6 f) → (∀ p, p < i → f p = fW K x t p) → (∀ k, k ≠ 137 → hget H k = hget G k) →
      pr (d + 2) 108 lim Q 8 [some (.ref 124), some (.int (nI L)), some (.int x), some (.int (nI (20 * L))), some (.int (nI i)), o5, o6, o7, o8] [] H := by
  obtain ⟨m0, m1, m2, m3, m4, kd, ms, fm, tt, a1, a2, a3, a4, a5, a6⟩ := id hm
  intro k
  induction k with
  | zero =>
    intro i H f o5 o6 o7 o8 hi k1 k2 k3
    obtain rfl : i = K.n := by omega
    have y0 : hget H 124 = some (c_m q sd) := (k3 _ (by omega)).trans m0
    simp only [eX7_pass_8, eX7_pass_10, eX7_pass_11, eX7_pass_14, pe_aload_0, pe_getf, pe_iclt, pe_iload_4, y0, m_g13, m1, niE, hget_hset, ia_l, ia_s, vin, opl, onl, Int32.reduceLT, Int32.reduceLE, Int32.reduceAdd, Int32.reduceSub, Nat.reduceLT, Nat.reduceAdd, Nat.reduceEqDiff, ↓reduceIte, true_and, and_true, List.length_nil, List.length_cons, Nat.reduceLeDiff, Nat.zero_le]
    exact hn H f _ _ _ _ _ k1 k2 k3
  | succ k ih =>
    intro i H f o5 o6 o7 o8 hi k1 k2 k3
    have y0 : hget H 124 = some (c_m q sd) := (k3 _ (by omega)).trans m0
    have y1 : hget H 131 = some (c_ia 6 kd) := (k3 _ (by omega)).trans a1
    have y2 : hget H 132 = some (c_ia 6 ms) := (k3 _ (by omega)).trans a2
    have y3 : hget H 135 = some (c_ia 160 w) := (k3 _ (by omega)).trans hw
    have hm' : mK H q sd K := hm.kept (k3 _ (by omega)) (k3 _ (by omega)) (k3 _ (by omega)) (k3 _ (by omega)) (k3 _ (by omega))
    obtain ⟨c1, c2, c3, c4⟩ := niL (i := i) (n := K.n) (by omega) m3
    obtain ⟨f3, f4⟩ := a5 i (by omega)
    obtain ⟨c5, c6⟩ := ni160 (i := 20 * L + i) (by omega)
    have c7 : 20 * L + i < 160 := by omega
    have f2 : w (20 * L + i) = t i := ht i (by omega)
    have go : ∀ v o5 o6 o7 o8, v = fW K x t i → pr (d + 2) 108 lim Q 8 [some (.ref 124), some (.int (nI L)), some (.int x), some (.int (nI (20 * L))), some (.int (nI (i + 1))), o5, o6, o7, o8] [] (hset H 137 (c_ia 6 (upd f i v))) := by
      intro v o5 o6 o7 o8 hv
      refine ih (i + 1) _ _ _ _ _ _ (by omega) (hget_self _ _ _) (fun p hp => ?_) (fun k hk => by rw [hget_ne hk]; exact k3 k hk)
      by_cases e : p = i
      · rw [e]; simp only [upd, ↓reduceIte]; exact hv
      · simp only [upd, e, ↓reduceIte]; exact k2 p (by omega)
    have tail : ∀ g : Bool, g = gB K x t K.m i → pr (d + 2) 108 lim Q 54 [some (.ref 124), some (.int (nI L)), some (.int x), some (.int (nI (20 * L))), some (.int (nI i)), o5, o6, o7, o8] [.int (zB g)] H := by
      intro g hg
      cases g with
      | false =>
        simp only [eX7_pass_54, eX7_pass_56, eX7_pass_57, eX7_pass_60, eX7_pass_62, eX7_pass_64, eX7_pass_67, eX7_pass_68, eX7_pass_71, eX7_pass_72, eX7_pass_75, eX7_pass_77, eX7_pass_78, eX7_pass_81, eX7_pass_82, eX7_pass_85, eX7_pass_86, eX7_pass_88, eX7_pass_89, eX7_pass_90, eX7_pass_91, eX7_pass_94, eX7_pass_96, eX7_pass_97, eX7_pass_100, eX7_pass_101, eX7_pass_104, eX7_pass_106, eX7_pass_107, eX7_pass_110, eX7_pass_111, eX7_pass_114, eX7_pass_115, eX7_pass_117, eX7_pass_118, eX7_pass_119, eX7_pass_120, eX7_pass_123, pe_aload_0, pe_bin, pe_const, pe_getf, pe_goto, pe_iald, pe_iast, pe_icgt, pe_ifeq, pe_iinc_4, pe_iload_3, pe_iload_4, pe_iload_5, pe_istore_5, zB, Bool.false_eq_true, y0, k1, m_g20, c1, c2, c4, nisw, hget_hset, ia_l, ia_s, vin, opl, onl, Int32.reduceLT, Int32.reduceLE, Int32.reduceAdd, Int32.reduceSub, Nat.reduceLT, Nat.reduceAdd, Nat.reduceEqDiff, ↓reduceIte, true_and, and_true, List.length_nil, List.length_cons, Nat.reduceLeDiff, Nat.zero_le]
        exact go _ _ _ _ _ (by simp [fW, ← hg])
      | true =>
        simp only [eX7_pass_54, eX7_pass_56, eX7_pass_57, eX7_pass_60, eX7_pass_62, eX7_pass_64, eX7_pass_67, eX7_pass_68, eX7_pass_71, eX7_pass_72, eX7_pass_75, eX7_pass_77, eX7_pass_78, eX7_pass_81, eX7_pass_82, eX7_pass_85, eX7_pass_86, eX7_pass_88, eX7_pass_89, eX7_pass_90, eX7_pass_91, eX7_pass_94, eX7_pass_96, eX7_pass_97, eX7_pass_100, eX7_pass_101, eX7_pass_104, eX7_pass_106, eX7_pass_107, eX7_pass_110, eX7_pass_111, eX7_pass_114, eX7_pass_115, eX7_pass_117, eX7_pass_118, eX7_pass_119, eX7_pass_120, eX7_pass_123, pe_aload_0, pe_bin, pe_const, pe_getf, pe_goto, pe_iald, pe_iast, pe_icgt, pe_ifeq, pe_iinc_4, pe_iload_3, pe_iload_4, pe_iload_5, pe_istore_5, zB, ie_1_0, y0, y1, y2, y3, k1, m_g9, m_g10, m_g15, m_g20, nI_add, c1, c2, c4, c5, c6, c7, f2, f3, f4, nisw, hget_hset, ia_l, ia_s, vin, opl, onl, Int32.reduceLT, Int32.reduceLE, Int32.reduceAdd, Int32.reduceSub, Nat.reduceLT, Nat.reduceAdd, Nat.reduceEqDiff, ↓reduceIte, true_and, and_true, List.length_nil, List.length_cons, Nat.reduceLeDiff, Nat.zero_le]
        split
        · rename_i z0
          split
          · rename_i z1
            exact go _ _ _ _ _ (by simp [fW, ← hg, am, z0, mnI, z1])
          · rename_i z1
            exact go _ _ _ _ _ (by simp [fW, ← hg, am, z0, mnI, z1])
        · rename_i z0
          exact go _ _ _ _ _ (by simp [fW, ← hg, am, z0])
    rw [eX7_pass_8]
    simp only [eX7_pass_10, eX7_pass_11, eX7_pass_14, eX7_pass_17, eX7_pass_18, eX7_pass_21, eX7_pass_23, eX7_pass_24, eX7_pass_25, eX7_pass_28, eX7_pass_29, eX7_pass_31, pe_aload_0, pe_callS_2, pe_const, pe_getf, pe_iald, pe_iclt, pe_iload_2, pe_iload_4, y0, y1, m_g9, m_g13, m1, c1, c2, c3, c4, f3, hget_hset, ia_l, ia_s, vin, opl, onl, Int32.reduceLT, Int32.reduceLE, Int32.reduceAdd, Int32.reduceSub, Nat.reduceLT, Nat.reduceAdd, Nat.reduceEqDiff, ↓reduceIte, true_and, and_true, List.length_nil, List.length_cons, Nat.reduceLeDiff, Nat.zero_le]
    split
    · refine sp_has ?_
      simp only [eX7_pass_34, eX7_pass_37, eX7_pass_38, eX7_pass_39, eX7_pass_41, pe_aload_0, pe_callV_2, pe_ifeq, pe_iload_1, pe_iload_4, bt_e, y0, m_o, hget_hset, ia_l, ia_s, vin, opl, onl, Int32.reduceLT, Int32.reduceLE, Int32.reduceAdd, Int32.reduceSub, Nat.reduceLT, Nat.reduceAdd, Nat.reduceEqDiff, ↓reduceIte, true_and, and_true, List.length_nil, List.length_cons, Nat.reduceLeDiff, Nat.zero_le]
      rcases hx i (by omega) with b0 | b0
      · simp only [b0, ie_0_1, decide_false, zB, Bool.false_eq_true, ↓reduceIte]
        refine sp_mleastOpen rfl hL8 hm' y3 ht ?_
        simp only [eX7_pass_44, eX7_pass_46, eX7_pass_49, eX7_pass_50, eX7_pass_53, pe_const, pe_goto, pe_iceq, hget_hset, ia_l, ia_s, vin, opl, onl, Int32.reduceLT, Int32.reduceLE, Int32.reduceAdd, Int32.reduceSub, Nat.reduceLT, Nat.reduceAdd, Nat.reduceEqDiff, ↓reduceIte, true_and, and_true, List.length_nil, List.length_cons, Nat.reduceLeDiff, Nat.zero_le]
        split
        · rename_i z
          exact tail false (by simp [gB, lK, z])
        · rename_i z
          exact tail true (by simp [gB, lK, z, b0])
      · simp only [b0, decide_true, zB, ie_1_0, ↓reduceIte, eX7_pass_53, pe_const]
        exact tail false (by simp [gB, b0])
    · rename_i z
      simp only [eX7_pass_53, pe_const, hget_hset, ia_l, ia_s, vin, opl, onl, Int32.reduceLT, Int32.reduceLE, Int32.reduceAdd, Int32.reduceSub, Nat.reduceLT, Nat.reduceAdd, Nat.reduceEqDiff, ↓reduceIte, true_and, and_true, List.length_nil, List.length_cons, Nat.reduceLeDiff, Nat.zero_le]
      exact tail false (by simp [gB, lK_vF hvf m4 (t := t) c4 z])
set_option maxRecDepth 100000 in
theorem mpass_2 {d L : Nat} {x : Int32} {G : px_H} {q : Nat → Int32} {sd : Int64} {K : Ld} {w t f : Nat → Int32} {Q : px_Q} {lim : Nat × Nat} (hL8 : L < 8) (hm : mK G q sd K) (hv : vL K) (hf : hget G 137 = some (c_ia 6 f)) (hf2 : ∀ p, p < K.n → f p = fW K x t p)
    (h18 : ∀ j, j ≤ K.n → (msts K x t j).1 18 = t 18)
    (hn : ∀ H, hget H 135 = some (c_ia 160 (lft w L (upd (msts K x t K.n).1 19 ((msts K x t K.n).1 19 + 1)))) → (∀ k, k ≠ 135 → hget H k = hget G k) → Q (some (.int (msts K x t K.n).2)) H) :
    ∀ k i H r o6 o7 o8, i + k = K.n → hget H 135 = some (c_ia 160 (lft w L (msts K x t i).1)) → r = (msts K x t i).2 → (∀ k, k ≠ 135 → hget H k = hget G k) →
      pr (d + 2) 108 lim Q 132 [some (.ref 124), some (.int (nI L)), some (.int x), some (.int (nI (20 * L))), some (.int r), some (.int (nI i)), o6, o7, o8] [] H := by
  obtain ⟨m0, m1, m2, m3, m4, kd, ms, fm, tt, a1, a2, a3, a4, a5, a6⟩ := id hm
  obtain ⟨c19, c19'⟩ := ni160 (i := 20 * L + 19) (by omega)
  have c19'' : 20 * L + 19 < 160 := by omega
  have g19 : ∀ u, lft w L u (20 * L + 19) = u 19 := fun u => lft_g (by omega) rfl
  have u19 : ∀ u v, upd (lft w L u) (20 * L + 19) v = lft w L (upd u 19 v) := fun u v => lft_u (by omega) rfl
  intro k
  induction k with
  | zero =>
    intro i H r o6 o7 o8 hi k1 k2 k3
    obtain rfl : i = K.n := by omega
    have y0 : hget H 124 = some (c_m q sd) := (k3 _ (by omega)).trans m0
    subst k2
    simp only [eX7_pass_132, eX7_pass_134, eX7_pass_135, eX7_pass_138, eX7_pass_349, eX7_pass_350, eX7_pass_353, eX7_pass_354, eX7_pass_356, eX7_pass_357, eX7_pass_358, eX7_pass_359, eX7_pass_360, eX7_pass_361, eX7_pass_362, eX7_pass_364, pe_aload_0, pe_bin, pe_const, pe_dup2_ir, pe_getf, pe_iald, pe_iast, pe_iclt, pe_iload_3, pe_iload_4, pe_iload_5, pe_iret, y0, k1, m_g13, m_g15, m1, niE, nI_c19, c19, c19', c19'', g19, u19, hget_hset, ia_l, ia_s, vin, opl, onl, Int32.reduceLT, Int32.reduceLE, Int32.reduceAdd, Int32.reduceSub, Nat.reduceLT, Nat.reduceAdd, Nat.reduceEqDiff, ↓reduceIte, true_and, and_true, List.length_nil, List.length_cons, Nat.reduceLeDiff, Nat.zero_le]
    exact hn _ (hget_self _ _ _) (fun k hk => by rw [hget_ne hk]; exact k3 k hk)
  | succ k ih =>
    intro i H r o6 o7 o8 hi k1 k2 k3
    have y0 : hget H 124 = some (c_m q sd) := (k3 _ (by omega)).trans m0
    have y1 : hget H 131 = some (c_ia 6 kd) := (k3 _ (by omega)).trans a1
    have y4 : hget H 134 = some (c_ia 6 tt) := (k3 _ (by omega)).trans a4
    have y7 : hget H 137 = some (c_ia 6 f) := (k3 _ (by omega)).trans hf
    have hm' : mK H q sd K := hm.kept (k3 _ (by omega)) (k3 _ (by omega)) (k3 _ (by omega)) (k3 _ (by omega)) (k3 _ (by omega))
    obtain ⟨c1, c2, c3, c4⟩ := niL (i := i) (n := K.n) (by omega) m3
    have e18 := h18 i (by omega)
    have fi := hf2 i (by omega)
    have st : msts K x t (i + 1) = mst K x t i (msts K x t i) := rfl
    generalize msts K x t i = s at k1 k2 e18 st
    obtain ⟨u, r0⟩ := s
    dsimp only at k1 k2 e18
    subst k2
    have go : ∀ H' r' u' o6 o7 o8, hget H' 135 = some (c_ia 160 (lft w L u')) → mst K x t i (u, r) = (u', r') → (∀ k, k ≠ 135 → hget H' k = hget H k) → pr (d + 2) 108 lim Q 132 [some (.ref 124), some (.int (nI L)), some (.int x), some (.int (nI (20 * L))), some (.int r'), some (.int (nI (i + 1))), o6, o7, o8] [] H' := by
      intro H' r' u' o6 o7 o8 e1 e2 e3
      rw [e2] at st
      exact ih (i + 1) H' r' _ _ _ (by omega) (by rw [st]; exact e1) (by rw [st]) (fun k hk => (e3 k hk).trans (k3 k hk))
    rw [eX7_pass_132]
    simp only [eX7_pass_134, eX7_pass_135, eX7_pass_138, eX7_pass_141, eX7_pass_142, eX7_pass_143, eX7_pass_145, pe_aload_0, pe_callV_2, pe_getf, pe_iclt, pe_iload_1, pe_iload_5, y0, m_o, m_g13, m1, c3, hget_hset, ia_l, ia_s, vin, opl, onl, Int32.reduceLT, Int32.reduceLE, Int32.reduceAdd, Int32.reduceSub, Nat.reduceLT, Nat.reduceAdd, Nat.reduceEqDiff, ↓reduceIte, true_and, and_true, List.length_nil, List.length_cons, Nat.reduceLeDiff, Nat.zero_le]
    refine sp_mleastOpen rfl hL8 hm' k1 lft_m ?_
    rw [e18]
    simp only [eX7_pass_148, eX7_pass_150, eX7_pass_151, eX7_pass_154, eX7_pass_156, eX7_pass_157, pe_aload_0, pe_getf, pe_iald, pe_ifgt, pe_iload_5, pe_istore_6, y0, y7, m_g20, c1, c2, c4, fi, hget_hset, ia_l, ia_s, vin, opl, onl, Int32.reduceLT, Int32.reduceLE, Int32.reduceAdd, Int32.reduceSub, Nat.reduceLT, Nat.reduceAdd, Nat.reduceEqDiff, ↓reduceIte, true_and, and_true, List.length_nil, List.length_cons, Nat.reduceLeDiff, Nat.zero_le]
    split
    · rename_i c0
      have hg : gB K x t K.m i = true := by
        cases e : gB K x t K.m i with
        | true => rfl
        | false => exfalso; rw [show fW K x t i = 0 by simp [fW, e]] at c0; exact absurd c0 (by decide)
      obtain ⟨dd, hd1, hd2, hd3, hd4⟩ := dK_lt hv hg
      have hd2' : lo K.fm (t 18) (nI i) 0 K.m = nI dd := hd2
      rw [hd2']
      obtain ⟨b1, b2, b3, b4⟩ := niL (i := dd) (n := K.m) hd1 m4
      have eT := nI_back (hv.2.2 dd hd1).2.1
      rw [← hd3] at eT
      have etd : tt dd = nI (dK K t K.m i) := (a6 dd hd1).2.trans eT
      generalize hTT : dK K t K.m i = T at *
      have kT := (a5 T hd4).1
      obtain ⟨t1, t2, t3, t4⟩ := niL (i := T) (n := K.n) hd4 m3
      obtain ⟨p1, p2⟩ := ni160 (i := 20 * L + i) (by omega)
      have p3 : 20 * L + i < 160 := by omega
      obtain ⟨q1, q2⟩ := ni160 (i := 20 * L + T) (by omega)
      have q3 : 20 * L + T < 160 := by omega
      obtain ⟨r1, r2⟩ := ni160 (i := 20 * L + 6 + T) (by omega)
      have r3 : 20 * L + 6 + T < 160 := by omega
      obtain ⟨s1, s2⟩ := ni160 (i := 20 * L + 12 + T) (by omega)
      have s3 : 20 * L + 12 + T < 160 := by omega
      have gi : ∀ u, lft w L u (20 * L + i) = u i := fun u => lft_g (by omega) rfl
      have ui : ∀ u v, upd (lft w L u) (20 * L + i) v = lft w L (upd u i v) := fun u v => lft_u (by omega) rfl
      have gT : ∀ u, lft w L u (20 * L + T) = u T := fun u => lft_g (by omega) rfl
      have uT : ∀ u v, upd (lft w L u) (20 * L + T) v = lft w L (upd u T v) := fun u v => lft_u (by omega) rfl
      have g6 : ∀ u, lft w L u (20 * L + 6 + T) = u (6 + T) := fun u => lft_g (by omega) (by omega)
      have u6 : ∀ u v, upd (lft w L u) (20 * L + 6 + T) v = lft w L (upd u (6 + T) v) := fun u v => lft_u (by omega) (by omega)
      have g12 : ∀ u, lft w L u (20 * L + 12 + T) = u (12 + T) := fun u => lft_g (by omega) (by omega)
      have u12 : ∀ u v, upd (lft w L u) (20 * L + 12 + T) v = lft w L (upd u (12 + T) v) := fun u v => lft_u (by omega) (by omega)
      have frm : ∀ (H1 : px_H) (c : px_E), (∀ k, k ≠ 135 → hget H1 k = hget H k) → ∀ k, k ≠ 135 → hget (hset H1 135 c) k = hget H k := fun H1 c h1 k hk => by rw [hget_ne hk]; exact h1 k hk
      have fr0 : ∀ k, k ≠ 135 → hget H k = hget H k := fun _ _ => rfl
      simp only [eX7_pass_160, eX7_pass_161, eX7_pass_164, eX7_pass_165, eX7_pass_167, eX7_pass_168, eX7_pass_169, eX7_pass_170, eX7_pass_171, eX7_pass_174, eX7_pass_176, eX7_pass_177, eX7_pass_178, eX7_pass_179, eX7_pass_180, eX7_pass_183, eX7_pass_184, eX7_pass_185, eX7_pass_188, eX7_pass_190, eX7_pass_191, eX7_pass_192, eX7_pass_193, eX7_pass_194, eX7_pass_195, eX7_pass_198, eX7_pass_200, eX7_pass_201, eX7_pass_202, eX7_pass_203, eX7_pass_204, eX7_pass_207, eX7_pass_208, eX7_pass_210, eX7_pass_211, eX7_pass_212, eX7_pass_215, eX7_pass_217, eX7_pass_218, eX7_pass_219, eX7_pass_220, eX7_pass_222, eX7_pass_224, eX7_pass_225, eX7_pass_228, eX7_pass_230, eX7_pass_231, eX7_pass_234, eX7_pass_236, eX7_pass_239, eX7_pass_240, eX7_pass_243, eX7_pass_245, eX7_pass_246, eX7_pass_248, eX7_pass_249, eX7_pass_252, eX7_pass_253, eX7_pass_255, eX7_pass_256, eX7_pass_257, eX7_pass_260, eX7_pass_262, eX7_pass_263, eX7_pass_264, eX7_pass_265, eX7_pass_266, eX7_pass_268, eX7_pass_269, eX7_pass_270, eX7_pass_272, eX7_pass_274, eX7_pass_275, eX7_pass_277, eX7_pass_278, eX7_pass_281, eX7_pass_282, eX7_pass_285, eX7_pass_287, eX7_pass_288, eX7_pass_289, eX7_pass_290, eX7_pass_293, eX7_pass_294, eX7_pass_297, eX7_pass_298, eX7_pass_300, eX7_pass_301, eX7_pass_302, eX7_pass_305, eX7_pass_307, eX7_pass_308, eX7_pass_309, eX7_pass_310, eX7_pass_312, eX7_pass_315, eX7_pass_316, eX7_pass_319, eX7_pass_320, eX7_pass_322, eX7_pass_323, eX7_pass_324, eX7_pass_327, eX7_pass_329, eX7_pass_330, eX7_pass_331, eX7_pass_332, eX7_pass_335, eX7_pass_336, eX7_pass_338, eX7_pass_339, eX7_pass_340, eX7_pass_341, eX7_pass_342, eX7_pass_343, eX7_pass_346, pe_aload_0, pe_bin, pe_const, pe_dup2_ir, pe_getf, pe_goto, pe_iald, pe_iast, pe_iceq, pe_iclt, pe_iinc_5, pe_iload_3, pe_iload_4, pe_iload_5, pe_iload_6, pe_iload_7, pe_iload_8, pe_istore_4, pe_istore_7, pe_istore_8, y0, y1, y4, y7, k1, m_g9, m_g12, m_g15, m_g20, nI_add, nI_c6, nI_c12, nI_c19, nisw, b1, b2, b4, etd, kT, t1, t2, t4, c1, c2, c4, p1, p2, p3, q1, q2, q3, r1, r2, r3, s1, s2, s3, c19, c19', c19'', gi, ui, gT, uT, g6, u6, g12, u12, g19, fi, hget_hset, ia_l, ia_s, vin, opl, onl, Int32.reduceLT, Int32.reduceLE, Int32.reduceAdd, Int32.reduceSub, Nat.reduceLT, Nat.reduceAdd, Nat.reduceEqDiff, ↓reduceIte, true_and, and_true, List.length_nil, List.length_cons, Nat.reduceLeDiff, Nat.zero_le]
      split
      · rename_i z1
        split
        · rename_i z2
          split
          · rename_i z3
            exact go _ _ _ _ _ _ (hget_self _ _ _) (by simp only [mst, c0, hTT, z1, z2, z3, and_self, ↓reduceIte]) (frm _ _ (frm _ _ (frm _ _ (frm _ _ fr0))))
          · rename_i z3
            exact go _ _ _ _ _ _ (hget_self _ _ _) (by simp only [mst, c0, hTT, z1, z2, z3, and_false, ↓reduceIte]) (frm _ _ (frm _ _ (frm _ _ fr0)))
        · rename_i z2
          exact go _ _ _ _ _ _ (hget_self _ _ _) (by simp only [mst, c0, hTT, z1, z2, false_and, ↓reduceIte]) (frm _ _ (frm _ _ (frm _ _ fr0)))
      · rename_i z1
        split
        · rename_i z2
          split
          · rename_i z3
            exact go _ _ _ _ _ _ (hget_self _ _ _) (by simp only [mst, c0, hTT, z1, z2, z3, and_self, ↓reduceIte]) (frm _ _ (frm _ _ (frm _ _ (frm _ _ fr0))))
          · rename_i z3
            exact go _ _ _ _ _ _ (hget_self _ _ _) (by simp only [mst, c0, hTT, z1, z2, z3, and_false, ↓reduceIte]) (frm _ _ (frm _ _ (frm _ _ fr0)))
        · rename_i z2
          exact go _ _ _ _ _ _ (hget_self _ _ _) (by simp only [mst, c0, hTT, z1, z2, false_and, ↓reduceIte]) (frm _ _ (frm _ _ (frm _ _ fr0)))
    · rename_i c0
      simp only [eX7_pass_343, eX7_pass_346, pe_goto, pe_iinc_5, nisw, hget_hset, ia_l, ia_s, vin, opl, onl, Int32.reduceLT, Int32.reduceLE, Int32.reduceAdd, Int32.reduceSub, Nat.reduceLT, Nat.reduceAdd, Nat.reduceEqDiff, ↓reduceIte, true_and, and_true, List.length_nil, List.length_cons, Nat.reduceLeDiff, Nat.zero_le]
      exact go _ _ _ _ _ _ k1 (by simp only [mst, c0, ↓reduceIte]) (fun _ _ => rfl)
theorem aP_n0 {K : Ld} (n0 : K.n = 0) (hv : vK K) {x : Int32} {t : Nat → Int32} : (∀ j, j < 12 → aP K x t j = t j) ∧ aP K x t 18 = t 18 ∧ aP K x t 19 = t 19 + 1 ∧ aW K x t = 0 := by
  have m0 : K.m = 0 := by
    rcases Nat.eq_zero_or_pos K.m with e | e
    · exact e
    · have := (hv.1.2.2 0 e).1.2
      omega
  have eF : aF K x t = (t, fun _ => 0, x) := by unfold aF; rw [m0]; rfl
  have eG : aG K x t = (t, fun p => t (6 + p), fun p => t (12 + p), 0) := by unfold aG; rw [n0, eF]; rfl
  refine ⟨fun j hj => ?_, gl_18, gl_19, by unfold aW; rw [eG]⟩
  unfold aP
  rw [eG]
  by_cases h6 : j < 6
  · exact gl_b h6
  · have := gl_d (q := (t, fun p => t (6 + p), fun p => t (12 + p), 0)) (op := t 18) (hr := t 19 + 1) (p := j - 6) (by omega)
    rw [show 6 + (j - 6) = j by omega] at this
    rw [this]
    show t (6 + (j - 6)) = t j
    rw [show 6 + (j - 6) = j by omega]
set_option maxRecDepth 100000 in
/-- an hour without places -/
theorem mpass_0 {d L xx : Nat} {G : px_H} {q : Nat → Int32} {sd : Int64} {K : Ld} {w t : Nat → Int32} {Q : px_Q} (n0 : K.n = 0) (hL8 : L < 8) (hk : mK G q sd K) (hw : hget G 135 = some (c_ia 160 w)) (hf : ∃ f, hget G 137 = some (c_ia 6 f)) (hv : vK K) (ht : sM K w L t)
    (hQ : ∀ G' w', mW G' q sd K w' → sM K w' L (aP K (nI xx) t) → fL w w' L → fM G G' → Q (some (.int (aW K (nI xx) t))) G') : pr (d + 2) 108 (G.1 + 0, G.2.1 + 0) Q 8 [some (.ref 124), some (.int (nI L)), some (.int (nI xx)), some (.int (nI (20 * L))), some (.int 0), none, none, none, none] [] G := by
  obtain ⟨m0, m1, -⟩ := id hk
  obtain ⟨c19, c19'⟩ := ni160 (i := 20 * L + 19) (by omega)
  have c19'' : 20 * L + 19 < 160 := by omega
  have z0 : nI K.n = 0 := by rw [n0]; rfl
  obtain ⟨p1, p2, p3, p4⟩ := aP_n0 n0 hv (x := nI xx) (t := t)
  have t19 : w (20 * L + 19) = t 19 := ht 19 (by omega)
  have ll : ¬ (0 : Int32) < 0 := by decide
  simp only [eX7_pass_8, eX7_pass_10, eX7_pass_11, eX7_pass_14, eX7_pass_126, eX7_pass_127, eX7_pass_129, eX7_pass_130, eX7_pass_132, eX7_pass_134, eX7_pass_135, eX7_pass_138, eX7_pass_349, eX7_pass_350, eX7_pass_353, eX7_pass_354, eX7_pass_356, eX7_pass_357, eX7_pass_358, eX7_pass_359, eX7_pass_360, eX7_pass_361, eX7_pass_362, eX7_pass_364, pe_aload_0, pe_bin, pe_const, pe_dup2_ir, pe_getf, pe_iald, pe_iast, pe_iclt, pe_iload_3, pe_iload_4, pe_iload_5, pe_iret, pe_istore_4, pe_istore_5, m0, m_g13, m_g15, m1, z0, hw, nI_c19, c19, c19', c19'', t19, ll, hget_hset, ia_l, ia_s, vin, opl, onl, Int32.reduceLT, Int32.reduceLE, Int32.reduceAdd, Int32.reduceSub, Nat.reduceLT, Nat.reduceAdd, Nat.reduceEqDiff, ↓reduceIte, true_and, and_true, List.length_nil, List.length_cons, Nat.reduceLeDiff, Nat.zero_le]
  have fm : fM G (hset G 135 (c_ia 160 (upd w (20 * L + 19) (t 19 + 1)))) := fun k a b => hget_ne a
  have := hQ (hset G 135 (c_ia 160 (upd w (20 * L + 19) (t 19 + 1)))) (upd w (20 * L + 19) (t 19 + 1)) ⟨hk.fM fm, hget_self _ _ _, by obtain ⟨f, hf⟩ := hf; exact ⟨f, (hget_ne (by omega)).trans hf⟩⟩ (fun j hj => ?_) (fun j hj => ?_) fm
  · rw [p4] at this
    exact this
  · unfold upd
    by_cases e : j = 19
    · subst e
      rw [if_pos rfl, p3]
    · rw [if_neg (by omega), ht j hj]
      by_cases e2 : j = 18
      · subst e2; exact p2.symm
      · exact (p1 j (by omega)).symm
  · unfold upd
    rw [if_neg (by omega)]
set_option maxRecDepth 100000 in
/-- an hour of the reference at level L -/
theorem sp_mpass {d L xx c : Nat} {l : Int32} {G : px_H} {q : Nat → Int32} {sd : Int64} {K : Ld} {w t : Nat → Int32} {Q : px_Q} (hL : l = nI L) (hL8 : L < 8) (hx : xx < 64) (hm : mW G q sd K w) (hv : vK K) (hvf : vF K) (ht : sM K w L t) (ho : okT K c t)
    (hQ : ∀ G' w', mW G' q sd K w' → sM K w' L (aP K (nI xx) t) → fL w w' L → fM G G' → Q (some (.int (aW K (nI xx) t))) G') : pcal (d + 3) 108 [.ref 124, .int l, .int (nI xx)] G Q := by
  subst hL
  obtain ⟨hk, hw, f0, hf⟩ := hm
  obtain ⟨e1, e2, e3, e4⟩ := msts_aP hv ho hx
  refine inX7_pass ?_
  simp only [eX7_pass_0, eX7_pass_2, eX7_pass_3, eX7_pass_4, eX7_pass_5, eX7_pass_6, pe_bin, pe_const, pe_iload_1, pe_istore_3, pe_istore_4, nI_m20, hget_hset, ia_l, ia_s, vin, opl, onl, Int32.reduceLT, Int32.reduceLE, Int32.reduceAdd, Int32.reduceSub, Nat.reduceLT, Nat.reduceAdd, Nat.reduceEqDiff, ↓reduceIte, true_and, and_true, List.length_nil, List.length_cons, Nat.reduceLeDiff, Nat.zero_le]
  by_cases n0 : K.n = 0
  · exact mpass_0 n0 hL8 hk hw ⟨f0, hf⟩ hv ht hQ
  refine mpass_1 hL8 hk hvf hw ht (fun p hp => bt_01 xx hx p hp) ?_ K.n 0 G f0 none none none none (by omega) hf (fun p hp => by omega) (fun _ _ => rfl)
  intro H f o4 o5 o6 o7 o8 k1 k2 k3
  have hk' : mK H q sd K := hk.kept (k3 _ (by omega)) (k3 _ (by omega)) (k3 _ (by omega)) (k3 _ (by omega)) (k3 _ (by omega))
  simp only [eX7_pass_126, eX7_pass_127, eX7_pass_129, eX7_pass_130, pe_const, pe_istore_4, pe_istore_5, hget_hset, ia_l, ia_s, vin, opl, onl, Int32.reduceLT, Int32.reduceLE, Int32.reduceAdd, Int32.reduceSub, Nat.reduceLT, Nat.reduceAdd, Nat.reduceEqDiff, ↓reduceIte, true_and, and_true, List.length_nil, List.length_cons, Nat.reduceLeDiff, Nat.zero_le]
  refine mpass_2 (w := w) (t := t) hL8 hk' hv.1 k1 k2 (fun j hj => (msts_pl hv ho j hj).2.2.1) ?_ K.n 0 H 0 _ _ _ (by omega) ?_ rfl (fun _ _ => rfl)
  · intro H' j1 j2
    rw [e4]
    have fm : fM G H' := fun k q1 q2 => (j2 k q1).trans (k3 k q2)
    refine hQ H' _ ⟨hk.fM fm, j1, f, (j2 _ (by omega)).trans k1⟩ (fun j hj => ?_) lft_f fm
    rw [lft_g hj.1 rfl]
    by_cases a : j < 18
    · simp only [upd, show ¬ j = 19 by omega, ↓reduceIte]
      exact e1 j a
    · by_cases b : j = 18
      · subst b
        simp only [upd, Nat.reduceEqDiff, ↓reduceIte]
        exact e2.trans gl_18.symm
      · obtain rfl : j = 19 := by omega
        simp only [upd, ↓reduceIte]
        rw [e3]
        exact gl_19.symm
  · rw [k3 _ (by omega), hw]
    exact congrArg (fun z => some (c_ia 160 z)) (lft_s (fun j hj => ht j ⟨hj, Or.inl n0⟩)).symm
