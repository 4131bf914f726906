/-! ===== the two kings of the reference ===== -/
theorem nI_c2 (a : Nat) : nI a + 2 = nI (a + 2) := nI_add a 2
theorem so_slf {t : Nat → Int32} : so t (t 18) = t := by
  funext j
  unfold so
  split
  · rename_i h; rw [h]
  · rfl
theorem fold_nn {op : Int32 → Int32 → Int32} {g : Nat → Int32} (hop : op = mnI ∨ op = mxI) : ∀ j, (∀ i, i ≤ j → 0 ≤ (g i).toInt) → 0 ≤ (foldO op g j).toInt
  | 0, h => h 0 (Nat.le_refl _)
  | j + 1, h => by
    have h1 := fold_nn (g := g) hop j (fun i hi => h i (by omega))
    have h2 := h (j + 1) (Nat.le_refl _)
    rw [foldO]
    rcases hop with e | e
    · rw [e] at h1 ⊢
      unfold mnI at h1 ⊢
      split
      · exact h2
      · exact h1
    · rw [e] at h1 ⊢
      unfold mxI at h1 ⊢
      split
      · exact h2
      · exact h1
theorem kF_nn {K : Ld} (hv : vK K) {p : Nat} (hp : p < 6) {c : Nat} : ∀ r s t, okT K c t → 0 ≤ (kF K p r s t).toInt
  | 0, s, t, h => (h.2.2.2.2.1 p hp).1
  | r + 1, s, t, h => by
    rw [kF]
    refine fold_nn ?_ K.m (fun i _ => kF_nn hv hp r (s + 1) (mvS K t i) (okT_mv hv h i))
    split
    · exact Or.inl rfl
    · exact Or.inr rfl
theorem nn_9 {x : Int32} (h : 0 ≤ x.toInt) : ¬ x = -9 := by
  intro e
  rw [e] at h
  exact absurd h (by decide)
theorem kG_fold {K : Ld} {p r : Nat} {t : Nat → Int32} : ∀ j, (kG K p r t j).2 = foldO mnI (fun i => kF K p r 1 (mvS K t i)) j
  | 0 => rfl
  | j + 1 => by
    rw [kG, foldO, ← kG_fold j]
    unfold mnI
    split
    · rfl
    · rfl
def kW (G : px_H) (q : Nat → Int32) (sd : Int64) (K : Ld) (w T B M : Nat → Int32) : Prop := mW G q sd K w ∧ hget G 142 = some (c_ia 6 T) ∧ hget G 143 = some (c_ia 6 B) ∧ hget G 144 = some (c_ia 6 M)
def fK (G G' : px_H) : Prop := ∀ k, k ≠ 135 → k ≠ 137 → k ≠ 142 → k ≠ 143 → k ≠ 144 → hget G' k = hget G k
theorem fK.tr {G G' G'' : px_H} (h : fK G G') (h' : fK G' G'') : fK G G'' := fun k a b c d e => (h' k a b c d e).trans (h k a b c d e)
theorem fM.fK {G G' : px_H} (h : fM G G') : fK G G' := fun k a b _ _ _ => h k a b
theorem mK.fK {G G' : px_H} {q : Nat → Int32} {sd : Int64} {K : Ld} (h : mK G q sd K) (hf : fK G G') : mK G' q sd K := h.kept (hf _ (by omega) (by omega) (by omega) (by omega) (by omega)) (hf _ (by omega) (by omega) (by omega) (by omega) (by omega)) (hf _ (by omega) (by omega) (by omega) (by omega) (by omega)) (hf _ (by omega) (by omega) (by omega) (by omega) (by omega)) (hf _ (by omega) (by omega) (by omega) (by omega) (by omega))
theorem kW.fM {G G' : px_H} {q : Nat → Int32} {sd : Int64} {K : Ld} {w w' T B M : Nat → Int32} (h : kW G q sd K w T B M) (hf : fM G G') (hm : mW G' q sd K w') : kW G' q sd K w' T B M := ⟨hm, (hf _ (by omega) (by omega)).trans h.2.1, (hf _ (by omega) (by omega)).trans h.2.2.1, (hf _ (by omega) (by omega)).trans h.2.2.2⟩
theorem kW.set {G : px_H} {q : Nat → Int32} {sd : Int64} {K : Ld} {w T B M T' B' M' : Nat → Int32} {G' : px_H} (h : kW G q sd K w T B M) (h1 : hget G' 142 = some (c_ia 6 T')) (h2 : hget G' 143 = some (c_ia 6 B')) (h3 : hget G' 144 = some (c_ia 6 M')) (hf : ∀ k, k ≠ 142 → k ≠ 143 → k ≠ 144 → hget G' k = hget G k) : kW G' q sd K w T' B' M' := by
  obtain ⟨⟨m1, m2, f, m3⟩, -⟩ := h
  exact ⟨⟨m1.kept (hf _ (by omega) (by omega) (by omega)) (hf _ (by omega) (by omega) (by omega)) (hf _ (by omega) (by omega) (by omega)) (hf _ (by omega) (by omega) (by omega)) (hf _ (by omega) (by omega) (by omega)), (hf _ (by omega) (by omega) (by omega)).trans m2, f, (hf _ (by omega) (by omega) (by omega)).trans m3⟩, h1, h2, h3⟩
section MKi
variable {d : Nat} {G : px_H} {q : Nat → Int32} {sd : Int64} {K : Ld} {c o : Nat} {Q : px_Q} {lim : Nat × Nat}
/-- the best of the first j moves, as the reference holds it -/
def kB (K : Ld) (p r s : Nat) (t : Nat → Int32) (j : Nat) (B M : Int32) : Prop := match j with
  | 0 => B = -9
  | i + 1 => B = foldO (if s % 2 = 0 then mnI else mxI) (fun j => kF K p r (s + 1) (mvS K t j)) i ∧ (s = 0 → M = (kG K p r t i).1)
theorem kB_s {p r s j : Nat} {t : Nat → Int32} {B M v : Int32} {better : Bool} (h : kB K p r s t j B M) (hv : v = kF K p r (s + 1) (mvS K t j)) (hb : better = (decide (B = -9) || (if s % 2 = 0 then decide (v < B) else decide (B < v)))) (hnn : j ≠ 0 → ¬ B = -9) : kB K p r s t (j + 1) (if better = true then v else B) (if better = true then nI j else M) := by
  cases j with
  | zero =>
    have e : B = -9 := h
    rw [hb, e]
    simp only [decide_true, Bool.true_or, ↓reduceIte]
    exact ⟨hv, fun _ => rfl⟩
  | succ i =>
    obtain ⟨h1, h2⟩ := h
    have n9 := hnn (by omega)
    show _ ∧ _
    rw [foldO, ← h1, ← hv]
    by_cases e : s % 2 = 0
    · rw [if_pos e] at hb ⊢
      have hb' : better = decide (v < B) := by rw [hb]; simp [n9]
      refine ⟨?_, fun s0 => ?_⟩
      · unfold mnI
        by_cases l : v < B
        · simp [hb', l]
        · simp [hb', l]
      · rw [kG]
        have k2 := kG_fold (K := K) (p := p) (r := r) (t := t) i
        subst s0
        rw [if_pos e] at h1
        rw [k2, ← h1, ← hv]
        by_cases l : v < B
        · simp [hb', l]
        · simp [hb', l, h2 rfl]
    · rw [if_neg e] at hb ⊢
      have hb' : better = decide (B < v) := by rw [hb]; simp [n9]
      refine ⟨?_, fun s0 => by omega⟩
      unfold mxI
      by_cases l : B < v
      · simp [hb', l]
      · simp [hb', l]
set_option maxRecDepth 100000 in
theorem mkings_back {s j N p : Nat} {fi v : Int32} {H : px_H} {w T B M : Nat → Int32} {o5 o6 : Option Value} {z : Int32} (hk : kW H q sd K w T B M) (hs : s < 4) (hT : T s = nI (j + 1)) (hz : z = 0 ∨ z = 1)
    (hn : ∀ H' B' M' o6', kW H' q sd K w T B' M' → B' s = (if z = 1 then v else B s) → M' s = (if z = 1 then nI j else M s) → (∀ i, i < s → B' i = B i ∧ M' i = M i) → fK H H' → pr d 145 lim Q 62 [some (.ref 124), some (.int (nI p)), some (.int (nI N)), some (.int fi), some (.int (nI s)), some (.int v), o6'] [] H') :
    pr d 145 lim Q 279 [some (.ref 124), some (.int (nI p)), some (.int (nI N)), some (.int fi), some (.int (nI s)), some (.int v), o6] [.int z] H := by
  obtain ⟨⟨⟨m0, mr⟩, -⟩, k1, k2, k3⟩ := id hk
  obtain ⟨c1, c2, -⟩ := ni6 (i := s) (by omega)
  have c3 : s < 6 := by omega
  have e1 : nI (j + 1) - 1 = nI j := nI_pred j
  rcases hz with rfl | rfl
  · simp only [eX7_kings_279, eX7_kings_281, eX7_kings_282, eX7_kings_285, eX7_kings_287, eX7_kings_289, eX7_kings_304, eX7_kings_305, eX7_kings_308, eX7_kings_310, eX7_kings_311, eX7_kings_312, eX7_kings_313, eX7_kings_316, eX7_kings_318, eX7_kings_320, eX7_kings_328, eX7_kings_329, eX7_kings_332, eX7_kings_334, eX7_kings_335, eX7_kings_336, pe_aload_0, pe_getf, pe_goto, pe_iald, pe_iast, pe_ifeq, pe_iload_4, pe_iload_6, pe_istore_6, m0, m_g28, m_g29, m_g30, k1, k2, k3, c1, c2, c3, hget_hset, ia_l, ia_s, vin, opl, onl, Int32.reduceLT, Int32.reduceLE, Int32.reduceAdd, Int32.reduceSub, Nat.reduceLT, Nat.reduceAdd, Nat.reduceEqDiff, ↓reduceIte, true_and, and_true, List.length_nil, List.length_cons, Nat.reduceLeDiff, Nat.zero_le]
    refine hn _ (upd B s (B s)) (upd M s (M s)) _ (hk.set (by simp only [hget_hset, Nat.reduceEqDiff, ↓reduceIte]; exact k1) (by simp only [hget_hset, Nat.reduceEqDiff, ↓reduceIte]) (by simp only [hget_hset, Nat.reduceEqDiff, ↓reduceIte]) (fun k a b c => by simp only [hget_hset, a, b, c, ↓reduceIte])) ?_ ?_ (fun i hi => ?_) (fun k a b c e f => by simp only [hget_hset, e, f, ↓reduceIte])
    · simp [upd]
    · simp [upd]
    · simp [upd, show ¬ i = s by omega]
  · simp only [eX7_kings_279, eX7_kings_281, eX7_kings_282, eX7_kings_285, eX7_kings_287, eX7_kings_289, eX7_kings_292, eX7_kings_293, eX7_kings_296, eX7_kings_298, eX7_kings_299, eX7_kings_300, eX7_kings_301, eX7_kings_311, eX7_kings_312, eX7_kings_313, eX7_kings_316, eX7_kings_318, eX7_kings_320, eX7_kings_323, eX7_kings_325, eX7_kings_335, eX7_kings_336, pe_aload_0, pe_bin, pe_const, pe_getf, pe_goto, pe_iald, pe_iast, pe_ifeq, pe_iload_4, pe_iload_5, pe_iload_6, pe_istore_6, m0, m_g28, m_g29, m_g30, k1, k2, k3, c1, c2, c3, hT, e1, ie_1_0, hget_hset, ia_l, ia_s, vin, opl, onl, Int32.reduceLT, Int32.reduceLE, Int32.reduceAdd, Int32.reduceSub, Nat.reduceLT, Nat.reduceAdd, Nat.reduceEqDiff, ↓reduceIte, true_and, and_true, List.length_nil, List.length_cons, Nat.reduceLeDiff, Nat.zero_le]
    refine hn _ (upd B s v) (upd M s (nI j)) _ (hk.set (by simp only [hget_hset, Nat.reduceEqDiff, ↓reduceIte]; exact k1) (by simp only [hget_hset, Nat.reduceEqDiff, ↓reduceIte]) (by simp only [hget_hset, Nat.reduceEqDiff, ↓reduceIte]) (fun k a b c => by simp only [hget_hset, a, b, c, ↓reduceIte])) ?_ ?_ (fun i hi => ?_) (fun k a b c e f => by simp only [hget_hset, e, f, ↓reduceIte])
    · simp [upd]
    · simp [upd]
    · simp [upd, show ¬ i = s by omega]
set_option maxRecDepth 100000 in
theorem mkings_up {s j N p r : Nat} {fi v : Int32} {H : px_H} {t w T B M : Nat → Int32} {o5 o6 : Option Value} (hv : v = kF K p r (s + 1) (mvS K t j)) (hk : kW H q sd K w T B M) (hs : s < 4) (hT : T s = nI (j + 1)) (hB : kB K p r s t j (B s) (M s)) (hnn : j ≠ 0 → ¬ B s = -9)
    (hn : ∀ H' B' M' o6', kW H' q sd K w T B' M' → kB K p r s t (j + 1) (B' s) (M' s) → (∀ i, i < s → B' i = B i ∧ M' i = M i) → fK H H' → pr d 145 lim Q 62 [some (.ref 124), some (.int (nI p)), some (.int (nI N)), some (.int fi), some (.int (nI s)), some (.int v), o6'] [] H') :
    pr d 145 lim Q 218 [some (.ref 124), some (.int (nI p)), some (.int (nI N)), some (.int fi), some (.int (nI (s + 1))), o5, o6] [.int v] H := by
  obtain ⟨⟨⟨m0, mr⟩, -⟩, k1, k2, k3⟩ := id hk
  obtain ⟨c1, c2, -⟩ := ni6 (i := s) (by omega)
  have c3 : s < 6 := by omega
  have c4 : ¬ nI s < 0 := nI_nlt (a := s) (b := 0) (by omega) (by omega)
  have e1 : nI (s + 1) + -1 = nI s := by
    have := nI_pred s
    rw [Int32.sub_eq_add_neg] at this
    exact this
  have e2 : nI s - nI s / 2 * 2 = nI (s % 2) := par2 (by omega)
  have n2 : ¬ (2 : Int32) = 0 := by decide
  have go : ∀ (b : Bool), b = (decide (B s = -9) || (if s % 2 = 0 then decide (v < B s) else decide (B s < v))) → pr d 145 lim Q 279 [some (.ref 124), some (.int (nI p)), some (.int (nI N)), some (.int fi), some (.int (nI s)), some (.int v), o6] [.int (zB b)] H := by
    intro b hb
    refine mkings_back (o5 := none) hk hs hT (by cases b <;> simp [zB]) ?_
    intro H' B' M' o6' g1 g2 g3 g4 g5
    have st := kB_s (v := v) (better := b) hB hv hb hnn
    refine hn H' B' M' o6' g1 ?_ g4 g5
    rw [g2, g3]
    cases b with
    | true => simpa [zB] using st
    | false => simpa [zB, ie_0_1] using st
  simp only [eX7_kings_218, eX7_kings_220, eX7_kings_223, eX7_kings_225, eX7_kings_228, eX7_kings_229, eX7_kings_232, eX7_kings_234, eX7_kings_235, eX7_kings_237, pe_aload_0, pe_const, pe_getf, pe_iald, pe_iceq, pe_iflt, pe_iinc_4, pe_iload_4, pe_istore_5, e1, m0, m_g29, k2, c1, c2, c3, c4, hget_hset, ia_l, ia_s, vin, opl, onl, Int32.reduceLT, Int32.reduceLE, Int32.reduceAdd, Int32.reduceSub, Nat.reduceLT, Nat.reduceAdd, Nat.reduceEqDiff, ↓reduceIte, true_and, and_true, List.length_nil, List.length_cons, Nat.reduceLeDiff, Nat.zero_le]
  by_cases b9 : B s = -9
  · rw [if_pos b9]
    simp only [eX7_kings_274, eX7_kings_275, pe_const, pe_goto, hget_hset, ia_l, ia_s, vin, opl, onl, Int32.reduceLT, Int32.reduceLE, Int32.reduceAdd, Int32.reduceSub, Nat.reduceLT, Nat.reduceAdd, Nat.reduceEqDiff, ↓reduceIte, true_and, and_true, List.length_nil, List.length_cons, Nat.reduceLeDiff, Nat.zero_le]
    exact go true (by simp [b9])
  · rw [if_neg b9]
    simp only [eX7_kings_240, eX7_kings_242, eX7_kings_243, eX7_kings_244, pe_const, pe_ifeq, pe_iload_4, pe_irem, e2, n2, not_false_eq_true, hget_hset, ia_l, ia_s, vin, opl, onl, Int32.reduceLT, Int32.reduceLE, Int32.reduceAdd, Int32.reduceSub, Nat.reduceLT, Nat.reduceAdd, Nat.reduceEqDiff, ↓reduceIte, true_and, and_true, List.length_nil, List.length_cons, Nat.reduceLeDiff, Nat.zero_le]
    by_cases e : s % 2 = 0
    · rw [e, if_pos (show nI 0 = 0 from rfl)]
      simp only [eX7_kings_247, eX7_kings_249, eX7_kings_250, eX7_kings_253, eX7_kings_255, eX7_kings_256, pe_aload_0, pe_getf, pe_iald, pe_iclt, pe_iload_4, pe_iload_5, m0, m_g29, k2, c1, c2, c3, hget_hset, ia_l, ia_s, vin, opl, onl, Int32.reduceLT, Int32.reduceLE, Int32.reduceAdd, Int32.reduceSub, Nat.reduceLT, Nat.reduceAdd, Nat.reduceEqDiff, ↓reduceIte, true_and, and_true, List.length_nil, List.length_cons, Nat.reduceLeDiff, Nat.zero_le]
      split
      · rename_i l
        simp only [eX7_kings_259, eX7_kings_262, eX7_kings_264, eX7_kings_265, eX7_kings_268, eX7_kings_270, eX7_kings_271, eX7_kings_274, eX7_kings_275, pe_aload_0, pe_const, pe_getf, pe_goto, pe_iald, pe_icgt, pe_iload_4, pe_iload_5, hget_hset, ia_l, ia_s, vin, opl, onl, Int32.reduceLT, Int32.reduceLE, Int32.reduceAdd, Int32.reduceSub, Nat.reduceLT, Nat.reduceAdd, Nat.reduceEqDiff, ↓reduceIte, true_and, and_true, List.length_nil, List.length_cons, Nat.reduceLeDiff, Nat.zero_le]
        exact go true (by simp [b9, e, l])
      · rename_i l
        simp only [eX7_kings_278, pe_const, hget_hset, ia_l, ia_s, vin, opl, onl, Int32.reduceLT, Int32.reduceLE, Int32.reduceAdd, Int32.reduceSub, Nat.reduceLT, Nat.reduceAdd, Nat.reduceEqDiff, ↓reduceIte, true_and, and_true, List.length_nil, List.length_cons, Nat.reduceLeDiff, Nat.zero_le]
        exact go false (by simp [b9, e, l])
    · rw [show s % 2 = 1 by omega, if_neg (show ¬ nI 1 = 0 by decide)]
      simp only [eX7_kings_262, eX7_kings_264, eX7_kings_265, eX7_kings_268, eX7_kings_270, eX7_kings_271, pe_aload_0, pe_getf, pe_iald, pe_icgt, pe_iload_4, pe_iload_5, m0, m_g29, k2, c1, c2, c3, hget_hset, ia_l, ia_s, vin, opl, onl, Int32.reduceLT, Int32.reduceLE, Int32.reduceAdd, Int32.reduceSub, Nat.reduceLT, Nat.reduceAdd, Nat.reduceEqDiff, ↓reduceIte, true_and, and_true, List.length_nil, List.length_cons, Nat.reduceLeDiff, Nat.zero_le]
      split
      · rename_i l
        simp only [eX7_kings_274, eX7_kings_275, pe_const, pe_goto, hget_hset, ia_l, ia_s, vin, opl, onl, Int32.reduceLT, Int32.reduceLE, Int32.reduceAdd, Int32.reduceSub, Nat.reduceLT, Nat.reduceAdd, Nat.reduceEqDiff, ↓reduceIte, true_and, and_true, List.length_nil, List.length_cons, Nat.reduceLeDiff, Nat.zero_le]
        exact go true (by simp [b9, e, l])
      · rename_i l
        simp only [eX7_kings_278, pe_const, hget_hset, ia_l, ia_s, vin, opl, onl, Int32.reduceLT, Int32.reduceLE, Int32.reduceAdd, Int32.reduceSub, Nat.reduceLT, Nat.reduceAdd, Nat.reduceEqDiff, ↓reduceIte, true_and, and_true, List.length_nil, List.length_cons, Nat.reduceLeDiff, Nat.zero_le]
        exact go false (by simp [b9, e, l])
set_option maxRecDepth 100000 in
theorem mkings_down {s j N p : Nat} {fi : Int32} {H : px_H} {t w T B M : Nat → Int32} {o5 o6 : Option Value} (hv : vK K) (hvf : vF K) (hk : kW H q sd K w T B M) (ht : sM K w (s + 1) t) (hok : okT K c t) (hs : s < 4) (hsN : s < N) (hN : N ≤ 4) (hj : j ≤ K.m) (hT : T s = nI j)
    (hn : ∀ H' w' o5, kW H' q sd K w' (upd (upd T s (nI (j + 1))) (s + 1) 0) (upd B (s + 1) (-9)) M → sM K w' (s + 2) (mvS K t j) → fL w w' (s + 2) → fK H H' → pr (d + 3) 145 lim Q 62 [some (.ref 124), some (.int (nI p)), some (.int (nI N)), some (.int fi), some (.int (nI (s + 1))), o5, o6] [] H') :
    pr (d + 3) 145 lim Q 62 [some (.ref 124), some (.int (nI p)), some (.int (nI N)), some (.int fi), some (.int (nI s)), o5, o6] [] H := by
  obtain ⟨⟨hmk, hw0, ff, hf⟩, k1, k2, k3⟩ := id hk
  obtain ⟨m0, -, m2, -⟩ := id hmk
  have hm6 := hv.1.2.1
  obtain ⟨c1, c2, -⟩ := ni6 (i := s) (by omega)
  have c3 : s < 6 := by omega
  have c4 : ¬ nI s < 0 := nI_nlt (a := s) (b := 0) (by omega) (by omega)
  have c5 : nI s < nI N := nI_lt hsN (by omega)
  have c6 : ¬ nI K.m < nI j := ngt hj hm6
  rw [eX7_kings_62]
  simp only [eX7_kings_64, eX7_kings_67, eX7_kings_69, eX7_kings_70, eX7_kings_73, eX7_kings_74, eX7_kings_77, eX7_kings_79, eX7_kings_80, eX7_kings_81, eX7_kings_84, eX7_kings_87, eX7_kings_88, eX7_kings_91, eX7_kings_93, eX7_kings_94, eX7_kings_96, eX7_kings_97, eX7_kings_100, eX7_kings_102, eX7_kings_103, eX7_kings_104, eX7_kings_105, eX7_kings_106, eX7_kings_107, eX7_kings_108, eX7_kings_110, eX7_kings_111, eX7_kings_112, eX7_kings_114, eX7_kings_115, eX7_kings_116, pe_aload_0, pe_bin, pe_callV_2, pe_const, pe_dup2_ir, pe_getf, pe_iald, pe_iast, pe_icgt, pe_iclt, pe_iflt, pe_iload_2, pe_iload_4, pe_istore_5, m0, m2, m_g14, m_g28, m_o, k1, c1, c2, c3, c4, c5, c6, hT, nisw, nI_c2, hget_hset, ia_l, ia_s, vin, opl, onl, Int32.reduceLT, Int32.reduceLE, Int32.reduceAdd, Int32.reduceSub, Nat.reduceLT, Nat.reduceAdd, Nat.reduceEqDiff, ↓reduceIte, true_and, and_true, List.length_nil, List.length_cons, Nat.reduceLeDiff, Nat.zero_le]
  refine sp_lay (A := s + 1) (B := s + 2) (w := w) rfl rfl (by omega) (by omega) (by omega) (by simp only [hget_hset, Nat.reduceEqDiff, ↓reduceIte]; exact m0) (by simp only [hget_hset, Nat.reduceEqDiff, ↓reduceIte]; exact hw0) ht ?_
  intro G1 w1 g1 g2 g3 g4
  have y0 : hget G1 124 = some (c_m q sd) := (g4 _ (by omega)).trans (by simp only [hget_hset, Nat.reduceEqDiff, ↓reduceIte]; exact m0)
  have T1 : hget G1 142 = some (c_ia 6 (upd T s (nI (j + 1)))) := (g4 _ (by omega)).trans (by simp only [hget_hset, ↓reduceIte])
  have fG : ∀ k, k ≠ 135 → k ≠ 142 → hget G1 k = hget H k := fun k a b => (g4 k a).trans (by simp only [hget_hset, b, ↓reduceIte])
  obtain ⟨i1, i2⟩ := ni160 (i := 20 * (s + 2) + 18) (by omega)
  have i3 : 20 * (s + 2) + 18 < 160 := by omega
  have t18 : w1 (20 * (s + 2) + 18) = t 18 := g2 18 (by omega)
  have e0 : ∀ x, (x = (if j = 0 then t 18 else t 18 ^^^ 1 <<< (nI j - 1 &&& 31))) → aP K 0 (so t x) = mvS K t j := by
    intro x hx
    unfold mvS
    by_cases z : j = 0
    · rw [if_pos z] at hx ⊢
      rw [hx, so_slf]
    · rw [if_neg z] at hx ⊢
      rw [hx]
  have rest : ∀ x, (x = (if j = 0 then t 18 else t 18 ^^^ 1 <<< (nI j - 1 &&& 31))) → pr (d + 3) 145 lim Q 152 [some (.ref 124), some (.int (nI p)), some (.int (nI N)), some (.int fi), some (.int (nI s)), some (.int (nI j)), o6] [] (hset G1 135 (c_ia 160 (upd w1 (20 * (s + 2) + 18) x))) := by
    intro x hx
    have z0 : hget (hset G1 135 (c_ia 160 (upd w1 (20 * (s + 2) + 18) x))) 124 = some (c_m q sd) := by rw [hget_ne (by omega)]; exact y0
    have mk : mK (hset G1 135 (c_ia 160 (upd w1 (20 * (s + 2) + 18) x))) q sd K := hmk.kept (by rw [hget_ne (by omega)]; exact fG _ (by omega) (by omega)) (by rw [hget_ne (by omega)]; exact fG _ (by omega) (by omega)) (by rw [hget_ne (by omega)]; exact fG _ (by omega) (by omega)) (by rw [hget_ne (by omega)]; exact fG _ (by omega) (by omega)) (by rw [hget_ne (by omega)]; exact fG _ (by omega) (by omega))
    have mw : mW (hset G1 135 (c_ia 160 (upd w1 (20 * (s + 2) + 18) x))) q sd K (upd w1 (20 * (s + 2) + 18) x) := ⟨mk, hget_self _ _ _, ff, by rw [hget_ne (by omega), fG _ (by omega) (by omega)]; exact hf⟩
    have sm1 : sM K (upd w1 (20 * (s + 2) + 18) x) (s + 2) (so t x) := by
      intro i hi
      unfold upd so
      by_cases e : i = 18
      · rw [if_pos (by omega), if_pos e]
      · rw [if_neg (by omega), if_neg e]
        exact g2 i hi
    have fl1 : fL w (upd w1 (20 * (s + 2) + 18) x) (s + 2) := fun i hi => by
      simp only [upd, show ¬ i = 20 * (s + 2) + 18 by omega, ↓reduceIte]
      exact g3 i hi
    simp only [eX7_kings_152, eX7_kings_153, eX7_kings_155, eX7_kings_156, eX7_kings_157, eX7_kings_158, pe_aload_0, pe_bin, pe_callV_2, pe_const, pe_iload_4, z0, m_o, nI_c2, hget_hset, ia_l, ia_s, vin, opl, onl, Int32.reduceLT, Int32.reduceLE, Int32.reduceAdd, Int32.reduceSub, Nat.reduceLT, Nat.reduceAdd, Nat.reduceEqDiff, ↓reduceIte, true_and, and_true, List.length_nil, List.length_cons, Nat.reduceLeDiff, Nat.zero_le]
    refine sp_mpass' (L := s + 2) (xx := 0) (x := 0) rfl (by omega) rfl (by omega) mw hv hvf sm1 (okT_so hok x) ?_
    intro G2 w2 h1 h2 h3 h4
    rw [e0 x hx] at h2
    have y2 := h1.1.1
    have T2 : hget G2 142 = some (c_ia 6 (upd T s (nI (j + 1)))) := (h4 _ (by omega) (by omega)).trans ((hget_ne (by omega)).trans T1)
    have B2 : hget G2 143 = some (c_ia 6 B) := (h4 _ (by omega) (by omega)).trans ((hget_ne (by omega)).trans ((fG _ (by omega) (by omega)).trans k2))
    have M2 : hget G2 144 = some (c_ia 6 M) := (h4 _ (by omega) (by omega)).trans ((hget_ne (by omega)).trans ((fG _ (by omega) (by omega)).trans k3))
    obtain ⟨a1, a2, -⟩ := ni6 (i := s + 1) (by omega)
    have a3 : s + 1 < 6 := by omega
    simp only [eX7_kings_161, eX7_kings_162, eX7_kings_165, eX7_kings_166, eX7_kings_169, eX7_kings_171, eX7_kings_172, eX7_kings_173, eX7_kings_174, eX7_kings_177, eX7_kings_179, eX7_kings_181, eX7_kings_182, pe_aload_0, pe_const, pe_getf, pe_goto, pe_iast, pe_iinc_4, pe_iload_4, pe_pop_i, y2, m_g28, m_g29, T2, B2, a1, a2, a3, nisw, hget_hset, ia_l, ia_s, vin, opl, onl, Int32.reduceLT, Int32.reduceLE, Int32.reduceAdd, Int32.reduceSub, Nat.reduceLT, Nat.reduceAdd, Nat.reduceEqDiff, ↓reduceIte, true_and, and_true, List.length_nil, List.length_cons, Nat.reduceLeDiff, Nat.zero_le]
    have kw2 : kW G2 q sd K w2 (upd T s (nI (j + 1))) B M := ⟨h1, T2, B2, M2⟩
    refine hn _ w2 _ (kw2.set (by simp only [hget_hset, Nat.reduceEqDiff, ↓reduceIte]) (by simp only [hget_hset, Nat.reduceEqDiff, ↓reduceIte]) (by simp only [hget_hset, Nat.reduceEqDiff, ↓reduceIte]; exact M2) (fun k a b c => by simp only [hget_hset, a, b, ↓reduceIte])) h2 (fl1.tr h3) (fun k a b c e f => ?_)
    simp only [hget_hset, c, e, ↓reduceIte]
    rw [h4 k a b, hget_ne a]
    exact fG k a c
  simp only [eX7_kings_119, eX7_kings_120, eX7_kings_123, eX7_kings_125, eX7_kings_127, eX7_kings_128, eX7_kings_129, eX7_kings_130, eX7_kings_132, eX7_kings_133, eX7_kings_134, eX7_kings_135, eX7_kings_137, pe_aload_0, pe_bin, pe_const, pe_dup2_ir, pe_getf, pe_iald, pe_ifeq, pe_iload_4, pe_iload_5, y0, m_g15, g1, nI_c2, nI_m20, nI_c18, i1, i2, i3, t18, hget_hset, ia_l, ia_s, vin, opl, onl, Int32.reduceLT, Int32.reduceLE, Int32.reduceAdd, Int32.reduceSub, Nat.reduceLT, Nat.reduceAdd, Nat.reduceEqDiff, ↓reduceIte, true_and, and_true, List.length_nil, List.length_cons, Nat.reduceLeDiff, Nat.zero_le]
  by_cases z : j = 0
  · subst z
    rw [if_pos (show nI 0 = 0 from rfl)]
    simp only [eX7_kings_140, eX7_kings_141, eX7_kings_144, eX7_kings_145, eX7_kings_147, eX7_kings_148, eX7_kings_149, eX7_kings_150, eX7_kings_151, pe_bin, pe_const, pe_goto, pe_iast, pe_iload_5, g1, i1, i2, i3, Int32.xor_zero, hget_hset, ia_l, ia_s, vin, opl, onl, Int32.reduceLT, Int32.reduceLE, Int32.reduceAdd, Int32.reduceSub, Nat.reduceLT, Nat.reduceAdd, Nat.reduceEqDiff, ↓reduceIte, true_and, and_true, List.length_nil, List.length_cons, Nat.reduceLeDiff, Nat.zero_le]
    exact rest (t 18) (by rw [if_pos rfl])
  · rw [if_neg (nI_ne0 (by omega) (by omega))]
    simp only [eX7_kings_144, eX7_kings_145, eX7_kings_147, eX7_kings_148, eX7_kings_149, eX7_kings_150, eX7_kings_151, pe_bin, pe_const, pe_iast, pe_iload_5, g1, i1, i2, i3, hget_hset, ia_l, ia_s, vin, opl, onl, Int32.reduceLT, Int32.reduceLE, Int32.reduceAdd, Int32.reduceSub, Nat.reduceLT, Nat.reduceAdd, Nat.reduceEqDiff, ↓reduceIte, true_and, and_true, List.length_nil, List.length_cons, Nat.reduceLeDiff, Nat.zero_le]
    exact rest _ (by rw [if_neg z])
end MKi
