/-! ===== hours ahead of the reference ===== -/
theorem sm_n {f : Nat → Int32} {n : Nat} : ∀ k, (∀ p, n ≤ p → p < n + k → f p = 0) → sm f (n + k) = sm f n
  | 0, _ => rfl
  | k + 1, h => by rw [← Nat.add_assoc, sm, sm_n k (fun p a b => h p a (by omega)), h (n + k) (by omega) (by omega), Int32.add_zero]
theorem ob_n {f : Nat → Int32} {n : Nat} : ∀ k, (∀ p, n ≤ p → p < n + k → f p = 0) → ob f (n + k) = ob f n
  | 0, _ => rfl
  | k + 1, h => by rw [← Nat.add_assoc, ob, ob_n k (fun p a b => h p a (by omega)), h (n + k) (by omega) (by omega), Int32.or_zero]
theorem aDu_n {K : Ld} (hn : K.n ≤ 6) {c : Nat} {t : Nat → Int32} (h : okT K c t) : aDu t K.n = aDu t 6 := by
  have := sm_n (f := fun p => t (6 + p)) (n := K.n) (6 - K.n) (fun p a b => (h.2.2.2.1 p a (by omega)).2.1)
  rw [show K.n + (6 - K.n) = 6 by omega] at this
  exact this.symm
theorem aBu_n {K : Ld} (hn : K.n ≤ 6) {c : Nat} {t : Nat → Int32} (h : okT K c t) : aBu t K.n = aBu t 6 := by
  have := sm_n (f := t) (n := K.n) (6 - K.n) (fun p a b => (h.2.2.2.1 p a (by omega)).1)
  rw [show K.n + (6 - K.n) = 6 by omega] at this
  exact this.symm
theorem aWe_n {K : Ld} (hn : K.n ≤ 6) {c : Nat} {t : Nat → Int32} (h : okT K c t) : aWe t K.n = aWe t 6 := by
  have := ob_n (f := fun p => if t (12 + p) = -9 then 0 else b1 p) (n := K.n) (6 - K.n) (fun p a b => if_pos (h.2.2.2.1 p a (by omega)).2.2)
  rw [show K.n + (6 - K.n) = 6 by omega] at this
  exact this.symm
theorem aDo_n {K : Ld} (hn : K.n ≤ 6) {c : Nat} {t : Nat → Int32} (h : okT K c t) : aDo t K.n = aDo t 6 := by
  unfold aDo
  rw [aDu_n hn h, aWe_n hn h]
theorem sp_mpass' {d L xx c : Nat} {l x : Int32} {G : px_H} {q : Nat → Int32} {sd : Int64} {K : Ld} {w t : Nat → Int32} {Q : px_Q} (hL : l = nI L) (hL8 : L < 8) (hx : x = nI xx) (hx64 : xx < 64) (hm : mW G q sd K w) (hv : vK K) (hvf : vF K) (ht : sM K w L t) (ho : okT K c t)
    (hQ : ∀ G' w', mW G' q sd K w' → sM K w' L (aP K x t) → fL w w' L → fM G G' → Q (some (.int (aW K x t))) G') : pcal (d + 3) 108 [.ref 124, .int l, .int x] G Q := by
  subst hx
  exact sp_mpass hL hL8 hx64 hm hv hvf ht ho hQ
set_option maxRecDepth 100000 in
theorem sp_mpasses {d L xx c k : Nat} {l x h : Int32} {G : px_H} {q : Nat → Int32} {sd : Int64} {K : Ld} {w t : Nat → Int32} {Q : px_Q} (hL : l = nI L) (hL8 : L < 8) (hx : x = nI xx) (hx64 : xx < 64) (hh : h = nI k) (hk : k ≤ 1000) (hm : mW G q sd K w) (hv : vK K) (hvf : vF K) (ht : sM K w L t) (ho : okT K c t)
    (hQ : ∀ G' w', mW G' q sd K w' → sM K w' L (aH K x k t) → fL w w' L → fM G G' → Q none G') : pcal (d + 4) 109 [.ref 124, .int l, .int h, .int x] G Q := by
  subst hh
  refine inX7_passes ?_
  have key : ∀ j i H w', i + j = k → mW H q sd K w' → sM K w' L (aH K x i t) → fL w w' L → fM G H → pr (d + 3) 109 (G.1 + 0, G.2.1 + 0) Q 3 [some (.ref 124), some (.int l), some (.int (nI k)), some (.int x), some (.int (nI i))] [] H := by
    intro j
    induction j with
    | zero =>
      intro i H w' hi k1 k2 k3 k4
      obtain rfl : i = k := by omega
      simp only [eX7_passes_0, eX7_passes_1, eX7_passes_3, eX7_passes_5, eX7_passes_6, eX7_passes_9, eX7_passes_10, eX7_passes_11, eX7_passes_12, eX7_passes_15, eX7_passes_16, eX7_passes_19, eX7_passes_22, pe_aload_0, pe_callV_2, pe_const, pe_goto, pe_iclt, pe_iinc_4, pe_iload_1, pe_iload_2, pe_iload_3, pe_iload_4, pe_istore_4, pe_pop_i, pe_vret, niE, hget_hset, ia_l, ia_s, vin, opl, onl, Int32.reduceLT, Int32.reduceLE, Int32.reduceAdd, Int32.reduceSub, Nat.reduceLT, Nat.reduceAdd, Nat.reduceEqDiff, ↓reduceIte, true_and, and_true, List.length_nil, List.length_cons, Nat.reduceLeDiff, Nat.zero_le]
      exact hQ H w' k1 k2 k3 k4
    | succ j ih =>
      intro i H w' hi k1 k2 k3 k4
      have c1 : nI i < nI k := nI_lt (by omega) (by omega)
      have y0 := k1.1.1
      rw [eX7_passes_3]
      simp only [eX7_passes_5, eX7_passes_6, eX7_passes_9, eX7_passes_10, eX7_passes_11, eX7_passes_12, pe_aload_0, pe_callV_2, pe_iclt, pe_iload_1, pe_iload_2, pe_iload_3, pe_iload_4, c1, y0, m_o, hget_hset, ia_l, ia_s, vin, opl, onl, Int32.reduceLT, Int32.reduceLE, Int32.reduceAdd, Int32.reduceSub, Nat.reduceLT, Nat.reduceAdd, Nat.reduceEqDiff, ↓reduceIte, true_and, and_true, List.length_nil, List.length_cons, Nat.reduceLeDiff, Nat.zero_le]
      refine sp_mpass' hL hL8 hx hx64 k1 hv hvf k2 (okT_aH hv ho x i) ?_
      intro G' w'' e1 e2 e3 e4
      simp only [eX7_passes_15, eX7_passes_16, eX7_passes_19, pe_goto, pe_iinc_4, pe_pop_i, nisw, hget_hset, ia_l, ia_s, vin, opl, onl, Int32.reduceLT, Int32.reduceLE, Int32.reduceAdd, Int32.reduceSub, Nat.reduceLT, Nat.reduceAdd, Nat.reduceEqDiff, ↓reduceIte, true_and, and_true, List.length_nil, List.length_cons, Nat.reduceLeDiff, Nat.zero_le]
      exact ih (i + 1) G' w'' (by omega) e1 e2 (k3.tr e3) (k4.tr e4)
  simp only [eX7_passes_0, eX7_passes_1, pe_const, pe_istore_4, hget_hset, ia_l, ia_s, vin, opl, onl, Int32.reduceLT, Int32.reduceLE, Int32.reduceAdd, Int32.reduceSub, Nat.reduceLT, Nat.reduceAdd, Nat.reduceEqDiff, ↓reduceIte, true_and, and_true, List.length_nil, List.length_cons, Nat.reduceLeDiff, Nat.zero_le]
  exact key k 0 G w (by omega) hm ht (fun _ _ => rfl) (fun _ _ _ => rfl)
/-- the reference at rest: the scene t now -/
def rM (G : px_H) (q : Nat → Int32) (sd : Int64) (K : Ld) (t : Nat → Int32) : Prop := ∃ w, mW G q sd K w ∧ sM K w 0 t
set_option maxRecDepth 100000 in
theorem sp_mrun {d c k : Nat} {o h : Int32} {G : px_H} {q : Nat → Int32} {sd : Int64} {K : Ld} {w t : Nat → Int32} {Q : px_Q} (hh : h = nI k) (hk : k ≤ 12) (hm : mW G q sd K w) (hv : vK K) (hvf : vF K) (ht : sM K w 0 t) (ho : okT K c t)
    (hQ : ∀ G' w', mW G' q sd K w' → sM K w' 0 t → sM K w' 1 (sT K t k o) → fL w w' 1 → fM G G' → Q none G') : pcal (d + 5) 123 [.ref 124, .int o, .int h] G Q := by
  obtain ⟨⟨m0, mr⟩, hw, f, hf⟩ := id hm
  refine inX7_run ?_
  simp only [eX7_run_0, eX7_run_1, eX7_run_2, eX7_run_3, pe_aload_0, pe_callV_2, pe_const, m0, m_o, hget_hset, ia_l, ia_s, vin, opl, onl, Int32.reduceLT, Int32.reduceLE, Int32.reduceAdd, Int32.reduceSub, Nat.reduceLT, Nat.reduceAdd, Nat.reduceEqDiff, ↓reduceIte, true_and, and_true, List.length_nil, List.length_cons, Nat.reduceLeDiff, Nat.zero_le]
  refine sp_lay (A := 0) (B := 1) rfl rfl (by omega) (by omega) (by omega) m0 hw ht ?_
  intro G1 w1 e1 e2 e3 e4
  have y0 : hget G1 124 = some (c_m q sd) := (e4 _ (by omega)).trans m0
  have c1 : (38 : Int32).toNatClampNeg = 38 := by decide
  simp only [eX7_run_6, eX7_run_7, eX7_run_10, eX7_run_12, eX7_run_13, eX7_run_14, eX7_run_15, eX7_run_16, eX7_run_17, eX7_run_18, pe_aload_0, pe_callV_3, pe_const, pe_getf, pe_iast, pe_iload_1, pe_iload_2, y0, e1, m_g15, m_o, c1, hget_hset, ia_l, ia_s, vin, opl, onl, Int32.reduceLT, Int32.reduceLE, Int32.reduceAdd, Int32.reduceSub, Nat.reduceLT, Nat.reduceAdd, Nat.reduceEqDiff, ↓reduceIte, true_and, and_true, List.length_nil, List.length_cons, Nat.reduceLeDiff, Nat.zero_le]
  have f1 : fM G (hset G1 135 (c_ia 160 (upd w1 38 o))) := fun k q1 q2 => by rw [hget_ne q1]; exact e4 k q1
  have fw : fL w (upd w1 38 o) 1 := fun j hj => by
    simp only [upd, show ¬ j = 38 by omega, ↓reduceIte]
    exact e3 j hj
  refine sp_mpasses (L := 1) (xx := 0) (w := upd w1 38 o) (t := so t o) rfl (by omega) rfl (by omega) hh (by omega) ⟨hm.1.fM f1, hget_self _ _ _, f, by rw [hget_ne (by omega), e4 _ (by omega)]; exact hf⟩ hv hvf ?_ (okT_so ho o) ?_
  · intro j hj
    unfold so upd
    by_cases e : j = 18
    · rw [if_pos (by omega), if_pos e]
    · rw [if_neg (by omega), if_neg e]
      exact e2 j hj
  · intro G' w' g1 g2 g3 g4
    simp only [eX7_run_0, eX7_run_1, eX7_run_2, eX7_run_3, eX7_run_6, eX7_run_7, eX7_run_10, eX7_run_12, eX7_run_13, eX7_run_14, eX7_run_15, eX7_run_16, eX7_run_17, eX7_run_18, eX7_run_21, pe_aload_0, pe_callV_2, pe_callV_3, pe_const, pe_getf, pe_iast, pe_iload_1, pe_iload_2, pe_vret, hget_hset, ia_l, ia_s, vin, opl, onl, Int32.reduceLT, Int32.reduceLE, Int32.reduceAdd, Int32.reduceSub, Nat.reduceLT, Nat.reduceAdd, Nat.reduceEqDiff, ↓reduceIte, true_and, and_true, List.length_nil, List.length_cons, Nat.reduceLeDiff, Nat.zero_le]
    have fa := fw.tr g3
    exact hQ G' w' g1 (ht.fL fa (by omega)) g2 fa (f1.tr g4)
set_option maxRecDepth 100000 in
theorem sp_mturned {d : Nat} {o : Int32} {G : px_H} {q : Nat → Int32} {sd : Int64} {K : Ld} {w t : Nat → Int32} {Q : px_Q} (hm : mW G q sd K w) (ht : sM K w 0 t) (hQ : Q (some (.int (on8 (o ^^^ t 18)))) G) : pcal (d + 2) 125 [.ref 124, .int o] G Q := by
  obtain ⟨⟨m0, mr⟩, hw, f, hf⟩ := id hm
  have c1 : (18 : Int32).toNatClampNeg = 18 := by decide
  have f2 : w 18 = t 18 := by have := ht 18 (by omega); simpa using this
  refine inX7_turned ?_
  simp only [eX7_turned_0, eX7_turned_1, eX7_turned_2, eX7_turned_5, eX7_turned_7, eX7_turned_8, eX7_turned_9, pe_aload_0, pe_bin, pe_callS_1, pe_const, pe_getf, pe_iald, pe_iload_1, m0, hw, m_g15, c1, f2, hget_hset, ia_l, ia_s, vin, opl, onl, Int32.reduceLT, Int32.reduceLE, Int32.reduceAdd, Int32.reduceSub, Nat.reduceLT, Nat.reduceAdd, Nat.reduceEqDiff, ↓reduceIte, true_and, and_true, List.length_nil, List.length_cons, Nat.reduceLeDiff, Nat.zero_le]
  refine sp_ones ?_
  simp only [eX7_turned_0, eX7_turned_1, eX7_turned_2, eX7_turned_5, eX7_turned_7, eX7_turned_8, eX7_turned_9, eX7_turned_12, pe_aload_0, pe_bin, pe_callS_1, pe_const, pe_getf, pe_iald, pe_iload_1, pe_iret, hget_hset, ia_l, ia_s, vin, opl, onl, Int32.reduceLT, Int32.reduceLE, Int32.reduceAdd, Int32.reduceSub, Nat.reduceLT, Nat.reduceAdd, Nat.reduceEqDiff, ↓reduceIte, true_and, and_true, List.length_nil, List.length_cons, Nat.reduceLeDiff, Nat.zero_le]
  exact hQ
