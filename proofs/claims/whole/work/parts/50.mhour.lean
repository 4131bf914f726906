/-! ===== the reference: hour, turn, rain, undo ===== -/
/-- only the reference's number, scenes, flows and acts have changed -/
def fA (G G' : px_H) : Prop := ∀ k, k ≠ 124 → k ≠ 135 → k ≠ 137 → k ≠ 138 → hget G' k = hget G k
/-- of its numbers only those of the row of acts -/
def qA (q q' : Nat → Int32) : Prop := ∀ k, k ≠ 21 → k ≠ 22 → q' k = q k
theorem mK.qA {G G' : px_H} {q q' : Nat → Int32} {sd sd' : Int64} {K : Ld} (h : mK G q sd K) (h0 : hget G' 124 = some (c_m q' sd')) (hq : q' 13 = q 13) (hq' : q' 14 = q 14) (h1 : hget G' 131 = hget G 131) (h2 : hget G' 132 = hget G 132) (h3 : hget G' 133 = hget G 133) (h4 : hget G' 134 = hget G 134) : mK G' q' sd' K := by
  obtain ⟨-, a1, a2, a3⟩ := h
  refine ⟨h0, by rw [hq]; exact a1, by rw [hq']; exact a2, ?_⟩
  rw [h1, h2, h3, h4]
  exact a3
section MH
variable {d : Nat} {G : px_H} {q : Nat → Int32} {sd : Int64} {K : Ld} {t : Nat → Int32} {c o : Nat} {Q : px_Q} {sz : Nat} {T : Nat → Nat → Int32}
set_option maxRecDepth 100000 in
theorem sp_mhour (hm : oM G q sd K t c o) (hA : mA K G q sz T) (hQ : ∀ G' q', rM G' q' sd K (aP K 0 t) → mA K G' q' (rowS sz) (rowT sz T t) → qA q q' → fA G G' → Q (some (.int (aW K 0 t))) G') : pcal (d + 4) 116 [.ref 124] G Q := by
  obtain ⟨⟨w, hw, ht⟩, hv, hvf, hok, ho, -, hvn⟩ := id hm
  obtain ⟨hk, hw0, f, hf⟩ := id hw
  have m0 := hk.1
  refine inX7_hour ?_
  simp only [eX7_hour_0, eX7_hour_1, pe_aload_0, pe_callV_0, m0, m_o, hget_hset, ia_l, ia_s, vin, opl, onl, Int32.reduceLT, Int32.reduceLE, Int32.reduceAdd, Int32.reduceSub, Nat.reduceLT, Nat.reduceAdd, Nat.reduceEqDiff, ↓reduceIte, true_and, and_true, List.length_nil, List.length_cons, Nat.reduceLeDiff, Nat.zero_le]
  refine sp_keepAct m0 hw0 ht hA ?_
  intro G1 q1 e1 e2 e3 e4
  simp only [eX7_hour_4, eX7_hour_5, eX7_hour_6, eX7_hour_7, pe_aload_0, pe_callV_2, pe_const, e1, m_o, hget_hset, ia_l, ia_s, vin, opl, onl, Int32.reduceLT, Int32.reduceLE, Int32.reduceAdd, Int32.reduceSub, Nat.reduceLT, Nat.reduceAdd, Nat.reduceEqDiff, ↓reduceIte, true_and, and_true, List.length_nil, List.length_cons, Nat.reduceLeDiff, Nat.zero_le]
  have hk1 : mK G1 q1 sd K := hk.qA e1 (e2 _ (by omega) (by omega)) (e2 _ (by omega) (by omega)) (e4 _ (by omega) (by omega)) (e4 _ (by omega) (by omega)) (e4 _ (by omega) (by omega)) (e4 _ (by omega) (by omega))
  refine sp_mpass' (L := 0) (xx := 0) rfl (by omega) rfl (by omega) ⟨hk1, (e4 _ (by omega) (by omega)).trans hw0, f, (e4 _ (by omega) (by omega)).trans hf⟩ hv hvf ht hok ?_
  intro G2 w2 g1 g2 g3 g4
  simp only [eX7_hour_10, pe_iret, hget_hset, ia_l, ia_s, vin, opl, onl, Int32.reduceLT, Int32.reduceLE, Int32.reduceAdd, Int32.reduceSub, Nat.reduceLT, Nat.reduceAdd, Nat.reduceEqDiff, ↓reduceIte, true_and, and_true, List.length_nil, List.length_cons, Nat.reduceLeDiff, Nat.zero_le]
  exact hQ G2 q1 ⟨w2, g1, g2⟩ (e3.kept (g4 _ (by omega) (by omega)) rfl rfl) e2 (fun k a b c' d' => (g4 k b c').trans (e4 k a d'))
set_option maxRecDepth 100000 in
theorem sp_mturn {di : Int32} (hm : rM G q sd K t) (hA : mA K G q sz T) (hQ : ∀ G' q' t' sz' T', (t', sz', T') = (if hP K.m di = false then (t, sz, T) else (so t (t 18 ^^^ 1 <<< (di &&& 31)), rowS sz, rowT sz T t)) → rM G' q' sd K t' → mA K G' q' sz' T' → qA q q' → fA G G' → Q (some (.int (aTn K t di))) G') : pcal (d + 3) 117 [.ref 124, .int di] G Q := by
  obtain ⟨w, hw, ht⟩ := id hm
  obtain ⟨hk, hw0, f, hf⟩ := id hw
  have m0 := hk.1
  refine inX7_turn ?_
  simp only [eX7_turn_0, eX7_turn_1, eX7_turn_2, pe_aload_0, pe_callV_1, pe_iload_1, m0, m_o, hget_hset, ia_l, ia_s, vin, opl, onl, Int32.reduceLT, Int32.reduceLE, Int32.reduceAdd, Int32.reduceSub, Nat.reduceLT, Nat.reduceAdd, Nat.reduceEqDiff, ↓reduceIte, true_and, and_true, List.length_nil, List.length_cons, Nat.reduceLeDiff, Nat.zero_le]
  refine sp_isDitch hk ?_
  simp only [eX7_turn_5, eX7_turn_8, eX7_turn_9, pe_const, pe_ifeq, pe_iret, zB_0, hget_hset, ia_l, ia_s, vin, opl, onl, Int32.reduceLT, Int32.reduceLE, Int32.reduceAdd, Int32.reduceSub, Nat.reduceLT, Nat.reduceAdd, Nat.reduceEqDiff, ↓reduceIte, true_and, and_true, List.length_nil, List.length_cons, Nat.reduceLeDiff, Nat.zero_le]
  split
  · rename_i u0
    have := hQ G q t sz T (by rw [if_pos u0]) hm hA (fun _ _ _ => rfl) (fun _ _ _ _ _ => rfl)
    rw [aTn, if_pos u0] at this
    exact this
  · rename_i u0
    simp only [eX7_turn_10, eX7_turn_11, pe_aload_0, pe_callV_0, m0, m_o, hget_hset, ia_l, ia_s, vin, opl, onl, Int32.reduceLT, Int32.reduceLE, Int32.reduceAdd, Int32.reduceSub, Nat.reduceLT, Nat.reduceAdd, Nat.reduceEqDiff, ↓reduceIte, true_and, and_true, List.length_nil, List.length_cons, Nat.reduceLeDiff, Nat.zero_le]
    refine sp_keepAct m0 hw0 ht hA ?_
    intro G1 q1 e1 e2 e3 e4
    have hk1 : mK G1 q1 sd K := hk.qA e1 (e2 _ (by omega) (by omega)) (e2 _ (by omega) (by omega)) (e4 _ (by omega) (by omega)) (e4 _ (by omega) (by omega)) (e4 _ (by omega) (by omega)) (e4 _ (by omega) (by omega))
    have y1 : hget G1 135 = some (c_ia 160 w) := (e4 _ (by omega) (by omega)).trans hw0
    have c18 : (18 : Int32).toNatClampNeg = 18 := by decide
    have g18 := sM0 ht 18 (by omega)
    have u18 : ∀ v, upd w 18 v 18 = v := fun v => if_pos rfl
    simp only [eX7_turn_14, eX7_turn_15, eX7_turn_18, eX7_turn_20, eX7_turn_21, eX7_turn_22, eX7_turn_23, eX7_turn_24, eX7_turn_25, eX7_turn_26, eX7_turn_27, eX7_turn_28, eX7_turn_31, eX7_turn_33, eX7_turn_34, eX7_turn_35, eX7_turn_36, eX7_turn_37, eX7_turn_38, pe_aload_0, pe_bin, pe_const, pe_dup2_ir, pe_getf, pe_iald, pe_iast, pe_iload_1, pe_iret, e1, y1, m_g15, c18, g18, u18, hget_hset, ia_l, ia_s, vin, opl, onl, Int32.reduceLT, Int32.reduceLE, Int32.reduceAdd, Int32.reduceSub, Nat.reduceLT, Nat.reduceAdd, Nat.reduceEqDiff, ↓reduceIte, true_and, and_true, List.length_nil, List.length_cons, Nat.reduceLeDiff, Nat.zero_le]
    have := hQ (hset G1 135 (c_ia 160 (upd w 18 (t 18 ^^^ 1 <<< (di &&& 31))))) q1 _ _ _ (by rw [if_neg u0]) ⟨upd w 18 (t 18 ^^^ 1 <<< (di &&& 31)), ⟨hk1.fM (fun k a b => hget_ne a), hget_self _ _ _, f, by rw [hget_ne (by omega), e4 _ (by omega) (by omega)]; exact hf⟩, ?_⟩ (e3.kept (hget_ne (by omega)) rfl rfl) e2 (fun k a b c' d' => by rw [hget_ne b]; exact e4 k a d')
    · rw [aTn, if_neg u0] at this
      exact this
    · intro j hj
      rw [Nat.mul_zero, Nat.zero_add]
      unfold upd so
      by_cases e : j = 18
      · rw [if_pos e, if_pos e]
      · rw [if_neg e, if_neg e]
        exact sM0 ht j hj
set_option maxRecDepth 100000 in
theorem sp_mrain {p k : Int32} (hm : rM G q sd K t) (hA : mA K G q sz T) (hQ : ∀ G' q' t' sz' T', (t', sz', T') = (if rnR K t p k = 0 then (rnT t p.toNatClampNeg k, rowS sz, rowT sz T t) else (t, sz, T)) → rM G' q' sd K t' → mA K G' q' sz' T' → qA q q' → fA G G' → Q (some (.int (aRa K t p k))) G') : pcal (d + 3) 118 [.ref 124, .int p, .int k] G Q := by
  obtain ⟨w, hw, ht⟩ := id hm
  obtain ⟨hk, hw0, f, hf⟩ := id hw
  obtain ⟨m0, m1, m2, m3, m4, kd, ms, fm, tt, a1, a2, a3, a4, a5, a6⟩ := id hk
  have no : ∀ e, rnR K t p k = e → ¬ e = 0 → Q (some (.int e)) G := by
    intro e h1 h2
    have := hQ G q t sz T (by rw [if_neg (by rw [h1]; exact h2)]) hm hA (fun _ _ _ => rfl) (fun _ _ _ _ _ => rfl)
    rw [aRa, if_neg (by rw [h1]; exact h2), h1] at this
    exact this
  refine inX7_rain ?_
  simp only [eX7_rain_0, eX7_rain_1, eX7_rain_2, pe_aload_0, pe_callV_1, pe_iload_1, m0, m_o, hget_hset, ia_l, ia_s, vin, opl, onl, Int32.reduceLT, Int32.reduceLE, Int32.reduceAdd, Int32.reduceSub, Nat.reduceLT, Nat.reduceAdd, Nat.reduceEqDiff, ↓reduceIte, true_and, and_true, List.length_nil, List.length_cons, Nat.reduceLeDiff, Nat.zero_le]
  refine sp_isPlace hk ?_
  simp only [eX7_rain_5, eX7_rain_8, eX7_rain_9, eX7_rain_10, eX7_rain_11, eX7_rain_12, eX7_rain_13, eX7_rain_16, pe_callS_3, pe_const, pe_i2l, pe_ifeq, pe_iload_2, pe_iret, zB_0, hget_hset, ia_l, ia_s, vin, opl, onl, Int32.reduceLT, Int32.reduceLE, Int32.reduceAdd, Int32.reduceSub, Nat.reduceLT, Nat.reduceAdd, Nat.reduceEqDiff, ↓reduceIte, true_and, and_true, List.length_nil, List.length_cons, Nat.reduceLeDiff, Nat.zero_le]
  split
  · rename_i u0
    exact no _ (by rw [rnR, if_pos u0]) (by decide)
  · rename_i u0
    obtain ⟨i, hi, rfl⟩ := hP_nI m3 (nt u0)
    obtain ⟨c1, c2, c3, c4⟩ := niL (i := i) (n := K.n) hi m3
    have f3 := (a5 i hi).1
    have b7 : i < 160 := by omega
    have g1 := sM0 ht i (by omega)
    refine sp_in (a := 1) (b := 9) rfl rfl ?_
    simp only [eX7_rain_19, eX7_rain_22, eX7_rain_24, pe_const, pe_ifeq, pe_iret, zB_0, iN_f, hget_hset, ia_l, ia_s, vin, opl, onl, Int32.reduceLT, Int32.reduceLE, Int32.reduceAdd, Int32.reduceSub, Nat.reduceLT, Nat.reduceAdd, Nat.reduceEqDiff, ↓reduceIte, true_and, and_true, List.length_nil, List.length_cons, Nat.reduceLeDiff, Nat.zero_le]
    split
    · rename_i u1
      exact no _ (by rw [rnR, if_neg u0, if_pos u1]) (by decide)
    · rename_i u1
      have st : ∀ z, (¬ z → rnR K t (nI i) k = -3) → (z → rnR K t (nI i) k = 0) → z = (K.kd i = 0 ∧ ¬ 99 < t i + k) → True := fun _ _ _ _ => trivial
      have er : rnR K t (nI i) k = if K.kd i = 0 ∧ ¬ 99 < t i + k then 0 else -3 := by rw [rnR, if_neg u0, if_neg u1, c1]
      simp only [eX7_rain_25, eX7_rain_26, eX7_rain_29, eX7_rain_30, eX7_rain_31, eX7_rain_34, eX7_rain_35, eX7_rain_38, eX7_rain_39, eX7_rain_40, eX7_rain_41, eX7_rain_42, eX7_rain_44, eX7_rain_47, eX7_rain_49, pe_aload_0, pe_bin, pe_const, pe_getf, pe_iald, pe_icgt, pe_ifeq, pe_iload_1, pe_iload_2, pe_iret, m0, a1, hw0, m_g9, m_g15, c1, c2, c4, b7, f3, g1, hget_hset, ia_l, ia_s, vin, opl, onl, Int32.reduceLT, Int32.reduceLE, Int32.reduceAdd, Int32.reduceSub, Nat.reduceLT, Nat.reduceAdd, Nat.reduceEqDiff, ↓reduceIte, true_and, and_true, List.length_nil, List.length_cons, Nat.reduceLeDiff, Nat.zero_le]
      split
      · rename_i k0
        split
        · rename_i u2
          exact no _ (by rw [er, if_neg (fun z => z.2 u2)]) (by decide)
        · rename_i u2
          have e0 : rnR K t (nI i) k = 0 := by rw [er, if_pos ⟨k0, u2⟩]
          simp only [eX7_rain_50, eX7_rain_51, pe_aload_0, pe_callV_0, m0, m_o, hget_hset, ia_l, ia_s, vin, opl, onl, Int32.reduceLT, Int32.reduceLE, Int32.reduceAdd, Int32.reduceSub, Nat.reduceLT, Nat.reduceAdd, Nat.reduceEqDiff, ↓reduceIte, true_and, and_true, List.length_nil, List.length_cons, Nat.reduceLeDiff, Nat.zero_le]
          refine sp_keepAct m0 hw0 ht hA ?_
          intro G1 q1 e1 e2 e3 e4
          have hk1 : mK G1 q1 sd K := hk.qA e1 (e2 _ (by omega) (by omega)) (e2 _ (by omega) (by omega)) (e4 _ (by omega) (by omega)) (e4 _ (by omega) (by omega)) (e4 _ (by omega) (by omega)) (e4 _ (by omega) (by omega))
          have y1 : hget G1 135 = some (c_ia 160 w) := (e4 _ (by omega) (by omega)).trans hw0
          have ui : ∀ v, upd w i v i = v := fun v => if_pos rfl
          simp only [eX7_rain_54, eX7_rain_55, eX7_rain_58, eX7_rain_59, eX7_rain_60, eX7_rain_61, eX7_rain_62, eX7_rain_63, eX7_rain_64, eX7_rain_65, eX7_rain_68, eX7_rain_69, eX7_rain_70, pe_aload_0, pe_bin, pe_dup2_ir, pe_getf, pe_iald, pe_iast, pe_iload_1, pe_iload_2, pe_iret, e1, y1, m_g15, c1, c2, b7, g1, ui, hget_hset, ia_l, ia_s, vin, opl, onl, Int32.reduceLT, Int32.reduceLE, Int32.reduceAdd, Int32.reduceSub, Nat.reduceLT, Nat.reduceAdd, Nat.reduceEqDiff, ↓reduceIte, true_and, and_true, List.length_nil, List.length_cons, Nat.reduceLeDiff, Nat.zero_le]
          have := hQ (hset G1 135 (c_ia 160 (upd w i (t i + k)))) q1 _ _ _ (by rw [if_pos e0]) ⟨upd w i (t i + k), ⟨hk1.fM (fun k a b => hget_ne a), hget_self _ _ _, f, by rw [hget_ne (by omega), e4 _ (by omega) (by omega)]; exact hf⟩, ?_⟩ (e3.kept (hget_ne (by omega)) rfl rfl) e2 (fun k a b c' d' => by rw [hget_ne b]; exact e4 k a d')
          · rw [aRa, if_pos e0, c1] at this
            exact this
          · intro j hj
            rw [Nat.mul_zero, Nat.zero_add, c1]
            unfold upd rnT
            by_cases e : j = i
            · rw [if_pos e, if_pos e]
            · rw [if_neg e, if_neg e]
              exact sM0 ht j hj
      · rename_i k0
        exact no _ (by rw [er, if_neg (fun z => k0 z.1)]) (by decide)
set_option maxRecDepth 100000 in
theorem sp_mundo (hm : rM G q sd K t) (hA : mA K G q sz T) (hQ : ∀ G' q' t', t' = (if sz = 0 then t else T (sz - 1)) → rM G' q' sd K t' → mA K G' q' (sz - 1) T → qA q q' → fA G G' → Q (some (.int (if sz = 0 then -3 else nI (sz - 1)))) G') : pcal (d + 1) 119 [.ref 124] G Q := by
  obtain ⟨w, hw, ht⟩ := id hm
  obtain ⟨hk, hw0, f, hf⟩ := id hw
  have m0 := hk.1
  obtain ⟨hsz, h21, nx, rw', hnx, h22, h138, hT⟩ := id hA
  refine inX7_undo ?_
  by_cases z : sz = 0
  · have z0 : q 21 = 0 := by rw [h21, z]; rfl
    simp only [eX7_undo_0, eX7_undo_1, eX7_undo_4, eX7_undo_7, eX7_undo_9, pe_aload_0, pe_const, pe_getf, pe_ifeq, pe_iret, m0, m_g21, z0, hget_hset, ia_l, ia_s, vin, opl, onl, Int32.reduceLT, Int32.reduceLE, Int32.reduceAdd, Int32.reduceSub, Nat.reduceLT, Nat.reduceAdd, Nat.reduceEqDiff, ↓reduceIte, true_and, and_true, List.length_nil, List.length_cons, Nat.reduceLeDiff, Nat.zero_le]
    have := hQ G q t (by rw [if_pos z]) hm (by rw [show sz - 1 = sz by omega]; exact hA) (fun _ _ _ => rfl) (fun _ _ _ _ _ => rfl)
    rw [if_pos z] at this
    exact this
  · have z0 : ¬ nI sz = 0 := nI_ne0 (by omega) (by omega)
    have z1 : nI sz - 1 = nI (sz - 1) := by
      have := nI_pred (sz - 1)
      rw [show sz - 1 + 1 = sz by omega] at this
      exact this
    have e14 : ¬ (14 : Int32) = 0 := by decide
    have n13 : nI nx + 13 = nI (nx + 13) := nI_add nx 13
    have r14 := rem14 (a := nx + 13) (by omega)
    have u1 : ∀ v, upd q 21 v 22 = q 22 := fun v => if_neg (by decide)
    rw [if_neg z] at hQ
    simp only [eX7_undo_0, eX7_undo_1, eX7_undo_4, eX7_undo_7, eX7_undo_9, eX7_undo_10, eX7_undo_11, eX7_undo_12, eX7_undo_15, eX7_undo_16, eX7_undo_17, eX7_undo_20, eX7_undo_21, eX7_undo_22, eX7_undo_25, eX7_undo_27, eX7_undo_28, eX7_undo_30, eX7_undo_31, eX7_undo_34, eX7_undo_35, pe_aload_0, pe_bin, pe_const, pe_dup_i, pe_dup_r, pe_getf, pe_ifeq, pe_irem, pe_iret, pe_istore_1, pe_putf, m0, m_g21, m_g22, m_p21, m_p22, h21, h22, z0, z1, u1, n13, r14, e14, not_false_eq_true, hget_hset, ia_l, ia_s, vin, opl, onl, Int32.reduceLT, Int32.reduceLE, Int32.reduceAdd, Int32.reduceSub, Nat.reduceLT, Nat.reduceAdd, Nat.reduceEqDiff, ↓reduceIte, true_and, and_true, List.length_nil, List.length_cons, Nat.reduceLeDiff, Nat.zero_le]
    generalize hny : (nx + 13) % 14 = ny
    have hny' : ny < 14 := by omega
    have hTop : sM K rw' ny (T (sz - 1)) := by
      have := hT (sz - 1) (by omega)
      rw [show (nx + 14 - sz + (sz - 1)) % 14 = ny by omega] at this
      exact this
    generalize hq1 : upd (upd q 21 (nI (sz - 1))) 22 (nI ny) = q1
    have q22 : q1 22 = nI ny := by rw [← hq1]; exact if_pos rfl
    have q21 : q1 21 = nI (sz - 1) := by rw [← hq1]; simp only [upd, Nat.reduceEqDiff, ↓reduceIte]
    have qq : qA q q1 := fun k a b => by rw [← hq1]; simp only [upd, a, b, ↓reduceIte]
    generalize hG1 : hset (hset G 124 (c_m (upd q 21 (nI (sz - 1))) sd)) 124 (c_m q1 sd) = G1
    have fG : ∀ k, k ≠ 124 → hget G1 k = hget G k := fun k hk => by rw [← hG1, hget_ne hk, hget_ne hk]
    have y0 : hget G1 124 = some (c_m q1 sd) := by rw [← hG1]; exact hget_self _ _ _
    have key : ∀ k i H w', i + k = 20 → hget H 135 = some (c_ia 160 w') → (∀ j, j < i → w' j = rw' (20 * ny + j)) → (∀ k, k ≠ 135 → hget H k = hget G1 k) → pr d 119 (G.1 + 0, G.2.1 + 0) Q 36 [some (.ref 124), some (.int (nI i))] [] H := by
      intro k
      induction k with
      | zero =>
        intro i H w' hi k1 k2 k3
        obtain rfl : i = 20 := by omega
        have c1 : ¬ nI 20 < 20 := by decide
        have x0 : hget H 124 = some (c_m q1 sd) := (k3 _ (by omega)).trans y0
        simp only [eX7_undo_36, eX7_undo_37, eX7_undo_39, eX7_undo_68, eX7_undo_69, eX7_undo_72, pe_aload_0, pe_const, pe_getf, pe_iclt, pe_iload_1, pe_iret, x0, m_g21, q21, c1, hget_hset, ia_l, ia_s, vin, opl, onl, Int32.reduceLT, Int32.reduceLE, Int32.reduceAdd, Int32.reduceSub, Nat.reduceLT, Nat.reduceAdd, Nat.reduceEqDiff, ↓reduceIte, true_and, and_true, List.length_nil, List.length_cons, Nat.reduceLeDiff, Nat.zero_le]
        have hk1 : mK H q1 sd K := hk.qA x0 (qq _ (by omega) (by omega)) (qq _ (by omega) (by omega)) ((k3 _ (by omega)).trans (fG _ (by omega))) ((k3 _ (by omega)).trans (fG _ (by omega))) ((k3 _ (by omega)).trans (fG _ (by omega))) ((k3 _ (by omega)).trans (fG _ (by omega)))
        have := hQ H q1 (T (sz - 1)) rfl ⟨w', ⟨hk1, k1, f, ((k3 _ (by omega)).trans (fG _ (by omega))).trans hf⟩, fun j hj => by rw [Nat.mul_zero, Nat.zero_add]; exact (k2 j hj.1).trans (hTop j hj)⟩ ⟨by omega, q21, ny, rw', hny', q22, ((k3 _ (by omega)).trans (fG _ (by omega))).trans h138, fun i hi => ?_⟩ qq (fun k a b _ _ => (k3 k b).trans (fG k a))
        · rw [if_neg z] at this
          exact this
        · have := hT i (by omega)
          rw [show (ny + 14 - (sz - 1) + i) % 14 = (nx + 14 - sz + i) % 14 by omega]
          exact this
      | succ k ih =>
        intro i H w' hi k1 k2 k3
        have x0 : hget H 124 = some (c_m q1 sd) := (k3 _ (by omega)).trans y0
        have x1 : hget H 138 = some (c_ia 280 rw') := ((k3 _ (by omega)).trans (fG _ (by omega))).trans h138
        have c1 : nI i < 20 := nI_lt (b := 20) (by omega) (by omega)
        obtain ⟨c2, c3⟩ := ni280 (i := 20 * ny + i) (by omega)
        obtain ⟨c4, c5⟩ := ni160 (i := i) (by omega)
        have c6 : 20 * ny + i < 280 := by omega
        have c7 : i < 160 := by omega
        rw [eX7_undo_36]
        simp only [eX7_undo_37, eX7_undo_39, eX7_undo_42, eX7_undo_43, eX7_undo_46, eX7_undo_47, eX7_undo_48, eX7_undo_51, eX7_undo_53, eX7_undo_54, eX7_undo_57, eX7_undo_58, eX7_undo_59, eX7_undo_60, eX7_undo_61, eX7_undo_62, eX7_undo_65, pe_aload_0, pe_bin, pe_const, pe_getf, pe_goto, pe_iald, pe_iast, pe_iclt, pe_iinc_1, pe_iload_1, x0, x1, k1, m_g15, m_g22, m_g23, q22, nI_m20, nI_add, c1, c2, c3, c4, c5, c6, c7, nisw, hget_hset, ia_l, ia_s, vin, opl, onl, Int32.reduceLT, Int32.reduceLE, Int32.reduceAdd, Int32.reduceSub, Nat.reduceLT, Nat.reduceAdd, Nat.reduceEqDiff, ↓reduceIte, true_and, and_true, List.length_nil, List.length_cons, Nat.reduceLeDiff, Nat.zero_le]
        refine ih (i + 1) _ _ (by omega) (hget_self _ _ _) (fun j hj => ?_) (fun k hk => by rw [hget_ne hk]; exact k3 k hk)
        by_cases e : j = i
        · rw [e]; simp only [upd, ↓reduceIte]
        · simp only [upd, e, ↓reduceIte]
          exact k2 j (by omega)
    exact key 20 0 G1 w rfl ((fG _ (by omega)).trans hw0) (fun j hj => by omega) (fun _ _ => rfl)
end MH
