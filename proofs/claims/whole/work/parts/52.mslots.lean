/-! ===== the reference: keep, again ===== -/
/-- the reference's slots -/
def mS (K : Ld) (G : px_H) (ke : Int32) (W : Nat → Nat → Int32) : Prop := ∃ zk kp e, hget G 145 = some (c_za 2 zk) ∧ hget G 146 = some (c_ia 40 kp) ∧ e < 4 ∧ ke = nI e ∧ ∀ s, s < 2 → zk s = bt ke s ∧ (zk s = 1 → sM K kp s (W s))
theorem mS.kept {K : Ld} {G G' : px_H} {ke : Int32} {W : Nat → Nat → Int32} (h : mS K G ke W) (h1 : hget G' 145 = hget G 145) (h2 : hget G' 146 = hget G 146) : mS K G' ke W := by
  unfold mS at h ⊢
  rw [h1, h2]
  exact h
theorem iN01 {x : Int32} (h : ¬ (x < 0 ∨ 1 < x)) : ∃ s, s < 2 ∧ x = nI s := by
  have h1 : ¬ x < 0 := fun z => h (Or.inl z)
  have h2 : ¬ 1 < x := fun z => h (Or.inr z)
  obtain ⟨j, hj, rfl⟩ := nI_of h1
  refine ⟨j, ?_, rfl⟩
  have : ¬ nI 1 < nI j := h2
  rw [nI_ltI (by omega) hj] at this
  omega
theorem ni40 {i : Nat} (h : i < 40) : (nI i).toNatClampNeg = i ∧ 0 ≤ nI i := ⟨nI_clamp (by omega), nI_pos' (by omega)⟩
theorem bt_or2 : ∀ e, e < 4 → ∀ s, s < 2 → ∀ r, r < 2 → bt (nI e ||| b1 s) r = if r = s then 1 else bt (nI e) r := by decide +kernel
theorem or_4 : ∀ e, e < 4 → ∀ s, s < 2 → ∃ f, f < 4 ∧ nI e ||| b1 s = nI f := by
  intro e he s hs
  have : ∀ e, e < 4 → ∀ s, s < 2 → (e ||| 2 ^ s) < 4 ∧ nI e ||| b1 s = nI (e ||| 2 ^ s) := by decide +kernel
  exact ⟨_, this e he s hs⟩
section MQ
variable {d : Nat} {G : px_H} {q : Nat → Int32} {sd : Int64} {K : Ld} {t : Nat → Int32} {c o : Nat} {Q : px_Q} {sz : Nat} {T W : Nat → Nat → Int32} {ke x : Int32}
set_option maxRecDepth 100000 in
theorem sp_mkeep (hm : rM G q sd K t) (hS : mS K G ke W) (hQ : ∀ G' ke' W', ((x < 0 ∨ 1 < x) → ke' = ke ∧ W' = W) → (∀ s, s < 2 → x = nI s → ke' = ke ||| b1 s ∧ W' = fun r => if r = s then t else W r) → rM G' q sd K t → mS K G' ke' W' → (∀ k, k ≠ 145 → k ≠ 146 → hget G' k = hget G k) → Q (some (.int (if x < 0 ∨ 1 < x then -1 else t 19))) G') : pcal (d + 2) 148 [.ref 124, .int x] G Q := by
  obtain ⟨w, hw, ht⟩ := id hm
  obtain ⟨hk, hw0, f, hf⟩ := id hw
  have m0 := hk.1
  obtain ⟨zk, kp, e, h145, h146, he, hke, hs⟩ := id hS
  have s0 := sM0 ht
  refine inX7_keep ?_
  simp only [eX7_keep_0, eX7_keep_1, eX7_keep_2, eX7_keep_3, eX7_keep_4, pe_callS_3, pe_const, pe_i2l, pe_iload_1, hget_hset, ia_l, ia_s, vin, opl, onl, Int32.reduceLT, Int32.reduceLE, Int32.reduceAdd, Int32.reduceSub, Nat.reduceLT, Nat.reduceAdd, Nat.reduceEqDiff, ↓reduceIte, true_and, and_true, List.length_nil, List.length_cons, Nat.reduceLeDiff, Nat.zero_le]
  refine sp_in (a := 0) (b := 1) rfl rfl ?_
  simp only [eX7_keep_7, eX7_keep_10, eX7_keep_11, pe_const, pe_ifeq, pe_iret, zB_0, iN_f, hget_hset, ia_l, ia_s, vin, opl, onl, Int32.reduceLT, Int32.reduceLE, Int32.reduceAdd, Int32.reduceSub, Nat.reduceLT, Nat.reduceAdd, Nat.reduceEqDiff, ↓reduceIte, true_and, and_true, List.length_nil, List.length_cons, Nat.reduceLeDiff, Nat.zero_le]
  split
  · rename_i u0
    have := hQ G ke W (fun _ => ⟨rfl, rfl⟩) (fun s h1 h2 => by
      exfalso
      rw [h2] at u0
      rcases u0 with z | z
      · exact nI_pos (by omega) z
      · have : nI 1 < nI s := z
        rw [nI_ltI (by omega) (by omega)] at this
        omega) hm hS (fun _ _ _ => rfl)
    rw [if_pos u0] at this
    exact this
  · rename_i u0
    obtain ⟨s, s2, rfl⟩ := iN01 u0
    obtain ⟨b1', b2'⟩ := ni40 (i := s) (by omega)
    have o1 : (1 : Int32) &&& 1 = 1 := by decide
    simp only [eX7_keep_12, eX7_keep_13, eX7_keep_16, eX7_keep_17, eX7_keep_18, eX7_keep_19, eX7_keep_20, pe_aload_0, pe_const, pe_getf, pe_iload_1, pe_istore_2, pe_zast, m0, h145, m_g32, za_s, b1', b2', s2, o1, hget_hset, ia_l, ia_s, vin, opl, onl, Int32.reduceLT, Int32.reduceLE, Int32.reduceAdd, Int32.reduceSub, Nat.reduceLT, Nat.reduceAdd, Nat.reduceEqDiff, ↓reduceIte, true_and, and_true, List.length_nil, List.length_cons, Nat.reduceLeDiff, Nat.zero_le]
    have key : ∀ k i H kp', i + k = 20 → hget H 146 = some (c_ia 40 kp') → (∀ j, j < i → kp' (20 * s + j) = w j) → fL kp kp' s → (∀ k, k ≠ 146 → hget H k = hget (hset G 145 (c_za 2 (upd zk s 1))) k) → pr (d + 1) 148 (G.1 + 0, G.2.1 + 0) Q 21 [some (.ref 124), some (.int (nI s)), some (.int (nI i))] [] H := by
      intro k
      induction k with
      | zero =>
        intro i H kp' hi k1 k2 k3 k4
        obtain rfl : i = 20 := by omega
        have y0 : hget H 124 = some (c_m q sd) := by rw [k4 _ (by omega), hget_ne (by omega)]; exact m0
        have y1 : hget H 135 = some (c_ia 160 w) := by rw [k4 _ (by omega), hget_ne (by omega)]; exact hw0
        have c1 : ¬ nI 20 < 20 := by decide
        have c19 : (19 : Int32).toNatClampNeg = 19 := by decide
        have g19 := s0 19 (by omega)
        have fH : ∀ k, k ≠ 145 → k ≠ 146 → hget H k = hget G k := fun k a b => by rw [k4 k b, hget_ne a]
        simp only [eX7_keep_21, eX7_keep_22, eX7_keep_24, eX7_keep_50, eX7_keep_51, eX7_keep_54, eX7_keep_56, eX7_keep_57, pe_aload_0, pe_const, pe_getf, pe_iald, pe_iclt, pe_iload_2, pe_iret, y0, y1, m_g15, c1, c19, g19, hget_hset, ia_l, ia_s, vin, opl, onl, Int32.reduceLT, Int32.reduceLE, Int32.reduceAdd, Int32.reduceSub, Nat.reduceLT, Nat.reduceAdd, Nat.reduceEqDiff, ↓reduceIte, true_and, and_true, List.length_nil, List.length_cons, Nat.reduceLeDiff, Nat.zero_le]
        have inj : ∀ r, r < 2 → nI s = nI r → r = s := fun r hr hh => ((nI_eq (by omega) (by omega)).mp hh).symm
        have := hQ H (ke ||| b1 s) (fun r => if r = s then t else W r) (fun z => absurd z u0) (fun r h1 h2 => by rw [inj r h1 h2]; exact ⟨rfl, rfl⟩) ⟨w, ⟨hk.kept (fH _ (by omega) (by omega)) (fH _ (by omega) (by omega)) (fH _ (by omega) (by omega)) (fH _ (by omega) (by omega)) (fH _ (by omega) (by omega)), y1, f, (fH _ (by omega) (by omega)).trans hf⟩, ht⟩ ?_ fH
        · rw [if_neg u0] at this
          exact this
        · obtain ⟨e', he', hee⟩ := or_4 e he s s2
          refine ⟨upd zk s 1, kp', e', by rw [k4 _ (by omega)]; exact hget_self _ _ _, k1, he', by rw [hke]; exact hee, fun r hr => ?_⟩
          rw [hke, bt_or2 e he s s2 r hr]
          by_cases er : r = s
          · rw [er]
            simp only [upd, ↓reduceIte, true_and]
            intro _ j hj
            exact (k2 j hj.1).trans (s0 j hj)
          · simp only [upd, er, ↓reduceIte]
            obtain ⟨q1, q2⟩ := hs r hr
            rw [hke] at q1
            exact ⟨q1, fun z => (q2 z).fL k3 er⟩
      | succ k ih =>
        intro i H kp' hi k1 k2 k3 k4
        have y0 : hget H 124 = some (c_m q sd) := by rw [k4 _ (by omega), hget_ne (by omega)]; exact m0
        have y1 : hget H 135 = some (c_ia 160 w) := by rw [k4 _ (by omega), hget_ne (by omega)]; exact hw0
        have c1 : nI i < 20 := nI_lt (b := 20) (by omega) (by omega)
        obtain ⟨c2, c3⟩ := ni40 (i := 20 * s + i) (by omega)
        obtain ⟨c4, c5⟩ := ni160 (i := i) (by omega)
        have c6 : 20 * s + i < 40 := by omega
        have c7 : i < 160 := by omega
        rw [eX7_keep_21]
        simp only [eX7_keep_22, eX7_keep_24, eX7_keep_27, eX7_keep_28, eX7_keep_31, eX7_keep_33, eX7_keep_34, eX7_keep_35, eX7_keep_36, eX7_keep_37, eX7_keep_38, eX7_keep_41, eX7_keep_42, eX7_keep_43, eX7_keep_44, eX7_keep_47, pe_aload_0, pe_bin, pe_const, pe_getf, pe_goto, pe_iald, pe_iast, pe_iclt, pe_iinc_2, pe_iload_1, pe_iload_2, y0, y1, k1, m_g15, m_g33, nI_m20, nI_add, c1, c2, c3, c4, c5, c6, c7, nisw, hget_hset, ia_l, ia_s, vin, opl, onl, Int32.reduceLT, Int32.reduceLE, Int32.reduceAdd, Int32.reduceSub, Nat.reduceLT, Nat.reduceAdd, Nat.reduceEqDiff, ↓reduceIte, true_and, and_true, List.length_nil, List.length_cons, Nat.reduceLeDiff, Nat.zero_le]
        refine ih (i + 1) _ _ (by omega) (hget_self _ _ _) (fun j hj => ?_) (fun j hj => ?_) (fun k hk => by rw [hget_ne hk]; exact k4 k hk)
        · by_cases ej : j = i
          · rw [ej]; simp only [upd, ↓reduceIte]
          · simp only [upd, show ¬ 20 * s + j = 20 * s + i by omega, ↓reduceIte]
            exact k2 j (by omega)
        · simp only [upd, show ¬ j = 20 * s + i by omega, ↓reduceIte]
          exact k3 j hj
    exact key 20 0 _ kp rfl (by rw [hget_ne (by omega)]; exact h146) (fun j hj => by omega) (fun _ _ => rfl) (fun _ _ => rfl)
set_option maxRecDepth 100000 in
theorem sp_magain (hm : rM G q sd K t) (hA : mA K G q sz T) (hS : mS K G ke W) (hQ : ∀ G' q' t' sz', (t', sz') = (if agR ke x = 0 then (W x.toNatClampNeg, 0) else (t, sz)) → rM G' q' sd K t' → mA K G' q' sz' T → qA q q' → (∀ k, k ≠ 124 → k ≠ 135 → hget G' k = hget G k) → Q (some (.int (if agR ke x = 0 then W x.toNatClampNeg 19 else agR ke x))) G') : pcal (d + 2) 149 [.ref 124, .int x] G Q := by
  obtain ⟨w, hw, ht⟩ := id hm
  obtain ⟨hk, hw0, f, hf⟩ := id hw
  have m0 := hk.1
  obtain ⟨zk, kp, e, h145, h146, he, hke, hs⟩ := id hS
  have no : ∀ v, agR ke x = v → ¬ v = 0 → Q (some (.int v)) G := by
    intro v h1 h2
    have := hQ G q t sz (by rw [if_neg (by rw [h1]; exact h2)]) hm hA (fun _ _ _ => rfl) (fun _ _ _ => rfl)
    rw [if_neg (by rw [h1]; exact h2), h1] at this
    exact this
  refine inX7_again ?_
  simp only [eX7_again_0, eX7_again_1, eX7_again_2, eX7_again_3, eX7_again_4, pe_callS_3, pe_const, pe_i2l, pe_iload_1, hget_hset, ia_l, ia_s, vin, opl, onl, Int32.reduceLT, Int32.reduceLE, Int32.reduceAdd, Int32.reduceSub, Nat.reduceLT, Nat.reduceAdd, Nat.reduceEqDiff, ↓reduceIte, true_and, and_true, List.length_nil, List.length_cons, Nat.reduceLeDiff, Nat.zero_le]
  refine sp_in (a := 0) (b := 1) rfl rfl ?_
  simp only [eX7_again_7, eX7_again_10, eX7_again_11, pe_const, pe_ifeq, pe_iret, zB_0, iN_f, hget_hset, ia_l, ia_s, vin, opl, onl, Int32.reduceLT, Int32.reduceLE, Int32.reduceAdd, Int32.reduceSub, Nat.reduceLT, Nat.reduceAdd, Nat.reduceEqDiff, ↓reduceIte, true_and, and_true, List.length_nil, List.length_cons, Nat.reduceLeDiff, Nat.zero_le]
  split
  · rename_i u0
    refine no _ ?_ (by decide)
    rw [agR, if_neg]
    rintro (z | z) <;> rw [z] at u0 <;> exact absurd u0 (by decide)
  · rename_i u0
    obtain ⟨s, s2, rfl⟩ := iN01 u0
    have x01 : nI s = 0 ∨ nI s = 1 := by
      rcases (show s = 0 ∨ s = 1 by omega) with rfl | rfl
      · exact Or.inl rfl
      · exact Or.inr rfl
    obtain ⟨b1', b2'⟩ := ni40 (i := s) (by omega)
    obtain ⟨z1, z2⟩ := hs s s2
    have eb : bt ke s = 0 ∨ bt ke s = 1 := by rw [hke]; exact bt_01 e (by omega) s (by omega)
    have ea : agR ke (nI s) = if bt ke s = 0 then -3 else 0 := by rw [agR, if_pos x01]; rfl
    simp only [eX7_again_12, eX7_again_13, eX7_again_16, eX7_again_17, eX7_again_18, eX7_again_21, eX7_again_23, pe_aload_0, pe_const, pe_getf, pe_ifeq, pe_iload_1, pe_iret, pe_zald, m0, h145, m_g32, za_l, b1', b2', s2, z1, hget_hset, ia_l, ia_s, vin, opl, onl, Int32.reduceLT, Int32.reduceLE, Int32.reduceAdd, Int32.reduceSub, Nat.reduceLT, Nat.reduceAdd, Nat.reduceEqDiff, ↓reduceIte, true_and, and_true, List.length_nil, List.length_cons, Nat.reduceLeDiff, Nat.zero_le]
    split
    · rename_i u1
      exact no _ (by rw [ea, if_pos u1]) (by decide)
    · rename_i u1
      have e0 : agR ke (nI s) = 0 := by rw [ea, if_neg u1]
      have hTop : sM K kp s (W s) := z2 (by rw [z1]; exact eb.resolve_left u1)
      rw [if_pos e0, b1'] at hQ
      simp only [eX7_again_24, eX7_again_25, pe_const, pe_istore_2, hget_hset, ia_l, ia_s, vin, opl, onl, Int32.reduceLT, Int32.reduceLE, Int32.reduceAdd, Int32.reduceSub, Nat.reduceLT, Nat.reduceAdd, Nat.reduceEqDiff, ↓reduceIte, true_and, and_true, List.length_nil, List.length_cons, Nat.reduceLeDiff, Nat.zero_le]
      have key : ∀ k i H w', i + k = 20 → hget H 135 = some (c_ia 160 w') → (∀ j, j < i → w' j = kp (20 * s + j)) → (∀ k, k ≠ 135 → hget H k = hget G k) → pr (d + 1) 149 (G.1 + 0, G.2.1 + 0) Q 26 [some (.ref 124), some (.int (nI s)), some (.int (nI i))] [] H := by
        intro k
        induction k with
        | zero =>
          intro i H w' hi k1 k2 k3
          obtain rfl : i = 20 := by omega
          have c1 : ¬ nI 20 < 20 := by decide
          have c19 : (19 : Int32).toNatClampNeg = 19 := by decide
          have g19 := (k2 19 (by omega)).trans (hTop 19 (by omega))
          have x0 : hget H 124 = some (c_m q sd) := (k3 _ (by omega)).trans m0
          simp only [eX7_again_26, eX7_again_27, eX7_again_29, eX7_again_55, eX7_again_56, eX7_again_57, eX7_again_60, eX7_again_61, eX7_again_64, eX7_again_66, eX7_again_67, pe_aload_0, pe_const, pe_getf, pe_iald, pe_iclt, pe_iload_2, pe_iret, pe_putf, x0, k1, m_g15, m_p21, c1, c19, g19, hget_hset, ia_l, ia_s, vin, opl, onl, Int32.reduceLT, Int32.reduceLE, Int32.reduceAdd, Int32.reduceSub, Nat.reduceLT, Nat.reduceAdd, Nat.reduceEqDiff, ↓reduceIte, true_and, and_true, List.length_nil, List.length_cons, Nat.reduceLeDiff, Nat.zero_le]
          have n124 : ∀ k, k ≠ 124 → hget (hset H 124 (c_m (upd q 21 0) sd)) k = hget H k := fun k hk => hget_ne hk
          have := hQ (hset H 124 (c_m (upd q 21 0) sd)) (upd q 21 0) (W s) 0 rfl ⟨w', ⟨hk.qA (hget_self _ _ _) (if_neg (by decide)) (if_neg (by decide)) ((n124 _ (by omega)).trans (k3 _ (by omega))) ((n124 _ (by omega)).trans (k3 _ (by omega))) ((n124 _ (by omega)).trans (k3 _ (by omega))) ((n124 _ (by omega)).trans (k3 _ (by omega))), (n124 _ (by omega)).trans k1, f, ((n124 _ (by omega)).trans (k3 _ (by omega))).trans hf⟩, fun j hj => by rw [Nat.mul_zero, Nat.zero_add]; exact (k2 j hj.1).trans (hTop j hj)⟩ ?_ (fun k a b => if_neg a) (fun k a b => (n124 k a).trans (k3 k b))
          · rw [if_pos e0] at this
            exact this
          · obtain ⟨hsz, h21, nx, rw', hnx, h22, h138, hT⟩ := hA
            exact ⟨by omega, if_pos rfl, nx, rw', hnx, (if_neg (by decide)).trans h22, ((n124 _ (by omega)).trans (k3 _ (by omega))).trans h138, fun i hi => by omega⟩
        | succ k ih =>
          intro i H w' hi k1 k2 k3
          have x0 : hget H 124 = some (c_m q sd) := (k3 _ (by omega)).trans m0
          have x1 : hget H 146 = some (c_ia 40 kp) := (k3 _ (by omega)).trans h146
          have c1 : nI i < 20 := nI_lt (b := 20) (by omega) (by omega)
          obtain ⟨c2, c3⟩ := ni40 (i := 20 * s + i) (by omega)
          obtain ⟨c4, c5⟩ := ni160 (i := i) (by omega)
          have c6 : 20 * s + i < 40 := by omega
          have c7 : i < 160 := by omega
          rw [eX7_again_26]
          simp only [eX7_again_27, eX7_again_29, eX7_again_32, eX7_again_33, eX7_again_36, eX7_again_37, eX7_again_38, eX7_again_41, eX7_again_43, eX7_again_44, eX7_again_45, eX7_again_46, eX7_again_47, eX7_again_48, eX7_again_49, eX7_again_52, pe_aload_0, pe_bin, pe_const, pe_getf, pe_goto, pe_iald, pe_iast, pe_iclt, pe_iinc_2, pe_iload_1, pe_iload_2, x0, x1, k1, m_g15, m_g33, nI_m20, nI_add, c1, c2, c3, c4, c5, c6, c7, nisw, hget_hset, ia_l, ia_s, vin, opl, onl, Int32.reduceLT, Int32.reduceLE, Int32.reduceAdd, Int32.reduceSub, Nat.reduceLT, Nat.reduceAdd, Nat.reduceEqDiff, ↓reduceIte, true_and, and_true, List.length_nil, List.length_cons, Nat.reduceLeDiff, Nat.zero_le]
          refine ih (i + 1) _ _ (by omega) (hget_self _ _ _) (fun j hj => ?_) (fun k hk => by rw [hget_ne hk]; exact k3 k hk)
          by_cases ej : j = i
          · rw [ej]; simp only [upd, ↓reduceIte]
          · simp only [upd, ej, ↓reduceIte]
            exact k2 j (by omega)
      exact key 20 0 G w rfl hw0 (fun j hj => by omega) (fun _ _ => rfl)
end MQ
