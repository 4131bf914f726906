/-! ===== the two kings of the reference: the whole walk ===== -/
section MKj
variable {d : Nat} {G : px_H} {q : Nat → Int32} {sd : Int64} {K : Ld} {c o : Nat} {Q : px_Q} {lim : Nat × Nat}
set_option maxRecDepth 100000 in
theorem mkings_eval {N p : Nat} {fi : Int32} (hv : vK K) (hvf : vF K) (hN : N ≤ 4) (hp : p < 6) : ∀ (r s : Nat) (H : px_H) (t w T B M : Nat → Int32) (o5 o6 : Option Value), s + r = N → kW H q sd K w T B M → sM K w (s + 1) t → okT K c t → T s = 0 → B s = -9 →
    (∀ H' w' T' B' M' o5 o6, kW H' q sd K w' T' B' M' → (∀ j, j < 20 * (s + 2) → w' j = w j) → (∀ i, i < s → T' i = T i ∧ B' i = B i ∧ M' i = M i) → (s = 0 → r ≠ 0 → M' 0 = (kG K p (r - 1) t K.m).1 ∧ B' 0 = kF K p r s t) → fK H H' → pr (d + 3) 145 lim Q 218 [some (.ref 124), some (.int (nI p)), some (.int (nI N)), some (.int fi), some (.int (nI s)), o5, o6] [.int (kF K p r s t)] H') →
    pr (d + 3) 145 lim Q 62 [some (.ref 124), some (.int (nI p)), some (.int (nI N)), some (.int fi), some (.int (nI s)), o5, o6] [] H := by
  intro r
  induction r with
  | zero =>
    intro s H t w T B M o5 o6 hsr hk ht hok hT hB hn
    obtain rfl : s = N := by omega
    obtain ⟨⟨⟨m0, mr⟩, hw0, -⟩, k1, k2, k3⟩ := id hk
    have c4 : ¬ nI s < 0 := nI_nlt (a := s) (b := 0) (by omega) (by omega)
    obtain ⟨i1, i2⟩ := ni160 (i := 20 * (s + 1) + 6 + p) (by omega)
    have i3 : 20 * (s + 1) + 6 + p < 160 := by omega
    have tp : w (20 * (s + 1) + 6 + p) = t (6 + p) := by rw [Nat.add_assoc]; exact ht (6 + p) (by omega)
    rw [eX7_kings_62]
    simp only [eX7_kings_64, eX7_kings_67, eX7_kings_69, eX7_kings_70, eX7_kings_185, eX7_kings_187, eX7_kings_188, eX7_kings_191, eX7_kings_192, eX7_kings_195, eX7_kings_197, eX7_kings_199, eX7_kings_200, eX7_kings_201, eX7_kings_202, eX7_kings_204, eX7_kings_205, eX7_kings_206, eX7_kings_207, eX7_kings_208, pe_aload_0, pe_bin, pe_const, pe_getf, pe_goto, pe_iald, pe_iceq, pe_iclt, pe_iflt, pe_iload_1, pe_iload_2, pe_iload_4, m0, m_g15, hw0, c4, niE, nisw, nI_m20, nI_c6, nI_add, i1, i2, i3, tp, hget_hset, ia_l, ia_s, vin, opl, onl, Int32.reduceLT, Int32.reduceLE, Int32.reduceAdd, Int32.reduceSub, Nat.reduceLT, Nat.reduceAdd, Nat.reduceEqDiff, ↓reduceIte, true_and, and_true, List.length_nil, List.length_cons, Nat.reduceLeDiff, Nat.zero_le]
    exact hn H w T B M o5 o6 hk (fun _ _ => rfl) (fun _ _ => ⟨rfl, rfl, rfl⟩) (fun _ z => absurd rfl z) (fun _ _ _ _ _ _ => rfl)
  | succ r ih =>
    intro s H0 t w0 T0 B0 M0 o5 o6 hsr hk0 ht0 hok hT0 hB0 hn
    have hm6 := hv.1.2.1
    have key : ∀ i j H w T B M o5 o6, j + i = K.m + 1 → kW H q sd K w T B M → (∀ j, j < 20 * (s + 2) → w j = w0 j) → T s = nI j → kB K p r s t j (B s) (M s) → (∀ i, i < s → T i = T0 i ∧ B i = B0 i ∧ M i = M0 i) → fK H0 H → pr (d + 3) 145 lim Q 62 [some (.ref 124), some (.int (nI p)), some (.int (nI N)), some (.int fi), some (.int (nI s)), o5, o6] [] H := by
      intro i
      induction i with
      | zero =>
        intro j H w T B M o5 o6 hj hk hwl hT hB hlow hf
        obtain rfl : j = K.m + 1 := by omega
        obtain ⟨⟨⟨m0, -, m2, -⟩, -⟩, k1, k2, k3⟩ := id hk
        obtain ⟨c1, c2, -⟩ := ni6 (i := s) (by omega)
        have c3 : s < 6 := by omega
        have c4 : ¬ nI s < 0 := nI_nlt (a := s) (b := 0) (by omega) (by omega)
        have c5 : nI s < nI N := nI_lt (by omega) (by omega)
        have c6 : ¬ nI s = nI N := fun z => by
          have := (nI_eq (a := s) (b := N) (by omega) (by omega)).mp z
          omega
        obtain ⟨b1, b2⟩ := hB
        have fin := hn H w T B M o5 o6 hk hwl hlow (fun s0 _ => by
          subst s0
          exact ⟨b2 rfl, by rw [kF]; exact b1⟩) hf
        rw [kF, ← b1] at fin
        rw [eX7_kings_62]
        simp only [eX7_kings_64, eX7_kings_67, eX7_kings_69, eX7_kings_70, eX7_kings_73, eX7_kings_74, eX7_kings_77, eX7_kings_79, eX7_kings_80, eX7_kings_81, eX7_kings_84, eX7_kings_185, eX7_kings_187, eX7_kings_188, eX7_kings_211, eX7_kings_212, eX7_kings_215, eX7_kings_217, pe_aload_0, pe_getf, pe_iald, pe_iceq, pe_icgt, pe_iclt, pe_iflt, pe_iload_2, pe_iload_4, m0, m2, m_g14, m_g28, m_g29, k1, k2, c1, c2, c3, c4, c5, c6, hT, igt hm6, hget_hset, ia_l, ia_s, vin, opl, onl, Int32.reduceLT, Int32.reduceLE, Int32.reduceAdd, Int32.reduceSub, Nat.reduceLT, Nat.reduceAdd, Nat.reduceEqDiff, ↓reduceIte, true_and, and_true, List.length_nil, List.length_cons, Nat.reduceLeDiff, Nat.zero_le]
        exact fin
      | succ i ih2 =>
        intro j H w T B M o5 o6 hj hk hwl hT hB hlow hf
        have ht : sM K w (s + 1) t := ht0.kept (fun j a b => hwl j (by omega))
        refine mkings_down (j := j) hv hvf hk ht hok (by omega) (by omega) hN (by omega) hT ?_
        intro H1 w1 o5' g1 g2 g3 g4
        refine ih (s + 1) H1 (mvS K t j) w1 _ _ _ _ _ (by omega) g1 g2 (okT_mv hv hok j) (by simp [upd]) (by simp [upd]) ?_
        intro H2 w2 T2 B2 M2 p5 p6 h1 h2 h3 _ h5
        have h3s := h3 s (by omega)
        simp only [upd, show ¬ s = s + 1 by omega, ↓reduceIte] at h3s
        have vv : kB K p r s t j (B2 s) (M2 s) := by rw [h3s.2.1, h3s.2.2]; exact hB
        refine mkings_up (j := j) (r := r) (t := t) rfl h1 (by omega) h3s.1 vv (fun jz => ?_) ?_
        · cases j with
          | zero => exact absurd rfl jz
          | succ j' =>
            rw [vv.1]
            refine nn_9 (fold_nn ?_ _ (fun i _ => kF_nn hv hp r (s + 1) (mvS K t i) (okT_mv hv hok i)))
            split
            · exact Or.inl rfl
            · exact Or.inr rfl
        · intro H3 B3 M3 o6' e1 e2 e3 e4
          refine ih2 (j + 1) H3 w2 T2 B3 M3 _ _ (by omega) e1 (fun x hx => ?_) h3s.1 e2 (fun x hx => ?_) (((hf.tr g4).tr h5).tr e4)
          · rw [h2 x (by omega), g3 x (by omega)]
            exact hwl x hx
          · have y1 := h3 x (by omega)
            simp only [upd, show ¬ x = s by omega, show ¬ x = s + 1 by omega, ↓reduceIte] at y1
            have y2 := hlow x hx
            have y3 := e3 x hx
            exact ⟨y1.1.trans y2.1, (y3.1.trans y1.2.1).trans y2.2.1, (y3.2.trans y1.2.2).trans y2.2.2⟩
    exact key (K.m + 1) 0 H0 w0 T0 B0 M0 o5 o6 (by omega) hk0 (fun _ _ => rfl) hT0 hB0 (fun _ _ => ⟨rfl, rfl, rfl⟩) (fun _ _ _ _ _ _ => rfl)
def mT (G : px_H) : Prop := ∃ T B M, hget G 142 = some (c_ia 6 T) ∧ hget G 143 = some (c_ia 6 B) ∧ hget G 144 = some (c_ia 6 M)
theorem i4_of {x : Int32} (h : iN 1 4 x = true) : ∃ N, 1 ≤ N ∧ N ≤ 4 ∧ x = nI N := by
  unfold iN at h
  simp only [Bool.and_eq_true, decide_eq_true_eq] at h
  obtain ⟨N, h1, rfl⟩ := nI_of2 (M := 4) (n := 4) (x := x) (by decide) (fun z => absurd (Int32.lt_of_le_of_lt h.1 z) (by decide)) h.2
  refine ⟨N, ?_, h1, rfl⟩
  rcases Nat.eq_zero_or_pos N with e | e
  · subst e; exact absurd h.1 (by decide)
  · exact e
set_option maxRecDepth 100000 in
theorem sp_mkings {t : Nat → Int32} {p n fi : Int32} (hm : oM G q sd K t c o) (hT : mT G) (hQ : ∀ G', rM G' q sd K t → mT G' → fK G G' → Q (some (.int (aKi K t p n fi))) G') : pcal (d + 4) 145 [.ref 124, .int p, .int n, .int fi] G Q := by
  obtain ⟨⟨w, hw, ht⟩, hv, hvf, hok, -⟩ := id hm
  have hn6 := hv.1.1
  obtain ⟨m0, -, -, -, -, kd, ms, fm, tt, z1, -, -, -, z5, -⟩ := id hw.1
  have no := hQ G ⟨w, hw, ht⟩ hT (fun _ _ _ _ _ _ => rfl)
  refine inX7_kings ?_
  simp only [eX7_kings_0, eX7_kings_1, eX7_kings_2, pe_aload_0, pe_callV_1, pe_iload_1, m0, m_o, hget_hset, ia_l, ia_s, vin, opl, onl, Int32.reduceLT, Int32.reduceLE, Int32.reduceAdd, Int32.reduceSub, Nat.reduceLT, Nat.reduceAdd, Nat.reduceEqDiff, ↓reduceIte, true_and, and_true, List.length_nil, List.length_cons, Nat.reduceLeDiff, Nat.zero_le]
  refine sp_isPlace hw.1 ?_
  simp only [eX7_kings_5, eX7_kings_8, eX7_kings_9, eX7_kings_10, eX7_kings_11, eX7_kings_12, eX7_kings_13, eX7_kings_16, pe_callS_3, pe_const, pe_i2l, pe_ifeq, pe_iload_2, pe_iret, zB_0, hget_hset, ia_l, ia_s, vin, opl, onl, Int32.reduceLT, Int32.reduceLE, Int32.reduceAdd, Int32.reduceSub, Nat.reduceLT, Nat.reduceAdd, Nat.reduceEqDiff, ↓reduceIte, true_and, and_true, List.length_nil, List.length_cons, Nat.reduceLeDiff, Nat.zero_le]
  split
  · rename_i u0
    rw [aKi, if_pos u0] at no
    exact no
  · rename_i u0
    obtain ⟨p1, p2, p3, p4⟩ := hP_of (n := K.n) (x := p) hn6 (nt u0)
    refine sp_in (a := 1) (b := 4) rfl rfl ?_
    simp only [eX7_kings_19, eX7_kings_22, eX7_kings_24, pe_const, pe_ifeq, pe_iret, zB_0, hget_hset, ia_l, ia_s, vin, opl, onl, Int32.reduceLT, Int32.reduceLE, Int32.reduceAdd, Int32.reduceSub, Nat.reduceLT, Nat.reduceAdd, Nat.reduceEqDiff, ↓reduceIte, true_and, and_true, List.length_nil, List.length_cons, Nat.reduceLeDiff, Nat.zero_le]
    split
    · rename_i u1
      rw [iN_f] at u1
      rw [aKi, if_neg u0, if_pos u1] at no
      exact no
    · rename_i u1
      obtain ⟨N, N1, N4, rfl⟩ := i4_of (nt u1)
      have u1' : ¬ (nI N < 1 ∨ 4 < nI N) := by rw [← iN_f]; exact u1
      have hNc : (nI N).toNatClampNeg = N := nI_clamp (by omega)
      have kb := (z5 _ p2).1
      simp only [eX7_kings_25, eX7_kings_26, eX7_kings_29, eX7_kings_30, eX7_kings_31, eX7_kings_32, eX7_kings_35, eX7_kings_37, pe_aload_0, pe_const, pe_getf, pe_iald, pe_iceq, pe_iload_1, pe_iret, m0, m_g9, z1, p1, p3, kb, hget_hset, ia_l, ia_s, vin, opl, onl, Int32.reduceLT, Int32.reduceLE, Int32.reduceAdd, Int32.reduceSub, Nat.reduceLT, Nat.reduceAdd, Nat.reduceEqDiff, ↓reduceIte, true_and, and_true, List.length_nil, List.length_cons, Nat.reduceLeDiff, Nat.zero_le]
      split
      · rename_i u2
        have fin0 : ∀ G', rM G' q sd K t → mT G' → fK G G' → Q (some (.int (if fi = 0 then (kG K p.toNatClampNeg (N - 1) t K.m).2 else (kG K p.toNatClampNeg (N - 1) t K.m).1))) G' := by
          intro G' r1 r2 r3
          have := hQ G' r1 r2 r3
          rw [aKi, if_neg u0, if_neg u1', hNc, if_pos u2] at this
          exact this
        generalize hpp : p.toNatClampNeg = pn at *
        subst p4
        obtain ⟨T, B, M, t1, t2, t3⟩ := hT
        simp only [eX7_kings_38, eX7_kings_39, eX7_kings_41, eX7_kings_42, eX7_kings_43, eX7_kings_44, pe_aload_0, pe_callV_2, pe_const, pe_istore_4, m0, m_o, hget_hset, ia_l, ia_s, vin, opl, onl, Int32.reduceLT, Int32.reduceLE, Int32.reduceAdd, Int32.reduceSub, Nat.reduceLT, Nat.reduceAdd, Nat.reduceEqDiff, ↓reduceIte, true_and, and_true, List.length_nil, List.length_cons, Nat.reduceLeDiff, Nat.zero_le]
        refine sp_lay (A := 0) (B := 1) rfl rfl (by omega) (by omega) (by omega) m0 hw.2.1 ht ?_
        intro G1 w1 g1 g2 g3 g4
        have y0 : hget G1 124 = some (c_m q sd) := (g4 _ (by omega)).trans m0
        have y1 : hget G1 142 = some (c_ia 6 T) := (g4 _ (by omega)).trans t1
        have y2 : hget G1 143 = some (c_ia 6 B) := (g4 _ (by omega)).trans t2
        have y3 : hget G1 144 = some (c_ia 6 M) := (g4 _ (by omega)).trans t3
        have fG1 : fM G G1 := fun k a b => g4 k a
        have hW1 : mW G1 q sd K w1 := ⟨hw.1.fM fG1, g1, by obtain ⟨ff, hff⟩ := hw.2.2; exact ⟨ff, (g4 _ (by omega)).trans hff⟩⟩
        have c0 : (0 : Int32).toNatClampNeg = 0 := by decide
        simp only [eX7_kings_47, eX7_kings_48, eX7_kings_51, eX7_kings_52, eX7_kings_53, eX7_kings_54, eX7_kings_55, eX7_kings_58, eX7_kings_59, eX7_kings_61, pe_aload_0, pe_const, pe_getf, pe_iast, y0, y1, y2, m_g28, m_g29, c0, hget_hset, ia_l, ia_s, vin, opl, onl, Int32.reduceLT, Int32.reduceLE, Int32.reduceAdd, Int32.reduceSub, Nat.reduceLT, Nat.reduceAdd, Nat.reduceEqDiff, ↓reduceIte, true_and, and_true, List.length_nil, List.length_cons, Nat.reduceLeDiff, Nat.zero_le]
        have kw1 : kW G1 q sd K w1 T B M := ⟨hW1, y1, y2, y3⟩
        refine mkings_eval (c := c) (p := pn) (N := N) hv hvf N4 p3 N 0 _ t w1 (upd T 0 0) (upd B 0 (-9)) M _ _ (by omega) (kw1.set (by simp only [hget_hset, Nat.reduceEqDiff, ↓reduceIte]) (by simp only [hget_hset, Nat.reduceEqDiff, ↓reduceIte]) (by simp only [hget_hset, Nat.reduceEqDiff, ↓reduceIte]; exact y3) (fun k a b c => by simp only [hget_hset, a, b, ↓reduceIte])) g2 hok (by simp [upd]) (by simp [upd]) ?_
        intro H w2 T2 B2 M2 o5 o6 h1 h2 h3 h4 h5
        obtain ⟨⟨⟨x0, -⟩, -⟩, x1, x2, x3⟩ := id h1
        obtain ⟨r1, r2⟩ := h4 rfl (by omega)
        have sc : sM K w2 0 t := ((ht.fL g3 (by omega)).kept (fun j a b => h2 j (by omega)))
        have fin := fin0 H ⟨w2, h1.1, sc⟩ ⟨T2, B2, M2, x1, x2, x3⟩ (fun k a b c' e f => by
          rw [h5 k a b c' e f]
          simp only [hget_hset, c', e, ↓reduceIte]
          exact g4 k a)
        have e9 : nI 0 + -1 = -1 := by decide
        have l9 : (-1 : Int32) < 0 := by decide
        have k2 := kG_fold (K := K) (p := pn) (r := N - 1) (t := t) K.m
        have ek : kF K pn N 0 t = foldO mnI (fun i => kF K pn (N - 1) 1 (mvS K t i)) K.m := by
          obtain ⟨N', rfl⟩ : ∃ N', N = N' + 1 := ⟨N - 1, by omega⟩
          rw [kF]
          rfl
        rw [k2, ← ek, ← r2, ← r1] at fin
        simp only [eX7_kings_218, eX7_kings_220, eX7_kings_223, eX7_kings_225, eX7_kings_336, eX7_kings_62, eX7_kings_64, eX7_kings_339, eX7_kings_340, pe_goto, pe_ifeq, pe_iflt, pe_iinc_4, pe_iload_3, pe_iload_4, pe_istore_5, e9, l9, hget_hset, ia_l, ia_s, vin, opl, onl, Int32.reduceLT, Int32.reduceLE, Int32.reduceAdd, Int32.reduceSub, Nat.reduceLT, Nat.reduceAdd, Nat.reduceEqDiff, ↓reduceIte, true_and, and_true, List.length_nil, List.length_cons, Nat.reduceLeDiff, Nat.zero_le]
        split
        · rename_i u3
          rw [if_pos u3] at fin
          simp only [eX7_kings_352, eX7_kings_353, eX7_kings_356, eX7_kings_357, eX7_kings_358, pe_aload_0, pe_const, pe_getf, pe_iald, pe_iret, x0, m_g29, x2, c0, hget_hset, ia_l, ia_s, vin, opl, onl, Int32.reduceLT, Int32.reduceLE, Int32.reduceAdd, Int32.reduceSub, Nat.reduceLT, Nat.reduceAdd, Nat.reduceEqDiff, ↓reduceIte, true_and, and_true, List.length_nil, List.length_cons, Nat.reduceLeDiff, Nat.zero_le]
          exact fin
        · rename_i u3
          rw [if_neg u3] at fin
          simp only [eX7_kings_343, eX7_kings_344, eX7_kings_347, eX7_kings_348, eX7_kings_349, eX7_kings_358, pe_aload_0, pe_const, pe_getf, pe_goto, pe_iald, pe_iret, x0, m_g30, x3, c0, hget_hset, ia_l, ia_s, vin, opl, onl, Int32.reduceLT, Int32.reduceLE, Int32.reduceAdd, Int32.reduceSub, Nat.reduceLT, Nat.reduceAdd, Nat.reduceEqDiff, ↓reduceIte, true_and, and_true, List.length_nil, List.length_cons, Nat.reduceLeDiff, Nat.zero_le]
          exact fin
      · rename_i u2
        rw [aKi, if_neg u0, if_neg u1', if_neg u2] at no
        exact no
end MKj
