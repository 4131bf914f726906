/-! ===== the reference: a ditch of a text; the whole text ===== -/
section MTx
variable {d : Nat} {G H : px_H} {q q' : Nat → Int32} {sd : Int64} {K : Ld} {Q : px_Q} {lim : Nat × Nat} {rk rh rr rf rt rg tx : Nat → Int32} {len i : Nat} {f0 s0 : Int32}
theorem dG_bits (hw : wfL K) {L : Nat} (hL : L < 64) (hb : ∀ b, b < 6 → (L.testBit b = true ↔ (b < K.n ∧ dF K (nI b) = true))) : dG K = true ↔ (K.m < 6 ∧ ¬ nI L = 0) := by
  have n6 := hw.1
  unfold dG
  rw [Bool.and_eq_true, decide_eq_true_eq, exB_iff, nI_64_0 L hL]
  constructor
  · rintro ⟨m6, b, -, b2, b3⟩
    refine ⟨m6, fun z => ?_⟩
    have := z b (by omega)
    rw [(hb b (by omega)).mpr ⟨by omega, b3⟩] at this
    exact absurd this (by decide)
  · rintro ⟨m6, z⟩
    refine ⟨m6, ?_⟩
    by_cases e : ∃ b, b < 6 ∧ L.testBit b = true
    · obtain ⟨b, b1, b2⟩ := e
      obtain ⟨b3, b4⟩ := (hb b b1).mp b2
      exact ⟨b, by omega, by omega, b4⟩
    · refine absurd (fun b hb' => ?_) z
      cases t : L.testBit b with
      | false => rfl
      | true => exact absurd ⟨b, hb', t⟩ e
set_option maxRecDepth 100000 in
theorem rp_bad (hq : mQ G q sd tx len i K) (hil : i < len) (hP : pO G q sd tx len i K f0 s0 Q) (hx : fitB 1 f0 K (tx i) = false) {o2 o3 o4 o5 : Option Value} : pr (d + 2) 100 lim Q 296 [some (.ref 124), some (.int (tx i)), o2, o3, o4, o5] [] G := by
  obtain ⟨m0, mt, h17, h18, h19, rk, rh, rr, rf, rt, rg, a1, a2, a3, a4, a5, a6, hr⟩ := id hq
  simp only [eX7_readPart_296, eX7_readPart_297, eX7_readPart_298, eX7_readPart_301, eX7_readPart_304, pe_aload_0, pe_getf, pe_putf, pe_vret, m0, m_g18, m_p19, h18, hget_hset, ia_l, ia_s, vin, opl, onl, Int32.reduceLT, Int32.reduceLE, Int32.reduceAdd, Int32.reduceSub, Nat.reduceLT, Nat.reduceAdd, Nat.reduceEqDiff, ↓reduceIte, true_and, and_true, List.length_nil, List.length_cons, Nat.reduceLeDiff, Nat.zero_le]
  refine hP.1 _ (upd q 19 (nI i)) i (hget_self _ _ _) ⟨rk, rh, rr, rf, rt, rg, ?_, ?_, ?_, ?_, ?_, ?_⟩ (by simp [upd]) (by omega) ?_ (fun k hk => hget_ne (by omega)) (eQ_upd (by omega))
  · rw [hget_ne (by omega)]; exact a1
  · rw [hget_ne (by omega)]; exact a2
  · rw [hget_ne (by omega)]; exact a3
  · rw [hget_ne (by omega)]; exact a4
  · rw [hget_ne (by omega)]; exact a5
  · rw [hget_ne (by omega)]; exact a6
  · rw [rdC_s hil]
    dsimp only
    rw [if_neg (by rw [hx]; decide)]
set_option maxRecDepth 100000 in
/-- a fault in a ditch: nothing more is done -/
theorem rp_out {f : Nat} {x : Int32} {o2 o3 o4 o5 : Option Value} (hs : aS G H q q' sd rk rh rr rf rt rg) (h19 : q' 19 = nI f) (hf : f ≤ 48) (hQ : Q none H) : pr (d + 2) 100 lim Q 224 [some (.ref 124), some (.int x), o2, o3, o4, o5] [] H := by
  have m0 := hs.1
  have n9 : ¬ nI f = -9 := m9_nI (by omega)
  simp only [eX7_readPart_224, eX7_readPart_225, eX7_readPart_228, eX7_readPart_230, eX7_readPart_293, eX7_readPart_304, pe_aload_0, pe_const, pe_getf, pe_goto, pe_iceq, pe_vret, m0, m_g19, h19, n9, hget_hset, ia_l, ia_s, vin, opl, onl, Int32.reduceLT, Int32.reduceLE, Int32.reduceAdd, Int32.reduceSub, Nat.reduceLT, Nat.reduceAdd, Nat.reduceEqDiff, ↓reduceIte, true_and, and_true, List.length_nil, List.length_cons, Nat.reduceLeDiff, Nat.zero_le]
  exact hQ
set_option maxRecDepth 100000 in
theorem rp_out3 {f : Nat} {x : Int32} {o2 o3 o4 o5 : Option Value} (hs : aS G H q q' sd rk rh rr rf rt rg) (ht : hget G 136 = some (c_ia 48 tx)) (hlen : len ≤ 48) (h17 : q 17 = nI len) (h18 : q' 18 = nI i) (hi : i ≤ len) (h19 : q' 19 = nI f) (hf : f ≤ 48) (hQ : ∀ H', aS G H' q q' sd rk rh rr rf rt rg → Q none H') : pr (d + 2) 100 lim Q 217 [some (.ref 124), some (.int x), o2, o3, o4, o5] [] H := by
  have m0 := hs.1
  simp only [eX7_readPart_217, eX7_readPart_218, eX7_readPart_219, pe_aload_0, pe_callV_1, pe_const, m0, m_o, hget_hset, ia_l, ia_s, vin, opl, onl, Int32.reduceLT, Int32.reduceLE, Int32.reduceAdd, Int32.reduceSub, Nat.reduceLT, Nat.reduceAdd, Nat.reduceEqDiff, ↓reduceIte, true_and, and_true, List.length_nil, List.length_cons, Nat.reduceLeDiff, Nat.zero_le]
  refine sp_fig0 hs ht hlen h17 h18 hi h19 hf ?_
  intro H' s1
  simp only [eX7_readPart_222, pe_istore_5, hget_hset, ia_l, ia_s, vin, opl, onl, Int32.reduceLT, Int32.reduceLE, Int32.reduceAdd, Int32.reduceSub, Nat.reduceLT, Nat.reduceAdd, Nat.reduceEqDiff, ↓reduceIte, true_and, and_true, List.length_nil, List.length_cons, Nat.reduceLeDiff, Nat.zero_le]
  exact rp_out s1 h19 hf (hQ H' s1)
theorem upd_n {f : Nat → Int32} {k j : Nat} {x : Int32} (h : ¬ j = k) : upd f k x j = f j := if_neg h
theorem upd_y {f : Nat → Int32} {k : Nat} {x : Int32} : upd f k x k = x := if_pos rfl
set_option maxRecDepth 100000 in
/-- a ditch more is told -/
theorem rp_store {A B m : Nat} {k x : Int32} {o2 : Option Value} (hs : aS G H q q' sd rk rh rr rf rt rg) (h19 : q' 19 = -9) (m6 : m < 6) (h8 : q 8 = nI m) (pA6 : A < 6)
    (hQ : ∀ H' q'', hget H' 124 = some (c_m q'' sd) → hget H' 125 = some (c_ia 6 rk) → hget H' 126 = some (c_ia 6 rh) → hget H' 127 = some (c_ia 6 rr) → hget H' 128 = some (c_ia 6 (upd rf m (nI A))) → hget H' 129 = some (c_ia 6 (upd rt m (nI B))) → hget H' 130 = some (c_ia 6 (upd rg A (rg A ||| b1 B))) → fQ G H' → q'' = upd (upd q' 6 (q 6 ||| k <<< (nI m &&& 31))) 8 (nI (m + 1)) → Q none H') :
    pr (d + 2) 100 lim Q 224 [some (.ref 124), some (.int x), o2, some (.int (nI A)), some (.int (nI B)), some (.int k)] [] H := by
  obtain ⟨w0, w1, w2, w3, w4, w5, w6, w7, w8, w9, w10, w11⟩ := id hs
  have e8 : q' 8 = nI m := w11.trans h8
  have e86 : ∀ v, upd q' 6 v 8 = nI m := fun v => (upd_n (by omega)).trans e8
  obtain ⟨c1, c2, -⟩ := ni6 m6
  obtain ⟨b1', b2', -⟩ := ni6 pA6
  simp only [eX7_readPart_224, eX7_readPart_225, eX7_readPart_228, eX7_readPart_230, eX7_readPart_233, eX7_readPart_234, eX7_readPart_237, eX7_readPart_238, eX7_readPart_241, eX7_readPart_242, eX7_readPart_243, eX7_readPart_244, eX7_readPart_247, eX7_readPart_248, eX7_readPart_251, eX7_readPart_253, eX7_readPart_254, eX7_readPart_255, eX7_readPart_258, eX7_readPart_259, eX7_readPart_260, eX7_readPart_261, eX7_readPart_262, eX7_readPart_264, eX7_readPart_265, eX7_readPart_266, eX7_readPart_267, eX7_readPart_268, eX7_readPart_269, eX7_readPart_272, eX7_readPart_274, eX7_readPart_275, eX7_readPart_278, eX7_readPart_279, eX7_readPart_280, eX7_readPart_283, eX7_readPart_284, eX7_readPart_285, eX7_readPart_288, eX7_readPart_289, eX7_readPart_290, eX7_readPart_293, eX7_readPart_304, pe_aload_0, pe_bin, pe_const, pe_dup2_ir, pe_dup_i, pe_dup_r, pe_getf, pe_goto, pe_iald, pe_iast, pe_iceq, pe_iload_3, pe_iload_4, pe_iload_5, pe_putf, pe_vret, w0, w4, w5, w6, m_g3, m_g4, m_g5, m_g6, m_g8, m_g19, m_p6, m_p8, h19, w9, e8, e86, c1, c2, m6, b1', b2', pA6, nisw, b1_e, hget_hset, ia_l, ia_s, vin, opl, onl, Int32.reduceLT, Int32.reduceLE, Int32.reduceAdd, Int32.reduceSub, Nat.reduceLT, Nat.reduceAdd, Nat.reduceEqDiff, ↓reduceIte, true_and, and_true, List.length_nil, List.length_cons, Nat.reduceLeDiff, Nat.zero_le]
  refine hQ _ _ ?_ ?_ ?_ ?_ ?_ ?_ ?_ ?_ rfl
  · rw [hget_self]
  · simp only [hget_hset, Nat.reduceEqDiff, ↓reduceIte]; exact w1
  · simp only [hget_hset, Nat.reduceEqDiff, ↓reduceIte]; exact w2
  · simp only [hget_hset, Nat.reduceEqDiff, ↓reduceIte]; exact w3
  · simp only [hget_hset, Nat.reduceEqDiff, ↓reduceIte]
  · simp only [hget_hset, Nat.reduceEqDiff, ↓reduceIte]
  · simp only [hget_hset, Nat.reduceEqDiff, ↓reduceIte]
  · intro k hk
    simp only [hget_hset, show ¬ k = 124 by omega, show ¬ k = 128 by omega, show ¬ k = 129 by omega, show ¬ k = 130 by omega, ↓reduceIte]
    exact w7 k hk
set_option maxRecDepth 100000 in
theorem rp_C (hq : mQ G q sd tx len i K) (hw : wfL K) (hil : i < len) (hlen : len ≤ 48) (hP : pO G q sd tx len i K f0 s0 Q) (hx : tx i = 67) : pr (d + 2) 100 lim Q 171 [some (.ref 124), some (.int (tx i)), some (.int (-9)), none, none, none] [] G := by
  obtain ⟨m0, mt, h17, h18, h19, rk, rh, rr, rf, rt, rg, a1, a2, a3, a4, a5, a6, hr⟩ := id hq
  have n6 := hw.1
  have h7 := hr.2.1
  have h8 := hr.2.2.1
  obtain ⟨L, L1, L2, L3⟩ := bg_bits hw
  have dG' := dG_bits hw L1 L3
  have fit : fitB 1 f0 K (tx i) = dG K := by rw [hx]; simp [fitB]
  have em : (nI K.m < 6) = (K.m < 6) := by
    apply propext
    exact nI_ltI (b := 6) (by have := hw.2.1; omega) (by omega)
  simp only [eX7_readPart_171, eX7_readPart_172, eX7_readPart_175, eX7_readPart_177, pe_aload_0, pe_const, pe_getf, pe_iclt, m0, m_g8, h8, em, hget_hset, ia_l, ia_s, vin, opl, onl, Int32.reduceLT, Int32.reduceLE, Int32.reduceAdd, Int32.reduceSub, Nat.reduceLT, Nat.reduceAdd, Nat.reduceEqDiff, ↓reduceIte, true_and, and_true, List.length_nil, List.length_cons, Nat.reduceLeDiff, Nat.zero_le]
  by_cases m6 : K.m < 6
  · rw [if_pos m6]
    simp only [eX7_readPart_180, eX7_readPart_181, pe_aload_0, pe_callV_0, m0, m_o, hget_hset, ia_l, ia_s, vin, opl, onl, Int32.reduceLT, Int32.reduceLE, Int32.reduceAdd, Int32.reduceSub, Nat.reduceLT, Nat.reduceAdd, Nat.reduceEqDiff, ↓reduceIte, true_and, and_true, List.length_nil, List.length_cons, Nat.reduceLeDiff, Nat.zero_le]
    refine sp_mbegins hw hr m0 a1 a6 ?_
    rw [L2]
    simp only [eX7_readPart_184, pe_ifeq, hget_hset, ia_l, ia_s, vin, opl, onl, Int32.reduceLT, Int32.reduceLE, Int32.reduceAdd, Int32.reduceSub, Nat.reduceLT, Nat.reduceAdd, Nat.reduceEqDiff, ↓reduceIte, true_and, and_true, List.length_nil, List.length_cons, Nat.reduceLeDiff, Nat.zero_le]
    by_cases z : nI L = 0
    · rw [if_pos z]
      exact rp_bad hq hil hP (by rw [fit]; cases e : dG K with | false => rfl | true => exact absurd z (dG'.mp e).2)
    · rw [if_neg z]
      have dgt : dG K = true := dG'.mpr ⟨m6, z⟩
      have st : rdC tx len (len - i) i (1, f0, s0, K) = rdC tx len (len - (i + 1)) (i + 1) (6, f0, s0, K) := by
        rw [rdC_s hil]
        dsimp only
        rw [if_pos (by rw [fit]; exact dgt), hx]
        rfl
      have s1 : aS G (hset G 124 (c_m (upd q 18 (nI (i + 1))) sd)) q (upd q 18 (nI (i + 1))) sd rk rh rr rf rt rg := by
        refine ⟨hget_self _ _ _, ?_, ?_, ?_, ?_, ?_, ?_, fun k hk => hget_ne (by omega), eQ_upd (by omega), ?_, ?_, ?_⟩
        · rw [hget_ne (by omega)]; exact a1
        · rw [hget_ne (by omega)]; exact a2
        · rw [hget_ne (by omega)]; exact a3
        · rw [hget_ne (by omega)]; exact a4
        · rw [hget_ne (by omega)]; exact a5
        · rw [hget_ne (by omega)]; exact a6
        · simp [upd]
        · simp [upd]
        · simp [upd]
      have n0 := s1.1
      simp only [eX7_readPart_187, eX7_readPart_188, eX7_readPart_189, eX7_readPart_192, eX7_readPart_193, eX7_readPart_194, eX7_readPart_197, eX7_readPart_198, eX7_readPart_199, pe_aload_0, pe_bin, pe_callV_0, pe_const, pe_dup_i, pe_dup_r, pe_getf, pe_putf, m0, n0, m_g18, m_p18, m_o, h18, nisw, hget_hset, ia_l, ia_s, vin, opl, onl, Int32.reduceLT, Int32.reduceLE, Int32.reduceAdd, Int32.reduceSub, Nat.reduceLT, Nat.reduceAdd, Nat.reduceEqDiff, ↓reduceIte, true_and, and_true, List.length_nil, List.length_cons, Nat.reduceLeDiff, Nat.zero_le]
      refine sp_mbegins hw (hr.qs s1.2.2.2.2.2.2.2.2.2.1 s1.2.2.2.2.2.2.2.2.2.2.1 s1.2.2.2.2.2.2.2.2.2.2.2) n0 s1.2.1 s1.2.2.2.2.2.2.1 ?_
      rw [L2]
      simp only [eX7_readPart_202, pe_callV_1, n0, m_o, hget_hset, ia_l, ia_s, vin, opl, onl, Int32.reduceLT, Int32.reduceLE, Int32.reduceAdd, Int32.reduceSub, Nat.reduceLT, Nat.reduceAdd, Nat.reduceEqDiff, ↓reduceIte, true_and, and_true, List.length_nil, List.length_cons, Nat.reduceLeDiff, Nat.zero_le]
      have hA6 : (iN 0 9 (tx (i + 1) - 48) && !decide (nI L >>> ((tx (i + 1) - 48) &&& 31) &&& 1 = 0)) = fitB 6 f0 K (tx (i + 1)) := by
        refine fa_set (K := K) (T := dF K) n6 L1 (fun b hb => ?_) (fun y hy => dF_hP hy)
        rw [L3 b hb]
        constructor
        · exact fun w => w.2
        · intro w
          obtain ⟨-, p2, -, -⟩ := hP_of n6 (dF_hP w)
          rw [nI_clamp (by omega)] at p2
          exact ⟨p2, w⟩
      refine sp_fig (K := K) (i := i + 1) (g := 6) (f := f0) (s := s0) s1 mt hlen h17 (by simp [upd]) (by simp [upd, h19]) (by omega) (by omega) hA6 ?_ ?_
      · intro H1 q1 t1 t19 t18 tf
        have y0 := t1.1
        have y7 : q1 7 = nI K.n := t1.2.2.2.2.2.2.2.2.2.2.1.trans h7
        have e0 : (0 : Int32) = nI 0 := rfl
        simp only [eX7_readPart_205, eX7_readPart_206, eX7_readPart_207, eX7_readPart_208, eX7_readPart_209, pe_aload_0, pe_callV_1, pe_iload_3, pe_istore_3, y0, m_o, hget_hset, ia_l, ia_s, vin, opl, onl, Int32.reduceLT, Int32.reduceLE, Int32.reduceAdd, Int32.reduceSub, Nat.reduceLT, Nat.reduceAdd, Nat.reduceEqDiff, ↓reduceIte, true_and, and_true, List.length_nil, List.length_cons, Nat.reduceLeDiff, Nat.zero_le]
        rw [e0]
        refine sp_mleft (p := 0) (n := K.n) y0 t1.2.2.2.2.2.2.1 y7 (by omega) ?_
        simp only [eX7_readPart_212, pe_callV_1, y0, m_o, hget_hset, ia_l, ia_s, vin, opl, onl, Int32.reduceLT, Int32.reduceLE, Int32.reduceAdd, Int32.reduceSub, Nat.reduceLT, Nat.reduceAdd, Nat.reduceEqDiff, ↓reduceIte, true_and, and_true, List.length_nil, List.length_cons, Nat.reduceLeDiff, Nat.zero_le]
        refine sp_fig0 (f := i + 1) (i := i + 1) t1 mt hlen h17 t18 (by omega) t19 (by omega) ?_
        intro H2 t2
        simp only [eX7_readPart_215, pe_istore_4, hget_hset, ia_l, ia_s, vin, opl, onl, Int32.reduceLT, Int32.reduceLE, Int32.reduceAdd, Int32.reduceSub, Nat.reduceLT, Nat.reduceAdd, Nat.reduceEqDiff, ↓reduceIte, true_and, and_true, List.length_nil, List.length_cons, Nat.reduceLeDiff, Nat.zero_le]
        refine rp_out3 (f := i + 1) (i := i + 1) t2 mt hlen h17 t18 (by omega) t19 (by omega) ?_
        intro H3 t3
        exact hP.1 H3 q1 (i + 1) t3.1 t3.mB t19 (by omega) (by rw [st]; exact tf) t3.2.2.2.2.2.2.2.1 t3.2.2.2.2.2.2.2.2.1
      · intro H1 q1 t1 t18 t19 tl tr tb
        have y0 := t1.1
        have y7 : q1 7 = nI K.n := t1.2.2.2.2.2.2.2.2.2.2.1.trans h7
        have tk : takeS (6, f0, s0, K) (tx (i + 1)) = (7, tx (i + 1) - 48, s0, K) := rfl
        rw [tk] at tr
        have dFa : dF K (tx (i + 1) - 48) = true := tb
        obtain ⟨-, pA, pA6, eA⟩ := hP_of n6 (dF_hP dFa)
        generalize hAn : (tx (i + 1) - 48).toNatClampNeg = A at pA pA6 eA
        rw [eA] at dFa tr
        obtain ⟨db, dc⟩ := dF_bits hw hr pA
        have k01 := (db.mp dFa).1
        obtain ⟨L', l1, l2, l3⟩ := dc k01
        simp only [eX7_readPart_205, eX7_readPart_206, eX7_readPart_207, eX7_readPart_208, eX7_readPart_209, pe_aload_0, pe_callV_1, pe_iload_3, pe_istore_3, y0, m_o, eA, hget_hset, ia_l, ia_s, vin, opl, onl, Int32.reduceLT, Int32.reduceLE, Int32.reduceAdd, Int32.reduceSub, Nat.reduceLT, Nat.reduceAdd, Nat.reduceEqDiff, ↓reduceIte, true_and, and_true, List.length_nil, List.length_cons, Nat.reduceLeDiff, Nat.zero_le]
        refine sp_mleft (p := A) (n := K.n) y0 t1.2.2.2.2.2.2.1 y7 pA6 ?_
        rw [l2]
        simp only [eX7_readPart_212, pe_callV_1, y0, m_o, hget_hset, ia_l, ia_s, vin, opl, onl, Int32.reduceLT, Int32.reduceLE, Int32.reduceAdd, Int32.reduceSub, Nat.reduceLT, Nat.reduceAdd, Nat.reduceEqDiff, ↓reduceIte, true_and, and_true, List.length_nil, List.length_cons, Nat.reduceLeDiff, Nat.zero_le]
        have hA7 : (iN 0 9 (tx (i + 2) - 48) && !decide (nI L' >>> ((tx (i + 2) - 48) &&& 31) &&& 1 = 0)) = fitB 7 (nI A) K (tx (i + 2)) := fa_set (K := K) (T := dT K (nI A)) n6 l1 l3 (fun y hy => (dT_iff.mp hy).2.1)
        refine sp_fig (K := K) (i := i + 2) (g := 7) (f := nI A) (s := s0) t1 mt hlen h17 t18 t19 (by omega) (by omega) hA7 ?_ ?_
        · intro H2 q2 t2 u19 u18 uf
          simp only [eX7_readPart_215, pe_istore_4, hget_hset, ia_l, ia_s, vin, opl, onl, Int32.reduceLT, Int32.reduceLE, Int32.reduceAdd, Int32.reduceSub, Nat.reduceLT, Nat.reduceAdd, Nat.reduceEqDiff, ↓reduceIte, true_and, and_true, List.length_nil, List.length_cons, Nat.reduceLeDiff, Nat.zero_le]
          refine rp_out3 (f := i + 2) (i := i + 2) t2 mt hlen h17 u18 (by omega) u19 (by omega) ?_
          intro H3 t3
          exact hP.1 H3 q2 (i + 2) t3.1 t3.mB u19 (by omega) (by rw [st, tr]; exact uf) t3.2.2.2.2.2.2.2.1 t3.2.2.2.2.2.2.2.2.1
        · intro H2 q2 t2 u18 u19 ul ur ub
          have tk2 : takeS (7, nI A, s0, K) (tx (i + 2)) = (8, nI A, tx (i + 2) - 48, K) := rfl
          rw [tk2] at ur
          have dTb : dT K (nI A) (tx (i + 2) - 48) = true := ub
          obtain ⟨-, pB, pB6, eB⟩ := hP_of n6 (dT_iff.mp dTb).2.1
          generalize hBn : (tx (i + 2) - 48).toNatClampNeg = B at pB pB6 eB
          rw [eB] at dTb ur
          have z0 := t2.1
          simp only [eX7_readPart_215, eX7_readPart_217, eX7_readPart_218, eX7_readPart_219, pe_aload_0, pe_callV_1, pe_const, pe_istore_4, z0, m_o, eB, hget_hset, ia_l, ia_s, vin, opl, onl, Int32.reduceLT, Int32.reduceLE, Int32.reduceAdd, Int32.reduceSub, Nat.reduceLT, Nat.reduceAdd, Nat.reduceEqDiff, ↓reduceIte, true_and, and_true, List.length_nil, List.length_cons, Nat.reduceLeDiff, Nat.zero_le]
          refine sp_fig (K := K) (i := i + 3) (g := 8) (f := nI A) (s := nI B) t2 mt hlen h17 u18 u19 (by omega) (by omega) fa_3 ?_ ?_
          · intro H3 q3 t3 v19 v18 vf
            simp only [eX7_readPart_222, pe_istore_5, hget_hset, ia_l, ia_s, vin, opl, onl, Int32.reduceLT, Int32.reduceLE, Int32.reduceAdd, Int32.reduceSub, Nat.reduceLT, Nat.reduceAdd, Nat.reduceEqDiff, ↓reduceIte, true_and, and_true, List.length_nil, List.length_cons, Nat.reduceLeDiff, Nat.zero_le]
            exact rp_out t3 v19 (by omega) (hP.1 H3 q3 (i + 3) t3.1 t3.mB v19 (by omega) (by rw [st, tr, ur]; exact vf) t3.2.2.2.2.2.2.2.1 t3.2.2.2.2.2.2.2.2.1)
          · intro H3 q3 t3 v18 v19 vl vr vb
            have tk3 : takeS (8, nI A, nI B, K) (tx (i + 3)) = (1, nI A, nI B, adD K (nI A) (nI B) (tx (i + 3) - 48)) := rfl
            rw [tk3] at vr
            have k01' : tx (i + 3) - 48 = 0 ∨ tx (i + 3) - 48 = 1 := by
              have : (decide (tx (i + 3) - 48 = 0) || decide (tx (i + 3) - 48 = 1)) = true := vb
              simpa using this
            obtain ⟨w0, w1, w2, w3, w4, w5, w6, w7, w8, w9, w10, w11⟩ := id t3
            simp only [eX7_readPart_222, pe_istore_5, hget_hset, ia_l, ia_s, vin, opl, onl, Int32.reduceLT, Int32.reduceLE, Int32.reduceAdd, Int32.reduceSub, Nat.reduceLT, Nat.reduceAdd, Nat.reduceEqDiff, ↓reduceIte, true_and, and_true, List.length_nil, List.length_cons, Nat.reduceLeDiff, Nat.zero_le]
            refine rp_store t3 v19 m6 h8 pA6 ?_
            intro H4 q4 e0 e1 e2 e3 e4 e5 e6 e7 e8
            subst e8
            refine hP.2 H4 _ (i + 4) (adD K (nI A) (nI B) (tx (i + 3) - 48)) (nI A) (nI B) ⟨e0, (e7 _ (by omega)).trans mt, ?_, ?_, ?_, rk, rh, rr, upd rf K.m (nI A), upd rt K.m (nI B), upd rg A (rg A ||| b1 B), e1, e2, e3, e4, e5, e6, rdRel_adD hw m6 rfl rfl pA pB dTb hr ?_ ?_ ?_⟩ (wfL_adD hw m6 dTb k01') (by omega) (by omega) (by rw [st, tr, ur, vr]) e7 ((w8.tr (eQ_upd (by omega))).tr (eQ_upd (by omega)))
            · rw [upd_n (by omega), upd_n (by omega)]; exact t3.q17.trans h17
            · rw [upd_n (by omega), upd_n (by omega)]; exact v18
            · rw [upd_n (by omega), upd_n (by omega)]; exact v19
            · rw [upd_n (by omega), upd_y]
            · rw [upd_n (by omega), upd_n (by omega)]; exact w10
            · rw [upd_y]
  · rw [if_neg m6]
    exact rp_bad hq hil hP (by rw [fit]; cases e : dG K with | false => rfl | true => exact absurd (dG'.mp e).1 m6)
set_option maxRecDepth 100000 in
theorem sp_mreadPart (hq : mQ G q sd tx len i K) (hw : wfL K) (hil : i < len) (hlen : len ≤ 48) (hP : pO G q sd tx len i K f0 s0 Q) : pcal (d + 3) 100 [.ref 124, .int (tx i)] G Q := by
  obtain ⟨m0, mt, h17, h18, h19, rk, rh, rr, rf, rt, rg, a1, a2, a3, a4, a5, a6, hr⟩ := id hq
  have n6 := hw.1
  have h7 := hr.2.1
  have em : (nI K.n < 6) = (K.n < 6) := by
    apply propext
    exact nI_ltI (b := 6) (by omega) (by omega)
  have full : ∀ (srt : Int32), ¬ srt = -9 → (tx i = 68 ∨ tx i = 77 ∨ tx i = 83 ∨ tx i = 84) → ¬ K.n < 6 → ¬ tx i = 67 → pr (d + 2) 100 (G.1 + 0, G.2.1 + 0) Q 43 [some (.ref 124), some (.int (tx i)), some (.int srt), none, none, none] [] G := by
    intro srt hs hx h6 h67
    simp only [eX7_readPart_43, eX7_readPart_44, eX7_readPart_46, eX7_readPart_49, eX7_readPart_50, eX7_readPart_53, eX7_readPart_55, eX7_readPart_165, eX7_readPart_166, eX7_readPart_168, pe_aload_0, pe_const, pe_getf, pe_iceq, pe_iclt, pe_iload_1, pe_iload_2, m0, m_g7, h7, em, hs, h6, h67, hget_hset, ia_l, ia_s, vin, opl, onl, Int32.reduceLT, Int32.reduceLE, Int32.reduceAdd, Int32.reduceSub, Nat.reduceLT, Nat.reduceAdd, Nat.reduceEqDiff, ↓reduceIte, true_and, and_true, List.length_nil, List.length_cons, Nat.reduceLeDiff, Nat.zero_le]
    exact rp_bad hq hil hP (by simp [fitB, h67, hx, h6])
  refine inX7_readPart ?_
  simp only [eX7_readPart_0, eX7_readPart_1, eX7_readPart_3, pe_const, pe_iceq, pe_iload_1, hget_hset, ia_l, ia_s, vin, opl, onl, Int32.reduceLT, Int32.reduceLE, Int32.reduceAdd, Int32.reduceSub, Nat.reduceLT, Nat.reduceAdd, Nat.reduceEqDiff, ↓reduceIte, true_and, and_true, List.length_nil, List.length_cons, Nat.reduceLeDiff, Nat.zero_le]
  by_cases x1 : tx i = 68
  · rw [if_pos x1]
    simp only [eX7_readPart_6, eX7_readPart_7, eX7_readPart_42, pe_const, pe_goto, pe_istore_2, hget_hset, ia_l, ia_s, vin, opl, onl, Int32.reduceLT, Int32.reduceLE, Int32.reduceAdd, Int32.reduceSub, Nat.reduceLT, Nat.reduceAdd, Nat.reduceEqDiff, ↓reduceIte, true_and, and_true, List.length_nil, List.length_cons, Nat.reduceLeDiff, Nat.zero_le]
    by_cases h6 : K.n < 6
    · exact rp_D hq hw hil hlen hP h6 x1
    · exact full 0 (by decide) (Or.inl x1) h6 (by rw [x1]; decide)
  · rw [if_neg x1]
    simp only [eX7_readPart_10, eX7_readPart_11, eX7_readPart_13, pe_const, pe_iceq, pe_iload_1, hget_hset, ia_l, ia_s, vin, opl, onl, Int32.reduceLT, Int32.reduceLE, Int32.reduceAdd, Int32.reduceSub, Nat.reduceLT, Nat.reduceAdd, Nat.reduceEqDiff, ↓reduceIte, true_and, and_true, List.length_nil, List.length_cons, Nat.reduceLeDiff, Nat.zero_le]
    by_cases x2 : tx i = 83
    · rw [if_pos x2]
      simp only [eX7_readPart_16, eX7_readPart_17, eX7_readPart_42, pe_const, pe_goto, pe_istore_2, hget_hset, ia_l, ia_s, vin, opl, onl, Int32.reduceLT, Int32.reduceLE, Int32.reduceAdd, Int32.reduceSub, Nat.reduceLT, Nat.reduceAdd, Nat.reduceEqDiff, ↓reduceIte, true_and, and_true, List.length_nil, List.length_cons, Nat.reduceLeDiff, Nat.zero_le]
      by_cases h6 : K.n < 6
      · exact rp_S hq hw hil hlen hP h6 x2
      · exact full 1 (by decide) (Or.inr (Or.inr (Or.inl x2))) h6 (by rw [x2]; decide)
    · rw [if_neg x2]
      simp only [eX7_readPart_20, eX7_readPart_21, eX7_readPart_23, pe_const, pe_iceq, pe_iload_1, hget_hset, ia_l, ia_s, vin, opl, onl, Int32.reduceLT, Int32.reduceLE, Int32.reduceAdd, Int32.reduceSub, Nat.reduceLT, Nat.reduceAdd, Nat.reduceEqDiff, ↓reduceIte, true_and, and_true, List.length_nil, List.length_cons, Nat.reduceLeDiff, Nat.zero_le]
      by_cases x3 : tx i = 77
      · rw [if_pos x3]
        simp only [eX7_readPart_26, eX7_readPart_27, eX7_readPart_42, pe_const, pe_goto, pe_istore_2, hget_hset, ia_l, ia_s, vin, opl, onl, Int32.reduceLT, Int32.reduceLE, Int32.reduceAdd, Int32.reduceSub, Nat.reduceLT, Nat.reduceAdd, Nat.reduceEqDiff, ↓reduceIte, true_and, and_true, List.length_nil, List.length_cons, Nat.reduceLeDiff, Nat.zero_le]
        by_cases h6 : K.n < 6
        · exact rp_M hq hw hil hlen hP h6 x3
        · exact full 2 (by decide) (Or.inr (Or.inl x3)) h6 (by rw [x3]; decide)
      · rw [if_neg x3]
        simp only [eX7_readPart_30, eX7_readPart_31, eX7_readPart_33, pe_const, pe_iceq, pe_iload_1, hget_hset, ia_l, ia_s, vin, opl, onl, Int32.reduceLT, Int32.reduceLE, Int32.reduceAdd, Int32.reduceSub, Nat.reduceLT, Nat.reduceAdd, Nat.reduceEqDiff, ↓reduceIte, true_and, and_true, List.length_nil, List.length_cons, Nat.reduceLeDiff, Nat.zero_le]
        by_cases x4 : tx i = 84
        · rw [if_pos x4]
          simp only [eX7_readPart_36, eX7_readPart_37, eX7_readPart_42, pe_const, pe_goto, pe_istore_2, hget_hset, ia_l, ia_s, vin, opl, onl, Int32.reduceLT, Int32.reduceLE, Int32.reduceAdd, Int32.reduceSub, Nat.reduceLT, Nat.reduceAdd, Nat.reduceEqDiff, ↓reduceIte, true_and, and_true, List.length_nil, List.length_cons, Nat.reduceLeDiff, Nat.zero_le]
          by_cases h6 : K.n < 6
          · exact rp_T hq hw hil hlen hP h6 x4
          · exact full 3 (by decide) (Or.inr (Or.inr (Or.inr x4))) h6 (by rw [x4]; decide)
        · rw [if_neg x4]
          simp only [eX7_readPart_40, eX7_readPart_42, eX7_readPart_43, eX7_readPart_44, eX7_readPart_46, eX7_readPart_165, eX7_readPart_166, eX7_readPart_168, pe_const, pe_iceq, pe_iload_1, pe_iload_2, pe_istore_2, hget_hset, ia_l, ia_s, vin, opl, onl, Int32.reduceLT, Int32.reduceLE, Int32.reduceAdd, Int32.reduceSub, Nat.reduceLT, Nat.reduceAdd, Nat.reduceEqDiff, ↓reduceIte, true_and, and_true, List.length_nil, List.length_cons, Nat.reduceLeDiff, Nat.zero_le]
          by_cases x5 : tx i = 67
          · rw [if_pos x5]
            exact rp_C hq hw hil hlen hP x5
          · rw [if_neg x5]
            exact rp_bad hq hil hP (by simp [fitB, x1, x2, x3, x4, x5])
/-- the text read: what comes of it -/
def rdA (tx : Nat → Int32) (len : Nat) (K : Ld) : Int32 × Ld := rdC tx len len 0 (0, 0, 0, clK K)
set_option maxRecDepth 100000 in
theorem sp_mreadText {K0 : Ld} {f1 s1 : Int32} (m0 : hget G 124 = some (c_m q sd)) (hB : mB G) (mt : hget G 136 = some (c_ia 48 tx)) (h17 : q 17 = nI len) (hlen : len ≤ 48)
    (hF : ∀ G' q' f, hget G' 124 = some (c_m q' sd) → mB G' → f ≤ len → (rdC tx len len 0 (0, f1, s1, clK K0)).1 = nI f → fQ G G' → eQ q q' → Q (some (.int (nI f))) G')
    (hO : ∀ G' q' K', mQ G' q' sd tx len len K' → wfL K' → rdC tx len len 0 (0, f1, s1, clK K0) = (-9, K') → fQ G G' → eQ q q' → Q (some (.int (-9))) G') : pcal (d + 4) 99 [.ref 124] G Q := by
  obtain ⟨rk, rh, rr, rf, rt, rg, a1, a2, a3, a4, a5, a6⟩ := hB
  have key : ∀ n i, n = len - i → ∀ H q' K' f s, i ≤ len → mQ H q' sd tx len i K' → wfL K' → rdC tx len len 0 (0, f1, s1, clK K0) = rdC tx len (len - i) i (1, f, s, K') → fQ G H → eQ q q' → pr (d + 3) 99 (G.1 + 0, G.2.1 + 0) Q 51 [some (.ref 124)] [] H := by
    intro n
    induction n using Nat.strongRecOn with
    | _ n ih =>
      intro i hn H q' K' f s hi hq hw he hf hqq
      obtain ⟨b0, bt', b17, b18, b19, -⟩ := id hq
      rw [eX7_readText_51]
      by_cases il : i < len
      · have c1 : nI i < nI len := nI_lt il (by omega)
        have c3 : (nI i).toNatClampNeg = i := nI_clamp (by omega)
        have c4 : 0 ≤ nI i := nI_pos' (by omega)
        have c5 : i < 48 := by omega
        simp only [eX7_readText_52, eX7_readText_55, eX7_readText_57, eX7_readText_60, eX7_readText_61, eX7_readText_64, eX7_readText_65, eX7_readText_68, eX7_readText_71, eX7_readText_72, eX7_readText_73, eX7_readText_76, eX7_readText_77, eX7_readText_80, eX7_readText_81, pe_aload_0, pe_callV_1, pe_const, pe_getf, pe_iald, pe_iceq, pe_iclt, b0, bt', m_g16, m_g17, m_g18, m_g19, m_o, b17, b18, b19, c1, c3, c4, c5, hget_hset, ia_l, ia_s, vin, opl, onl, Int32.reduceLT, Int32.reduceLE, Int32.reduceAdd, Int32.reduceSub, Nat.reduceLT, Nat.reduceAdd, Nat.reduceEqDiff, ↓reduceIte, true_and, and_true, List.length_nil, List.length_cons, Nat.reduceLeDiff, Nat.zero_le]
        refine sp_mreadPart (f0 := f) (s0 := s) hq hw il hlen ⟨?_, ?_⟩
        · intro G' q'' g e0 e1 e2 e3 e4 e5 e6
          have n9 : ¬ nI g = -9 := m9_nI (by omega)
          simp only [eX7_readText_84, eX7_readText_51, eX7_readText_52, eX7_readText_55, eX7_readText_57, eX7_readText_87, eX7_readText_88, eX7_readText_91, pe_aload_0, pe_const, pe_getf, pe_goto, pe_iceq, pe_iret, e0, m_g19, e2, n9, hget_hset, ia_l, ia_s, vin, opl, onl, Int32.reduceLT, Int32.reduceLE, Int32.reduceAdd, Int32.reduceSub, Nat.reduceLT, Nat.reduceAdd, Nat.reduceEqDiff, ↓reduceIte, true_and, and_true, List.length_nil, List.length_cons, Nat.reduceLeDiff, Nat.zero_le]
          exact hF G' q'' g e0 e1 e3 (by rw [he]; exact e4) (hf.tr e5) (hqq.tr e6)
        · intro G' q'' i' K'' f' s' e0 e1 e2 e3 e4 e5 e6
          simp only [eX7_readText_84, pe_goto, hget_hset, ia_l, ia_s, vin, opl, onl, Int32.reduceLT, Int32.reduceLE, Int32.reduceAdd, Int32.reduceSub, Nat.reduceLT, Nat.reduceAdd, Nat.reduceEqDiff, ↓reduceIte, true_and, and_true, List.length_nil, List.length_cons, Nat.reduceLeDiff, Nat.zero_le]
          exact ih (len - i') (by omega) i' rfl G' q'' K'' f' s' e3 e0 e1 (he.trans e4) (hf.tr e5) (hqq.tr e6)
      · obtain rfl : i = len := by omega
        simp only [eX7_readText_52, eX7_readText_55, eX7_readText_57, eX7_readText_60, eX7_readText_61, eX7_readText_64, eX7_readText_65, eX7_readText_68, eX7_readText_87, eX7_readText_88, eX7_readText_91, pe_aload_0, pe_const, pe_getf, pe_iceq, pe_iclt, pe_iret, b0, m_g17, m_g18, m_g19, b17, b18, b19, niE, hget_hset, ia_l, ia_s, vin, opl, onl, Int32.reduceLT, Int32.reduceLE, Int32.reduceAdd, Int32.reduceSub, Nat.reduceLT, Nat.reduceAdd, Nat.reduceEqDiff, ↓reduceIte, true_and, and_true, List.length_nil, List.length_cons, Nat.reduceLeDiff, Nat.zero_le]
        rw [rdC_e] at he
        exact hO H q' K' hq hw (by rw [he]; rfl) hf hqq
  have q0 : ∀ x, eQ q (upd (upd (upd (upd (upd q 18 0) 19 x) 7 0) 8 0) 6 0) := fun x => ((((eQ_upd (by omega)).tr (eQ_upd (by omega))).tr (eQ_upd (by omega))).tr (eQ_upd (by omega))).tr (eQ_upd (by omega))
  refine inX7_readText ?_
  have l17 : (nI len = 0) = (len = 0) := by
    apply propext
    exact nI_eq (b := 0) (by omega) (by omega)
  have c0 : (0 : Int32).toNatClampNeg = 0 := by decide
  have fr0 : ∀ c1 c2 c3 c4 c5 : px_E, fQ G (hset (hset (hset (hset (hset G 124 c1) 124 c2) 124 c3) 124 c4) 124 c5) := fun c1 c2 c3 c4 c5 k hk => by
    rw [hget_ne (by omega), hget_ne (by omega), hget_ne (by omega), hget_ne (by omega), hget_ne (by omega)]
  have mB0 : ∀ c1 c2 c3 c4 c5 : px_E, mB (hset (hset (hset (hset (hset G 124 c1) 124 c2) 124 c3) 124 c4) 124 c5) := fun c1 c2 c3 c4 c5 => ⟨rk, rh, rr, rf, rt, rg, by simp only [hget_hset, Nat.reduceEqDiff, ↓reduceIte]; exact a1, by simp only [hget_hset, Nat.reduceEqDiff, ↓reduceIte]; exact a2, by simp only [hget_hset, Nat.reduceEqDiff, ↓reduceIte]; exact a3, by simp only [hget_hset, Nat.reduceEqDiff, ↓reduceIte]; exact a4, by simp only [hget_hset, Nat.reduceEqDiff, ↓reduceIte]; exact a5, by simp only [hget_hset, Nat.reduceEqDiff, ↓reduceIte]; exact a6⟩
  have h17' : ∀ x, upd (upd (upd (upd (upd q 18 0) 19 x) 7 0) 8 0) 6 0 17 = nI len := fun x => by simp [upd, h17]
  simp only [eX7_readText_0, eX7_readText_1, eX7_readText_2, eX7_readText_5, eX7_readText_6, eX7_readText_8, eX7_readText_11, eX7_readText_12, eX7_readText_13, eX7_readText_16, eX7_readText_17, eX7_readText_18, eX7_readText_21, eX7_readText_22, eX7_readText_23, eX7_readText_26, eX7_readText_27, eX7_readText_30, pe_aload_0, pe_const, pe_getf, pe_ifeq, pe_putf, m0, m_g17, m_p6, m_p7, m_p8, m_p18, m_p19, h17', l17, hget_hset, ia_l, ia_s, vin, opl, onl, Int32.reduceLT, Int32.reduceLE, Int32.reduceAdd, Int32.reduceSub, Nat.reduceLT, Nat.reduceAdd, Nat.reduceEqDiff, ↓reduceIte, true_and, and_true, List.length_nil, List.length_cons, Nat.reduceLeDiff, Nat.zero_le]
  by_cases z : len = 0
  · rw [if_pos z]
    simp only [eX7_readText_44, eX7_readText_45, pe_const, pe_iret, hget_hset, ia_l, ia_s, vin, opl, onl, Int32.reduceLT, Int32.reduceLE, Int32.reduceAdd, Int32.reduceSub, Nat.reduceLT, Nat.reduceAdd, Nat.reduceEqDiff, ↓reduceIte, true_and, and_true, List.length_nil, List.length_cons, Nat.reduceLeDiff, Nat.zero_le]
    subst z
    exact hF _ _ 0 (hget_self _ _ _) (mB0 _ _ _ _ _) (by omega) rfl (fr0 _ _ _ _ _) (q0 _)
  · rw [if_neg z]
    simp only [eX7_readText_33, eX7_readText_34, eX7_readText_37, eX7_readText_38, eX7_readText_39, eX7_readText_41, pe_aload_0, pe_const, pe_getf, pe_iald, pe_iceq, m_g16, mt, c0, hget_hset, ia_l, ia_s, vin, opl, onl, Int32.reduceLT, Int32.reduceLE, Int32.reduceAdd, Int32.reduceSub, Nat.reduceLT, Nat.reduceAdd, Nat.reduceEqDiff, ↓reduceIte, true_and, and_true, List.length_nil, List.length_cons, Nat.reduceLeDiff, Nat.zero_le]
    have st := rdC_s (tx := tx) (len := len) (i := 0) (r := (0, f1, s1, clK K0)) (by omega)
    rw [Nat.sub_zero] at st
    dsimp only at st
    by_cases r : tx 0 = 82
    · rw [if_pos r]
      simp only [eX7_readText_46, eX7_readText_47, eX7_readText_48, pe_aload_0, pe_const, pe_putf, m_p18, hget_hset, ia_l, ia_s, vin, opl, onl, Int32.reduceLT, Int32.reduceLE, Int32.reduceAdd, Int32.reduceSub, Nat.reduceLT, Nat.reduceAdd, Nat.reduceEqDiff, ↓reduceIte, true_and, and_true, List.length_nil, List.length_cons, Nat.reduceLeDiff, Nat.zero_le]
      rw [if_pos (by simp [fitB, r])] at st
      have q1 : eQ q (upd (upd (upd (upd (upd (upd q 18 0) 19 (-9)) 7 0) 8 0) 6 0) 18 1) := (q0 _).tr (eQ_upd (by omega))
      refine key (len - 1) 1 rfl _ (upd (upd (upd (upd (upd (upd q 18 0) 19 (-9)) 7 0) 8 0) 6 0) 18 1) (clK K0) f1 s1 (by omega) ⟨hget_self _ _ _, ?_, ?_, ?_, ?_, rk, rh, rr, rf, rt, rg, ?_, ?_, ?_, ?_, ?_, ?_, ⟨?_, ?_, ?_, fun p hp => (Nat.not_lt_zero p hp).elim, fun p hp => (Nat.not_lt_zero p hp).elim, fun p hp => (Nat.not_lt_zero p hp).elim⟩⟩ (wfL_cl K0) st ?_ q1
      · simp only [hget_hset, Nat.reduceEqDiff, ↓reduceIte]; exact mt
      · simp [upd, h17]
      · simp [upd]; rfl
      · simp [upd]
      · simp only [hget_hset, Nat.reduceEqDiff, ↓reduceIte]; exact a1
      · simp only [hget_hset, Nat.reduceEqDiff, ↓reduceIte]; exact a2
      · simp only [hget_hset, Nat.reduceEqDiff, ↓reduceIte]; exact a3
      · simp only [hget_hset, Nat.reduceEqDiff, ↓reduceIte]; exact a4
      · simp only [hget_hset, Nat.reduceEqDiff, ↓reduceIte]; exact a5
      · simp only [hget_hset, Nat.reduceEqDiff, ↓reduceIte]; exact a6
      · simp [upd]; rfl
      · simp [upd]; rfl
      · simp [upd]; rfl
      · intro k hk
        rw [hget_ne (by omega)]
        exact fr0 _ _ _ _ _ k hk
    · rw [if_neg r]
      simp only [eX7_readText_44, eX7_readText_45, pe_const, pe_iret, hget_hset, ia_l, ia_s, vin, opl, onl, Int32.reduceLT, Int32.reduceLE, Int32.reduceAdd, Int32.reduceSub, Nat.reduceLT, Nat.reduceAdd, Nat.reduceEqDiff, ↓reduceIte, true_and, and_true, List.length_nil, List.length_cons, Nat.reduceLeDiff, Nat.zero_le]
      rw [if_neg (by simp [fitB, r])] at st
      exact hF _ _ 0 (hget_self _ _ _) (mB0 _ _ _ _ _) (by omega) (by rw [st]) (fr0 _ _ _ _ _) (q0 _)
end MTx
