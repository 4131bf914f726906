/-! ===== the reference: a part of a text, walked ===== -/
section MPu
variable {d : Nat} {G H : px_H} {q q' : Nat → Int32} {sd : Int64} {K : Ld} {Q : px_Q} {lim : Nat × Nat} {rk rh rr rf rt rg tx : Nat → Int32} {len i : Nat} {f0 s0 : Int32}
theorem rdRel.qs (h : rdRel K q rk rh rr rf rt rg) (h6 : q' 6 = q 6) (h7 : q' 7 = q 7) (h8 : q' 8 = q 8) : rdRel K q' rk rh rr rf rt rg := ⟨h6.trans h.1, h7.trans h.2.1, h8.trans h.2.2.1, h.2.2.2⟩
/-- what comes of a part: a fault, or a land with one thing more -/
def pO (G : px_H) (q : Nat → Int32) (sd : Int64) (tx : Nat → Int32) (len i : Nat) (K : Ld) (f0 s0 : Int32) (Q : px_Q) : Prop :=
  (∀ G' q' f, hget G' 124 = some (c_m q' sd) → mB G' → q' 19 = nI f → f ≤ len → (rdC tx len (len - i) i (1, f0, s0, K)).1 = nI f → fQ G G' → eQ q q' → Q none G') ∧
  (∀ G' q' i' K' f' s', mQ G' q' sd tx len i' K' → wfL K' → i < i' → i' ≤ len → rdC tx len (len - i) i (1, f0, s0, K) = rdC tx len (len - i') i' (1, f', s', K') → fQ G G' → eQ q q' → Q none G')
theorem rp_ok {k s v h r : Int32} {i' : Nat} (hw : wfL K) (h6 : K.n < 6) (hr : rdRel K q rk rh rr rf rt rg) (ht : hget G 136 = some (c_ia 48 tx)) (h17 : q 17 = nI len) (h0 : k = 0 → h = s ∧ r = v) (h1 : k = 1 → h = s) (h2 : k = 2 → h = v)
    (e0 : hget H 124 = some (c_m q' sd)) (e1 : hget H 125 = some (c_ia 6 (upd rk K.n k))) (e2 : hget H 126 = some (c_ia 6 (upd rh K.n h))) (e3 : hget H 127 = some (c_ia 6 (upd rr K.n r))) (e4 : hget H 128 = some (c_ia 6 rf)) (e5 : hget H 129 = some (c_ia 6 rt)) (e6 : hget H 130 = some (c_ia 6 (upd rg K.n 0))) (hf : fQ G H) (hq : eQ q q') (q6 : q' 6 = q 6) (q7 : q' 7 = nI (K.n + 1)) (q8 : q' 8 = q 8) (q18 : q' 18 = nI i') (q19 : q' 19 = -9) : mQ H q' sd tx len i' (adP K k s v) :=
  ⟨e0, (hf _ (by omega)).trans ht, (hq 17 (by omega) (by omega) (by omega) (by omega) (by omega)).trans h17, q18, q19, _, _, _, _, _, _, e1, e2, e3, e4, e5, e6, rdRel_adP hw h6 hr h0 h1 h2 q6 q7 q8⟩
theorem rd_letter {c : Int32} (hx : tx i = c) (hc : c = 68 ∨ c = 77 ∨ c = 83 ∨ c = 84) (h6 : K.n < 6) (hil : i < len) : rdC tx len (len - i) i (1, f0, s0, K) = rdC tx len (len - (i + 1)) (i + 1) (takeS (1, f0, s0, K) c) := by
  rw [rdC_s hil, hx]
  dsimp only
  have n67 : ¬ c = 67 := by rcases hc with e | e | e | e <;> rw [e] <;> decide
  have : fitB 1 f0 K c = true := by simp [fitB, n67, hc, h6]
  rw [if_pos this]
theorem fig_num {x : Int32} (h : iN 0 9 x = true) : 0 ≤ x.toInt ∧ x.toInt ≤ 9 := by
  obtain ⟨v, h1, rfl⟩ := i9_of h
  rw [nI_toInt (by omega)]
  omega
theorem fig_num1 {x : Int32} (h : iN 1 9 x = true) : 0 ≤ x.toInt ∧ x.toInt ≤ 9 := by
  refine fig_num ?_
  cases e : iN 0 9 x with
  | true => rfl
  | false => rw [iN_19f e] at h; exact h
theorem num0 : 0 ≤ (0 : Int32).toInt ∧ (0 : Int32).toInt ≤ 9 := by decide
set_option maxRecDepth 100000 in
theorem rp_T (hq : mQ G q sd tx len i K) (hw : wfL K) (hil : i < len) (hlen : len ≤ 48) (hP : pO G q sd tx len i K f0 s0 Q) (h6 : K.n < 6) (hx : tx i = 84) : pr (d + 2) 100 lim Q 43 [some (.ref 124), some (.int (tx i)), some (.int 3), none, none, none] [] G := by
  obtain ⟨m0, mt, h17, h18, h19, rk, rh, rr, rf, rt, rg, a1, a2, a3, a4, a5, a6, hr⟩ := id hq
  obtain ⟨c1, c2, c3⟩ := ni6 h6
  have h7 := hr.2.1
  simp only [eX7_readPart_43, eX7_readPart_44, eX7_readPart_46, eX7_readPart_49, eX7_readPart_50, eX7_readPart_53, eX7_readPart_55, eX7_readPart_58, eX7_readPart_59, eX7_readPart_60, eX7_readPart_63, eX7_readPart_64, eX7_readPart_65, eX7_readPart_68, eX7_readPart_69, eX7_readPart_72, eX7_readPart_73, eX7_readPart_76, eX7_readPart_77, eX7_readPart_78, eX7_readPart_79, eX7_readPart_82, eX7_readPart_83, eX7_readPart_86, eX7_readPart_87, eX7_readPart_88, eX7_readPart_89, eX7_readPart_92, eX7_readPart_93, eX7_readPart_96, eX7_readPart_97, eX7_readPart_98, eX7_readPart_101, eX7_readPart_102, pe_aload_0, pe_bin, pe_const, pe_dup_i, pe_dup_r, pe_getf, pe_goto, pe_iast, pe_iceq, pe_iclt, pe_iload_2, pe_putf, m0, a1, a6, m_g0, m_g1, m_g5, m_g7, m_g18, m_p18, h7, h18, c1, c2, c3, h6, nisw, ie_3_m9, upd, hget_hset, ia_l, ia_s, vin, opl, onl, Int32.reduceLT, Int32.reduceLE, Int32.reduceAdd, Int32.reduceSub, Nat.reduceLT, Nat.reduceAdd, Nat.reduceEqDiff, ↓reduceIte, true_and, and_true, List.length_nil, List.length_cons, Nat.reduceLeDiff, Nat.zero_le]
  refine rp_has (G := G) (q := q) (q' := upd q 18 (nI (i + 1))) (n := K.n) (rk := upd rk K.n 3) (rh := rh) (rr := rr) (rf := rf) (rt := rt) (rg := upd rg K.n 0) (sd := sd) ⟨?_, ?_, ?_, ?_, ?_, ?_, ?_, ?_, eQ_upd (by omega), ?_, ?_, ?_⟩ h7 h6 (by decide) ?_
  · simp only [hget_hset, Nat.reduceEqDiff, ↓reduceIte]
  · simp only [hget_hset, Nat.reduceEqDiff, ↓reduceIte]
  · simp only [hget_hset, Nat.reduceEqDiff, ↓reduceIte]; exact a2
  · simp only [hget_hset, Nat.reduceEqDiff, ↓reduceIte]; exact a3
  · simp only [hget_hset, Nat.reduceEqDiff, ↓reduceIte]; exact a4
  · simp only [hget_hset, Nat.reduceEqDiff, ↓reduceIte]; exact a5
  · simp only [hget_hset, Nat.reduceEqDiff, ↓reduceIte]
  · intro k hk; rw [hget_ne (by omega), hget_ne (by omega), hget_ne (by omega)]
  · simp [upd]
  · simp [upd]
  · simp [upd]
  · intro H' q'' b0 b1 b2 b3 b4 b5 b6 b7 b8 b9 b10 b11 b12 b13
    refine hP.2 H' q'' (i + 1) (adP K 3 0 0) f0 s0 (rp_ok (k := 3) (s := 0) (v := 0) (h := 0) (r := 0) hw h6 hr mt h17 (fun z => absurd z (by decide)) (fun z => absurd z (by decide)) (fun z => absurd z (by decide)) b0 b1 b2 b3 b4 b5 b6 b7 b8 b9 b10 b11 (b12.trans (by simp [upd])) (b13.trans (by simp [upd, h19]))) (wfL_adP hw h6 (by simp) num0 num0 (fun _ => rfl)) (by omega) (by omega) ?_ b7 b8
    rw [rd_letter hx (by simp) h6 hil]
    rfl
set_option maxRecDepth 100000 in
theorem rp_M (hq : mQ G q sd tx len i K) (hw : wfL K) (hil : i < len) (hlen : len ≤ 48) (hP : pO G q sd tx len i K f0 s0 Q) (h6 : K.n < 6) (hx : tx i = 77) : pr (d + 2) 100 lim Q 43 [some (.ref 124), some (.int (tx i)), some (.int 2), none, none, none] [] G := by
  obtain ⟨m0, mt, h17, h18, h19, rk, rh, rr, rf, rt, rg, a1, a2, a3, a4, a5, a6, hr⟩ := id hq
  obtain ⟨c1, c2, c3⟩ := ni6 h6
  have h7 := hr.2.1
  have st := rd_letter (f0 := f0) (s0 := s0) hx (by simp) h6 hil
  have tk : takeS (1, f0, s0, K) 77 = (5, f0, s0, K) := by simp [takeS]
  rw [tk] at st
  simp only [eX7_readPart_43, eX7_readPart_44, eX7_readPart_46, eX7_readPart_49, eX7_readPart_50, eX7_readPart_53, eX7_readPart_55, eX7_readPart_58, eX7_readPart_59, eX7_readPart_60, eX7_readPart_63, eX7_readPart_64, eX7_readPart_65, eX7_readPart_68, eX7_readPart_69, eX7_readPart_72, eX7_readPart_73, eX7_readPart_76, eX7_readPart_77, eX7_readPart_78, eX7_readPart_79, eX7_readPart_82, eX7_readPart_83, eX7_readPart_86, eX7_readPart_87, eX7_readPart_88, eX7_readPart_89, eX7_readPart_92, eX7_readPart_93, eX7_readPart_96, eX7_readPart_97, eX7_readPart_98, eX7_readPart_105, eX7_readPart_106, eX7_readPart_107, eX7_readPart_110, eX7_readPart_111, eX7_readPart_114, pe_aload_0, pe_bin, pe_callV_1, pe_const, pe_dup_i, pe_dup_r, pe_getf, pe_iast, pe_iceq, pe_iclt, pe_iload_2, pe_putf, m0, a1, a6, m_g0, m_g1, m_g5, m_g7, m_g18, m_p18, m_o, h7, h18, c1, c2, c3, h6, nisw, ie_2_m9, ie_2_3, upd, hget_hset, ia_l, ia_s, vin, opl, onl, Int32.reduceLT, Int32.reduceLE, Int32.reduceAdd, Int32.reduceSub, Nat.reduceLT, Nat.reduceAdd, Nat.reduceEqDiff, ↓reduceIte, true_and, and_true, List.length_nil, List.length_cons, Nat.reduceLeDiff, Nat.zero_le]
  refine sp_fig (G := G) (q := q) (q' := upd q 18 (nI (i + 1))) (K := K) (rk := upd rk K.n 2) (rh := rh) (rr := rr) (rf := rf) (rt := rt) (rg := upd rg K.n 0) (sd := sd) (len := len) (i := i + 1) (g := 5) (f := f0) (s := s0) (tx := tx) ⟨?_, ?_, ?_, ?_, ?_, ?_, ?_, ?_, eQ_upd (by omega), ?_, ?_, ?_⟩ mt hlen h17 (by simp [upd]) (by simp [upd, h19]) (by omega) (by omega) fa_1022 ?_ ?_
  · simp only [hget_hset, Nat.reduceEqDiff, ↓reduceIte]
  · simp only [hget_hset, Nat.reduceEqDiff, ↓reduceIte]
  · simp only [hget_hset, Nat.reduceEqDiff, ↓reduceIte]; exact a2
  · simp only [hget_hset, Nat.reduceEqDiff, ↓reduceIte]; exact a3
  · simp only [hget_hset, Nat.reduceEqDiff, ↓reduceIte]; exact a4
  · simp only [hget_hset, Nat.reduceEqDiff, ↓reduceIte]; exact a5
  · simp only [hget_hset, Nat.reduceEqDiff, ↓reduceIte]
  · intro k hk; rw [hget_ne (by omega), hget_ne (by omega), hget_ne (by omega)]
  · simp [upd]
  · simp [upd]
  · simp [upd]
  · intro H1 q1 s1 t19 t18 tf
    simp only [eX7_readPart_117, pe_goto, hget_hset, ia_l, ia_s, vin, opl, onl, Int32.reduceLT, Int32.reduceLE, Int32.reduceAdd, Int32.reduceSub, Nat.reduceLT, Nat.reduceAdd, Nat.reduceEqDiff, ↓reduceIte, true_and, and_true, List.length_nil, List.length_cons, Nat.reduceLeDiff, Nat.zero_le]
    refine rp_has s1 h7 h6 (by decide) ?_
    intro H' q'' b0 b1 b2 b3 b4 b5 b6 b7 b8 b9 b10 b11 b12 b13
    exact hP.1 H' q'' (i + 1) b0 ⟨_, _, _, _, _, _, b1, b2, b3, b4, b5, b6⟩ (b13.trans t19) (by omega) (by rw [st]; exact tf) b7 b8
  · intro H1 q1 s1 t18 t19 tl tr tb
    simp only [eX7_readPart_117, pe_goto, hget_hset, ia_l, ia_s, vin, opl, onl, Int32.reduceLT, Int32.reduceLE, Int32.reduceAdd, Int32.reduceSub, Nat.reduceLT, Nat.reduceAdd, Nat.reduceEqDiff, ↓reduceIte, true_and, and_true, List.length_nil, List.length_cons, Nat.reduceLeDiff, Nat.zero_le]
    refine rp_has s1 h7 h6 (by decide) ?_
    intro H' q'' b0 b1 b2 b3 b4 b5 b6 b7 b8 b9 b10 b11 b12 b13
    have fn := fig_num1 (x := tx (i + 1) - 48) tb
    refine hP.2 H' q'' (i + 2) (adP K 2 0 (tx (i + 1) - 48)) f0 s0 (rp_ok (k := 2) (s := 0) (v := tx (i + 1) - 48) (h := tx (i + 1) - 48) (r := 0) hw h6 hr mt h17 (fun z => absurd z (by decide)) (fun z => absurd z (by decide)) (fun _ => rfl) b0 b1 b2 b3 b4 b5 b6 b7 b8 b9 b10 b11 (b12.trans t18) (b13.trans t19)) (wfL_adP hw h6 (by simp) num0 fn (fun z => absurd z (by decide))) (by omega) (by omega) ?_ b7 b8
    rw [st, tr]
    rfl
set_option maxRecDepth 100000 in
theorem rp_S (hq : mQ G q sd tx len i K) (hw : wfL K) (hil : i < len) (hlen : len ≤ 48) (hP : pO G q sd tx len i K f0 s0 Q) (h6 : K.n < 6) (hx : tx i = 83) : pr (d + 2) 100 lim Q 43 [some (.ref 124), some (.int (tx i)), some (.int 1), none, none, none] [] G := by
  obtain ⟨m0, mt, h17, h18, h19, rk, rh, rr, rf, rt, rg, a1, a2, a3, a4, a5, a6, hr⟩ := id hq
  obtain ⟨c1, c2, c3⟩ := ni6 h6
  have h7 := hr.2.1
  have st := rd_letter (f0 := f0) (s0 := s0) hx (by simp) h6 hil
  have tk : takeS (1, f0, s0, K) 83 = (4, f0, s0, K) := by simp [takeS]
  rw [tk] at st
  simp only [eX7_readPart_43, eX7_readPart_44, eX7_readPart_46, eX7_readPart_49, eX7_readPart_50, eX7_readPart_53, eX7_readPart_55, eX7_readPart_58, eX7_readPart_59, eX7_readPart_60, eX7_readPart_63, eX7_readPart_64, eX7_readPart_65, eX7_readPart_68, eX7_readPart_69, eX7_readPart_72, eX7_readPart_73, eX7_readPart_76, eX7_readPart_77, eX7_readPart_78, eX7_readPart_79, eX7_readPart_82, eX7_readPart_83, eX7_readPart_86, eX7_readPart_87, eX7_readPart_88, eX7_readPart_89, eX7_readPart_92, eX7_readPart_93, eX7_readPart_96, eX7_readPart_97, eX7_readPart_98, eX7_readPart_105, eX7_readPart_106, eX7_readPart_107, eX7_readPart_120, eX7_readPart_121, eX7_readPart_124, pe_aload_0, pe_bin, pe_callV_1, pe_const, pe_dup_i, pe_dup_r, pe_getf, pe_iast, pe_iceq, pe_iclt, pe_iload_2, pe_putf, m0, a1, a6, m_g0, m_g1, m_g5, m_g7, m_g18, m_p18, m_o, h7, h18, c1, c2, c3, h6, nisw, ie_1_m9, ie_1_3, ie_1_2, upd, hget_hset, ia_l, ia_s, vin, opl, onl, Int32.reduceLT, Int32.reduceLE, Int32.reduceAdd, Int32.reduceSub, Nat.reduceLT, Nat.reduceAdd, Nat.reduceEqDiff, ↓reduceIte, true_and, and_true, List.length_nil, List.length_cons, Nat.reduceLeDiff, Nat.zero_le]
  refine sp_fig (G := G) (q := q) (q' := upd q 18 (nI (i + 1))) (K := K) (rk := upd rk K.n 1) (rh := rh) (rr := rr) (rf := rf) (rt := rt) (rg := upd rg K.n 0) (sd := sd) (len := len) (i := i + 1) (g := 4) (f := f0) (s := s0) (tx := tx) ⟨?_, ?_, ?_, ?_, ?_, ?_, ?_, ?_, eQ_upd (by omega), ?_, ?_, ?_⟩ mt hlen h17 (by simp [upd]) (by simp [upd, h19]) (by omega) (by omega) fa_1023 ?_ ?_
  · simp only [hget_hset, Nat.reduceEqDiff, ↓reduceIte]
  · simp only [hget_hset, Nat.reduceEqDiff, ↓reduceIte]
  · simp only [hget_hset, Nat.reduceEqDiff, ↓reduceIte]; exact a2
  · simp only [hget_hset, Nat.reduceEqDiff, ↓reduceIte]; exact a3
  · simp only [hget_hset, Nat.reduceEqDiff, ↓reduceIte]; exact a4
  · simp only [hget_hset, Nat.reduceEqDiff, ↓reduceIte]; exact a5
  · simp only [hget_hset, Nat.reduceEqDiff, ↓reduceIte]
  · intro k hk; rw [hget_ne (by omega), hget_ne (by omega), hget_ne (by omega)]
  · simp [upd]
  · simp [upd]
  · simp [upd]
  · intro H1 q1 s1 t19 t18 tf
    simp only [opl, onl]
    refine rp_has s1 h7 h6 (by decide) ?_
    intro H' q'' b0 b1 b2 b3 b4 b5 b6 b7 b8 b9 b10 b11 b12 b13
    exact hP.1 H' q'' (i + 1) b0 ⟨_, _, _, _, _, _, b1, b2, b3, b4, b5, b6⟩ (b13.trans t19) (by omega) (by rw [st]; exact tf) b7 b8
  · intro H1 q1 s1 t18 t19 tl tr tb
    simp only [opl, onl]
    refine rp_has s1 h7 h6 (by decide) ?_
    intro H' q'' b0 b1 b2 b3 b4 b5 b6 b7 b8 b9 b10 b11 b12 b13
    have fn := fig_num (x := tx (i + 1) - 48) tb
    refine hP.2 H' q'' (i + 2) (adP K 1 (tx (i + 1) - 48) 0) f0 s0 (rp_ok (k := 1) (s := tx (i + 1) - 48) (v := 0) (h := tx (i + 1) - 48) (r := 0) hw h6 hr mt h17 (fun z => absurd z (by decide)) (fun _ => rfl) (fun z => absurd z (by decide)) b0 b1 b2 b3 b4 b5 b6 b7 b8 b9 b10 b11 (b12.trans t18) (b13.trans t19)) (wfL_adP hw h6 (by simp) fn num0 (fun _ => rfl)) (by omega) (by omega) ?_ b7 b8
    rw [st, tr]
    rfl
set_option maxRecDepth 100000 in
theorem rp_D (hq : mQ G q sd tx len i K) (hw : wfL K) (hil : i < len) (hlen : len ≤ 48) (hP : pO G q sd tx len i K f0 s0 Q) (h6 : K.n < 6) (hx : tx i = 68) : pr (d + 2) 100 lim Q 43 [some (.ref 124), some (.int (tx i)), some (.int 0), none, none, none] [] G := by
  obtain ⟨m0, mt, h17, h18, h19, rk, rh, rr, rf, rt, rg, a1, a2, a3, a4, a5, a6, hr⟩ := id hq
  obtain ⟨c1, c2, c3⟩ := ni6 h6
  have h7 := hr.2.1
  have st := rd_letter (f0 := f0) (s0 := s0) hx (by simp) h6 hil
  have tk : takeS (1, f0, s0, K) 68 = (2, f0, s0, K) := by simp [takeS]
  rw [tk] at st
  simp only [eX7_readPart_43, eX7_readPart_44, eX7_readPart_46, eX7_readPart_49, eX7_readPart_50, eX7_readPart_53, eX7_readPart_55, eX7_readPart_58, eX7_readPart_59, eX7_readPart_60, eX7_readPart_63, eX7_readPart_64, eX7_readPart_65, eX7_readPart_68, eX7_readPart_69, eX7_readPart_72, eX7_readPart_73, eX7_readPart_76, eX7_readPart_77, eX7_readPart_78, eX7_readPart_79, eX7_readPart_82, eX7_readPart_83, eX7_readPart_86, eX7_readPart_87, eX7_readPart_88, eX7_readPart_89, eX7_readPart_92, eX7_readPart_93, eX7_readPart_96, eX7_readPart_97, eX7_readPart_98, eX7_readPart_105, eX7_readPart_106, eX7_readPart_107, eX7_readPart_120, eX7_readPart_121, eX7_readPart_124, pe_aload_0, pe_bin, pe_callV_1, pe_const, pe_dup_i, pe_dup_r, pe_getf, pe_iast, pe_iceq, pe_iclt, pe_iload_2, pe_putf, m0, a1, a6, m_g0, m_g1, m_g5, m_g7, m_g18, m_p18, m_o, h7, h18, c1, c2, c3, h6, nisw, ie_0_m9, ie_0_3, ie_0_2, upd, hget_hset, ia_l, ia_s, vin, opl, onl, Int32.reduceLT, Int32.reduceLE, Int32.reduceAdd, Int32.reduceSub, Nat.reduceLT, Nat.reduceAdd, Nat.reduceEqDiff, ↓reduceIte, true_and, and_true, List.length_nil, List.length_cons, Nat.reduceLeDiff, Nat.zero_le]
  have mid : ∀ H1 q1 h, aS G H1 q q1 sd (upd rk K.n 0) rh rr rf rt (upd rg K.n 0) → aS G (hset H1 126 (c_ia 6 (upd rh K.n h))) q q1 sd (upd rk K.n 0) (upd rh K.n h) rr rf rt (upd rg K.n 0) := by
    rintro H1 q1 h ⟨e0, e1, e2, e3, e4, e5, e6, e7, e8⟩
    refine ⟨?_, ?_, ?_, ?_, ?_, ?_, ?_, ?_, e8⟩
    · rw [hget_ne (by omega)]; exact e0
    · rw [hget_ne (by omega)]; exact e1
    · rw [hget_self]
    · rw [hget_ne (by omega)]; exact e3
    · rw [hget_ne (by omega)]; exact e4
    · rw [hget_ne (by omega)]; exact e5
    · rw [hget_ne (by omega)]; exact e6
    · intro k hk; rw [hget_ne (by omega)]; exact e7 k hk
  refine sp_fig (G := G) (q := q) (q' := upd q 18 (nI (i + 1))) (K := K) (rk := upd rk K.n 0) (rh := rh) (rr := rr) (rf := rf) (rt := rt) (rg := upd rg K.n 0) (sd := sd) (len := len) (i := i + 1) (g := 2) (f := f0) (s := s0) (tx := tx) ⟨?_, ?_, ?_, ?_, ?_, ?_, ?_, ?_, eQ_upd (by omega), ?_, ?_, ?_⟩ mt hlen h17 (by simp [upd]) (by simp [upd, h19]) (by omega) (by omega) fa_1023 ?_ ?_
  · simp only [hget_hset, Nat.reduceEqDiff, ↓reduceIte]
  · simp only [hget_hset, Nat.reduceEqDiff, ↓reduceIte]
  · simp only [hget_hset, Nat.reduceEqDiff, ↓reduceIte]; exact a2
  · simp only [hget_hset, Nat.reduceEqDiff, ↓reduceIte]; exact a3
  · simp only [hget_hset, Nat.reduceEqDiff, ↓reduceIte]; exact a4
  · simp only [hget_hset, Nat.reduceEqDiff, ↓reduceIte]; exact a5
  · simp only [hget_hset, Nat.reduceEqDiff, ↓reduceIte]
  · intro k hk; rw [hget_ne (by omega), hget_ne (by omega), hget_ne (by omega)]
  · simp [upd]
  · simp [upd]
  · simp [upd]
  · intro H1 q1 s1 t19 t18 tf
    have z0 := s1.1
    have z2 := s1.2.2.1
    have z7 : q1 7 = nI K.n := s1.2.2.2.2.2.2.2.2.2.2.1.trans h7
    have s2 := mid H1 q1 0 s1
    simp only [eX7_readPart_127, eX7_readPart_128, eX7_readPart_129, eX7_readPart_132, eX7_readPart_133, eX7_readPart_136, eX7_readPart_137, eX7_readPart_140, eX7_readPart_141, eX7_readPart_144, pe_aload_0, pe_callV_1, pe_const, pe_getf, pe_iast, pe_ifeq, pe_iload_2, z0, z2, m_g2, m_g7, m_o, z7, c1, c2, h6, hget_hset, ia_l, ia_s, vin, opl, onl, Int32.reduceLT, Int32.reduceLE, Int32.reduceAdd, Int32.reduceSub, Nat.reduceLT, Nat.reduceAdd, Nat.reduceEqDiff, ↓reduceIte, true_and, and_true, List.length_nil, List.length_cons, Nat.reduceLeDiff, Nat.zero_le]
    refine sp_fig0 (f := i + 1) (i := i + 1) s2 mt hlen h17 t18 (by omega) t19 (by omega) ?_
    intro H2 s3
    simp only [eX7_readPart_147, pe_goto, hget_hset, ia_l, ia_s, vin, opl, onl, Int32.reduceLT, Int32.reduceLE, Int32.reduceAdd, Int32.reduceSub, Nat.reduceLT, Nat.reduceAdd, Nat.reduceEqDiff, ↓reduceIte, true_and, and_true, List.length_nil, List.length_cons, Nat.reduceLeDiff, Nat.zero_le]
    refine rp_end s3 h7 h6 ?_
    intro H' q'' b0 b1 b2 b3 b4 b5 b6 b7 b8 b9 b10 b11 b12 b13
    exact hP.1 H' q'' (i + 1) b0 ⟨_, _, _, _, _, _, b1, b2, b3, b4, b5, b6⟩ (b13.trans t19) (by omega) (by rw [st]; exact tf) b7 b8
  · intro H1 q1 s1 t18 t19 tl tr tb
    have z0 := s1.1
    have z2 := s1.2.2.1
    have z7 : q1 7 = nI K.n := s1.2.2.2.2.2.2.2.2.2.2.1.trans h7
    have s2 := mid H1 q1 (tx (i + 1) - 48) s1
    have fn := fig_num (x := tx (i + 1) - 48) tb
    have tk2 : takeS (2, f0, s0, K) (tx (i + 1)) = (3, tx (i + 1) - 48, s0, K) := rfl
    rw [tk2] at tr
    simp only [eX7_readPart_127, eX7_readPart_128, eX7_readPart_129, eX7_readPart_132, eX7_readPart_133, eX7_readPart_136, eX7_readPart_137, eX7_readPart_140, eX7_readPart_141, eX7_readPart_144, pe_aload_0, pe_callV_1, pe_const, pe_getf, pe_iast, pe_ifeq, pe_iload_2, z0, z2, m_g2, m_g7, m_o, z7, c1, c2, h6, hget_hset, ia_l, ia_s, vin, opl, onl, Int32.reduceLT, Int32.reduceLE, Int32.reduceAdd, Int32.reduceSub, Nat.reduceLT, Nat.reduceAdd, Nat.reduceEqDiff, ↓reduceIte, true_and, and_true, List.length_nil, List.length_cons, Nat.reduceLeDiff, Nat.zero_le]
    refine sp_fig (K := K) (i := i + 2) (g := 3) (f := tx (i + 1) - 48) (s := s0) s2 mt hlen h17 t18 t19 (by omega) (by omega) fa_1022 ?_ ?_
    · intro H2 q2 s3 u19 u18 uf
      simp only [eX7_readPart_147, pe_goto, hget_hset, ia_l, ia_s, vin, opl, onl, Int32.reduceLT, Int32.reduceLE, Int32.reduceAdd, Int32.reduceSub, Nat.reduceLT, Nat.reduceAdd, Nat.reduceEqDiff, ↓reduceIte, true_and, and_true, List.length_nil, List.length_cons, Nat.reduceLeDiff, Nat.zero_le]
      refine rp_end s3 h7 h6 ?_
      intro H' q'' b0 b1 b2 b3 b4 b5 b6 b7 b8 b9 b10 b11 b12 b13
      exact hP.1 H' q'' (i + 2) b0 ⟨_, _, _, _, _, _, b1, b2, b3, b4, b5, b6⟩ (b13.trans u19) (by omega) (by rw [st, tr]; exact uf) b7 b8
    · intro H2 q2 s3 u18 u19 ul ur ub
      simp only [eX7_readPart_147, pe_goto, hget_hset, ia_l, ia_s, vin, opl, onl, Int32.reduceLT, Int32.reduceLE, Int32.reduceAdd, Int32.reduceSub, Nat.reduceLT, Nat.reduceAdd, Nat.reduceEqDiff, ↓reduceIte, true_and, and_true, List.length_nil, List.length_cons, Nat.reduceLeDiff, Nat.zero_le]
      refine rp_end s3 h7 h6 ?_
      intro H' q'' b0 b1 b2 b3 b4 b5 b6 b7 b8 b9 b10 b11 b12 b13
      have fn2 := fig_num1 (x := tx (i + 2) - 48) ub
      refine hP.2 H' q'' (i + 3) (adP K 0 (tx (i + 1) - 48) (tx (i + 2) - 48)) (tx (i + 1) - 48) s0 (rp_ok (k := 0) (s := tx (i + 1) - 48) (v := tx (i + 2) - 48) (h := tx (i + 1) - 48) (r := tx (i + 2) - 48) hw h6 hr mt h17 (fun _ => ⟨rfl, rfl⟩) (fun z => absurd z (by decide)) (fun z => absurd z (by decide)) b0 b1 b2 b3 b4 b5 b6 b7 b8 b9 b10 b11 (b12.trans u18) (b13.trans u19)) (wfL_adP hw h6 (by simp) fn fn2 (fun z => absurd z (by decide))) (by omega) (by omega) ?_ b7 b8
      rw [st, tr, ur]
      rfl
end MPu
