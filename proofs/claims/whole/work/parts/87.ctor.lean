/-! ===== the constructor of the class: its loops, its end ===== -/
section CLp
variable {d b : Nat} {G H : px_H} {Q : px_Q}
def s00 : SS := (0, zz, K00, aBg K00, 0, fun _ => zz, 0, zz, zz, zz, 0, zz, zz, 0)
set_option maxRecDepth 100000 in
theorem cl_slots {r0 : Nat → Option Nat} {i0 : Int32} (h1 : H.1 = 94) (h2 : H.2.1 = b + 578) (h3 : hget H 2 = some (c_x 0 5 11 0 0)) (h4 : hget H 85 = some (c_ra 2 r0))
    (hn : ∀ H' r, H'.1 = 102 → H'.2.1 = b + 624 → hget H' 85 = some (c_ra 2 r) → r 0 = some 96 → r 1 = some 100 → isS H' 96 zz → isS H' 100 zz → (∀ k, k < 96 → k ≠ 85 → hget H' k = hget H k) → pr (d + 2) 41 (122, b + 739) Q 161 [some (.ref 2), some (.int 2)] [] H') :
    pr (d + 2) 41 (122, b + 739) Q 137 [some (.ref 2), some (.int 0)] [] H := by
  have n0 : (0 : Int32).toNatClampNeg = 0 := by decide
  have n1 : (1 : Int32).toNatClampNeg = 1 := by decide
  simp only [eX6_init_137, eX6_init_138, eX6_init_139, eX6_init_142, eX6_init_143, eX6_init_146, eX6_init_147, eX6_init_150, eX6_init_151, pe_aload_0, pe_callI_0, pe_const, pe_dup_i, pe_dup_r, pe_getf, pe_iclt, pe_iload_1, pe_new, h1, h2, h3, x_g9, hnew_1, hnew_2, Nat.add_assoc, Nat.add_le_add_iff_left, hget_hset, ia_l, ia_s, vin, opl, onl, Int32.reduceLT, Int32.reduceLE, Int32.reduceAdd, Int32.reduceSub, Nat.reduceLT, Nat.reduceAdd, Nat.reduceEqDiff, ↓reduceIte, true_and, and_true, List.length_nil, List.length_cons, Nat.reduceLeDiff, Nat.zero_le]
  refine ci_Scene (g := 95) (b := b + 583) (by rw [hnew_1, h1]) (by rw [hnew_2, h2]) (by rw [hget_hnew, h1]; exact if_pos rfl) ?_
  intro G1 e1 e2 e3 e4
  refine ⟨e1, e2, ?_⟩
  have o1 : ∀ k, k < 96 → hget G1 k = hget H k := fun k hk => by
    rw [e4 k (by omega), hget_hnew, h1]
    exact if_neg (by omega)
  have y1 : hget G1 85 = some (c_ra 2 r0) := (o1 _ (by omega)).trans h4
  have y2 : hget G1 96 = some (c_sc 96 0 0) := e3.obj
  have y3 : hget G1 2 = some (c_x 0 5 11 0 0) := (o1 _ (by omega)).trans h3
  have e2' : G1.2.1 = b + 601 := e2
  simp only [eX6_init_154, eX6_init_155, eX6_init_158, eX6_init_137, eX6_init_138, eX6_init_139, eX6_init_142, eX6_init_143, eX6_init_146, eX6_init_147, eX6_init_150, eX6_init_151, pe_aast, pe_aload_0, pe_callI_0, pe_const, pe_dup_i, pe_dup_r, pe_getf, pe_goto, pe_iclt, pe_iinc_1, pe_iload_1, pe_new, y1, y2, y3, ra_s, n0, n1, x_g9, hnew_1, hnew_2, hset_1, hset_2, e1, e2', Nat.add_assoc, Nat.add_le_add_iff_left, hget_hset, ia_l, ia_s, vin, opl, onl, Int32.reduceLT, Int32.reduceLE, Int32.reduceAdd, Int32.reduceSub, Nat.reduceLT, Nat.reduceAdd, Nat.reduceEqDiff, ↓reduceIte, true_and, and_true, List.length_nil, List.length_cons, Nat.reduceLeDiff, Nat.zero_le]
  refine ci_Scene (g := 99) (b := b + 606) (by rw [hnew_1, hset_1, e1]) (by rw [hnew_2, hset_2, e2']) (by rw [hget_hnew, hset_1, e1]; exact if_pos rfl) ?_
  intro G2 f1 f2 f3 f4
  refine ⟨f1, f2, ?_⟩
  have o2 : ∀ k, k < 100 → k ≠ 85 → hget G2 k = hget G1 k := fun k hk hk2 => by
    rw [f4 k (by omega), hget_hnew, hset_1, e1, if_neg (by omega), hget_ne hk2]
  have z1 : hget G2 85 = some (c_ra 2 (va_up r0 0 (some 96))) := by
    rw [f4 _ (by omega), hget_hnew, hset_1, e1, if_neg (by omega), hget_self]
  have z2 : hget G2 100 = some (c_sc 100 0 0) := f3.obj
  have f2' : G2.2.1 = b + 624 := f2
  simp only [eX6_init_154, eX6_init_155, eX6_init_158, eX6_init_137, eX6_init_138, eX6_init_139, pe_aast, pe_const, pe_goto, pe_iclt, pe_iinc_1, pe_iload_1, z1, z2, ra_s, n1, hget_hset, ia_l, ia_s, vin, opl, onl, Int32.reduceLT, Int32.reduceLE, Int32.reduceAdd, Int32.reduceSub, Nat.reduceLT, Nat.reduceAdd, Nat.reduceEqDiff, ↓reduceIte, true_and, and_true, List.length_nil, List.length_cons, Nat.reduceLeDiff, Nat.zero_le]
  refine hn _ _ (by rw [hset_1]; exact f1) (by rw [hset_2]; exact f2') (hget_self _ _ _) ?_ ?_ ?_ ?_ (fun k hk hk2 => ?_)
  · rfl
  · rfl
  · exact e3.kept (fun k x y => by rw [hget_ne (by omega)]; exact o2 k (by omega) (by omega))
  · exact f3.kept (fun k x y => hget_ne (by omega))
  · rw [hget_ne hk2, o2 k (by omega) hk2]
    exact o1 k hk
set_option maxRecDepth 100000 in
theorem cl_turns {r0 : Nat → Option Nat} (h1 : H.1 = 102) (h2 : H.2.1 = b + 624) (h3 : hget H 2 = some (c_x 0 5 11 0 0)) (h4 : hget H 94 = some (c_ra 5 r0))
    (hn : ∀ H' i, H'.1 = 122 → H'.2.1 = b + 739 → isU H' → (∀ k, k < 104 → k ≠ 94 → hget H' k = hget H k) → pr (d + 2) 41 (122, b + 739) Q 187 [some (.ref 2), some (.int i)] [] H') :
    ∀ j i H1 r, i + j = 5 → H1.1 = 102 + 4 * i → H1.2.1 = b + 624 + 23 * i → hget H1 94 = some (c_ra 5 r) → (∀ m, m < i → r m = some (104 + 4 * m) ∧ isS H1 (104 + 4 * m) zz) → (∀ k, k < 104 → k ≠ 94 → hget H1 k = hget H k) → pr (d + 2) 41 (122, b + 739) Q 163 [some (.ref 2), some (.int (nI i))] [] H1 := by
  intro j
  induction j with
  | zero =>
    intro i H1 r hi k1 k2 k3 k4 k5
    obtain rfl : i = 5 := by omega
    have c1 : 4 < nI 5 := by decide
    simp only [eX6_init_163, eX6_init_164, eX6_init_165, pe_const, pe_icgt, pe_iload_1, c1, hget_hset, ia_l, ia_s, vin, opl, onl, Int32.reduceLT, Int32.reduceLE, Int32.reduceAdd, Int32.reduceSub, Nat.reduceLT, Nat.reduceAdd, Nat.reduceEqDiff, ↓reduceIte, true_and, and_true, List.length_nil, List.length_cons, Nat.reduceLeDiff, Nat.zero_le]
    exact hn H1 _ (by omega) (by omega) ⟨r, k3, fun m hm => ⟨(k4 m hm).1, zz, (k4 m hm).2⟩⟩ k5
  | succ j ih =>
    intro i H1 r hi k1 k2 k3 k4 k5
    have c1 : ¬ 4 < nI i := nI_nlt (a := 4) (by omega) (by omega)
    have c2 : (nI i).toNatClampNeg = i := nI_clamp (by omega)
    have c3 : 0 ≤ nI i := nI_pos' (by omega)
    have c4 : i < 5 := by omega
    have l1 : 102 + 4 * i + 1 ≤ 122 := by omega
    have l2 : b + 624 + 23 * i + 5 ≤ b + 739 := by omega
    have l3 : 102 + 4 * i + 1 + 3 ≤ 122 := by omega
    have l4 : b + 624 + 23 * i + 5 + 18 ≤ b + 739 := by omega
    have y0 : hget H1 2 = some (c_x 0 5 11 0 0) := (k5 _ (by omega) (by omega)).trans h3
    rw [eX6_init_163]
    simp only [eX6_init_164, eX6_init_165, eX6_init_168, eX6_init_169, eX6_init_172, eX6_init_173, eX6_init_176, eX6_init_177, pe_aload_0, pe_callI_0, pe_const, pe_dup_i, pe_dup_r, pe_getf, pe_icgt, pe_iload_1, pe_new, k1, k2, y0, x_g14, hnew_1, hnew_2, c1, l1, l2, l3, l4, hget_hset, ia_l, ia_s, vin, opl, onl, Int32.reduceLT, Int32.reduceLE, Int32.reduceAdd, Int32.reduceSub, Nat.reduceLT, Nat.reduceAdd, Nat.reduceEqDiff, ↓reduceIte, true_and, and_true, List.length_nil, List.length_cons, Nat.reduceLeDiff, Nat.zero_le]
    refine ci_Scene (g := 102 + 4 * i + 1) (b := b + 624 + 23 * i + 5) (by rw [hnew_1, k1]) (by rw [hnew_2, k2]) (by rw [hget_hnew, k1]; exact if_pos rfl) ?_
    intro G2 e1 e2 e3 e4
    refine ⟨e1, e2, ?_⟩
    have old : ∀ k, k < 104 + 4 * i → hget G2 k = hget H1 k := fun k hk => by
      rw [e4 k (by omega), hget_hnew, k1]
      exact if_neg (by omega)
    have y1 : hget G2 94 = some (c_ra 5 r) := (old _ (by omega)).trans k3
    have y2 : hget G2 (102 + 4 * i + 2) = some (c_sc (102 + 4 * i + 1 + 1) 0 0) := e3.obj
    simp only [eX6_init_180, eX6_init_181, eX6_init_184, pe_aast, pe_goto, pe_iinc_1, y1, y2, ra_s, c2, c3, c4, nisw, hget_hset, ia_l, ia_s, vin, opl, onl, Int32.reduceLT, Int32.reduceLE, Int32.reduceAdd, Int32.reduceSub, Nat.reduceLT, Nat.reduceAdd, Nat.reduceEqDiff, ↓reduceIte, true_and, and_true, List.length_nil, List.length_cons, Nat.reduceLeDiff, Nat.zero_le]
    refine ih (i + 1) _ _ (by omega) (by rw [hset_1]; omega) (by rw [hset_2]; omega) (hget_self _ _ _) (fun m hm => ?_) (fun k hk hk2 => ?_)
    · unfold va_up
      by_cases e : m = i
      · subst e
        refine ⟨by rw [if_pos rfl, show 102 + 4 * m + 2 = 104 + 4 * m by omega], ?_⟩
        have := e3
        rw [show 102 + 4 * m + 1 + 1 = 104 + 4 * m by omega] at this
        exact this.kept (fun k _ _ => hget_ne (by omega))
      · rw [if_neg e]
        refine ⟨(k4 m (by omega)).1, (k4 m (by omega)).2.kept (fun k _ _ => ?_)⟩
        rw [hget_ne (by omega)]
        exact old k (by omega)
    · rw [hget_ne hk2, old k (by omega)]
      exact k5 k hk hk2
set_option maxRecDepth 100000 in
theorem ci_Class (hg : G.1 = 1) (hb : G.2.1 = b) (h : hget G 2 = some (.inr (.inr (6, [.null, .int 0, .null, .null, .null, .null, .null, .null, .null, .null, .int 0, .long 0, .null, .null, .null, .null])))) (hF : hget G 1 = some (c_ro 7 px_fac)) (hQ : ∀ G', G'.1 = 122 → G'.2.1 = b + 739 → cW G' s00 → hget G' 0 = hget G 0 → Q none G') : pcal (d + 3) 41 [.ref 2] G Q := by
  refine inX6_init ?_
  have e57 : (G.1 + 121, G.2.1 + 739) = (122, b + 739) := by rw [hg, hb]
  rw [e57]
  simp only [eX6_init_0, eX6_init_1, pe_aload_0, pe_oini, hget_hset, ia_l, ia_s, vin, opl, onl, Int32.reduceLT, Int32.reduceLE, Int32.reduceAdd, Int32.reduceSub, Nat.reduceLT, Nat.reduceAdd, Nat.reduceEqDiff, ↓reduceIte, true_and, and_true, List.length_nil, List.length_cons, Nat.reduceLeDiff, Nat.zero_le]
  refine cs_3 (G := G) (b := b) hg hb h ⟨fun _ _ => rfl, fun z => absurd z (by omega), fun z => absurd z (by omega), fun z => absurd z (by omega), fun z => absurd z (by omega), fun z => absurd z (by omega), fun z => absurd z (by omega), fun z => absurd z (by omega), fun z => absurd z (by omega), fun z => absurd z (by omega), fun z => absurd z (by omega), fun z => absurd z (by omega), fun z => absurd z (by omega), fun z => absurd z (by omega)⟩ (fun H1 a1 a2 a3 a4 => ?_)
  refine cs_4 a1 a2 a3 a4 (fun H1 a1 a2 a3 a4 => ?_)
  refine cs_5 a1 a2 a3 a4 (fun H1 a1 a2 a3 a4 => ?_)
  refine cs_11 a1 a2 a3 a4 (fun H1 a1 a2 a3 a4 => ?_)
  refine cs_17 a1 a2 a3 a4 (fun H1 a1 a2 a3 a4 => ?_)
  refine cs_19 a1 a2 a3 a4 (fun H1 a1 a2 a3 a4 => ?_)
  refine cs_23 a1 a2 a3 a4 (fun H1 a1 a2 a3 a4 => ?_)
  refine cs_81 a1 a2 a3 a4 (fun H1 a1 a2 a3 a4 => ?_)
  refine cs_85 a1 a2 a3 a4 (fun H1 a1 a2 a3 a4 => ?_)
  refine cs_86 a1 a2 a3 a4 (fun H1 a1 a2 a3 a4 => ?_)
  refine cs_90 a1 a2 a3 a4 (fun H1 a1 a2 a3 a4 => ?_)
  refine cs_94 a1 a2 a3 a4 (fun H1 a1 a2 a3 a4 => ?_)
  refine cs_95 a1 a2 a3 a4 (fun H1 a1 a2 a3 a4 => ?_)
  obtain ⟨c0, c1, c2, c3, c4, c5, c6, c7, c8, c9, c10, c11, c12, c13⟩ := a4
  have x1 : hget H1 2 = some (c_x 0 5 11 0 0) := a3
  simp only [eX6_init_135, eX6_init_136, pe_const, pe_istore_1, hget_hset, ia_l, ia_s, vin, opl, onl, Int32.reduceLT, Int32.reduceLE, Int32.reduceAdd, Int32.reduceSub, Nat.reduceLT, Nat.reduceAdd, Nat.reduceEqDiff, ↓reduceIte, true_and, and_true, List.length_nil, List.length_cons, Nat.reduceLeDiff, Nat.zero_le]
  refine cl_slots (i0 := 0) a1 a2 x1 (c9 (by omega)) (fun H2 r b1 b2 b3 b4 b5 b6 b7 b8 => ?_)
  simp only [eX6_init_161, eX6_init_162, pe_const, pe_istore_1, hget_hset, ia_l, ia_s, vin, opl, onl, Int32.reduceLT, Int32.reduceLE, Int32.reduceAdd, Int32.reduceSub, Nat.reduceLT, Nat.reduceAdd, Nat.reduceEqDiff, ↓reduceIte, true_and, and_true, List.length_nil, List.length_cons, Nat.reduceLeDiff, Nat.zero_le]
  have x2 : hget H2 2 = some (c_x 0 5 11 0 0) := (b8 _ (by omega) (by omega)).trans x1
  have t94 : hget H2 94 = some (c_ra 5 (fun _ => none)) := (b8 _ (by omega) (by omega)).trans (c12 (by omega))
  refine cl_turns (H := H2) b1 b2 x2 t94 (fun H3 i d1 d2 d3 d4 => ?_) 5 0 H2 (fun _ => none) (by omega) b1 b2 t94 (fun m hm => by omega) (fun _ _ _ => rfl)
  have x3 : hget H3 2 = some (c_x 0 5 11 0 0) := (d4 _ (by omega) (by omega)).trans x2
  have up : ∀ k, k < 96 → k ≠ 85 → k ≠ 94 → hget H3 k = hget H1 k := fun k a b c => (d4 k (by omega) c).trans (b8 k a b)
  have s19 : isS H3 19 zz := (c6 (by omega)).kept (fun k x y => up k (by omega) (by omega) (by omega))
  have l5 : isL H3 5 K00 := (c3 (by omega)).kept (fun k x y => up k (by omega) (by omega) (by omega))
  have o19 := s19.obj
  simp only [eX6_init_187, eX6_init_188, eX6_init_191, eX6_init_192, eX6_init_195, pe_aload_0, pe_callV_1, pe_getf, x3, o19, x_g3, x_g6, sc_g0, sc_g1, sc_g2, sc_g3, sc_g4, sc_p3, sc_p4, sc_o, hget_hset, ia_l, ia_s, vin, opl, onl, Int32.reduceLT, Int32.reduceLE, Int32.reduceAdd, Int32.reduceSub, Nat.reduceLT, Nat.reduceAdd, Nat.reduceEqDiff, ↓reduceIte, true_and, and_true, List.length_nil, List.length_cons, Nat.reduceLeDiff, Nat.zero_le]
  refine sp_begin2 s19 l5 (by omega) ?_
  intro G4 g1 g2 g5 g6
  simp only [eX6_init_198, pe_vret, hget_hset, ia_l, ia_s, vin, opl, onl, Int32.reduceLT, Int32.reduceLE, Int32.reduceAdd, Int32.reduceSub, Nat.reduceLT, Nat.reduceAdd, Nat.reduceEqDiff, ↓reduceIte, true_and, and_true, List.length_nil, List.length_cons, Nat.reduceLeDiff, Nat.zero_le]
  have upp : ∀ k, k < 96 → k ≠ 85 → k ≠ 94 → (k < 19 ∨ 23 ≤ k) → hget G4 k = hget H1 k := fun k a b c e => (g2 k (by omega)).trans (up k a b c)
  have sz : G4.1 = 122 ∧ G4.2.1 = b + 739 := ⟨g5.trans d1, g6.trans d2⟩
  refine hQ G4 sz.1 sz.2 ⟨5, 11, ⟨⟨(g2 _ (by omega)).trans x3, Or.inl ⟨rfl, rfl⟩, l5.kept (fun k x y => g2 k (by omega)), (c5 (by omega)).kept (upp _ (by omega) (by omega) (by omega) (by omega)) (upp _ (by omega) (by omega) (by omega) (by omega))⟩, g1, ⟨zz, (c10 (by omega)).kept (fun k x y => upp k (by omega) (by omega) (by omega) (by omega))⟩, zz, (c11 (by omega)).kept (fun k x y => upp k (by omega) (by omega) (by omega) (by omega))⟩, (c7 (by omega)).kept (fun k x y => upp k (by omega) (by omega) (by omega) (by omega)), (c8 (by omega)).kept (fun k x y => upp k (by omega) (by omega) (by omega) (by omega)), ⟨⟨r, ?_, b4, b5⟩, ?_, ?_⟩, d3.kep (fun k x => g2 k (by omega)), ⟨zz, (upp _ (by omega) (by omega) (by omega) (by omega)).trans (c13 (by omega))⟩, (upp _ (by omega) (by omega) (by omega) (by omega)).trans (c1 (by omega)), ⟨0, 0, 0, (upp _ (by omega) (by omega) (by omega) (by omega)).trans (c2 (by omega))⟩, ⟨K00, (c4 (by omega)).kept (fun k x y => upp k (by omega) (by omega) (by omega) (by omega))⟩, ?_⟩ ?_
  · rw [g2 _ (by omega), d4 _ (by omega) (by omega)]; exact b3
  · exact b6.kept (fun k x y => (g2 k (by omega)).trans (d4 k (by omega) (by omega)))
  · exact b7.kept (fun k x y => (g2 k (by omega)).trans (d4 k (by omega) (by omega)))
  · rw [upp _ (by omega) (by omega) (by omega) (by omega), c0 _ (by omega)]; exact hF
  · rw [upp _ (by omega) (by omega) (by omega) (by omega), c0 _ (by omega)]
end CLp
