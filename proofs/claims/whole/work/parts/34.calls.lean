/-! ===== the class: its plain calls ===== -/
theorem hP_t {n : Nat} {x : Int32} (h : ¬ hP n x = false) : hP n x = true := by cases e : hP n x with | true => rfl | false => exact absurd e h
def aPl (K : Ld) (t : Nat → Int32) (p w : Int32) : Int32 :=
  if hP K.n p = false then -1 else
  if w = 0 then K.kd p.toNatClampNeg else if w = 1 then t p.toNatClampNeg else if w = 2 then t (6 + p.toNatClampNeg) else if w = 3 then K.ms p.toNatClampNeg else if w = 4 then t (12 + p.toNatClampNeg) else if w = 5 then lo K.fm (t 18) p 0 K.m else -2
set_option maxRecDepth 100000 in
theorem sp_place {d : Nat} {G : px_H} {le : Int32} {la dr : Nat} {ke : Int32} {sd : Int64} {K : Ld} {p w : Int32} {t : Nat → Int32} {Q : px_Q} (hr : rX G le la dr ke sd K t) (hQ : Q (some (.int (aPl K t p w))) G) : pcal (d + 2) 46 [.ref 2, .int p, .int w] G Q := by
  have x0 := hr.x
  obtain ⟨l0, l1, l2, l3, l4, l5, l6, l7⟩ := hr.l
  obtain ⟨f0, f1, f2, s0, s1, s2, s3, s4⟩ := hr.2.1
  refine inX6_place ?_
  simp only [eX6_place_0, eX6_place_1, eX6_place_4, eX6_place_5, pe_aload_0, pe_callV_1, pe_getf, pe_iload_1, x0, l0, x_g3, ld_o, hget_hset, ia_l, ia_s, vin, opl, onl, Int32.reduceLT, Int32.reduceLE, Int32.reduceAdd, Int32.reduceSub, Nat.reduceLT, Nat.reduceAdd, Nat.reduceEqDiff, ↓reduceIte, true_and, and_true, List.length_nil, List.length_cons, Nat.reduceLeDiff, Nat.zero_le]
  refine sp_hasPlace hr.l ?_
  simp only [eX6_place_8, eX6_place_11, eX6_place_12, pe_const, pe_ifeq, pe_iret, zB_0, hget_hset, ia_l, ia_s, vin, opl, onl, Int32.reduceLT, Int32.reduceLE, Int32.reduceAdd, Int32.reduceSub, Nat.reduceLT, Nat.reduceAdd, Nat.reduceEqDiff, ↓reduceIte, true_and, and_true, List.length_nil, List.length_cons, Nat.reduceLeDiff, Nat.zero_le]
  rw [aPl] at hQ
  split
  · rename_i u0
    rw [if_pos u0] at hQ
    exact hQ
  · rename_i u0
    rw [if_neg u0] at hQ
    obtain ⟨p1, p2, p3, p4⟩ := hP_of (n := K.n) (x := p) l6 (hP_t u0)
    simp only [eX6_place_13, eX6_place_14, pe_iload_2, pe_switch, px_sw, hget_hset, ia_l, ia_s, vin, opl, onl, Int32.reduceLT, Int32.reduceLE, Int32.reduceAdd, Int32.reduceSub, Nat.reduceLT, Nat.reduceAdd, Nat.reduceEqDiff, ↓reduceIte, true_and, and_true, List.length_nil, List.length_cons, Nat.reduceLeDiff, Nat.zero_le]
    by_cases w0 : w = 0
    · rw [if_pos w0]; rw [if_pos w0] at hQ
      simp only [eX6_place_52, eX6_place_53, eX6_place_56, eX6_place_59, eX6_place_60, eX6_place_61, pe_aload_0, pe_getf, pe_iald, pe_iload_1, pe_iret, x0, l0, l1, x_g3, ld_g0, ld_g1, ld_g2, ld_g3, ld_g4, ld_g5, ld_g6, ld_g7, ld_p5, ld_p6, ld_p7, ld_o, p1, p3, hget_hset, ia_l, ia_s, vin, opl, onl, Int32.reduceLT, Int32.reduceLE, Int32.reduceAdd, Int32.reduceSub, Nat.reduceLT, Nat.reduceAdd, Nat.reduceEqDiff, ↓reduceIte, true_and, and_true, List.length_nil, List.length_cons, Nat.reduceLeDiff, Nat.zero_le]
      exact hQ
    · rw [if_neg w0]; rw [if_neg w0] at hQ
      by_cases w1 : w = 1
      · rw [if_pos w1]; rw [if_pos w1] at hQ
        simp only [eX6_place_62, eX6_place_63, eX6_place_66, eX6_place_69, eX6_place_70, eX6_place_71, pe_aload_0, pe_getf, pe_iald, pe_iload_1, pe_iret, x0, s0, s1, x_g6, sc_g0, sc_g1, sc_g2, sc_g3, sc_g4, sc_p3, sc_p4, sc_o, p1, p3, hget_hset, ia_l, ia_s, vin, opl, onl, Int32.reduceLT, Int32.reduceLE, Int32.reduceAdd, Int32.reduceSub, Nat.reduceLT, Nat.reduceAdd, Nat.reduceEqDiff, ↓reduceIte, true_and, and_true, List.length_nil, List.length_cons, Nat.reduceLeDiff, Nat.zero_le]
        rw [(s4 _ p3).1]; exact hQ
      · rw [if_neg w1]; rw [if_neg w1] at hQ
        by_cases w2 : w = 2
        · rw [if_pos w2]; rw [if_pos w2] at hQ
          simp only [eX6_place_72, eX6_place_73, eX6_place_76, eX6_place_79, eX6_place_80, eX6_place_81, pe_aload_0, pe_getf, pe_iald, pe_iload_1, pe_iret, x0, s0, s2, x_g6, sc_g0, sc_g1, sc_g2, sc_g3, sc_g4, sc_p3, sc_p4, sc_o, p1, p3, hget_hset, ia_l, ia_s, vin, opl, onl, Int32.reduceLT, Int32.reduceLE, Int32.reduceAdd, Int32.reduceSub, Nat.reduceLT, Nat.reduceAdd, Nat.reduceEqDiff, ↓reduceIte, true_and, and_true, List.length_nil, List.length_cons, Nat.reduceLeDiff, Nat.zero_le]
          rw [(s4 _ p3).2.1]; exact hQ
        · rw [if_neg w2]; rw [if_neg w2] at hQ
          by_cases w3 : w = 3
          · rw [if_pos w3]; rw [if_pos w3] at hQ
            simp only [eX6_place_82, eX6_place_83, eX6_place_86, eX6_place_89, eX6_place_90, eX6_place_91, pe_aload_0, pe_getf, pe_iald, pe_iload_1, pe_iret, x0, l0, l3, x_g3, ld_g0, ld_g1, ld_g2, ld_g3, ld_g4, ld_g5, ld_g6, ld_g7, ld_p5, ld_p6, ld_p7, ld_o, p1, p3, hget_hset, ia_l, ia_s, vin, opl, onl, Int32.reduceLT, Int32.reduceLE, Int32.reduceAdd, Int32.reduceSub, Nat.reduceLT, Nat.reduceAdd, Nat.reduceEqDiff, ↓reduceIte, true_and, and_true, List.length_nil, List.length_cons, Nat.reduceLeDiff, Nat.zero_le]
            exact hQ
          · rw [if_neg w3]; rw [if_neg w3] at hQ
            by_cases w4 : w = 4
            · rw [if_pos w4]; rw [if_pos w4] at hQ
              simp only [eX6_place_92, eX6_place_93, eX6_place_96, eX6_place_99, eX6_place_100, eX6_place_101, pe_aload_0, pe_getf, pe_iald, pe_iload_1, pe_iret, x0, s0, s3, x_g6, sc_g0, sc_g1, sc_g2, sc_g3, sc_g4, sc_p3, sc_p4, sc_o, p1, p3, hget_hset, ia_l, ia_s, vin, opl, onl, Int32.reduceLT, Int32.reduceLE, Int32.reduceAdd, Int32.reduceSub, Nat.reduceLT, Nat.reduceAdd, Nat.reduceEqDiff, ↓reduceIte, true_and, and_true, List.length_nil, List.length_cons, Nat.reduceLeDiff, Nat.zero_le]
              rw [(s4 _ p3).2.2]; exact hQ
            · rw [if_neg w4]; rw [if_neg w4] at hQ
              by_cases w5 : w = 5
              · rw [if_pos w5]; rw [if_pos w5] at hQ
                simp only [eX6_place_102, eX6_place_103, eX6_place_106, eX6_place_107, eX6_place_108, eX6_place_111, eX6_place_114, pe_aload_0, pe_callV_2, pe_getf, pe_iload_1, x0, s0, l0, x_g3, x_g6, sc_g0, sc_g1, sc_g2, sc_g3, sc_g4, sc_p3, sc_p4, sc_o, ld_o, hget_hset, ia_l, ia_s, vin, opl, onl, Int32.reduceLT, Int32.reduceLE, Int32.reduceAdd, Int32.reduceSub, Nat.reduceLT, Nat.reduceAdd, Nat.reduceEqDiff, ↓reduceIte, true_and, and_true, List.length_nil, List.length_cons, Nat.reduceLeDiff, Nat.zero_le]
                refine sp_leastOpen hr.l ?_
                simp only [eX6_place_117, pe_iret, hget_hset, ia_l, ia_s, vin, opl, onl, Int32.reduceLT, Int32.reduceLE, Int32.reduceAdd, Int32.reduceSub, Nat.reduceLT, Nat.reduceAdd, Nat.reduceEqDiff, ↓reduceIte, true_and, and_true, List.length_nil, List.length_cons, Nat.reduceLeDiff, Nat.zero_le]
                exact hQ
              · rw [if_neg w5]; rw [if_neg w5] at hQ
                simp only [eX6_place_118, eX6_place_120, pe_const, pe_iret, hget_hset, ia_l, ia_s, vin, opl, onl, Int32.reduceLT, Int32.reduceLE, Int32.reduceAdd, Int32.reduceSub, Nat.reduceLT, Nat.reduceAdd, Nat.reduceEqDiff, ↓reduceIte, true_and, and_true, List.length_nil, List.length_cons, Nat.reduceLeDiff, Nat.zero_le]
                exact hQ
def aDi (K : Ld) (t : Nat → Int32) (p w : Int32) : Int32 :=
  if hP K.m p = false then -1 else
  if w = 0 then K.fm p.toNatClampNeg else if w = 1 then K.tt p.toNatClampNeg else if w = 2 then t 18 >>> (p &&& 31) &&& 1 else -2
set_option maxRecDepth 100000 in
theorem sp_ditch {d : Nat} {G : px_H} {le : Int32} {la dr : Nat} {ke : Int32} {sd : Int64} {K : Ld} {p w : Int32} {t : Nat → Int32} {Q : px_Q} (hr : rX G le la dr ke sd K t) (hQ : Q (some (.int (aDi K t p w))) G) : pcal (d + 2) 47 [.ref 2, .int p, .int w] G Q := by
  have x0 := hr.x
  obtain ⟨l0, l1, l2, l3, l4, l5, l6, l7⟩ := hr.l
  obtain ⟨f0, f1, f2, s0, s1, s2, s3, s4⟩ := hr.2.1
  refine inX6_ditch ?_
  simp only [eX6_ditch_0, eX6_ditch_1, eX6_ditch_4, eX6_ditch_5, pe_aload_0, pe_callV_1, pe_getf, pe_iload_1, x0, l0, x_g3, ld_o, hget_hset, ia_l, ia_s, vin, opl, onl, Int32.reduceLT, Int32.reduceLE, Int32.reduceAdd, Int32.reduceSub, Nat.reduceLT, Nat.reduceAdd, Nat.reduceEqDiff, ↓reduceIte, true_and, and_true, List.length_nil, List.length_cons, Nat.reduceLeDiff, Nat.zero_le]
  refine sp_hasDitch hr.l ?_
  simp only [eX6_ditch_8, eX6_ditch_11, eX6_ditch_12, pe_const, pe_ifeq, pe_iret, zB_0, hget_hset, ia_l, ia_s, vin, opl, onl, Int32.reduceLT, Int32.reduceLE, Int32.reduceAdd, Int32.reduceSub, Nat.reduceLT, Nat.reduceAdd, Nat.reduceEqDiff, ↓reduceIte, true_and, and_true, List.length_nil, List.length_cons, Nat.reduceLeDiff, Nat.zero_le]
  rw [aDi] at hQ
  split
  · rename_i u0
    rw [if_pos u0] at hQ
    exact hQ
  · rename_i u0
    rw [if_neg u0] at hQ
    obtain ⟨p1, p2, p3, p4⟩ := hP_of (n := K.m) (x := p) l7 (hP_t u0)
    simp only [eX6_ditch_13, eX6_ditch_14, pe_iload_2, pe_switch, px_sw, hget_hset, ia_l, ia_s, vin, opl, onl, Int32.reduceLT, Int32.reduceLE, Int32.reduceAdd, Int32.reduceSub, Nat.reduceLT, Nat.reduceAdd, Nat.reduceEqDiff, ↓reduceIte, true_and, and_true, List.length_nil, List.length_cons, Nat.reduceLeDiff, Nat.zero_le]
    by_cases w0 : w = 0
    · rw [if_pos w0]; rw [if_pos w0] at hQ
      simp only [eX6_ditch_40, eX6_ditch_41, eX6_ditch_44, eX6_ditch_47, eX6_ditch_48, eX6_ditch_49, pe_aload_0, pe_getf, pe_iald, pe_iload_1, pe_iret, x0, l0, l4, x_g3, ld_g0, ld_g1, ld_g2, ld_g3, ld_g4, ld_g5, ld_g6, ld_g7, ld_p5, ld_p6, ld_p7, ld_o, p1, p3, hget_hset, ia_l, ia_s, vin, opl, onl, Int32.reduceLT, Int32.reduceLE, Int32.reduceAdd, Int32.reduceSub, Nat.reduceLT, Nat.reduceAdd, Nat.reduceEqDiff, ↓reduceIte, true_and, and_true, List.length_nil, List.length_cons, Nat.reduceLeDiff, Nat.zero_le]
      exact hQ
    · rw [if_neg w0]; rw [if_neg w0] at hQ
      by_cases w1 : w = 1
      · rw [if_pos w1]; rw [if_pos w1] at hQ
        simp only [eX6_ditch_50, eX6_ditch_51, eX6_ditch_54, eX6_ditch_57, eX6_ditch_58, eX6_ditch_59, pe_aload_0, pe_getf, pe_iald, pe_iload_1, pe_iret, x0, l0, l5, x_g3, ld_g0, ld_g1, ld_g2, ld_g3, ld_g4, ld_g5, ld_g6, ld_g7, ld_p5, ld_p6, ld_p7, ld_o, p1, p3, hget_hset, ia_l, ia_s, vin, opl, onl, Int32.reduceLT, Int32.reduceLE, Int32.reduceAdd, Int32.reduceSub, Nat.reduceLT, Nat.reduceAdd, Nat.reduceEqDiff, ↓reduceIte, true_and, and_true, List.length_nil, List.length_cons, Nat.reduceLeDiff, Nat.zero_le]
        exact hQ
      · rw [if_neg w1]; rw [if_neg w1] at hQ
        by_cases w2 : w = 2
        · rw [if_pos w2]; rw [if_pos w2] at hQ
          simp only [eX6_ditch_60, eX6_ditch_61, eX6_ditch_64, eX6_ditch_67, eX6_ditch_68, eX6_ditch_69, eX6_ditch_70, eX6_ditch_71, pe_aload_0, pe_bin, pe_const, pe_getf, pe_iload_1, pe_iret, x0, s0, x_g6, sc_g0, sc_g1, sc_g2, sc_g3, sc_g4, sc_p3, sc_p4, sc_o, hget_hset, ia_l, ia_s, vin, opl, onl, Int32.reduceLT, Int32.reduceLE, Int32.reduceAdd, Int32.reduceSub, Nat.reduceLT, Nat.reduceAdd, Nat.reduceEqDiff, ↓reduceIte, true_and, and_true, List.length_nil, List.length_cons, Nat.reduceLeDiff, Nat.zero_le]
          exact hQ
        · rw [if_neg w2]; rw [if_neg w2] at hQ
          simp only [eX6_ditch_72, eX6_ditch_74, pe_const, pe_iret, hget_hset, ia_l, ia_s, vin, opl, onl, Int32.reduceLT, Int32.reduceLE, Int32.reduceAdd, Int32.reduceSub, Nat.reduceLT, Nat.reduceAdd, Nat.reduceEqDiff, ↓reduceIte, true_and, and_true, List.length_nil, List.length_cons, Nat.reduceLeDiff, Nat.zero_le]
          exact hQ
def aCo (K : Ld) (t : Nat → Int32) (le : Int32) (sz n : Nat) (w : Int32) : Int32 :=
  if w = 0 then le else if w = 1 then nI K.n else if w = 2 then nI K.m else if w = 3 then t 19 else if w = 4 then t 18 else if w = 5 then aDu t 6 else if w = 6 then aBu t 6 else if w = 7 then aWe t 6 else if w = 8 then aWo K t K.n else if w = 9 then nI sz else if w = 10 then nI n else -2
set_option maxRecDepth 100000 in
theorem sp_count {d sz n : Nat} {G : px_H} {le : Int32} {la dr : Nat} {ke : Int32} {sd : Int64} {K : Ld} {w : Int32} {t : Nat → Int32} {Q : px_Q} (hr : rX G le la dr ke sd K t) (hA : hget G 23 = some (c_ac 23 (nI sz))) (hV : hget G 81 = some (c_sg 81 (nI n))) (hQ : Q (some (.int (aCo K t le sz n w))) G) : pcal (d + 2) 89 [.ref 2, .int w] G Q := by
  have x0 := hr.x
  obtain ⟨l0, l1, l2, l3, l4, l5, l6, l7⟩ := hr.l
  have s0 := hr.2.1.obj
  refine inX6_count ?_
  simp only [eX6_count_0, eX6_count_1, pe_iload_1, pe_switch, px_sw, hget_hset, ia_l, ia_s, vin, opl, onl, Int32.reduceLT, Int32.reduceLE, Int32.reduceAdd, Int32.reduceSub, Nat.reduceLT, Nat.reduceAdd, Nat.reduceEqDiff, ↓reduceIte, true_and, and_true, List.length_nil, List.length_cons, Nat.reduceLeDiff, Nat.zero_le]
  rw [aCo] at hQ
  by_cases w0 : w = 0
  · rw [if_pos w0]; rw [if_pos w0] at hQ
    simp only [eX6_count_60, eX6_count_61, eX6_count_64, pe_aload_0, pe_getf, pe_iret, x0, x_g1, hget_hset, ia_l, ia_s, vin, opl, onl, Int32.reduceLT, Int32.reduceLE, Int32.reduceAdd, Int32.reduceSub, Nat.reduceLT, Nat.reduceAdd, Nat.reduceEqDiff, ↓reduceIte, true_and, and_true, List.length_nil, List.length_cons, Nat.reduceLeDiff, Nat.zero_le]
    exact hQ
  · rw [if_neg w0]; rw [if_neg w0] at hQ
    by_cases w1 : w = 1
    · rw [if_pos w1]; rw [if_pos w1] at hQ
      simp only [eX6_count_65, eX6_count_66, eX6_count_69, eX6_count_72, pe_aload_0, pe_getf, pe_iret, x0, l0, x_g3, ld_g0, ld_g1, ld_g2, ld_g3, ld_g4, ld_g5, ld_g6, ld_g7, ld_p5, ld_p6, ld_p7, ld_o, hget_hset, ia_l, ia_s, vin, opl, onl, Int32.reduceLT, Int32.reduceLE, Int32.reduceAdd, Int32.reduceSub, Nat.reduceLT, Nat.reduceAdd, Nat.reduceEqDiff, ↓reduceIte, true_and, and_true, List.length_nil, List.length_cons, Nat.reduceLeDiff, Nat.zero_le]
      exact hQ
    · rw [if_neg w1]; rw [if_neg w1] at hQ
      by_cases w2 : w = 2
      · rw [if_pos w2]; rw [if_pos w2] at hQ
        simp only [eX6_count_73, eX6_count_74, eX6_count_77, eX6_count_80, pe_aload_0, pe_getf, pe_iret, x0, l0, x_g3, ld_g0, ld_g1, ld_g2, ld_g3, ld_g4, ld_g5, ld_g6, ld_g7, ld_p5, ld_p6, ld_p7, ld_o, hget_hset, ia_l, ia_s, vin, opl, onl, Int32.reduceLT, Int32.reduceLE, Int32.reduceAdd, Int32.reduceSub, Nat.reduceLT, Nat.reduceAdd, Nat.reduceEqDiff, ↓reduceIte, true_and, and_true, List.length_nil, List.length_cons, Nat.reduceLeDiff, Nat.zero_le]
        exact hQ
      · rw [if_neg w2]; rw [if_neg w2] at hQ
        by_cases w3 : w = 3
        · rw [if_pos w3]; rw [if_pos w3] at hQ
          simp only [eX6_count_81, eX6_count_82, eX6_count_85, eX6_count_88, pe_aload_0, pe_getf, pe_iret, x0, s0, x_g6, sc_g0, sc_g1, sc_g2, sc_g3, sc_g4, sc_p3, sc_p4, sc_o, hget_hset, ia_l, ia_s, vin, opl, onl, Int32.reduceLT, Int32.reduceLE, Int32.reduceAdd, Int32.reduceSub, Nat.reduceLT, Nat.reduceAdd, Nat.reduceEqDiff, ↓reduceIte, true_and, and_true, List.length_nil, List.length_cons, Nat.reduceLeDiff, Nat.zero_le]
          exact hQ
        · rw [if_neg w3]; rw [if_neg w3] at hQ
          by_cases w4 : w = 4
          · rw [if_pos w4]; rw [if_pos w4] at hQ
            simp only [eX6_count_89, eX6_count_90, eX6_count_93, eX6_count_96, pe_aload_0, pe_getf, pe_iret, x0, s0, x_g6, sc_g0, sc_g1, sc_g2, sc_g3, sc_g4, sc_p3, sc_p4, sc_o, hget_hset, ia_l, ia_s, vin, opl, onl, Int32.reduceLT, Int32.reduceLE, Int32.reduceAdd, Int32.reduceSub, Nat.reduceLT, Nat.reduceAdd, Nat.reduceEqDiff, ↓reduceIte, true_and, and_true, List.length_nil, List.length_cons, Nat.reduceLeDiff, Nat.zero_le]
            exact hQ
          · rw [if_neg w4]; rw [if_neg w4] at hQ
            by_cases w5 : w = 5
            · rw [if_pos w5]; rw [if_pos w5] at hQ
              simp only [eX6_count_97, eX6_count_98, eX6_count_101, pe_aload_0, pe_callV_0, pe_getf, x0, s0, x_g6, sc_g0, sc_g1, sc_g2, sc_g3, sc_g4, sc_p3, sc_p4, sc_o, hget_hset, ia_l, ia_s, vin, opl, onl, Int32.reduceLT, Int32.reduceLE, Int32.reduceAdd, Int32.reduceSub, Nat.reduceLT, Nat.reduceAdd, Nat.reduceEqDiff, ↓reduceIte, true_and, and_true, List.length_nil, List.length_cons, Nat.reduceLeDiff, Nat.zero_le]
              refine sp_allDung hr.2.1 ?_
              simp only [eX6_count_104, pe_iret, hget_hset, ia_l, ia_s, vin, opl, onl, Int32.reduceLT, Int32.reduceLE, Int32.reduceAdd, Int32.reduceSub, Nat.reduceLT, Nat.reduceAdd, Nat.reduceEqDiff, ↓reduceIte, true_and, and_true, List.length_nil, List.length_cons, Nat.reduceLeDiff, Nat.zero_le]
              exact hQ
            · rw [if_neg w5]; rw [if_neg w5] at hQ
              by_cases w6 : w = 6
              · rw [if_pos w6]; rw [if_pos w6] at hQ
                simp only [eX6_count_105, eX6_count_106, eX6_count_109, pe_aload_0, pe_callV_0, pe_getf, x0, s0, x_g6, sc_g0, sc_g1, sc_g2, sc_g3, sc_g4, sc_p3, sc_p4, sc_o, hget_hset, ia_l, ia_s, vin, opl, onl, Int32.reduceLT, Int32.reduceLE, Int32.reduceAdd, Int32.reduceSub, Nat.reduceLT, Nat.reduceAdd, Nat.reduceEqDiff, ↓reduceIte, true_and, and_true, List.length_nil, List.length_cons, Nat.reduceLeDiff, Nat.zero_le]
                refine sp_allBuckets hr.2.1 ?_
                simp only [eX6_count_112, pe_iret, hget_hset, ia_l, ia_s, vin, opl, onl, Int32.reduceLT, Int32.reduceLE, Int32.reduceAdd, Int32.reduceSub, Nat.reduceLT, Nat.reduceAdd, Nat.reduceEqDiff, ↓reduceIte, true_and, and_true, List.length_nil, List.length_cons, Nat.reduceLeDiff, Nat.zero_le]
                exact hQ
              · rw [if_neg w6]; rw [if_neg w6] at hQ
                by_cases w7 : w = 7
                · rw [if_pos w7]; rw [if_pos w7] at hQ
                  simp only [eX6_count_113, eX6_count_114, eX6_count_117, pe_aload_0, pe_callV_0, pe_getf, x0, s0, x_g6, sc_g0, sc_g1, sc_g2, sc_g3, sc_g4, sc_p3, sc_p4, sc_o, hget_hset, ia_l, ia_s, vin, opl, onl, Int32.reduceLT, Int32.reduceLE, Int32.reduceAdd, Int32.reduceSub, Nat.reduceLT, Nat.reduceAdd, Nat.reduceEqDiff, ↓reduceIte, true_and, and_true, List.length_nil, List.length_cons, Nat.reduceLeDiff, Nat.zero_le]
                  refine sp_wetTowns hr.2.1 ?_
                  simp only [eX6_count_120, pe_iret, hget_hset, ia_l, ia_s, vin, opl, onl, Int32.reduceLT, Int32.reduceLE, Int32.reduceAdd, Int32.reduceSub, Nat.reduceLT, Nat.reduceAdd, Nat.reduceEqDiff, ↓reduceIte, true_and, and_true, List.length_nil, List.length_cons, Nat.reduceLeDiff, Nat.zero_le]
                  exact hQ
                · rw [if_neg w7]; rw [if_neg w7] at hQ
                  by_cases w8 : w = 8
                  · rw [if_pos w8]; rw [if_pos w8] at hQ
                    simp only [eX6_count_121, eX6_count_122, eX6_count_125, eX6_count_126, eX6_count_129, pe_aload_0, pe_callV_1, pe_getf, x0, s0, x_g3, x_g6, sc_g0, sc_g1, sc_g2, sc_g3, sc_g4, sc_p3, sc_p4, sc_o, hget_hset, ia_l, ia_s, vin, opl, onl, Int32.reduceLT, Int32.reduceLE, Int32.reduceAdd, Int32.reduceSub, Nat.reduceLT, Nat.reduceAdd, Nat.reduceEqDiff, ↓reduceIte, true_and, and_true, List.length_nil, List.length_cons, Nat.reduceLeDiff, Nat.zero_le]
                    refine sp_worth hr.2.1 hr.l ?_
                    simp only [eX6_count_132, pe_iret, hget_hset, ia_l, ia_s, vin, opl, onl, Int32.reduceLT, Int32.reduceLE, Int32.reduceAdd, Int32.reduceSub, Nat.reduceLT, Nat.reduceAdd, Nat.reduceEqDiff, ↓reduceIte, true_and, and_true, List.length_nil, List.length_cons, Nat.reduceLeDiff, Nat.zero_le]
                    exact hQ
                  · rw [if_neg w8]; rw [if_neg w8] at hQ
                    by_cases w9 : w = 9
                    · rw [if_pos w9]; rw [if_pos w9] at hQ
                      simp only [eX6_count_133, eX6_count_134, eX6_count_137, eX6_count_140, pe_aload_0, pe_getf, pe_iret, x0, hA, x_g7, ac_g1, hget_hset, ia_l, ia_s, vin, opl, onl, Int32.reduceLT, Int32.reduceLE, Int32.reduceAdd, Int32.reduceSub, Nat.reduceLT, Nat.reduceAdd, Nat.reduceEqDiff, ↓reduceIte, true_and, and_true, List.length_nil, List.length_cons, Nat.reduceLeDiff, Nat.zero_le]
                      exact hQ
                    · rw [if_neg w9]; rw [if_neg w9] at hQ
                      by_cases w10 : w = 10
                      · rw [if_pos w10]; rw [if_pos w10] at hQ
                        simp only [eX6_count_141, eX6_count_142, eX6_count_145, eX6_count_148, pe_aload_0, pe_getf, pe_iret, x0, hV, x_g8, sg_g3, hget_hset, ia_l, ia_s, vin, opl, onl, Int32.reduceLT, Int32.reduceLE, Int32.reduceAdd, Int32.reduceSub, Nat.reduceLT, Nat.reduceAdd, Nat.reduceEqDiff, ↓reduceIte, true_and, and_true, List.length_nil, List.length_cons, Nat.reduceLeDiff, Nat.zero_le]
                        exact hQ
                      · rw [if_neg w10]; rw [if_neg w10] at hQ
                        simp only [eX6_count_149, eX6_count_151, pe_const, pe_iret, hget_hset, ia_l, ia_s, vin, opl, onl, Int32.reduceLT, Int32.reduceLE, Int32.reduceAdd, Int32.reduceSub, Nat.reduceLT, Nat.reduceAdd, Nat.reduceEqDiff, ↓reduceIte, true_and, and_true, List.length_nil, List.length_cons, Nat.reduceLeDiff, Nat.zero_le]
                        exact hQ
/-! acts -/
set_option maxRecDepth 100000 in
theorem sp_hour {d sz c : Nat} {G : px_H} {le : Int32} {la dr : Nat} {ke : Int32} {sd : Int64} {K : Ld} {t : Nat → Int32} {T : Nat → Nat → Int32} {Q : px_Q} (hr : rX G le la dr ke sd K t) (hA : isA G sz T) (hv : vK K) (hok : okT K c t) (hQ : ∀ G', rX G' le la dr ke sd K (aP K 0 t) → isA G' (rowS sz) (rowT sz T t) → frZ G G' 19 81 → Q (some (.int (aW K 0 t))) G') : pcal (d + 3) 48 [.ref 2] G Q := by
  have x0 := hr.x
  have a0 := hA.1
  refine inX6_hour ?_
  simp only [eX6_hour_0, eX6_hour_1, eX6_hour_4, eX6_hour_5, eX6_hour_8, pe_aload_0, pe_callV_1, pe_getf, x0, a0, x_g6, x_g7, ac_o, hget_hset, ia_l, ia_s, vin, opl, onl, Int32.reduceLT, Int32.reduceLE, Int32.reduceAdd, Int32.reduceSub, Nat.reduceLT, Nat.reduceAdd, Nat.reduceEqDiff, ↓reduceIte, true_and, and_true, List.length_nil, List.length_cons, Nat.reduceLeDiff, Nat.zero_le]
  refine sp_remember hA hr.2.1 (by omega) ?_
  intro G1 e1 e2
  have fz : frZ G G1 23 81 := fun k _ b => e2 k b
  have z1 : isZ G1 17 := hr.1.2.2.2.kept (e2 _ (by omega)) (e2 _ (by omega))
  have w1 := hr.1.fr fz (by omega) z1
  have y0 := w1.1
  have z0 := z1.1
  have hla : la + 6 ≤ 17 := by have := w1.2.1; unfold lad at this; omega
  simp only [eX6_hour_11, eX6_hour_12, eX6_hour_15, eX6_hour_16, eX6_hour_19, eX6_hour_20, eX6_hour_23, eX6_hour_24, pe_aload_0, pe_callV_3, pe_const, pe_getf, y0, z0, x_g3, x_g5, x_g6, sr_o, hget_hset, ia_l, ia_s, vin, opl, onl, Int32.reduceLT, Int32.reduceLE, Int32.reduceAdd, Int32.reduceSub, Nat.reduceLT, Nat.reduceAdd, Nat.reduceEqDiff, ↓reduceIte, true_and, and_true, List.length_nil, List.length_cons, Nat.reduceLeDiff, Nat.zero_le]
  refine sp_pass w1.2.2.1 hv.1 z1 (hr.2.1.frZ fz (by omega) (by omega)) (aZ_of hv hok 0) (by omega) (by omega) (by omega) ?_
  intro G2 k1 k2 k3
  have fz2 : frZ G1 G2 19 23 := fun q q1 q2 => k3 q q2 q1
  have fz3 : frZ G G2 19 81 := (fz.wd (by omega) (by omega)).tr (fz2.wd (by omega) (by omega))
  simp only [eX6_hour_27, pe_iret, hget_hset, ia_l, ia_s, vin, opl, onl, Int32.reduceLT, Int32.reduceLE, Int32.reduceAdd, Int32.reduceSub, Nat.reduceLT, Nat.reduceAdd, Nat.reduceEqDiff, ↓reduceIte, true_and, and_true, List.length_nil, List.length_cons, Nat.reduceLeDiff, Nat.zero_le]
  refine hQ G2 ⟨hr.1.fr fz3 (by omega) k2, k1, hr.2.2.1.elim (fun u hu => ⟨u, hu.frZ fz3 (by omega) (by omega)⟩), hr.2.2.2.elim (fun u hu => ⟨u, hu.frZ fz3 (by omega) (by omega)⟩)⟩ (e1.kept (fun k a b => fz2 k (by omega) (by omega))) fz3
def aTn (K : Ld) (t : Nat → Int32) (di : Int32) : Int32 := if hP K.m di = false then -1 else (t 18 ^^^ 1 <<< (di &&& 31)) >>> (di &&& 31) &&& 1
set_option maxRecDepth 100000 in
theorem sp_turn {d sz : Nat} {G : px_H} {le : Int32} {la dr : Nat} {ke : Int32} {sd : Int64} {K : Ld} {di : Int32} {t : Nat → Int32} {T : Nat → Nat → Int32} {Q : px_Q} (hr : rX G le la dr ke sd K t) (hA : isA G sz T) (hQ : ∀ G' t' sz' T', (t', sz', T') = (if hP K.m di = false then (t, sz, T) else (so t (t 18 ^^^ 1 <<< (di &&& 31)), rowS sz, rowT sz T t)) → rX G' le la dr ke sd K t' → isA G' sz' T' → frZ G G' 19 81 → Q (some (.int (aTn K t di))) G') : pcal (d + 3) 49 [.ref 2, .int di] G Q := by
  have x0 := hr.x
  have l0 := hr.lo
  have a0 := hA.1
  refine inX6_turn ?_
  simp only [eX6_turn_0, eX6_turn_1, eX6_turn_4, eX6_turn_5, pe_aload_0, pe_callV_1, pe_getf, pe_iload_1, x0, l0, x_g3, ld_o, hget_hset, ia_l, ia_s, vin, opl, onl, Int32.reduceLT, Int32.reduceLE, Int32.reduceAdd, Int32.reduceSub, Nat.reduceLT, Nat.reduceAdd, Nat.reduceEqDiff, ↓reduceIte, true_and, and_true, List.length_nil, List.length_cons, Nat.reduceLeDiff, Nat.zero_le]
  refine sp_hasDitch hr.l ?_
  simp only [eX6_turn_8, eX6_turn_11, eX6_turn_12, pe_const, pe_ifeq, pe_iret, zB_0, hget_hset, ia_l, ia_s, vin, opl, onl, Int32.reduceLT, Int32.reduceLE, Int32.reduceAdd, Int32.reduceSub, Nat.reduceLT, Nat.reduceAdd, Nat.reduceEqDiff, ↓reduceIte, true_and, and_true, List.length_nil, List.length_cons, Nat.reduceLeDiff, Nat.zero_le]
  split
  · rename_i u0
    have := hQ G t sz T (by rw [if_pos u0]) hr hA frZ.rf
    rw [aTn, if_pos u0] at this
    exact this
  · rename_i u0
    simp only [eX6_turn_13, eX6_turn_14, eX6_turn_17, eX6_turn_18, eX6_turn_21, pe_aload_0, pe_callV_1, pe_getf, x0, a0, x_g6, x_g7, ac_o, hget_hset, ia_l, ia_s, vin, opl, onl, Int32.reduceLT, Int32.reduceLE, Int32.reduceAdd, Int32.reduceSub, Nat.reduceLT, Nat.reduceAdd, Nat.reduceEqDiff, ↓reduceIte, true_and, and_true, List.length_nil, List.length_cons, Nat.reduceLeDiff, Nat.zero_le]
    refine sp_remember hA hr.2.1 (by omega) ?_
    intro G1 e1 e2
    have fz : frZ G G1 23 81 := fun k _ b => e2 k b
    have y0 : hget G1 2 = some (c_x le la dr ke sd) := (e2 _ (by omega)).trans x0
    have s1 := hr.2.1.frZ fz (by omega) (by omega)
    have s0 := s1.obj
    simp only [eX6_turn_24, eX6_turn_25, eX6_turn_28, eX6_turn_29, eX6_turn_32, eX6_turn_33, eX6_turn_34, eX6_turn_35, eX6_turn_36, eX6_turn_39, eX6_turn_40, eX6_turn_43, eX6_turn_46, eX6_turn_47, eX6_turn_48, eX6_turn_49, eX6_turn_50, pe_aload_0, pe_bin, pe_const, pe_dup_i, pe_dup_r, pe_getf, pe_iload_1, pe_iret, pe_putf, y0, s0, x_g6, sc_g0, sc_g1, sc_g2, sc_g3, sc_g4, sc_p3, sc_p4, sc_o, hget_hset, ia_l, ia_s, vin, opl, onl, Int32.reduceLT, Int32.reduceLE, Int32.reduceAdd, Int32.reduceSub, Nat.reduceLT, Nat.reduceAdd, Nat.reduceEqDiff, ↓reduceIte, true_and, and_true, List.length_nil, List.length_cons, Nat.reduceLeDiff, Nat.zero_le]
    have fz2 : frZ G (hset G1 19 (c_sc 19 (t 18 ^^^ 1 <<< (di &&& 31)) (t 19))) 19 81 := fun k a b => by rw [hget_ne (by omega)]; exact fz k a (by omega)
    have z2 : isZ (hset G1 19 (c_sc 19 (t 18 ^^^ 1 <<< (di &&& 31)) (t 19))) 17 := hr.1.2.2.2.kept (by rw [hget_ne (by omega)]; exact e2 _ (by omega)) (by rw [hget_ne (by omega)]; exact e2 _ (by omega))
    have := hQ (hset G1 19 (c_sc 19 (t 18 ^^^ 1 <<< (di &&& 31)) (t 19))) _ _ _ (by rw [if_neg u0]) ⟨hr.1.fr fz2 (by omega) z2, s1.so, hr.2.2.1.elim (fun u hu => ⟨u, hu.frZ fz2 (by omega) (by omega)⟩), hr.2.2.2.elim (fun u hu => ⟨u, hu.frZ fz2 (by omega) (by omega)⟩)⟩ (e1.kept (fun k a b => by rw [hget_ne (by omega)])) fz2
    rw [aTn, if_neg u0] at this
    exact this
/-- rain: what is refused -/
def rnR (K : Ld) (t : Nat → Int32) (p k : Int32) : Int32 := if hP K.n p = false then -1 else if k < 1 ∨ 9 < k then -2 else if K.kd p.toNatClampNeg = 0 ∧ ¬ 99 < t p.toNatClampNeg + k then 0 else -3
def aRa (K : Ld) (t : Nat → Int32) (p k : Int32) : Int32 := if rnR K t p k = 0 then t p.toNatClampNeg + k else rnR K t p k
def rnT (t : Nat → Int32) (p : Nat) (k : Int32) : Nat → Int32 := fun j => if j = p then t p + k else t j
set_option maxRecDepth 100000 in
theorem sp_rain {d sz : Nat} {G : px_H} {le : Int32} {la dr : Nat} {ke : Int32} {sd : Int64} {K : Ld} {p k : Int32} {t : Nat → Int32} {T : Nat → Nat → Int32} {Q : px_Q} (hr : rX G le la dr ke sd K t) (hA : isA G sz T) (hQ : ∀ G' t' sz' T', (t', sz', T') = (if rnR K t p k = 0 then (rnT t p.toNatClampNeg k, rowS sz, rowT sz T t) else (t, sz, T)) → rX G' le la dr ke sd K t' → isA G' sz' T' → frZ G G' 19 81 → Q (some (.int (aRa K t p k))) G') : pcal (d + 3) 50 [.ref 2, .int p, .int k] G Q := by
  have x0 := hr.x
  obtain ⟨l0, l1, l2, l3, l4, l5, l6, l7⟩ := hr.l
  obtain ⟨f0, f1, f2, s0, s1, s2, s3, s4⟩ := hr.2.1
  have a0 := hA.1
  have no : ∀ e, rnR K t p k = e → ¬ e = 0 → Q (some (.int e)) G := by
    intro e h1 h2
    have := hQ G t sz T (by rw [if_neg (by rw [h1]; exact h2)]) hr hA frZ.rf
    rw [aRa, if_neg (by rw [h1]; exact h2), h1] at this
    exact this
  refine inX6_rain ?_
  simp only [eX6_rain_0, eX6_rain_1, eX6_rain_4, eX6_rain_5, pe_aload_0, pe_callV_1, pe_getf, pe_iload_1, x0, l0, x_g3, ld_o, hget_hset, ia_l, ia_s, vin, opl, onl, Int32.reduceLT, Int32.reduceLE, Int32.reduceAdd, Int32.reduceSub, Nat.reduceLT, Nat.reduceAdd, Nat.reduceEqDiff, ↓reduceIte, true_and, and_true, List.length_nil, List.length_cons, Nat.reduceLeDiff, Nat.zero_le]
  refine sp_hasPlace hr.l ?_
  simp only [eX6_rain_8, eX6_rain_11, eX6_rain_12, pe_const, pe_ifeq, pe_iret, zB_0, hget_hset, ia_l, ia_s, vin, opl, onl, Int32.reduceLT, Int32.reduceLE, Int32.reduceAdd, Int32.reduceSub, Nat.reduceLT, Nat.reduceAdd, Nat.reduceEqDiff, ↓reduceIte, true_and, and_true, List.length_nil, List.length_cons, Nat.reduceLeDiff, Nat.zero_le]
  split
  · rename_i u0
    exact no _ (by rw [rnR, if_pos u0]) (by decide)
  · rename_i u0
    obtain ⟨p1, p2, p3, p4⟩ := hP_of (n := K.n) (x := p) l6 (hP_t u0)
    have out : (k < 1 ∨ 9 < k) → pr (d + 2) 50 (G.1 + 0, G.2.1 + 0) Q 24 [some (.ref 2), some (.int p), some (.int k)] [] G := by
      intro u
      simp only [eX6_rain_24, eX6_rain_26, pe_const, pe_iret, hget_hset, ia_l, ia_s, vin, opl, onl, Int32.reduceLT, Int32.reduceLE, Int32.reduceAdd, Int32.reduceSub, Nat.reduceLT, Nat.reduceAdd, Nat.reduceEqDiff, ↓reduceIte, true_and, and_true, List.length_nil, List.length_cons, Nat.reduceLeDiff, Nat.zero_le]
      exact no _ (by rw [rnR, if_neg u0, if_pos u]) (by decide)
    have sta : ¬ (k < 1 ∨ 9 < k) → ¬ (K.kd p.toNatClampNeg = 0 ∧ ¬ 99 < t p.toNatClampNeg + k) → pr (d + 2) 50 (G.1 + 0, G.2.1 + 0) Q 55 [some (.ref 2), some (.int p), some (.int k)] [] G := by
      intro v u
      simp only [eX6_rain_55, eX6_rain_57, pe_const, pe_iret, hget_hset, ia_l, ia_s, vin, opl, onl, Int32.reduceLT, Int32.reduceLE, Int32.reduceAdd, Int32.reduceSub, Nat.reduceLT, Nat.reduceAdd, Nat.reduceEqDiff, ↓reduceIte, true_and, and_true, List.length_nil, List.length_cons, Nat.reduceLeDiff, Nat.zero_le]
      exact no _ (by rw [rnR, if_neg u0, if_neg v, if_neg u]) (by decide)
    simp only [eX6_rain_13, eX6_rain_14, eX6_rain_15, pe_const, pe_iclt, pe_iload_2, hget_hset, ia_l, ia_s, vin, opl, onl, Int32.reduceLT, Int32.reduceLE, Int32.reduceAdd, Int32.reduceSub, Nat.reduceLT, Nat.reduceAdd, Nat.reduceEqDiff, ↓reduceIte, true_and, and_true, List.length_nil, List.length_cons, Nat.reduceLeDiff, Nat.zero_le]
    split
    · rename_i u1
      exact out (Or.inl u1)
    · rename_i u1
      simp only [eX6_rain_18, eX6_rain_19, eX6_rain_21, pe_const, pe_icgt, pe_iload_2, hget_hset, ia_l, ia_s, vin, opl, onl, Int32.reduceLT, Int32.reduceLE, Int32.reduceAdd, Int32.reduceSub, Nat.reduceLT, Nat.reduceAdd, Nat.reduceEqDiff, ↓reduceIte, true_and, and_true, List.length_nil, List.length_cons, Nat.reduceLeDiff, Nat.zero_le]
      split
      · rename_i u2
        exact out (Or.inr u2)
      · rename_i u2
        have u12 : ¬ (k < 1 ∨ 9 < k) := by rintro (z | z) <;> contradiction
        simp only [eX6_rain_27, eX6_rain_28, eX6_rain_31, eX6_rain_34, eX6_rain_35, eX6_rain_36, pe_aload_0, pe_getf, pe_iald, pe_ifeq, pe_iload_1, x0, l0, l1, x_g3, ld_g0, ld_g1, ld_g2, ld_g3, ld_g4, ld_g5, ld_g6, ld_g7, ld_p5, ld_p6, ld_p7, ld_o, p1, p3, hget_hset, ia_l, ia_s, vin, opl, onl, Int32.reduceLT, Int32.reduceLE, Int32.reduceAdd, Int32.reduceSub, Nat.reduceLT, Nat.reduceAdd, Nat.reduceEqDiff, ↓reduceIte, true_and, and_true, List.length_nil, List.length_cons, Nat.reduceLeDiff, Nat.zero_le]
        split
        · rename_i u3
          simp only [eX6_rain_39, eX6_rain_40, eX6_rain_43, eX6_rain_46, eX6_rain_47, eX6_rain_48, eX6_rain_49, eX6_rain_50, eX6_rain_52, pe_aload_0, pe_bin, pe_const, pe_getf, pe_iald, pe_icgt, pe_iload_1, pe_iload_2, x0, s0, s1, x_g6, sc_g0, sc_g1, sc_g2, sc_g3, sc_g4, sc_p3, sc_p4, sc_o, p1, p3, hget_hset, ia_l, ia_s, vin, opl, onl, Int32.reduceLT, Int32.reduceLE, Int32.reduceAdd, Int32.reduceSub, Nat.reduceLT, Nat.reduceAdd, Nat.reduceEqDiff, ↓reduceIte, true_and, and_true, List.length_nil, List.length_cons, Nat.reduceLeDiff, Nat.zero_le]
          rw [(s4 _ p3).1]
          split
          · rename_i u4
            exact sta u12 (fun z => z.2 u4)
          · rename_i u4
            have ok : rnR K t p k = 0 := by rw [rnR, if_neg u0, if_neg u12, if_pos ⟨u3, u4⟩]
            simp only [eX6_rain_58, eX6_rain_59, eX6_rain_62, eX6_rain_63, eX6_rain_66, pe_aload_0, pe_callV_1, pe_getf, x0, a0, x_g6, x_g7, ac_o, hget_hset, ia_l, ia_s, vin, opl, onl, Int32.reduceLT, Int32.reduceLE, Int32.reduceAdd, Int32.reduceSub, Nat.reduceLT, Nat.reduceAdd, Nat.reduceEqDiff, ↓reduceIte, true_and, and_true, List.length_nil, List.length_cons, Nat.reduceLeDiff, Nat.zero_le]
            refine sp_remember hA hr.2.1 (by omega) ?_
            intro G1 e1 e2
            have fz : frZ G G1 23 81 := fun k _ b => e2 k b
            have y0 : hget G1 2 = some (c_x le la dr ke sd) := (e2 _ (by omega)).trans x0
            have sS := hr.2.1.frZ fz (by omega) (by omega)
            have q0 : hget G1 19 = some (c_sc 19 (t 18) (t 19)) := sS.obj
            have q1 : hget G1 20 = some (c_ia 6 f0) := (e2 _ (by omega)).trans s1
            simp only [eX6_rain_69, eX6_rain_70, eX6_rain_73, eX6_rain_76, eX6_rain_77, eX6_rain_78, eX6_rain_79, eX6_rain_80, eX6_rain_81, eX6_rain_82, eX6_rain_83, eX6_rain_86, eX6_rain_89, eX6_rain_90, eX6_rain_91, pe_aload_0, pe_bin, pe_dup2_ir, pe_getf, pe_iald, pe_iast, pe_iload_1, pe_iload_2, pe_iret, y0, q0, q1, x_g6, sc_g0, sc_g1, sc_g2, sc_g3, sc_g4, sc_p3, sc_p4, sc_o, p1, p3, hget_hset, ia_l, ia_s, vin, opl, onl, Int32.reduceLT, Int32.reduceLE, Int32.reduceAdd, Int32.reduceSub, Nat.reduceLT, Nat.reduceAdd, Nat.reduceEqDiff, ↓reduceIte, true_and, and_true, List.length_nil, List.length_cons, Nat.reduceLeDiff, Nat.zero_le]
            rw [(s4 _ p3).1]
            have b := sS.b1 q1 p3 (x := t p.toNatClampNeg + k)
            have fz2 : frZ G (hset G1 20 (c_ia 6 (upd f0 p.toNatClampNeg (t p.toNatClampNeg + k)))) 19 81 := fun k a b => by rw [hget_ne (by omega)]; exact fz k a (by omega)
            have z2 : isZ (hset G1 20 (c_ia 6 (upd f0 p.toNatClampNeg (t p.toNatClampNeg + k)))) 17 := hr.1.2.2.2.kept (by rw [hget_ne (by omega)]; exact e2 _ (by omega)) (by rw [hget_ne (by omega)]; exact e2 _ (by omega))
            have := hQ _ _ _ _ (by rw [if_pos ok]; rfl) ⟨hr.1.fr fz2 (by omega) z2, b, hr.2.2.1.elim (fun u hu => ⟨u, hu.frZ fz2 (by omega) (by omega)⟩), hr.2.2.2.elim (fun u hu => ⟨u, hu.frZ fz2 (by omega) (by omega)⟩)⟩ (e1.kept (fun k a b => by rw [hget_ne (by omega)])) fz2
            rw [aRa, if_pos ok] at this
            simpa [upd] using this
        · rename_i u3
          exact sta u12 (fun z => u3 z.1)
set_option maxRecDepth 100000 in
theorem sp_undo {d sz : Nat} {G : px_H} {le : Int32} {la dr : Nat} {ke : Int32} {sd : Int64} {K : Ld} {t : Nat → Int32} {T : Nat → Nat → Int32} {Q : px_Q} (hr : rX G le la dr ke sd K t) (hA : isA G sz T) (hQ : ∀ G' t', t' = (if sz = 0 then t else T (sz - 1)) → rX G' le la dr ke sd K t' → isA G' (sz - 1) T → frZ G G' 19 81 → Q (some (.int (if sz = 0 then -3 else nI (sz - 1)))) G') : pcal (d + 3) 51 [.ref 2] G Q := by
  have x0 := hr.x
  have a0 := hA.1
  have hsz := hA.2.1
  refine inX6_undo ?_
  cases sz with
  | zero =>
    have e : nI 0 = 0 := nI_0
    simp only [eX6_undo_0, eX6_undo_1, eX6_undo_4, eX6_undo_7, eX6_undo_10, eX6_undo_12, pe_aload_0, pe_const, pe_getf, pe_ifeq, pe_iret, x0, a0, x_g7, ac_g1, e, hget_hset, ia_l, ia_s, vin, opl, onl, Int32.reduceLT, Int32.reduceLE, Int32.reduceAdd, Int32.reduceSub, Nat.reduceLT, Nat.reduceAdd, Nat.reduceEqDiff, ↓reduceIte, true_and, and_true, List.length_nil, List.length_cons, Nat.reduceLeDiff, Nat.zero_le]
    exact hQ G t rfl hr hA frZ.rf
  | succ sz =>
    have e : ¬ nI (sz + 1) = 0 := nI_ne0 (by omega) (by omega)
    simp only [eX6_undo_0, eX6_undo_1, eX6_undo_4, eX6_undo_7, eX6_undo_10, eX6_undo_12, eX6_undo_13, eX6_undo_14, eX6_undo_17, eX6_undo_18, eX6_undo_21, pe_aload_0, pe_callV_1, pe_const, pe_getf, pe_ifeq, pe_iret, x0, a0, x_g6, x_g7, ac_g1, ac_o, e, hget_hset, ia_l, ia_s, vin, opl, onl, Int32.reduceLT, Int32.reduceLE, Int32.reduceAdd, Int32.reduceSub, Nat.reduceLT, Nat.reduceAdd, Nat.reduceEqDiff, ↓reduceIte, true_and, and_true, List.length_nil, List.length_cons, Nat.reduceLeDiff, Nat.zero_le]
    refine sp_takeBack hA hr.2.1 (by omega) ?_
    intro G1 e1 e2 e3
    have fz : frZ G G1 19 81 := fun k a b => e3 k (by omega) (by omega)
    have y0 : hget G1 2 = some (c_x le la dr ke sd) := (e3 _ (by omega) (by omega)).trans x0
    have a1 := e1.1
    simp only [eX6_undo_24, eX6_undo_25, eX6_undo_28, eX6_undo_31, pe_aload_0, pe_getf, pe_iret, y0, a1, x_g7, ac_g1, hget_hset, ia_l, ia_s, vin, opl, onl, Int32.reduceLT, Int32.reduceLE, Int32.reduceAdd, Int32.reduceSub, Nat.reduceLT, Nat.reduceAdd, Nat.reduceEqDiff, ↓reduceIte, true_and, and_true, List.length_nil, List.length_cons, Nat.reduceLeDiff, Nat.zero_le]
    have z1 : isZ G1 17 := hr.1.2.2.2.kept (e3 _ (by omega) (by omega)) (e3 _ (by omega) (by omega))
    exact hQ G1 (T sz) rfl ⟨hr.1.fr fz (by omega) z1, e2, hr.2.2.1.elim (fun u hu => ⟨u, hu.frZ fz (by omega) (by omega)⟩), hr.2.2.2.elim (fun u hu => ⟨u, hu.frZ fz (by omega) (by omega)⟩)⟩ e1 fz
/-! slots -/
def isW (G : px_H) (w0 w1 : Nat → Int32) : Prop := (∃ r : Nat → Option Nat, hget G 85 = some (c_ra 2 r) ∧ r 0 = some 96 ∧ r 1 = some 100) ∧ isS G 96 w0 ∧ isS G 100 w1
theorem lt2 {x : Int32} (h1 : ¬ x < 0) (h2 : x < 2) : x = 0 ∨ x = 1 := by
  rw [i_lt, i_0] at h1
  rw [i_lt, show (2 : Int32).toInt = 2 by decide] at h2
  rcases (show x.toInt = 0 ∨ x.toInt = 1 by omega) with e | e
  · exact Or.inl (Int32.toInt_inj.mp (by rw [e]; rfl))
  · exact Or.inr (Int32.toInt_inj.mp (by rw [e]; rfl))
set_option maxRecDepth 100000 in
theorem sp_keep {d : Nat} {G : px_H} {le : Int32} {la dr : Nat} {ke : Int32} {sd : Int64} {K : Ld} {x : Int32} {t w0 w1 : Nat → Int32} {Q : px_Q} (hr : rX G le la dr ke sd K t) (hW : isW G w0 w1) (hQ : ∀ G' ke' w0' w1', (ke', w0', w1') = (if x = 0 then (ke ||| 1, t, w1) else if x = 1 then (ke ||| 2, w0, t) else (ke, w0, w1)) → rX G' le la dr ke' sd K t → isW G' w0' w1' → (∀ k, k ≠ 2 → (k < 96 ∨ 104 ≤ k) → hget G' k = hget G k) → Q (some (.int (if x = 0 ∨ x = 1 then t 19 else -1))) G') : pcal (d + 2) 87 [.ref 2, .int x] G Q := by
  have x0 := hr.x
  have s0 := hr.2.1.obj
  obtain ⟨⟨r, r0, r1, r2⟩, h96, h100⟩ := hW
  refine inX6_keep ?_
  have bad : ¬ (x = 0 ∨ x = 1) → pr (d + 1) 87 (G.1 + 0, G.2.1 + 0) Q 9 [some (.ref 2), some (.int x)] [] G := by
    intro u
    simp only [eX6_keep_9, eX6_keep_10, pe_const, pe_iret, hget_hset, ia_l, ia_s, vin, opl, onl, Int32.reduceLT, Int32.reduceLE, Int32.reduceAdd, Int32.reduceSub, Nat.reduceLT, Nat.reduceAdd, Nat.reduceEqDiff, ↓reduceIte, true_and, and_true, List.length_nil, List.length_cons, Nat.reduceLeDiff, Nat.zero_le]
    have := hQ G ke w0 w1 (by rw [if_neg (fun z => u (Or.inl z)), if_neg (fun z => u (Or.inr z))]) hr ⟨⟨r, r0, r1, r2⟩, h96, h100⟩ (fun _ _ _ => rfl)
    rw [if_neg u] at this
    exact this
  have fin : ∀ G1 b ke' w0' w1', b = b → isS G1 19 t → rX G1 le la dr ke sd K t → (∀ k, (k < b ∨ b + 4 ≤ k) → hget G1 k = hget G k) → (b = 96 ∨ b = 100) → isW G1 w0' w1' → ke' = (ke ||| 1 <<< (x &&& 31)) → (ke', w0', w1') = (if x = 0 then (ke ||| 1, t, w1) else if x = 1 then (ke ||| 2, w0, t) else (ke, w0, w1)) → (x = 0 ∨ x = 1) → pr (d + 1) 87 (G.1 + 0, G.2.1 + 0) Q 24 [some (.ref 2), some (.int x)] [] G1 := by
    intro G1 b ke' w0' w1' _ k1 k2 k3 k4 k5 k6 k7 k8
    have y0 := k2.x
    have q0 := k1.obj
    simp only [eX6_keep_24, eX6_keep_25, eX6_keep_26, eX6_keep_29, eX6_keep_30, eX6_keep_31, eX6_keep_32, eX6_keep_33, eX6_keep_36, eX6_keep_37, eX6_keep_40, eX6_keep_43, pe_aload_0, pe_bin, pe_const, pe_dup_i, pe_dup_r, pe_getf, pe_iload_1, pe_iret, pe_putf, y0, q0, x_g6, x_g10, x_p10, sc_g0, sc_g1, sc_g2, sc_g3, sc_g4, sc_p3, sc_p4, sc_o, hget_hset, ia_l, ia_s, vin, opl, onl, Int32.reduceLT, Int32.reduceLE, Int32.reduceAdd, Int32.reduceSub, Nat.reduceLT, Nat.reduceAdd, Nat.reduceEqDiff, ↓reduceIte, true_and, and_true, List.length_nil, List.length_cons, Nat.reduceLeDiff, Nat.zero_le]
    rw [← k6]
    have oth : ∀ k, k ≠ 2 → hget (hset G1 2 (c_x le la dr ke' sd)) k = hget G1 k := fun k hk => hget_ne hk
    have lad' := k2.1.2.1
    have := hQ (hset G1 2 (c_x le la dr ke' sd)) ke' w0' w1' k7 ⟨⟨hget_self _ _ _, lad', k2.1.2.2.1.kept (fun k a b => oth k (by unfold lad at lad'; omega)), k2.1.2.2.2.kept (oth _ (by omega)) (oth _ (by omega))⟩, k1.kept (fun k a b => oth k (by omega)), k2.2.2.1.elim (fun u hu => ⟨u, hu.kept (fun k a b => oth k (by omega))⟩), k2.2.2.2.elim (fun u hu => ⟨u, hu.kept (fun k a b => oth k (by omega))⟩)⟩ ⟨k5.1.elim (fun r hr => ⟨r, (oth _ (by omega)).trans hr.1, hr.2⟩), k5.2.1.kept (fun k a b => oth k (by omega)), k5.2.2.kept (fun k a b => oth k (by omega))⟩ (fun k a b => (oth k a).trans (k3 k (by omega)))
    rw [if_pos k8] at this
    exact this
  simp only [eX6_keep_0, eX6_keep_1, pe_iflt, pe_iload_1, hget_hset, ia_l, ia_s, vin, opl, onl, Int32.reduceLT, Int32.reduceLE, Int32.reduceAdd, Int32.reduceSub, Nat.reduceLT, Nat.reduceAdd, Nat.reduceEqDiff, ↓reduceIte, true_and, and_true, List.length_nil, List.length_cons, Nat.reduceLeDiff, Nat.zero_le]
  split
  · rename_i u1
    exact bad (by rintro (rfl | rfl) <;> exact absurd u1 (by decide))
  · rename_i u1
    simp only [eX6_keep_4, eX6_keep_5, eX6_keep_6, pe_const, pe_iclt, pe_iload_1, hget_hset, ia_l, ia_s, vin, opl, onl, Int32.reduceLT, Int32.reduceLE, Int32.reduceAdd, Int32.reduceSub, Nat.reduceLT, Nat.reduceAdd, Nat.reduceEqDiff, ↓reduceIte, true_and, and_true, List.length_nil, List.length_cons, Nat.reduceLeDiff, Nat.zero_le]
    split
    · rename_i u2
      rcases lt2 u1 u2 with rfl | rfl
      · have q0 := h96.obj
        simp only [eX6_keep_11, eX6_keep_12, eX6_keep_15, eX6_keep_16, eX6_keep_17, eX6_keep_18, eX6_keep_21, pe_aald, pe_aload_0, pe_callV_1, pe_getf, pe_iload_1, x0, q0, x_g6, x_g9, r0, ra_g, r1, pog_e, cl_0, sc_g0, sc_g1, sc_g2, sc_g3, sc_g4, sc_p3, sc_p4, sc_o, hget_hset, ia_l, ia_s, vin, opl, onl, Int32.reduceLT, Int32.reduceLE, Int32.reduceAdd, Int32.reduceSub, Nat.reduceLT, Nat.reduceAdd, Nat.reduceEqDiff, ↓reduceIte, true_and, and_true, List.length_nil, List.length_cons, Nat.reduceLeDiff, Nat.zero_le]
        refine sp_copy h96 hr.2.1 (by omega) ?_
        intro G1 e1 e2
        have fz : frZ G G1 96 100 := fun k _ b => e2 k b
        refine fin G1 96 _ t w1 rfl (hr.2.1.frZ fz (by omega) (by omega)) ⟨hr.1.fr fz (by omega) (hr.1.2.2.2.kept (e2 _ (by omega)) (e2 _ (by omega))), hr.2.1.frZ fz (by omega) (by omega), hr.2.2.1.elim (fun u hu => ⟨u, hu.frZ fz (by omega) (by omega)⟩), hr.2.2.2.elim (fun u hu => ⟨u, hu.frZ fz (by omega) (by omega)⟩)⟩ e2 (Or.inl rfl) ⟨⟨r, (e2 _ (by omega)).trans r0, r1, r2⟩, e1, h100.frZ fz (by omega) (by omega)⟩ rfl rfl (Or.inl rfl)
      · have q0 := h100.obj
        simp only [eX6_keep_11, eX6_keep_12, eX6_keep_15, eX6_keep_16, eX6_keep_17, eX6_keep_18, eX6_keep_21, pe_aald, pe_aload_0, pe_callV_1, pe_getf, pe_iload_1, x0, q0, x_g6, x_g9, r0, ra_g, r2, pog_e, cl_1, sc_g0, sc_g1, sc_g2, sc_g3, sc_g4, sc_p3, sc_p4, sc_o, hget_hset, ia_l, ia_s, vin, opl, onl, Int32.reduceLT, Int32.reduceLE, Int32.reduceAdd, Int32.reduceSub, Nat.reduceLT, Nat.reduceAdd, Nat.reduceEqDiff, ↓reduceIte, true_and, and_true, List.length_nil, List.length_cons, Nat.reduceLeDiff, Nat.zero_le]
        refine sp_copy h100 hr.2.1 (by omega) ?_
        intro G1 e1 e2
        have fz : frZ G G1 100 104 := fun k _ b => e2 k b
        refine fin G1 100 _ w0 t rfl (hr.2.1.frZ fz (by omega) (by omega)) ⟨hr.1.fr fz (by omega) (hr.1.2.2.2.kept (e2 _ (by omega)) (e2 _ (by omega))), hr.2.1.frZ fz (by omega) (by omega), hr.2.2.1.elim (fun u hu => ⟨u, hu.frZ fz (by omega) (by omega)⟩), hr.2.2.2.elim (fun u hu => ⟨u, hu.frZ fz (by omega) (by omega)⟩)⟩ e2 (Or.inr rfl) ⟨⟨r, (e2 _ (by omega)).trans r0, r1, r2⟩, h96.frZ fz (by omega) (by omega), e1⟩ rfl rfl (Or.inr rfl)
    · rename_i u2
      exact bad (by rintro (rfl | rfl) <;> exact absurd (by decide) u2)
def agR (ke x : Int32) : Int32 := if x = 0 ∨ x = 1 then (if ke >>> (x &&& 31) &&& 1 = 0 then -3 else 0) else -1
set_option maxRecDepth 100000 in
theorem sp_again {d sz : Nat} {G : px_H} {le : Int32} {la dr : Nat} {ke : Int32} {sd : Int64} {K : Ld} {x : Int32} {t w0 w1 : Nat → Int32} {T : Nat → Nat → Int32} {Q : px_Q} (hr : rX G le la dr ke sd K t) (hA : isA G sz T) (hW : isW G w0 w1) (hQ : ∀ G' t' sz', (t', sz') = (if agR ke x = 0 then (if x = 0 then w0 else w1, 0) else (t, sz)) → rX G' le la dr ke sd K t' → isA G' sz' T → frZ G G' 19 24 → Q (some (.int (if agR ke x = 0 then (if x = 0 then w0 19 else w1 19) else agR ke x))) G') : pcal (d + 2) 88 [.ref 2, .int x] G Q := by
  have x0 := hr.x
  have s0 := hr.2.1.obj
  obtain ⟨⟨r, r0, r1, r2⟩, h96, h100⟩ := hW
  refine inX6_again ?_
  have no : ∀ e, agR ke x = e → ¬ e = 0 → Q (some (.int e)) G := by
    intro e h1 h2
    have := hQ G t sz (by rw [if_neg (by rw [h1]; exact h2)]) hr hA frZ.rf
    rw [if_neg (by rw [h1]; exact h2), h1] at this
    exact this
  have bad : ¬ (x = 0 ∨ x = 1) → pr (d + 1) 88 (G.1 + 0, G.2.1 + 0) Q 9 [some (.ref 2), some (.int x)] [] G := by
    intro u
    simp only [eX6_again_9, eX6_again_10, pe_const, pe_iret, hget_hset, ia_l, ia_s, vin, opl, onl, Int32.reduceLT, Int32.reduceLE, Int32.reduceAdd, Int32.reduceSub, Nat.reduceLT, Nat.reduceAdd, Nat.reduceEqDiff, ↓reduceIte, true_and, and_true, List.length_nil, List.length_cons, Nat.reduceLeDiff, Nat.zero_le]
    exact no _ (by rw [agR, if_neg u]) (by decide)
  have fin : ∀ G1 s, isS G1 19 s → (∀ k, (k < 19 ∨ 23 ≤ k) → hget G1 k = hget G k) → agR ke x = 0 → s = (if x = 0 then w0 else w1) → pr (d + 1) 88 (G.1 + 0, G.2.1 + 0) Q 38 [some (.ref 2), some (.int x)] [] G1 := by
    intro G1 s k1 k2 k3 k4
    have y0 : hget G1 2 = some (c_x le la dr ke sd) := (k2 _ (by omega)).trans x0
    have a1 : hget G1 23 = some (c_ac 23 (nI sz)) := (k2 _ (by omega)).trans hA.1
    simp only [eX6_again_38, eX6_again_39, eX6_again_42, pe_aload_0, pe_callV_0, pe_getf, y0, a1, x_g7, ac_o, hget_hset, ia_l, ia_s, vin, opl, onl, Int32.reduceLT, Int32.reduceLE, Int32.reduceAdd, Int32.reduceSub, Nat.reduceLT, Nat.reduceAdd, Nat.reduceEqDiff, ↓reduceIte, true_and, and_true, List.length_nil, List.length_cons, Nat.reduceLeDiff, Nat.zero_le]
    refine sp_forget a1 ?_
    have oth : ∀ k, k ≠ 23 → hget (hset G1 23 (c_ac 23 0)) k = hget G1 k := fun k hk => hget_ne hk
    have y1 : hget (hset G1 23 (c_ac 23 0)) 2 = some (c_x le la dr ke sd) := (oth _ (by omega)).trans y0
    have s1 : isS (hset G1 23 (c_ac 23 0)) 19 s := k1.kept (fun k a b => oth k (by omega))
    have s2 := s1.obj
    have fz : frZ G (hset G1 23 (c_ac 23 0)) 19 24 := fun k a b => (oth k (by omega)).trans (k2 k (by omega))
    simp only [eX6_again_45, eX6_again_46, eX6_again_49, eX6_again_52, pe_aload_0, pe_getf, pe_iret, y1, s2, x_g6, sc_g0, sc_g1, sc_g2, sc_g3, sc_g4, sc_p3, sc_p4, sc_o, hget_hset, ia_l, ia_s, vin, opl, onl, Int32.reduceLT, Int32.reduceLE, Int32.reduceAdd, Int32.reduceSub, Nat.reduceLT, Nat.reduceAdd, Nat.reduceEqDiff, ↓reduceIte, true_and, and_true, List.length_nil, List.length_cons, Nat.reduceLeDiff, Nat.zero_le]
    have hA' : isA (hset G1 23 (c_ac 23 0)) 0 T := by
      obtain ⟨b1, b2, rr, pm, b3, b4, b5, b6⟩ := hA
      refine ⟨hget_self _ _ _, by omega, rr, pm, (oth _ (by omega)).trans ((k2 _ (by omega)).trans b3), fun i hi => ?_, b5, fun i hi => by omega⟩
      obtain ⟨c1, c2, tt, c3⟩ := b4 i hi
      exact ⟨c1, c2, tt, c3.frZ fz (by omega) (by omega)⟩
    have := hQ _ s 0 (by rw [if_pos k3, k4]) ⟨hr.1.fr fz (by omega) (hr.1.2.2.2.kept ((oth _ (by omega)).trans (k2 _ (by omega))) ((oth _ (by omega)).trans (k2 _ (by omega)))), s1, hr.2.2.1.elim (fun u hu => ⟨u, hu.frZ fz (by omega) (by omega)⟩), hr.2.2.2.elim (fun u hu => ⟨u, hu.frZ fz (by omega) (by omega)⟩)⟩ hA' fz
    rw [if_pos k3] at this
    rw [k4]
    by_cases hx : x = 0
    · rw [if_pos hx] at this ⊢; exact this
    · rw [if_neg hx] at this ⊢; exact this
  simp only [eX6_again_0, eX6_again_1, pe_iflt, pe_iload_1, hget_hset, ia_l, ia_s, vin, opl, onl, Int32.reduceLT, Int32.reduceLE, Int32.reduceAdd, Int32.reduceSub, Nat.reduceLT, Nat.reduceAdd, Nat.reduceEqDiff, ↓reduceIte, true_and, and_true, List.length_nil, List.length_cons, Nat.reduceLeDiff, Nat.zero_le]
  split
  · rename_i u1
    exact bad (by rintro (rfl | rfl) <;> exact absurd u1 (by decide))
  · rename_i u1
    simp only [eX6_again_4, eX6_again_5, eX6_again_6, pe_const, pe_iclt, pe_iload_1, hget_hset, ia_l, ia_s, vin, opl, onl, Int32.reduceLT, Int32.reduceLE, Int32.reduceAdd, Int32.reduceSub, Nat.reduceLT, Nat.reduceAdd, Nat.reduceEqDiff, ↓reduceIte, true_and, and_true, List.length_nil, List.length_cons, Nat.reduceLeDiff, Nat.zero_le]
    split
    · rename_i u2
      have u12 := lt2 u1 u2
      simp only [eX6_again_11, eX6_again_12, eX6_again_15, eX6_again_16, eX6_again_17, eX6_again_18, eX6_again_19, pe_aload_0, pe_bin, pe_const, pe_getf, pe_ifeq, pe_iload_1, x0, x_g10, hget_hset, ia_l, ia_s, vin, opl, onl, Int32.reduceLT, Int32.reduceLE, Int32.reduceAdd, Int32.reduceSub, Nat.reduceLT, Nat.reduceAdd, Nat.reduceEqDiff, ↓reduceIte, true_and, and_true, List.length_nil, List.length_cons, Nat.reduceLeDiff, Nat.zero_le]
      split
      · rename_i u3
        simp only [eX6_again_22, eX6_again_24, pe_const, pe_iret, hget_hset, ia_l, ia_s, vin, opl, onl, Int32.reduceLT, Int32.reduceLE, Int32.reduceAdd, Int32.reduceSub, Nat.reduceLT, Nat.reduceAdd, Nat.reduceEqDiff, ↓reduceIte, true_and, and_true, List.length_nil, List.length_cons, Nat.reduceLeDiff, Nat.zero_le]
        exact no _ (by rw [agR, if_pos u12, if_pos u3]) (by decide)
      · rename_i u3
        have ok : agR ke x = 0 := by rw [agR, if_pos u12, if_neg u3]
        rcases u12 with rfl | rfl
        · simp only [eX6_again_25, eX6_again_26, eX6_again_29, eX6_again_30, eX6_again_33, eX6_again_34, eX6_again_35, pe_aald, pe_aload_0, pe_callV_1, pe_getf, pe_iload_1, x0, s0, x_g6, x_g9, r0, ra_g, r1, pog_e, cl_0, sc_g0, sc_g1, sc_g2, sc_g3, sc_g4, sc_p3, sc_p4, sc_o, hget_hset, ia_l, ia_s, vin, opl, onl, Int32.reduceLT, Int32.reduceLE, Int32.reduceAdd, Int32.reduceSub, Nat.reduceLT, Nat.reduceAdd, Nat.reduceEqDiff, ↓reduceIte, true_and, and_true, List.length_nil, List.length_cons, Nat.reduceLeDiff, Nat.zero_le]
          refine sp_copy hr.2.1 h96 (by omega) ?_
          intro G1 e1 e2
          exact fin G1 w0 e1 e2 ok rfl
        · simp only [eX6_again_25, eX6_again_26, eX6_again_29, eX6_again_30, eX6_again_33, eX6_again_34, eX6_again_35, pe_aald, pe_aload_0, pe_callV_1, pe_getf, pe_iload_1, x0, s0, x_g6, x_g9, r0, ra_g, r2, pog_e, cl_1, sc_g0, sc_g1, sc_g2, sc_g3, sc_g4, sc_p3, sc_p4, sc_o, hget_hset, ia_l, ia_s, vin, opl, onl, Int32.reduceLT, Int32.reduceLE, Int32.reduceAdd, Int32.reduceSub, Nat.reduceLT, Nat.reduceAdd, Nat.reduceEqDiff, ↓reduceIte, true_and, and_true, List.length_nil, List.length_cons, Nat.reduceLeDiff, Nat.zero_le]
          refine sp_copy hr.2.1 h100 (by omega) ?_
          intro G1 e1 e2
          exact fin G1 w1 e1 e2 ok rfl
    · rename_i u2
      exact bad (by rintro (rfl | rfl) <;> exact absurd (by decide) u2)
