/-! ===== the reference: parts walked ===== -/
section MPa
variable {d : Nat} {G : px_H} {q : Nat → Int32} {sd : Int64} {K : Ld} {t : Nat → Int32} {c o : Nat} {Q : px_Q}
set_option maxRecDepth 100000 in
theorem sp_mparts {D X k : Nat} {od : Int32} {w : Nat → Int32} (hw : mW G q sd K w) (ht : sM K w 0 t) (hv : vK K) (hvf : vF K) (hok : okT K c t) (hc : c ≤ 999990) (hk : k ≤ 12) (hX : X ≤ 10) (hD : D < 64) (hDn : D < 2 ^ K.n) (hD2 : aOf K 0 K.n = nI D) (hDt : ∀ p, p < 6 → (D.testBit p = true ↔ (p < K.n ∧ K.kd p = 0))) (hwt : ∀ r, r < 64 → wo r D = 0 → ¬ 0 < wt r D (nI X) → wt r D (nI X) = 0)
    (hQ : ∀ G' w', mW G' q sd K w' → sM K w' 0 t → fM G G' → Q (some (.int (oS K t k D (nI X) od 64))) G') : pcal (d + 5) 138 [.ref 124, .int (nI X), .int (nI k), .int od] G Q := by
  have hn6 := hv.1.1
  refine inX7_parts ?_
  have key : ∀ j i H w' o6 o7, i + j = 64 → mW H q sd K w' → sM K w' 0 t → fM G H → pr (d + 4) 138 (G.1 + 0, G.2.1 + 0) Q 6 [some (.ref 124), some (.int (nI X)), some (.int (nI k)), some (.int od), some (.int (oS K t k D (nI X) od i)), some (.int (nI i)), o6, o7] [] H := by
    intro j
    induction j with
    | zero =>
      intro i H w' o6 o7 hi k1 k2 k3
      obtain rfl : i = 64 := by omega
      have c1 : ¬ nI 64 < 64 := by decide
      simp only [eX7_parts_6, eX7_parts_8, eX7_parts_10, eX7_parts_155, eX7_parts_157, pe_const, pe_iclt, pe_iload_4, pe_iload_5, pe_iret, c1, hget_hset, ia_l, ia_s, vin, opl, onl, Int32.reduceLT, Int32.reduceLE, Int32.reduceAdd, Int32.reduceSub, Nat.reduceLT, Nat.reduceAdd, Nat.reduceEqDiff, ↓reduceIte, true_and, and_true, List.length_nil, List.length_cons, Nat.reduceLeDiff, Nat.zero_le]
      exact hQ H w' k1 k2 k3
    | succ j ih =>
      intro i H w' o6 o7 hi k1 k2 k3
      have y0 := k1.1.1
      have c1 : nI i < 64 := nI_lt (b := 64) (by omega) (by omega)
      obtain ⟨e1, e2⟩ := nI_wo i D (by omega) hD
      have st : oS K t k D (nI X) od (i + 1) = if wo i D = 0 ∧ 0 < wt i D (nI X) then oS K t k D (nI X) od i + wt i D (nI X) * (if od = 0 then zB (aDo (aH K 0 k (aAd (nI i) t)) 6) else aDu (aH K 0 k (aAd (nI i) t)) 6) else oS K t k D (nI X) od i := rfl
      rw [eX7_parts_6]
      simp only [eX7_parts_8, eX7_parts_10, eX7_parts_13, eX7_parts_15, eX7_parts_16, pe_aload_0, pe_callV_0, pe_const, pe_iclt, pe_iload_5, c1, y0, m_o, hget_hset, ia_l, ia_s, vin, opl, onl, Int32.reduceLT, Int32.reduceLE, Int32.reduceAdd, Int32.reduceSub, Nat.reduceLT, Nat.reduceAdd, Nat.reduceEqDiff, ↓reduceIte, true_and, and_true, List.length_nil, List.length_cons, Nat.reduceLeDiff, Nat.zero_le]
      refine sp_mdams k1.1 ?_
      rw [hD2]
      simp only [eX7_parts_19, eX7_parts_20, eX7_parts_21, eX7_parts_22, pe_bin, pe_const, pe_ifeq, e1, nI_0' e2, hget_hset, ia_l, ia_s, vin, opl, onl, Int32.reduceLT, Int32.reduceLE, Int32.reduceAdd, Int32.reduceSub, Nat.reduceLT, Nat.reduceAdd, Nat.reduceEqDiff, ↓reduceIte, true_and, and_true, List.length_nil, List.length_cons, Nat.reduceLeDiff, Nat.zero_le]
      split
      · rename_i w0
        have i2 : i < 2 ^ K.n := by
          have := (wo_sub i D (by omega) hD w0).1
          omega
        simp only [eX7_parts_25, eX7_parts_26, eX7_parts_27, eX7_parts_28, pe_aload_0, pe_callV_2, pe_const, y0, m_o, hget_hset, ia_l, ia_s, vin, opl, onl, Int32.reduceLT, Int32.reduceLE, Int32.reduceAdd, Int32.reduceSub, Nat.reduceLT, Nat.reduceAdd, Nat.reduceEqDiff, ↓reduceIte, true_and, and_true, List.length_nil, List.length_cons, Nat.reduceLeDiff, Nat.zero_le]
        refine sp_lay (A := 0) (B := 1) rfl rfl (by omega) (by omega) (by omega) y0 k1.2.1 k2 ?_
        intro G1 w1 g1 g2 g3 g4
        have fG1 : fM H G1 := fun k a b => g4 k a
        have hW1 : mW G1 q sd K w1 := ⟨k1.1.fM fG1, g1, by obtain ⟨ff, hff⟩ := k1.2.2; exact ⟨ff, (g4 _ (by omega)).trans hff⟩⟩
        have wE := wK_wt hn6 (r := i) (by omega) hD hX hDt w0
        have inner : ∀ a b H1 wv, b + a = K.n → mW H1 q sd K wv → sM K wv 0 t → sM K wv 1 (fun j => if j < b then t j + bt (nI i) j else t j) → fM G H1 → pr (d + 4) 138 (G.1 + 0, G.2.1 + 0) Q 37 [some (.ref 124), some (.int (nI X)), some (.int (nI k)), some (.int od), some (.int (oS K t k D (nI X) od i)), some (.int (nI i)), some (.int (wK K i (nI X) b)), some (.int (nI b))] [] H1 := by
          intro a
          induction a with
          | zero =>
            intro b H1 wv hb r1 r2 r3 r4
            obtain rfl : b = K.n := by omega
            obtain ⟨x0, x1, -⟩ := id r1.1
            have okA := okT_ad hok hc hn6 i2
            have sc : sM K wv 1 (aAd (nI i) t) := by
              intro j hj
              rw [r3 j hj]
              unfold aAd
              dsimp only
              by_cases j1 : j < K.n
              · rw [if_pos j1, if_pos (show j < 6 by omega)]
              · rw [if_neg j1]
                by_cases j2 : j < 6
                · have p2 : 2 ^ K.n ≤ 2 ^ j := Nat.pow_le_pow_right (by omega) (by omega)
                  have b0 : bt (nI i) j = 0 := (bt_lt i j (by omega) (by omega)).2 j2 (by omega)
                  rw [if_pos j2, b0, Int32.add_zero]
                · rw [if_neg j2]
            simp only [eX7_parts_37, eX7_parts_39, eX7_parts_40, eX7_parts_43, eX7_parts_109, eX7_parts_110, eX7_parts_111, eX7_parts_112, eX7_parts_113, pe_aload_0, pe_callV_3, pe_const, pe_getf, pe_iclt, pe_iload_2, pe_iload_7, x0, m_g13, x1, niE, m_o, hget_hset, ia_l, ia_s, vin, opl, onl, Int32.reduceLT, Int32.reduceLE, Int32.reduceAdd, Int32.reduceSub, Nat.reduceLT, Nat.reduceAdd, Nat.reduceEqDiff, ↓reduceIte, true_and, and_true, List.length_nil, List.length_cons, Nat.reduceLeDiff, Nat.zero_le]
            refine sp_mpasses (L := 1) (xx := 0) (k := k) rfl (by omega) rfl (by omega) rfl (by omega) r1 hv hvf sc okA ?_
            intro G2 w2 s1 s2 s3 s4
            have z0 := s1.1.1
            have okE := okT_aH hv okA 0 k
            have go : ∀ v, v = (if od = 0 then zB (aDo (aH K 0 k (aAd (nI i) t)) 6) else aDu (aH K 0 k (aAd (nI i) t)) 6) → pr (d + 4) 138 (G.1 + 0, G.2.1 + 0) Q 145 [some (.ref 124), some (.int (nI X)), some (.int (nI k)), some (.int od), some (.int (oS K t k D (nI X) od i)), some (.int (nI i)), some (.int (wK K i (nI X) K.n)), some (.int (nI K.n))] [.int v, .int (wK K i (nI X) K.n), .int (oS K t k D (nI X) od i)] G2 := by
              intro v hv'
              have e : oS K t k D (nI X) od i + wK K i (nI X) K.n * v = oS K t k D (nI X) od (i + 1) := by
                rw [wE, st, ← hv']
                by_cases p0 : 0 < wt i D (nI X)
                · rw [if_pos ⟨w0, p0⟩]
                · rw [if_neg (fun z => p0 z.2), hwt i (by omega) w0 p0, Int32.zero_mul, Int32.add_zero]
              simp only [eX7_parts_145, eX7_parts_146, eX7_parts_147, eX7_parts_149, eX7_parts_152, pe_bin, pe_goto, pe_iinc_5, pe_istore_4, e, nisw, hget_hset, ia_l, ia_s, vin, opl, onl, Int32.reduceLT, Int32.reduceLE, Int32.reduceAdd, Int32.reduceSub, Nat.reduceLT, Nat.reduceAdd, Nat.reduceEqDiff, ↓reduceIte, true_and, and_true, List.length_nil, List.length_cons, Nat.reduceLeDiff, Nat.zero_le]
              exact ih (i + 1) G2 w2 _ _ (by omega) s1 (r2.fL s3 (by omega)) (r4.tr s4)
            simp only [eX7_parts_116, eX7_parts_118, eX7_parts_120, eX7_parts_121, eX7_parts_124, eX7_parts_125, eX7_parts_126, pe_aload_0, pe_callV_1, pe_const, pe_ifeq, pe_iload_3, pe_iload_4, pe_iload_6, z0, m_o, hget_hset, ia_l, ia_s, vin, opl, onl, Int32.reduceLT, Int32.reduceLE, Int32.reduceAdd, Int32.reduceSub, Nat.reduceLT, Nat.reduceAdd, Nat.reduceEqDiff, ↓reduceIte, true_and, and_true, List.length_nil, List.length_cons, Nat.reduceLeDiff, Nat.zero_le]
            split
            · rename_i d0
              rw [if_pos d0] at go
              simp only [eX7_parts_132, eX7_parts_133, eX7_parts_134, pe_aload_0, pe_callV_1, pe_const, z0, m_o, hget_hset, ia_l, ia_s, vin, opl, onl, Int32.reduceLT, Int32.reduceLE, Int32.reduceAdd, Int32.reduceSub, Nat.reduceLT, Nat.reduceAdd, Nat.reduceEqDiff, ↓reduceIte, true_and, and_true, List.length_nil, List.length_cons, Nat.reduceLeDiff, Nat.zero_le]
              refine sp_mdoes (L := 1) rfl (by omega) s1.1 s1.2.1 s2 ?_
              rw [aDo_n hn6 okE]
              simp only [eX7_parts_137, eX7_parts_140, eX7_parts_141, eX7_parts_144, pe_const, pe_goto, pe_ifeq, zB_0, hget_hset, ia_l, ia_s, vin, opl, onl, Int32.reduceLT, Int32.reduceLE, Int32.reduceAdd, Int32.reduceSub, Nat.reduceLT, Nat.reduceAdd, Nat.reduceEqDiff, ↓reduceIte, true_and, and_true, List.length_nil, List.length_cons, Nat.reduceLeDiff, Nat.zero_le]
              split
              · rename_i v
                exact go _ (by rw [v]; rfl)
              · rename_i v
                exact go _ (by rw [nt v]; rfl)
            · rename_i d0
              rw [if_neg d0] at go
              refine sp_mallDung (L := 1) rfl (by omega) s1.1 s1.2.1 s2 ?_
              rw [aDu_n hn6 okE]
              simp only [eX7_parts_129, pe_goto, hget_hset, ia_l, ia_s, vin, opl, onl, Int32.reduceLT, Int32.reduceLE, Int32.reduceAdd, Int32.reduceSub, Nat.reduceLT, Nat.reduceAdd, Nat.reduceEqDiff, ↓reduceIte, true_and, and_true, List.length_nil, List.length_cons, Nat.reduceLeDiff, Nat.zero_le]
              exact go _ rfl
          | succ a iha =>
            intro b H1 wv hb r1 r2 r3 r4
            obtain ⟨x0, x1, -, -, -, kd, ms, fm, tt, z1, -, -, -, z5, -⟩ := id r1.1
            have x3 := r1.2.1
            obtain ⟨c1, c2, c3, c4⟩ := niL (i := b) (n := K.n) (by omega) hn6
            have kb := (z5 b (by omega)).1
            have n20 : (20 : Int32) + nI b = nI (20 + b) := nI_add 20 b
            obtain ⟨a1, a2⟩ := ni160 (i := 20 + b) (by omega)
            have a5 : 20 + b < 160 := by omega
            have gb : wv (20 + b) = t b := by
              have := r3 b (by omega)
              dsimp only at this
              rw [if_neg (Nat.lt_irrefl b)] at this
              exact this
            have go2 : ∀ f, f = (if K.kd b = 0 then (if bt (nI i) b = 1 then nI X else 10 - nI X) else 1) → pr (d + 4) 138 (G.1 + 0, G.2.1 + 0) Q 100 [some (.ref 124), some (.int (nI X)), some (.int (nI k)), some (.int od), some (.int (oS K t k D (nI X) od i)), some (.int (nI i)), some (.int (wK K i (nI X) b)), some (.int (nI b))] [.int f, .int (wK K i (nI X) b)] (hset H1 135 (c_ia 160 (upd wv (20 + b) (t b + bt (nI i) b)))) := by
              intro f hf'
              have e : wK K i (nI X) b * f = wK K i (nI X) (b + 1) := by rw [wK, hf']
              simp only [eX7_parts_100, eX7_parts_101, eX7_parts_103, eX7_parts_106, pe_bin, pe_goto, pe_iinc_7, pe_istore_6, e, nisw, hget_hset, ia_l, ia_s, vin, opl, onl, Int32.reduceLT, Int32.reduceLE, Int32.reduceAdd, Int32.reduceSub, Nat.reduceLT, Nat.reduceAdd, Nat.reduceEqDiff, ↓reduceIte, true_and, and_true, List.length_nil, List.length_cons, Nat.reduceLeDiff, Nat.zero_le]
              have f3 : fM H1 (hset H1 135 (c_ia 160 (upd wv (20 + b) (t b + bt (nI i) b)))) := fun k a b => hget_ne a
              refine iha (b + 1) _ (upd wv (20 + b) (t b + bt (nI i) b)) (by omega) ⟨r1.1.fM f3, hget_self _ _ _, by obtain ⟨ff, hff⟩ := r1.2.2; exact ⟨ff, (hget_ne (by omega)).trans hff⟩⟩ (r2.kept (fun j _ _ => if_neg (by omega))) (fun j hj => ?_) (r4.tr f3)
              have hh := r3 j hj
              dsimp only at hh ⊢
              unfold upd
              by_cases ej : j = b
              · rw [if_pos (show 20 * 1 + j = 20 + b by omega), ej, if_pos (Nat.lt_succ_self b)]
              · rw [if_neg (show ¬ 20 * 1 + j = 20 + b by omega), hh]
                by_cases el : j < b
                · rw [if_pos el, if_pos (by omega)]
                · rw [if_neg el, if_neg (by omega)]
            rw [eX7_parts_37]
            simp only [eX7_parts_39, eX7_parts_40, eX7_parts_43, eX7_parts_46, eX7_parts_47, eX7_parts_50, eX7_parts_52, eX7_parts_54, eX7_parts_55, eX7_parts_56, eX7_parts_57, eX7_parts_59, eX7_parts_61, eX7_parts_62, eX7_parts_63, eX7_parts_64, eX7_parts_65, eX7_parts_66, eX7_parts_68, eX7_parts_69, eX7_parts_72, eX7_parts_74, eX7_parts_75, eX7_parts_78, eX7_parts_79, eX7_parts_82, eX7_parts_84, eX7_parts_86, pe_aload_0, pe_bin, pe_callS_2, pe_const, pe_dup2_ir, pe_getf, pe_goto, pe_iald, pe_iast, pe_iclt, pe_ifeq, pe_iload_5, pe_iload_6, pe_iload_7, x0, x1, x3, z1, m_g9, m_g13, m_g15, c1, c2, c3, c4, kb, n20, a1, a2, a5, gb, bt_e, hget_hset, ia_l, ia_s, vin, opl, onl, Int32.reduceLT, Int32.reduceLE, Int32.reduceAdd, Int32.reduceSub, Nat.reduceLT, Nat.reduceAdd, Nat.reduceEqDiff, ↓reduceIte, true_and, and_true, List.length_nil, List.length_cons, Nat.reduceLeDiff, Nat.zero_le]
            split
            · rename_i k0
              refine sp_has ?_
              simp only [eX7_parts_89, eX7_parts_92, eX7_parts_93, eX7_parts_96, eX7_parts_98, eX7_parts_99, pe_bin, pe_const, pe_goto, pe_ifeq, pe_iload_1, bt_e, zB_0, hget_hset, ia_l, ia_s, vin, opl, onl, Int32.reduceLT, Int32.reduceLE, Int32.reduceAdd, Int32.reduceSub, Nat.reduceLT, Nat.reduceAdd, Nat.reduceEqDiff, ↓reduceIte, true_and, and_true, List.length_nil, List.length_cons, Nat.reduceLeDiff, Nat.zero_le]
              by_cases b1' : bt (nI i) b = 1
              · simp only [b1', decide_true, Bool.true_eq_false, ↓reduceIte]
                rw [b1'] at go2
                exact go2 _ (by rw [if_pos k0, if_pos rfl])
              · simp only [b1', decide_false, ↓reduceIte]
                exact go2 _ (by rw [if_pos k0, if_neg b1'])
            · rename_i k0
              exact go2 _ (by rw [if_neg k0])
        simp only [eX7_parts_31, eX7_parts_32, eX7_parts_34, eX7_parts_35, pe_const, pe_istore_6, pe_istore_7, hget_hset, ia_l, ia_s, vin, opl, onl, Int32.reduceLT, Int32.reduceLE, Int32.reduceAdd, Int32.reduceSub, Nat.reduceLT, Nat.reduceAdd, Nat.reduceEqDiff, ↓reduceIte, true_and, and_true, List.length_nil, List.length_cons, Nat.reduceLeDiff, Nat.zero_le]
        exact inner K.n 0 G1 w1 (by omega) hW1 (k2.fL g3 (by omega)) (fun j hj => (g2 j hj).trans (if_neg (Nat.not_lt_zero j)).symm) (k3.tr fG1)
      · rename_i w0
        rw [if_neg (fun z => w0 z.1)] at st
        simp only [eX7_parts_149, eX7_parts_152, pe_goto, pe_iinc_5, nisw, hget_hset, ia_l, ia_s, vin, opl, onl, Int32.reduceLT, Int32.reduceLE, Int32.reduceAdd, Int32.reduceSub, Nat.reduceLT, Nat.reduceAdd, Nat.reduceEqDiff, ↓reduceIte, true_and, and_true, List.length_nil, List.length_cons, Nat.reduceLeDiff, Nat.zero_le]
        rw [← st]
        exact ih (i + 1) H w' _ _ (by omega) k1 k2 k3
  simp only [eX7_parts_0, eX7_parts_1, eX7_parts_3, eX7_parts_4, pe_const, pe_istore_4, pe_istore_5, hget_hset, ia_l, ia_s, vin, opl, onl, Int32.reduceLT, Int32.reduceLE, Int32.reduceAdd, Int32.reduceSub, Nat.reduceLT, Nat.reduceAdd, Nat.reduceEqDiff, ↓reduceIte, true_and, and_true, List.length_nil, List.length_cons, Nat.reduceLeDiff, Nat.zero_le]
  exact key 64 0 G w _ _ (by omega) hw ht (fun _ _ _ => rfl)
end MPa
