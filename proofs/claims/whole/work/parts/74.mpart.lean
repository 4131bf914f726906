/-! ===== the reference: a part of a text ===== -/
theorem rdC_s {tx : Nat → Int32} {len i : Nat} {r : RS} (h : i < len) : rdC tx len (len - i) i r = if fitB r.1 r.2.1 r.2.2.2 (tx i) = true then rdC tx len (len - (i + 1)) (i + 1) (takeS r (tx i)) else (nI i, r.2.2.2) := by
  obtain ⟨k, hk⟩ : ∃ k, len - i = k + 1 := ⟨len - i - 1, by omega⟩
  rw [hk, rdC, show len - (i + 1) = k by omega]
theorem rdC_e {tx : Nat → Int32} {len : Nat} {r : RS} : rdC tx len (len - len) len r = (if r.1 = 1 then -9 else nI len, r.2.2.2) := by
  rw [Nat.sub_self]
  rfl
theorem rd_fig {tx : Nat → Int32} {len i g : Nat} {f s A : Int32} {K : Ld} (hg : g ≠ 1) (hi : i ≤ len) (hA : (iN 0 9 (tx i - 48) && !decide (A >>> ((tx i - 48) &&& 31) &&& 1 = 0)) = fitB g f K (tx i)) : (fgO tx len i A = false → (rdC tx len (len - i) i (g, f, s, K)).1 = nI i) ∧ (fgO tx len i A = true → i < len ∧ rdC tx len (len - i) i (g, f, s, K) = rdC tx len (len - (i + 1)) (i + 1) (takeS (g, f, s, K) (tx i)) ∧ fitB g f K (tx i) = true) := by
  unfold fgO
  rw [hA]
  by_cases e : i < len
  · rw [rdC_s e]
    dsimp only
    cases z : fitB g f K (tx i) with
    | true => simp [e]
    | false => simp
  · obtain rfl : i = len := by omega
    rw [rdC_e]
    simp [hg]
def mB (G : px_H) : Prop := ∃ rk rh rr rf rt rg, hget G 125 = some (c_ia 6 rk) ∧ hget G 126 = some (c_ia 6 rh) ∧ hget G 127 = some (c_ia 6 rr) ∧ hget G 128 = some (c_ia 6 rf) ∧ hget G 129 = some (c_ia 6 rt) ∧ hget G 130 = some (c_ia 6 rg)
def mQ (G : px_H) (q : Nat → Int32) (sd : Int64) (tx : Nat → Int32) (len i : Nat) (K : Ld) : Prop := hget G 124 = some (c_m q sd) ∧ hget G 136 = some (c_ia 48 tx) ∧ q 17 = nI len ∧ q 18 = nI i ∧ q 19 = -9 ∧ ∃ rk rh rr rf rt rg, hget G 125 = some (c_ia 6 rk) ∧ hget G 126 = some (c_ia 6 rh) ∧ hget G 127 = some (c_ia 6 rr) ∧ hget G 128 = some (c_ia 6 rf) ∧ hget G 129 = some (c_ia 6 rt) ∧ hget G 130 = some (c_ia 6 rg) ∧ rdRel K q rk rh rr rf rt rg
def fQ (G G' : px_H) : Prop := ∀ k, (k < 124 ∨ 131 ≤ k) → hget G' k = hget G k
def eQ (q q' : Nat → Int32) : Prop := ∀ j, j ≠ 6 → j ≠ 7 → j ≠ 8 → j ≠ 18 → j ≠ 19 → q' j = q j
theorem fQ.tr {G G' G'' : px_H} (h : fQ G G') (h' : fQ G' G'') : fQ G G'' := fun k a => (h' k a).trans (h k a)
theorem eQ.tr {q q' q'' : Nat → Int32} (h : eQ q q') (h' : eQ q' q'') : eQ q q'' := fun j a b c e f => (h' j a b c e f).trans (h j a b c e f)
/-- on the way: what stands in the rows, what has not changed -/
def aS (G H : px_H) (q q' : Nat → Int32) (sd : Int64) (rk rh rr rf rt rg : Nat → Int32) : Prop := hget H 124 = some (c_m q' sd) ∧ hget H 125 = some (c_ia 6 rk) ∧ hget H 126 = some (c_ia 6 rh) ∧ hget H 127 = some (c_ia 6 rr) ∧ hget H 128 = some (c_ia 6 rf) ∧ hget H 129 = some (c_ia 6 rt) ∧ hget H 130 = some (c_ia 6 rg) ∧ fQ G H ∧ eQ q q' ∧ q' 6 = q 6 ∧ q' 7 = q 7 ∧ q' 8 = q 8
theorem aS.mB {G H : px_H} {q q' rk rh rr rf rt rg : Nat → Int32} {sd : Int64} (h : aS G H q q' sd rk rh rr rf rt rg) : mB H := ⟨rk, rh, rr, rf, rt, rg, h.2.1, h.2.2.1, h.2.2.2.1, h.2.2.2.2.1, h.2.2.2.2.2.1, h.2.2.2.2.2.2.1⟩
theorem eQ_upd {q : Nat → Int32} {k : Nat} {x : Int32} (hk : k = 6 ∨ k = 7 ∨ k = 8 ∨ k = 18 ∨ k = 19) : eQ q (upd q k x) := by
  intro j a b c e f
  unfold upd
  rw [if_neg (by omega)]
theorem aS.fig {G H H' : px_H} {q q' q'' rk rh rr rf rt rg : Nat → Int32} {sd : Int64} {k : Nat} {x : Int32} (h : aS G H q q' sd rk rh rr rf rt rg) (h0 : hget H' 124 = some (c_m q'' sd)) (hf : fN' H H') (hk : k = 18 ∨ k = 19) (hq : q'' = upd q' k x) : aS G H' q q'' sd rk rh rr rf rt rg := by
  obtain ⟨-, a1, a2, a3, a4, a5, a6, a7, a8, a9, a10, a11⟩ := h
  subst hq
  refine ⟨h0, (hf _ (by omega)).trans a1, (hf _ (by omega)).trans a2, (hf _ (by omega)).trans a3, (hf _ (by omega)).trans a4, (hf _ (by omega)).trans a5, (hf _ (by omega)).trans a6, fun j hj => (hf j (by omega)).trans (a7 j hj), a8.tr (eQ_upd (by omega)), ?_, ?_, ?_⟩
  · simp only [upd]; rw [if_neg (by omega)]; exact a9
  · simp only [upd]; rw [if_neg (by omega)]; exact a10
  · simp only [upd]; rw [if_neg (by omega)]; exact a11
theorem aS.tx {G H : px_H} {q q' rk rh rr rf rt rg tx : Nat → Int32} {sd : Int64} (h : aS G H q q' sd rk rh rr rf rt rg) (ht : hget G 136 = some (c_ia 48 tx)) : hget H 136 = some (c_ia 48 tx) := (h.2.2.2.2.2.2.2.1 _ (by omega)).trans ht
theorem aS.q17 {G H : px_H} {q q' rk rh rr rf rt rg : Nat → Int32} {sd : Int64} (h : aS G H q q' sd rk rh rr rf rt rg) : q' 17 = q 17 := h.2.2.2.2.2.2.2.2.1 17 (by omega) (by omega) (by omega) (by omega) (by omega)
section MPt
variable {d : Nat} {G H : px_H} {q q' : Nat → Int32} {sd : Int64} {K : Ld} {Q : px_Q} {lim : Nat × Nat} {rk rh rr rf rt rg tx : Nat → Int32} {x : Int32}
/-- a figure, on the way -/
theorem sp_fig {len i g : Nat} {f s A : Int32} (hs : aS G H q q' sd rk rh rr rf rt rg) (ht : hget G 136 = some (c_ia 48 tx)) (hlen : len ≤ 48) (h17 : q 17 = nI len) (h18 : q' 18 = nI i) (h19 : q' 19 = -9) (hi : i ≤ len) (hg : g ≠ 1) (hA : (iN 0 9 (tx i - 48) && !decide (A >>> ((tx i - 48) &&& 31) &&& 1 = 0)) = fitB g f K (tx i))
    (hF : ∀ H' q'', aS G H' q q'' sd rk rh rr rf rt rg → q'' 19 = nI i → q'' 18 = nI i → (rdC tx len (len - i) i (g, f, s, K)).1 = nI i → Q (some (.int 0)) H')
    (hO : ∀ H' q'', aS G H' q q'' sd rk rh rr rf rt rg → q'' 18 = nI (i + 1) → q'' 19 = -9 → i < len → rdC tx len (len - i) i (g, f, s, K) = rdC tx len (len - (i + 1)) (i + 1) (takeS (g, f, s, K) (tx i)) → fitB g f K (tx i) = true → Q (some (.int (tx i - 48))) H') : pcal (d + 2) 96 [.ref 124, .int A] H Q := by
  obtain ⟨r1, r2⟩ := rd_fig (s := s) hg hi hA
  refine sp_mfigure hs.1 (hs.tx ht) hlen (hs.q17.trans h17) h18 (by omega) ?_
  rintro G' q'' v e1 e2 (⟨z1, z2, rfl, rfl⟩ | ⟨z1, z2, rfl, rfl⟩ | ⟨z1, -, -⟩)
  · obtain ⟨s1, s2, s3⟩ := r2 z2
    exact hO G' _ (hs.fig e1 e2 (Or.inl rfl) rfl) (by simp [upd]) (by simp [upd, h19]) s1 s2 s3
  · exact hF G' _ (hs.fig e1 e2 (Or.inr rfl) rfl) (by simp [upd]) (by simp [upd, h18]) (r1 z2)
  · exact absurd h19 z1
/-- a figure behind a fault -/
theorem sp_fig0 {len i f : Nat} {A : Int32} (hs : aS G H q q' sd rk rh rr rf rt rg) (ht : hget G 136 = some (c_ia 48 tx)) (hlen : len ≤ 48) (h17 : q 17 = nI len) (h18 : q' 18 = nI i) (hi : i ≤ len) (h19 : q' 19 = nI f) (hf : f ≤ 48)
    (hF : ∀ H', aS G H' q q' sd rk rh rr rf rt rg → Q (some (.int 0)) H') : pcal (d + 2) 96 [.ref 124, .int A] H Q := by
  have n9 : ¬ q' 19 = -9 := by rw [h19]; exact m9_nI (by omega)
  refine sp_mfigure hs.1 (hs.tx ht) hlen (hs.q17.trans h17) h18 (by omega) ?_
  rintro G' q'' v e1 e2 (⟨z1, -, -, -⟩ | ⟨z1, -, -, -⟩ | ⟨z1, rfl, rfl⟩)
  · exact absurd z1 n9
  · exact absurd z1 n9
  · exact hF G' (hs.fig (k := 19) (x := q'' 19) e1 e2 (Or.inr rfl) upd_self.symm)
set_option maxRecDepth 100000 in
/-- the end of a place: its rate, one place more -/
theorem rp_end {n : Nat} {r srt : Int32} {o3 o4 o5 : Option Value} (hs : aS G H q q' sd rk rh rr rf rt rg) (h7 : q 7 = nI n) (hn : n < 6) (hQ : ∀ H' q'', hget H' 124 = some (c_m q'' sd) → hget H' 125 = some (c_ia 6 rk) → hget H' 126 = some (c_ia 6 rh) → hget H' 127 = some (c_ia 6 (upd rr n r)) → hget H' 128 = some (c_ia 6 rf) → hget H' 129 = some (c_ia 6 rt) → hget H' 130 = some (c_ia 6 rg) → fQ G H' → eQ q q'' → q'' 6 = q 6 → q'' 7 = nI (n + 1) → q'' 8 = q 8 → q'' 18 = q' 18 → q'' 19 = q' 19 → Q none H') :
    pr (d + 2) 100 lim Q 151 [some (.ref 124), some (.int x), some (.int srt), o3, o4, o5] [.int r, .int (nI n), .ref 127] H := by
  obtain ⟨a0, a1, a2, a3, a4, a5, a6, a7, a8, a9, a10, a11⟩ := id hs
  obtain ⟨c1, c2, c3⟩ := ni6 hn
  have e7 : q' 7 = nI n := a10.trans h7
  simp only [eX7_readPart_151, eX7_readPart_152, eX7_readPart_153, eX7_readPart_154, eX7_readPart_157, eX7_readPart_158, eX7_readPart_159, eX7_readPart_162, eX7_readPart_304, pe_aload_0, pe_bin, pe_const, pe_dup_i, pe_dup_r, pe_getf, pe_goto, pe_iast, pe_putf, pe_vret, a0, a3, m_g7, m_p7, e7, c1, c2, hn, nisw, hget_hset, ia_l, ia_s, vin, opl, onl, Int32.reduceLT, Int32.reduceLE, Int32.reduceAdd, Int32.reduceSub, Nat.reduceLT, Nat.reduceAdd, Nat.reduceEqDiff, ↓reduceIte, true_and, and_true, List.length_nil, List.length_cons, Nat.reduceLeDiff, Nat.zero_le]
  refine hQ _ (upd q' 7 (nI (n + 1))) ?_ ?_ ?_ ?_ ?_ ?_ ?_ ?_ (a8.tr (eQ_upd (by omega))) ?_ ?_ ?_ ?_ ?_
  · rw [hget_self]
  · rw [hget_ne (by omega), hget_ne (by omega)]; exact a1
  · rw [hget_ne (by omega), hget_ne (by omega)]; exact a2
  · rw [hget_ne (by omega), hget_self]
  · rw [hget_ne (by omega), hget_ne (by omega)]; exact a4
  · rw [hget_ne (by omega), hget_ne (by omega)]; exact a5
  · rw [hget_ne (by omega), hget_ne (by omega)]; exact a6
  · intro k hk; rw [hget_ne (by omega), hget_ne (by omega)]; exact a7 k hk
  · simp [upd, a9]
  · simp [upd]
  · simp [upd, a11]
  · simp [upd]
  · simp [upd]
set_option maxRecDepth 100000 in
/-- what a place has is told; not a dam -/
theorem rp_has {n : Nat} {h srt : Int32} {o3 o4 o5 : Option Value} (hs : aS G H q q' sd rk rh rr rf rt rg) (h7 : q 7 = nI n) (hn : n < 6) (hsrt : ¬ srt = 0) (hQ : ∀ H' q'', hget H' 124 = some (c_m q'' sd) → hget H' 125 = some (c_ia 6 rk) → hget H' 126 = some (c_ia 6 (upd rh n h)) → hget H' 127 = some (c_ia 6 (upd rr n 0)) → hget H' 128 = some (c_ia 6 rf) → hget H' 129 = some (c_ia 6 rt) → hget H' 130 = some (c_ia 6 rg) → fQ G H' → eQ q q'' → q'' 6 = q 6 → q'' 7 = nI (n + 1) → q'' 8 = q 8 → q'' 18 = q' 18 → q'' 19 = q' 19 → Q none H') :
    pr (d + 2) 100 lim Q 127 [some (.ref 124), some (.int x), some (.int srt), o3, o4, o5] [.int h, .int (nI n), .ref 126] H := by
  obtain ⟨a0, a1, a2, a3, a4, a5, a6, a7, a8, a9, a10, a11⟩ := id hs
  obtain ⟨c1, c2, c3⟩ := ni6 hn
  have e7 : q' 7 = nI n := a10.trans h7
  simp only [eX7_readPart_127, eX7_readPart_128, eX7_readPart_129, eX7_readPart_132, eX7_readPart_133, eX7_readPart_136, eX7_readPart_137, eX7_readPart_150, pe_aload_0, pe_const, pe_getf, pe_iast, pe_ifeq, pe_iload_2, a0, a2, m_g2, m_g7, e7, c1, c2, hn, hsrt, hget_hset, ia_l, ia_s, vin, opl, onl, Int32.reduceLT, Int32.reduceLE, Int32.reduceAdd, Int32.reduceSub, Nat.reduceLT, Nat.reduceAdd, Nat.reduceEqDiff, ↓reduceIte, true_and, and_true, List.length_nil, List.length_cons, Nat.reduceLeDiff, Nat.zero_le]
  refine rp_end (rh := upd rh n h) (rk := rk) (rr := rr) (rf := rf) (rt := rt) (rg := rg) (q' := q') (sd := sd) (G := G) ⟨?_, ?_, ?_, ?_, ?_, ?_, ?_, ?_, a8, a9, a10, a11⟩ h7 hn hQ
  · rw [hget_ne (by omega)]; exact a0
  · rw [hget_ne (by omega)]; exact a1
  · rw [hget_self]
  · rw [hget_ne (by omega)]; exact a3
  · rw [hget_ne (by omega)]; exact a4
  · rw [hget_ne (by omega)]; exact a5
  · rw [hget_ne (by omega)]; exact a6
  · intro k hk; rw [hget_ne (by omega)]; exact a7 k hk
end MPt
