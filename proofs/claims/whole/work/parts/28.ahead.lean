/-! ===== the class: the object itself, hours ahead ===== -/
def c_x (le : Int32) (la dr : Nat) (ke : Int32) (sd : Int64) : px_E := .inr (.inr (6, [.ref 3, .int le, .ref 4, .ref la, .ref dr, .ref 17, .ref 19, .ref 23, .ref 81, .ref 85, .int ke, .long sd, .ref 86, .ref 90, .ref 94, .ref 95]))
section CX
variable {f : Value → Prop} {h : px_E → Prop} {p : Prop} {le ke x : Int32} {la dr y : Nat} {sd z : Int64}
theorem x_g0 : pgf (some (c_x le la dr ke sd)) 6 0 f = f (.ref 3) := by simp [c_x, pgf]
theorem x_g1 : pgf (some (c_x le la dr ke sd)) 6 1 f = f (.int le) := by simp [c_x, pgf]
theorem x_g2 : pgf (some (c_x le la dr ke sd)) 6 2 f = f (.ref 4) := by simp [c_x, pgf]
theorem x_g3 : pgf (some (c_x le la dr ke sd)) 6 3 f = f (.ref la) := by simp [c_x, pgf]
theorem x_g4 : pgf (some (c_x le la dr ke sd)) 6 4 f = f (.ref dr) := by simp [c_x, pgf]
theorem x_g5 : pgf (some (c_x le la dr ke sd)) 6 5 f = f (.ref 17) := by simp [c_x, pgf]
theorem x_g6 : pgf (some (c_x le la dr ke sd)) 6 6 f = f (.ref 19) := by simp [c_x, pgf]
theorem x_g7 : pgf (some (c_x le la dr ke sd)) 6 7 f = f (.ref 23) := by simp [c_x, pgf]
theorem x_g8 : pgf (some (c_x le la dr ke sd)) 6 8 f = f (.ref 81) := by simp [c_x, pgf]
theorem x_g9 : pgf (some (c_x le la dr ke sd)) 6 9 f = f (.ref 85) := by simp [c_x, pgf]
theorem x_g10 : pgf (some (c_x le la dr ke sd)) 6 10 f = f (.int ke) := by simp [c_x, pgf]
theorem x_g11 : pgf (some (c_x le la dr ke sd)) 6 11 f = f (.long sd) := by simp [c_x, pgf]
theorem x_g12 : pgf (some (c_x le la dr ke sd)) 6 12 f = f (.ref 86) := by simp [c_x, pgf]
theorem x_g13 : pgf (some (c_x le la dr ke sd)) 6 13 f = f (.ref 90) := by simp [c_x, pgf]
theorem x_g14 : pgf (some (c_x le la dr ke sd)) 6 14 f = f (.ref 94) := by simp [c_x, pgf]
theorem x_g15 : pgf (some (c_x le la dr ke sd)) 6 15 f = f (.ref 95) := by simp [c_x, pgf]
theorem x_p1 : pput (some (c_x le la dr ke sd)) 6 1 0 (.int x) h = h (c_x x la dr ke sd) := by simp [c_x, pput, ppf, pfit]
theorem x_p3 : pput (some (c_x le la dr ke sd)) 6 3 2 (.ref y) h = h (c_x le y dr ke sd) := by simp [c_x, pput, ppf, pfit]
theorem x_p4 : pput (some (c_x le la dr ke sd)) 6 4 2 (.ref y) h = h (c_x le la y ke sd) := by simp [c_x, pput, ppf, pfit]
theorem x_p10 : pput (some (c_x le la dr ke sd)) 6 10 0 (.int x) h = h (c_x le la dr x sd) := by simp [c_x, pput, ppf, pfit]
theorem x_p11 : pput (some (c_x le la dr ke sd)) 6 11 1 (.long z) h = h (c_x le la dr ke z) := by simp [c_x, pput, ppf, pfit]
theorem x_o : pobj (some (c_x le la dr ke sd)) 6 p = p := by simp [c_x, pobj, ppf]
end CX
/-- the ditches that are open, told anew -/
def so (t : Nat → Int32) (o : Int32) : Nat → Int32 := fun j => if j = 18 then o else t j
theorem so_18 {t : Nat → Int32} {o : Int32} : so t o 18 = o := rfl
theorem so_ne {t : Nat → Int32} {o : Int32} {j : Nat} (h : j ≠ 18) : so t o j = t j := by simp [so, h]
/-- k hours -/
def aH (K : Ld) (x : Int32) : Nat → (Nat → Int32) → Nat → Int32
  | 0, t => t
  | k + 1, t => aP K x (aH K x k t)
theorem okT_aH {K : Ld} (hv : vK K) {c : Nat} {t : Nat → Int32} (h : okT K c t) (x : Int32) : ∀ k, okT K c (aH K x k t)
  | 0 => h
  | k + 1 => okT_aP hv (okT_aH hv h x k) x
theorem okT_so {K : Ld} {c : Nat} {t : Nat → Int32} (h : okT K c t) (o : Int32) : okT K c (so t o) := by
  obtain ⟨h0, h1, h2, h3, h4, h5⟩ := h
  have e : e6 (so t o) t := fun p hp => so_ne (by omega)
  refine ⟨h0, fun p hp => by rw [e p hp]; exact h1 p hp, by rw [s6_e6 e]; exact h2, fun p q1 q2 => ?_, fun p hp => ?_, fun p hp hk => ?_⟩
  · rw [so_ne (by omega), so_ne (by omega), so_ne (by omega)]; exact h3 p q1 q2
  · rw [so_ne (by omega)]; exact h4 p hp
  · rw [so_ne (by omega)]; exact h5 p hp hk
theorem isS.so {G : px_H} {a : Nat} {t : Nat → Int32} {o : Int32} (h : isS G a t) : isS (hset G a (c_sc a o (t 19))) a (so t o) := by
  obtain ⟨f0, f1, f2, h0, h1, h2, h3, h4⟩ := h
  refine ⟨f0, f1, f2, ?_, ?_, ?_, ?_, fun p hp => ?_⟩
  · rw [hget_self, so_18, so_ne (by omega)]
  · rw [hget_ne (by omega)]; exact h1
  · rw [hget_ne (by omega)]; exact h2
  · rw [hget_ne (by omega)]; exact h3
  · rw [so_ne (by omega), so_ne (by omega), so_ne (by omega)]; exact h4 p hp
/-- where the land may stand -/
def lad (la dr : Nat) : Prop := (la = 5 ∧ dr = 11) ∨ (la = 11 ∧ dr = 5)
/-- what the class's own calls work on: the object, the land, the stream at rest -/
def wX (G : px_H) (le : Int32) (la dr : Nat) (ke : Int32) (sd : Int64) (K : Ld) : Prop := hget G 2 = some (c_x le la dr ke sd) ∧ lad la dr ∧ isL G la K ∧ isZ G 17
theorem wX.kept {G G' : px_H} {le : Int32} {la dr : Nat} {ke : Int32} {sd : Int64} {K : Ld} (h : wX G le la dr ke sd K) (hk : ∀ k, k < 17 → hget G' k = hget G k) (hz : isZ G' 17) : wX G' le la dr ke sd K := by
  obtain ⟨h1, h2, h3, h4⟩ := h
  refine ⟨by rw [hk _ (by omega)]; exact h1, h2, h3.kept (fun k a b => hk k ?_), hz⟩
  unfold lad at h2
  omega
/-- a call that works in the cells lo to hi and lets the stream run -/
def frZ (G G' : px_H) (lo hi : Nat) : Prop := ∀ k, k ≠ 18 → (k < lo ∨ hi ≤ k) → hget G' k = hget G k
theorem frZ.tr {G G1 G2 : px_H} {lo hi : Nat} (h1 : frZ G G1 lo hi) (h2 : frZ G1 G2 lo hi) : frZ G G2 lo hi := fun k a b => (h2 k a b).trans (h1 k a b)
theorem frZ.wd {G G1 : px_H} {lo hi lo' hi' : Nat} (h : frZ G G1 lo hi) (h1 : lo' ≤ lo) (h2 : hi ≤ hi') : frZ G G1 lo' hi' := fun k a b => h k a (by omega)
theorem wX.fr {G G' : px_H} {le : Int32} {la dr : Nat} {ke : Int32} {sd : Int64} {K : Ld} {lo hi : Nat} (h : wX G le la dr ke sd K) (hf : frZ G G' lo hi) (hlo : 19 ≤ lo) (hz : isZ G' 17) : wX G' le la dr ke sd K := h.kept (fun k hk => hf k (by omega) (by omega)) hz
theorem isS.frZ {G G' : px_H} {a lo hi : Nat} {t : Nat → Int32} (h : isS G a t) (hf : frZ G G' lo hi) (hd : a + 4 ≤ lo ∨ hi ≤ a) (ha : 19 ≤ a) : isS G' a t := h.kept (fun k h1 h2 => hf k (by omega) (by omega))
theorem niK {i n : Nat} (h : i < n) (hn : n ≤ 1000000) : nI i < nI n := nI_lt h (by omega)
set_option maxRecDepth 100000 in
theorem sp_passHours {d a k : Nat} {G : px_H} {le : Int32} {la dr : Nat} {ke : Int32} {sd : Int64} {K : Ld} {c : Nat} {x : Int32} {t : Nat → Int32} {Q : px_Q} (hw : wX G le la dr ke sd K) (hv : vK K) (ht : isS G a t) (hok : okT K c t) (ha : 19 ≤ a) (hk : k ≤ 1000000) (hQ : ∀ G', isS G' a (aH K x k t) → isZ G' 17 → frZ G G' a (a + 4) → Q none G') : pcal (d + 3) 66 [.ref 2, .ref a, .int (nI k), .int x] G Q := by
  refine inX6_passHours ?_
  have key : ∀ j i H, i + j = k → isS H a (aH K x i t) → isZ H 17 → frZ G H a (a + 4) → pr (d + 2) 66 (G.1 + 0, G.2.1 + 0) Q 3 [some (.ref 2), some (.ref a), some (.int (nI k)), some (.int x), some (.int (nI i))] [] H := by
    intro j
    induction j with
    | zero =>
      intro i H hi k1 k2 k3
      obtain rfl : i = k := by omega
      simp only [eX6_passHours_3, eX6_passHours_5, eX6_passHours_6, eX6_passHours_29, pe_iclt, pe_iload_2, pe_iload_4, pe_vret, niE, hget_hset, ia_l, ia_s, vin, opl, onl, Int32.reduceLT, Int32.reduceLE, Int32.reduceAdd, Int32.reduceSub, Nat.reduceLT, Nat.reduceAdd, Nat.reduceEqDiff, ↓reduceIte, true_and, and_true, List.length_nil, List.length_cons, Nat.reduceLeDiff, Nat.zero_le]
      exact hQ H k1 k2 k3
    | succ j ih =>
      intro i H hi k1 k2 k3
      have c1 := niK (i := i) (n := k) (by omega) hk
      have w1 := hw.fr k3 ha k2
      obtain ⟨w2, w3, w4, -⟩ := id w1
      have w5 := k2.1
      have hla : la + 6 ≤ 17 := by unfold lad at w3; omega
      simp only [eX6_passHours_3, eX6_passHours_5, eX6_passHours_6, eX6_passHours_9, eX6_passHours_10, eX6_passHours_13, eX6_passHours_14, eX6_passHours_17, eX6_passHours_18, eX6_passHours_19, pe_aload_0, pe_aload_1, pe_callV_3, pe_getf, pe_iclt, pe_iload_2, pe_iload_3, pe_iload_4, w2, w5, x_g3, x_g5, sr_o, c1, hget_hset, ia_l, ia_s, vin, opl, onl, Int32.reduceLT, Int32.reduceLE, Int32.reduceAdd, Int32.reduceSub, Nat.reduceLT, Nat.reduceAdd, Nat.reduceEqDiff, ↓reduceIte, true_and, and_true, List.length_nil, List.length_cons, Nat.reduceLeDiff, Nat.zero_le]
      refine sp_pass w4 hv.1 k2 k1 (aZ_of hv (okT_aH hv hok x i) x) (by omega) (by omega) (by omega) ?_
      intro G' e1 e2 e3
      simp only [eX6_passHours_22, eX6_passHours_23, eX6_passHours_26, pe_goto, pe_iinc_4, pe_pop_i, nisw, hget_hset, ia_l, ia_s, vin, opl, onl, Int32.reduceLT, Int32.reduceLE, Int32.reduceAdd, Int32.reduceSub, Nat.reduceLT, Nat.reduceAdd, Nat.reduceEqDiff, ↓reduceIte, true_and, and_true, List.length_nil, List.length_cons, Nat.reduceLeDiff, Nat.zero_le]
      exact ih (i + 1) G' (by omega) e1 e2 (k3.tr (fun q q1 q2 => e3 q q2 q1))
  simp only [eX6_passHours_0, eX6_passHours_1, pe_const, pe_istore_4, hget_hset, ia_l, ia_s, vin, opl, onl, Int32.reduceLT, Int32.reduceLE, Int32.reduceAdd, Int32.reduceSub, Nat.reduceLT, Nat.reduceAdd, Nat.reduceEqDiff, ↓reduceIte, true_and, and_true, List.length_nil, List.length_cons, Nat.reduceLeDiff, Nat.zero_le]
  exact key k 0 G (by omega) ht hw.2.2.2 (fun _ _ _ => rfl)
set_option maxRecDepth 100000 in
theorem sp_tryTurning {d k : Nat} {G : px_H} {le : Int32} {la dr : Nat} {ke : Int32} {sd : Int64} {K : Ld} {c : Nat} {o : Int32} {t u : Nat → Int32} {Q : px_Q} (hw : wX G le la dr ke sd K) (hv : vK K) (ht : isS G 19 t) (hu : isS G 86 u) (hok : okT K c t) (hk : k ≤ 1000000) (hQ : ∀ G', isS G' 86 (aH K 0 k (so t o)) → isZ G' 17 → frZ G G' 86 90 → Q none G') : pcal (d + 4) 65 [.ref 2, .int o, .int (nI k)] G Q := by
  obtain ⟨w1, w2, w3, w4⟩ := id hw
  have u0 := hu.obj
  refine inX6_tryTurning ?_
  simp only [eX6_tryTurning_0, eX6_tryTurning_1, eX6_tryTurning_4, eX6_tryTurning_5, eX6_tryTurning_8, pe_aload_0, pe_callV_1, pe_getf, w1, u0, x_g6, x_g12, sc_g0, sc_g1, sc_g2, sc_g3, sc_g4, sc_p3, sc_p4, sc_o, hget_hset, ia_l, ia_s, vin, opl, onl, Int32.reduceLT, Int32.reduceLE, Int32.reduceAdd, Int32.reduceSub, Nat.reduceLT, Nat.reduceAdd, Nat.reduceEqDiff, ↓reduceIte, true_and, and_true, List.length_nil, List.length_cons, Nat.reduceLeDiff, Nat.zero_le]
  refine sp_copy hu ht (by omega) ?_
  intro G1 e1 e2
  have f1 : hget G1 2 = some (c_x le la dr ke sd) := (e2 _ (by omega)).trans w1
  have f2 := e1.obj
  simp only [eX6_tryTurning_11, eX6_tryTurning_12, eX6_tryTurning_15, eX6_tryTurning_16, eX6_tryTurning_19, eX6_tryTurning_20, eX6_tryTurning_21, eX6_tryTurning_24, eX6_tryTurning_25, eX6_tryTurning_26, pe_aload_0, pe_callV_3, pe_const, pe_getf, pe_iload_1, pe_iload_2, pe_putf, f1, f2, x_g12, x_o, sc_g0, sc_g1, sc_g2, sc_g3, sc_g4, sc_p3, sc_p4, sc_o, hget_hset, ia_l, ia_s, vin, opl, onl, Int32.reduceLT, Int32.reduceLE, Int32.reduceAdd, Int32.reduceSub, Nat.reduceLT, Nat.reduceAdd, Nat.reduceEqDiff, ↓reduceIte, true_and, and_true, List.length_nil, List.length_cons, Nat.reduceLeDiff, Nat.zero_le]
  have fz : frZ G (hset G1 86 (c_sc 86 o (t 19))) 86 90 := fun q q1 q2 => by rw [hget_ne (by omega)]; exact e2 q (by omega)
  refine sp_passHours (t := so t o) (c := c) (hw.fr fz (by omega) (w4.kept (fz _ (by omega) (by omega)) ?_)) hv e1.so (okT_so hok o) (by omega) hk ?_
  · rw [hget_ne (by omega)]; exact e2 _ (by omega)
  · intro G' g1 g2 g3
    simp only [eX6_tryTurning_29, pe_vret, hget_hset, ia_l, ia_s, vin, opl, onl, Int32.reduceLT, Int32.reduceLE, Int32.reduceAdd, Int32.reduceSub, Nat.reduceLT, Nat.reduceAdd, Nat.reduceEqDiff, ↓reduceIte, true_and, and_true, List.length_nil, List.length_cons, Nat.reduceLeDiff, Nat.zero_le]
    exact hQ G' g1 g2 (fz.tr g3)
set_option maxRecDepth 100000 in
theorem sp_dungHalting {d k : Nat} {G : px_H} {le : Int32} {la dr : Nat} {ke : Int32} {sd : Int64} {K : Ld} {c : Nat} {x : Int32} {t u : Nat → Int32} {Q : px_Q} (hw : wX G le la dr ke sd K) (hv : vK K) (ht : isS G 19 t) (hu : isS G 86 u) (hok : okT K c t) (hk : k ≤ 1000000) (hQ : ∀ G' u', isS G' 86 u' → isZ G' 17 → frZ G G' 86 90 → Q (some (.int (aDu (aH K x k t) 6))) G') : pcal (d + 4) 72 [.ref 2, .int (nI k), .int x] G Q := by
  obtain ⟨w1, w2, w3, w4⟩ := id hw
  have u0 := hu.obj
  refine inX6_dungHalting ?_
  simp only [eX6_dungHalting_0, eX6_dungHalting_1, eX6_dungHalting_4, eX6_dungHalting_5, eX6_dungHalting_8, pe_aload_0, pe_callV_1, pe_getf, w1, u0, x_g6, x_g12, sc_g0, sc_g1, sc_g2, sc_g3, sc_g4, sc_p3, sc_p4, sc_o, hget_hset, ia_l, ia_s, vin, opl, onl, Int32.reduceLT, Int32.reduceLE, Int32.reduceAdd, Int32.reduceSub, Nat.reduceLT, Nat.reduceAdd, Nat.reduceEqDiff, ↓reduceIte, true_and, and_true, List.length_nil, List.length_cons, Nat.reduceLeDiff, Nat.zero_le]
  refine sp_copy hu ht (by omega) ?_
  intro G1 e1 e2
  have f1 : hget G1 2 = some (c_x le la dr ke sd) := (e2 _ (by omega)).trans w1
  simp only [eX6_dungHalting_11, eX6_dungHalting_12, eX6_dungHalting_13, eX6_dungHalting_16, eX6_dungHalting_17, eX6_dungHalting_18, pe_aload_0, pe_callV_3, pe_getf, pe_iload_1, pe_iload_2, f1, x_g12, x_o, sc_g0, sc_g1, sc_g2, sc_g3, sc_g4, sc_p3, sc_p4, sc_o, hget_hset, ia_l, ia_s, vin, opl, onl, Int32.reduceLT, Int32.reduceLE, Int32.reduceAdd, Int32.reduceSub, Nat.reduceLT, Nat.reduceAdd, Nat.reduceEqDiff, ↓reduceIte, true_and, and_true, List.length_nil, List.length_cons, Nat.reduceLeDiff, Nat.zero_le]
  have fz : frZ G G1 86 90 := fun q q1 q2 => e2 q (by omega)
  refine sp_passHours (t := t) (c := c) (hw.fr fz (by omega) (w4.kept (fz _ (by omega) (by omega)) (e2 _ (by omega)))) hv e1 hok (by omega) hk ?_
  intro G' g1 g2 g3
  have h1 : hget G' 2 = some (c_x le la dr ke sd) := (g3 _ (by omega) (by omega)).trans f1
  have h2 := g1.obj
  simp only [eX6_dungHalting_21, eX6_dungHalting_22, eX6_dungHalting_25, pe_aload_0, pe_callV_0, pe_getf, h1, h2, x_g12, sc_g0, sc_g1, sc_g2, sc_g3, sc_g4, sc_p3, sc_p4, sc_o, hget_hset, ia_l, ia_s, vin, opl, onl, Int32.reduceLT, Int32.reduceLE, Int32.reduceAdd, Int32.reduceSub, Nat.reduceLT, Nat.reduceAdd, Nat.reduceEqDiff, ↓reduceIte, true_and, and_true, List.length_nil, List.length_cons, Nat.reduceLeDiff, Nat.zero_le]
  refine sp_allDung g1 ?_
  simp only [eX6_dungHalting_28, pe_iret, hget_hset, ia_l, ia_s, vin, opl, onl, Int32.reduceLT, Int32.reduceLE, Int32.reduceAdd, Int32.reduceSub, Nat.reduceLT, Nat.reduceAdd, Nat.reduceEqDiff, ↓reduceIte, true_and, and_true, List.length_nil, List.length_cons, Nat.reduceLeDiff, Nat.zero_le]
  exact hQ G' _ g1 g2 (fz.tr g3)
/-- how many bits stand -/
def bcs (x y : Int32) : Int32 := (x.toUInt32 >>> (y.toUInt32 &&& Int32.toUInt32 31)).toInt32
def bc1 (x : Int32) : Int32 := x - (bcs x 1 &&& 1431655765)
def bc2 (x : Int32) : Int32 := (x &&& 858993459) + (bcs x 2 &&& 858993459)
def bc3 (x : Int32) : Int32 := (x + bcs x 4) &&& 252645135
def bc4 (x : Int32) : Int32 := x + bcs x 8
def bc5 (x : Int32) : Int32 := x + bcs x 16
def bc (x : Int32) : Int32 := bc5 (bc4 (bc3 (bc2 (bc1 x)))) &&& 63
set_option maxRecDepth 100000 in
theorem sp_bitCount {d : Nat} {G : px_H} {x : Int32} {Q : px_Q} (hQ : Q (some (.int (bc x))) G) : pcal (d + 1) 151 [.int x] G Q := by
  refine inJ6_bitCount_0f7a4 ?_
  simp only [eJ6_bitCount_0f7a4_0, eJ6_bitCount_0f7a4_1, eJ6_bitCount_0f7a4_2, eJ6_bitCount_0f7a4_3, eJ6_bitCount_0f7a4_4, eJ6_bitCount_0f7a4_7, eJ6_bitCount_0f7a4_8, eJ6_bitCount_0f7a4_9, eJ6_bitCount_0f7a4_10, eJ6_bitCount_0f7a4_11, eJ6_bitCount_0f7a4_14, eJ6_bitCount_0f7a4_15, eJ6_bitCount_0f7a4_16, eJ6_bitCount_0f7a4_17, eJ6_bitCount_0f7a4_18, eJ6_bitCount_0f7a4_21, eJ6_bitCount_0f7a4_22, eJ6_bitCount_0f7a4_23, eJ6_bitCount_0f7a4_24, eJ6_bitCount_0f7a4_25, eJ6_bitCount_0f7a4_26, eJ6_bitCount_0f7a4_27, eJ6_bitCount_0f7a4_28, eJ6_bitCount_0f7a4_29, eJ6_bitCount_0f7a4_32, eJ6_bitCount_0f7a4_33, eJ6_bitCount_0f7a4_34, eJ6_bitCount_0f7a4_35, eJ6_bitCount_0f7a4_36, eJ6_bitCount_0f7a4_38, eJ6_bitCount_0f7a4_39, eJ6_bitCount_0f7a4_40, eJ6_bitCount_0f7a4_41, eJ6_bitCount_0f7a4_42, eJ6_bitCount_0f7a4_43, eJ6_bitCount_0f7a4_45, eJ6_bitCount_0f7a4_46, eJ6_bitCount_0f7a4_47, eJ6_bitCount_0f7a4_48, eJ6_bitCount_0f7a4_49, eJ6_bitCount_0f7a4_51, eJ6_bitCount_0f7a4_52, pe_bin, pe_const, pe_iload_0, pe_iret, pe_istore_0]
  exact hQ
/-- hours are 0 to 12 -/
def aHr (x : Int32) : Bool := !(decide (x < 0)) && !(decide (12 < x))
set_option maxRecDepth 100000 in
theorem sp_areHours {d : Nat} {G : px_H} {x : Int32} {Q : px_Q} (hQ : Q (some (.int (zB (aHr x)))) G) : pcal (d + 1) 64 [.int x] G Q := by
  refine inX6_areHours ?_
  simp only [eX6_areHours_0, eX6_areHours_1, pe_iflt, pe_iload_0, hget_hset, ia_l, ia_s, vin, opl, onl, Int32.reduceLT, Int32.reduceLE, Int32.reduceAdd, Int32.reduceSub, Nat.reduceLT, Nat.reduceAdd, Nat.reduceEqDiff, ↓reduceIte, true_and, and_true, List.length_nil, List.length_cons, Nat.reduceLeDiff, Nat.zero_le]
  split
  · rename_i c1
    simp only [eX6_areHours_0, eX6_areHours_1, eX6_areHours_4, eX6_areHours_5, eX6_areHours_7, eX6_areHours_10, eX6_areHours_11, eX6_areHours_14, eX6_areHours_15, pe_const, pe_goto, pe_icgt, pe_iflt, pe_iload_0, pe_zret, true_or, hget_hset, ia_l, ia_s, vin, opl, onl, Int32.reduceLT, Int32.reduceLE, Int32.reduceAdd, Int32.reduceSub, Nat.reduceLT, Nat.reduceAdd, Nat.reduceEqDiff, ↓reduceIte, true_and, and_true, List.length_nil, List.length_cons, Nat.reduceLeDiff, Nat.zero_le]
    simpa [zB, aHr, c1] using hQ
  · rename_i c1
    simp only [eX6_areHours_4, eX6_areHours_5, eX6_areHours_7, pe_const, pe_icgt, pe_iload_0, hget_hset, ia_l, ia_s, vin, opl, onl, Int32.reduceLT, Int32.reduceLE, Int32.reduceAdd, Int32.reduceSub, Nat.reduceLT, Nat.reduceAdd, Nat.reduceEqDiff, ↓reduceIte, true_and, and_true, List.length_nil, List.length_cons, Nat.reduceLeDiff, Nat.zero_le]
    split
    · rename_i c2
      simp only [eX6_areHours_0, eX6_areHours_1, eX6_areHours_4, eX6_areHours_5, eX6_areHours_7, eX6_areHours_10, eX6_areHours_11, eX6_areHours_14, eX6_areHours_15, pe_const, pe_goto, pe_icgt, pe_iflt, pe_iload_0, pe_zret, true_or, hget_hset, ia_l, ia_s, vin, opl, onl, Int32.reduceLT, Int32.reduceLE, Int32.reduceAdd, Int32.reduceSub, Nat.reduceLT, Nat.reduceAdd, Nat.reduceEqDiff, ↓reduceIte, true_and, and_true, List.length_nil, List.length_cons, Nat.reduceLeDiff, Nat.zero_le]
      simpa [zB, aHr, c2] using hQ
    · rename_i c2
      simp only [eX6_areHours_0, eX6_areHours_1, eX6_areHours_4, eX6_areHours_5, eX6_areHours_7, eX6_areHours_10, eX6_areHours_11, eX6_areHours_14, eX6_areHours_15, pe_const, pe_goto, pe_icgt, pe_iflt, pe_iload_0, pe_zret, or_true, hget_hset, ia_l, ia_s, vin, opl, onl, Int32.reduceLT, Int32.reduceLE, Int32.reduceAdd, Int32.reduceSub, Nat.reduceLT, Nat.reduceAdd, Nat.reduceEqDiff, ↓reduceIte, true_and, and_true, List.length_nil, List.length_cons, Nat.reduceLeDiff, Nat.zero_le]
      simpa [zB, aHr, c1, c2] using hQ
theorem aHr_of {x : Int32} (h : aHr x = true) : ∃ k : Nat, k ≤ 12 ∧ x = nI k := by
  unfold aHr at h
  simp only [Bool.and_eq_true, Bool.not_eq_true', decide_eq_false_iff_not] at h
  exact nI_of2 (M := 12) (n := 12) (by decide) h.1 (Int32.not_lt.mp h.2)
/-- the least bit of six -/
def lB (x : Int32) : Nat → Nat → Int32
  | _, 0 => -9
  | p, k + 1 => if bt x p = 1 then nI p else lB x (p + 1) k
set_option maxRecDepth 100000 in
theorem sp_leastBit {d : Nat} {G : px_H} {x : Int32} {Q : px_Q} (hQ : Q (some (.int (lB x 0 6))) G) : pcal (d + 1) 63 [.int x] G Q := by
  refine inX6_leastBit ?_
  have key : ∀ k i, i + k = 6 → lB x i k = lB x 0 6 → pr d 63 (G.1 + 0, G.2.1 + 0) Q 2 [some (.int x), some (.int (nI i))] [] G := by
    intro k
    induction k with
    | zero =>
      intro i hi hacc
      obtain rfl : i = 6 := by omega
      simp only [eX6_leastBit_0, eX6_leastBit_1, eX6_leastBit_2, eX6_leastBit_3, eX6_leastBit_5, eX6_leastBit_8, eX6_leastBit_9, eX6_leastBit_10, eX6_leastBit_11, eX6_leastBit_12, eX6_leastBit_13, eX6_leastBit_14, eX6_leastBit_17, eX6_leastBit_18, eX6_leastBit_19, eX6_leastBit_22, eX6_leastBit_25, eX6_leastBit_27, pe_bin, pe_const, pe_goto, pe_iceq, pe_iclt, pe_iinc_1, pe_iload_0, pe_iload_1, pe_iret, pe_istore_1, ni66, hget_hset, ia_l, ia_s, vin, opl, onl, Int32.reduceLT, Int32.reduceLE, Int32.reduceAdd, Int32.reduceSub, Nat.reduceLT, Nat.reduceAdd, Nat.reduceEqDiff, ↓reduceIte, true_and, and_true, List.length_nil, List.length_cons, Nat.reduceLeDiff, Nat.zero_le]
      rw [← hacc] at hQ
      exact hQ
    | succ k ih =>
      intro i hi hacc
      obtain ⟨c1, c2, c3⟩ := ni6 (i := i) (by omega)
      rw [eX6_leastBit_2]
      simp only [eX6_leastBit_0, eX6_leastBit_1, eX6_leastBit_3, eX6_leastBit_5, eX6_leastBit_8, eX6_leastBit_9, eX6_leastBit_10, eX6_leastBit_11, eX6_leastBit_12, eX6_leastBit_13, eX6_leastBit_14, eX6_leastBit_17, eX6_leastBit_18, eX6_leastBit_19, eX6_leastBit_22, eX6_leastBit_25, eX6_leastBit_27, pe_bin, pe_const, pe_goto, pe_iceq, pe_iclt, pe_iinc_1, pe_iload_0, pe_iload_1, pe_iret, pe_istore_1, c3, nisw, bt_e, hget_hset, ia_l, ia_s, vin, opl, onl, Int32.reduceLT, Int32.reduceLE, Int32.reduceAdd, Int32.reduceSub, Nat.reduceLT, Nat.reduceAdd, Nat.reduceEqDiff, ↓reduceIte, true_and, and_true, List.length_nil, List.length_cons, Nat.reduceLeDiff, Nat.zero_le]
      rw [lB] at hacc
      split
      · rename_i hc
        rw [if_pos hc] at hacc
        rw [← hacc] at hQ
        exact hQ
      · rename_i hc
        rw [if_neg hc] at hacc
        exact ih (i + 1) (by omega) hacc
  simp only [eX6_leastBit_0, eX6_leastBit_1, eX6_leastBit_3, eX6_leastBit_5, eX6_leastBit_8, eX6_leastBit_9, eX6_leastBit_10, eX6_leastBit_11, eX6_leastBit_12, eX6_leastBit_13, eX6_leastBit_14, eX6_leastBit_17, eX6_leastBit_18, eX6_leastBit_19, eX6_leastBit_22, eX6_leastBit_25, eX6_leastBit_27, pe_bin, pe_const, pe_goto, pe_iceq, pe_iclt, pe_iinc_1, pe_iload_0, pe_iload_1, pe_iret, pe_istore_1, hget_hset, ia_l, ia_s, vin, opl, onl, Int32.reduceLT, Int32.reduceLE, Int32.reduceAdd, Int32.reduceSub, Nat.reduceLT, Nat.reduceAdd, Nat.reduceEqDiff, ↓reduceIte, true_and, and_true, List.length_nil, List.length_cons, Nat.reduceLeDiff, Nat.zero_le]
  exact key 6 0 rfl rfl
