/-! ===== the two worlds side by side ===== -/
/-- letters, text, land, now, acts, seen, slots, seed -/
abbrev SS : Type := Nat × (Nat → Int32) × Ld × (Nat → Int32) × Nat × (Nat → Nat → Int32) × Nat × (Nat → Int32) × (Nat → Int32) × (Nat → Int32) × Int32 × (Nat → Int32) × (Nat → Int32) × Int64
/-- the class beside its land and its scenes -/
def cR (G : px_H) (dr : Nat) (tx : Nat → Int32) (sz : Nat) (T : Nat → Nat → Int32) (nv : Nat) (pp tm mn w0 w1 : Nat → Int32) : Prop := isA G sz T ∧ isV G nv pp tm mn ∧ isW G w0 w1 ∧ isU G ∧ (∃ st, hget G 95 = some (c_ia 8 st)) ∧ hget G 3 = some (c_ia 48 tx) ∧ (∃ a b c, hget G 4 = some (c_rd a b c)) ∧ (∃ K2, isL G dr K2) ∧ hget G 1 = some (c_ro 7 px_fac)
def cW (G : px_H) (s : SS) : Prop := match s with
  | (n, tx, K, t, sz, T, nv, pp, tm, mn, ke, w0, w1, sd) => ∃ la dr, rX G (nI n) la dr ke sd K t ∧ cR G dr tx sz T nv pp tm mn w0 w1
/-- the reference beside its land and its scenes -/
def mE (K : Ld) (G : px_H) (q : Nat → Int32) (n : Nat) (tx : Nat → Int32) (sz : Nat) (T : Nat → Nat → Int32) (nv : Nat) (pp tm mn : Nat → Int32) (ke : Int32) (w0 w1 : Nat → Int32) : Prop := mA K G q sz T ∧ mV G q nv pp tm mn ∧ mS K G ke (fun r => if r = 0 then w0 else w1) ∧ mT G ∧ mB G ∧ hget G 136 = some (c_ia 48 tx) ∧ q 17 = nI n
def mWd (G : px_H) (s : SS) : Prop := match s with
  | (n, tx, K, t, sz, T, nv, pp, tm, mn, ke, w0, w1, sd) => ∃ q, rM G q sd K t ∧ mE K G q n tx sz T nv pp tm mn ke w0 w1
section W1
variable {G G' : px_H} {n sz nv la dr : Nat} {tx t pp tm mn w0 w1 q q' : Nat → Int32} {K : Ld} {T : Nat → Nat → Int32} {ke : Int32} {sd : Int64} {s : SS}
theorem isW.kept (h : isW G w0 w1) (hk : ∀ k, k = 85 ∨ (96 ≤ k ∧ k < 104) → hget G' k = hget G k) : isW G' w0 w1 := by
  obtain ⟨⟨r, a, b⟩, c, e⟩ := h
  exact ⟨⟨r, (hk _ (by omega)).trans a, b⟩, c.kept (fun k h1 h2 => hk k (by omega)), e.kept (fun k h1 h2 => hk k (by omega))⟩
theorem isU.kep (h : isU G) (hk : ∀ k, k = 94 ∨ (104 ≤ k ∧ k < 124) → hget G' k = hget G k) : isU G' := by
  obtain ⟨r, a, b⟩ := h
  refine ⟨r, (hk _ (by omega)).trans a, fun i hi => ⟨(b i hi).1, ?_⟩⟩
  obtain ⟨t, ht⟩ := (b i hi).2
  exact ⟨t, ht.kept (fun k h1 h2 => hk k (by omega))⟩
/-- all but the object, the stream, now, trial, midway -/
theorem cR.kept (h : cR G dr tx sz T nv pp tm mn w0 w1) (hd : 5 ≤ dr ∧ dr + 6 ≤ 17) (hk : ∀ k, (k = 1 ∨ k = 3 ∨ k = 4 ∨ (5 ≤ k ∧ k < 17) ∨ (23 ≤ k ∧ k < 86) ∨ (94 ≤ k ∧ k < 124)) → hget G' k = hget G k) : cR G' dr tx sz T nv pp tm mn w0 w1 := by
  obtain ⟨h1, h2, h3, h4, ⟨st, h5⟩, h6, ⟨a, b, c, h7⟩, ⟨K2, h8⟩, h9⟩ := h
  exact ⟨h1.kept (fun k x y => hk k (by omega)), h2.kept (fun k x y => hk k (by omega)), h3.kept (fun k x => hk k (by omega)), h4.kep (fun k x => hk k (by omega)), ⟨st, (hk _ (by omega)).trans h5⟩, (hk _ (by omega)).trans h6, ⟨a, b, c, (hk _ (by omega)).trans h7⟩, ⟨K2, h8.kept (fun k x y => hk k (by omega))⟩, (hk _ (by omega)).trans h9⟩
theorem lad.b (h : lad la dr) : (5 ≤ dr ∧ dr + 6 ≤ 17) ∧ (5 ≤ la ∧ la + 6 ≤ 17) := by unfold lad at h; omega
theorem rX.d (h : rX G (nI n) la dr ke sd K t) : 5 ≤ dr ∧ dr + 6 ≤ 17 := h.1.2.1.b.1
/-- a call that works on trial and midway alone -/
theorem cR.z (h : cR G dr tx sz T nv pp tm mn w0 w1) (hr : rX G (nI n) la dr ke sd K t) (hf : frZ G G' 86 94) : cR G' dr tx sz T nv pp tm mn w0 w1 := h.kept hr.d (fun k x => hf k (by omega) (by omega))
theorem rX.kept (h : rX G (nI n) la dr ke sd K t) (hk : ∀ k, 1 ≤ k → k < 124 → hget G' k = hget G k) : rX G' (nI n) la dr ke sd K t := by
  obtain ⟨⟨a, b, c, e⟩, f, ⟨u, g⟩, v, i⟩ := h
  have hb := b.b
  exact ⟨⟨(hk _ (by omega) (by omega)).trans a, b, c.kept (fun k x y => hk k (by omega) (by omega)), e.kept (hk _ (by omega) (by omega)) (hk _ (by omega) (by omega))⟩, f.kept (fun k x y => hk k (by omega) (by omega)), ⟨u, g.kept (fun k x y => hk k (by omega) (by omega))⟩, v, i.kept (fun k x y => hk k (by omega) (by omega))⟩
theorem cW.kept (h : cW G s) (hk : ∀ k, 1 ≤ k → k < 124 → hget G' k = hget G k) : cW G' s := by
  obtain ⟨n, tx, K, t, sz, T, nv, pp, tm, mn, ke, w0, w1, sd⟩ := s
  obtain ⟨la, dr, hr, hc⟩ := h
  exact ⟨la, dr, hr.kept hk, hc.kept hr.d (fun k x => hk k (by omega) (by omega))⟩
theorem mE.kept (h : mE K G q n tx sz T nv pp tm mn ke w0 w1) (hk : ∀ k, ((125 ≤ k ∧ k ≤ 130) ∨ k = 136 ∨ (138 ≤ k ∧ k ≤ 146)) → hget G' k = hget G k) (h17 : q' 17 = q 17) (h21 : q' 21 = q 21) (h22 : q' 22 = q 22) (h24 : q' 24 = q 24) : mE K G' q' n tx sz T nv pp tm mn ke w0 w1 := by
  obtain ⟨h1, ⟨v1, v2, v3, v4, v5⟩, h3, ⟨T', B', M', t1, t2, t3⟩, ⟨rk, rh, rr, rf, rt, rg, r1, r2, r3, r4, r5, r6⟩, h6, h7⟩ := h
  exact ⟨h1.kept (hk _ (by omega)) h21 h22, ⟨h24.trans v1, v2, (hk _ (by omega)).trans v3, (hk _ (by omega)).trans v4, (hk _ (by omega)).trans v5⟩, h3.kept (hk _ (by omega)) (hk _ (by omega)), ⟨T', B', M', (hk _ (by omega)).trans t1, (hk _ (by omega)).trans t2, (hk _ (by omega)).trans t3⟩, ⟨rk, rh, rr, rf, rt, rg, (hk _ (by omega)).trans r1, (hk _ (by omega)).trans r2, (hk _ (by omega)).trans r3, (hk _ (by omega)).trans r4, (hk _ (by omega)).trans r5, (hk _ (by omega)).trans r6⟩, (hk _ (by omega)).trans h6, h17.trans h7⟩
theorem mE.fM (h : mE K G q n tx sz T nv pp tm mn ke w0 w1) (hf : fM G G') : mE K G' q n tx sz T nv pp tm mn ke w0 w1 := h.kept (fun k x => hf k (by omega) (by omega)) rfl rfl rfl rfl
theorem rM.kept (h : rM G q sd K t) (hk : ∀ k, 124 ≤ k → hget G' k = hget G k) : rM G' q sd K t := by
  obtain ⟨w, ⟨a, b, f, c⟩, e⟩ := h
  exact ⟨w, ⟨a.kept (hk _ (by omega)) (hk _ (by omega)) (hk _ (by omega)) (hk _ (by omega)) (hk _ (by omega)), (hk _ (by omega)).trans b, f, (hk _ (by omega)).trans c⟩, e⟩
theorem mWd.kept (h : mWd G s) (hk : ∀ k, 124 ≤ k → hget G' k = hget G k) : mWd G' s := by
  obtain ⟨n, tx, K, t, sz, T, nv, pp, tm, mn, ke, w0, w1, sd⟩ := s
  obtain ⟨q, hr, he⟩ := h
  exact ⟨q, hr.kept hk, he.kept (fun k x => hk k (by omega)) rfl rfl rfl rfl⟩
theorem rM.o (h : rM G q sd K t) : hget G 124 = some (c_m q sd) := by
  obtain ⟨w, ⟨⟨a, -⟩, -⟩, -⟩ := h
  exact a
theorem mWd.o (h : mWd G s) : ∃ q sd, hget G 124 = some (c_m q sd) := by
  obtain ⟨n, tx, K, t, sz, T, nv, pp, tm, mn, ke, w0, w1, sd⟩ := s
  obtain ⟨q, hr, -⟩ := h
  exact ⟨q, sd, hr.o⟩
theorem cW.o (h : cW G s) : ∃ le la dr ke sd, hget G 2 = some (c_x le la dr ke sd) := by
  obtain ⟨n, tx, K, t, sz, T, nv, pp, tm, mn, ke, w0, w1, sd⟩ := s
  obtain ⟨la, dr, hr, -⟩ := h
  exact ⟨_, _, _, _, _, hr.x⟩
/-- the slots' row, told by its two scenes -/
theorem mS.to {W W' : Nat → Nat → Int32} (h : mS K G ke W) (h0 : W' 0 = W 0) (h1 : W' 1 = W 1) : mS K G ke W' := by
  obtain ⟨zk, kp, e, a, b, c, f, g⟩ := h
  refine ⟨zk, kp, e, a, b, c, f, fun r hr => ⟨(g r hr).1, fun z => ?_⟩⟩
  rcases (show r = 0 ∨ r = 1 by omega) with rfl | rfl
  · rw [h0]; exact (g 0 hr).2 z
  · rw [h1]; exact (g 1 hr).2 z
end W1
/-! ===== what stays true of the numbers ===== -/
/-- a scene behind at most N calls -/
def gS (K : Ld) (N : Nat) (t : Nat → Int32) : Prop := okT K (54 + 9 * N) t ∧ (∃ o, o < 2 ^ K.m ∧ t 18 = nI o) ∧ 0 ≤ (t 19).toInt ∧ (t 19).toInt ≤ N
def pI (N : Nat) (s : SS) : Prop := match s with
  | (n, _, K, t, sz, T, nv, _, tm, _, ke, w0, w1, _) => N ≤ 1000 ∧ n ≤ 48 ∧ (vK K ∧ vF K ∧ vN K) ∧ gS K N t ∧ (∀ i, i < sz → gS K N (T i)) ∧ (∀ i, i < nv → ∃ r, r ≤ 12 ∧ tm i = nI r) ∧ (bt ke 0 = 1 → gS K N w0) ∧ (bt ke 1 = 1 → gS K N w1)
section W2
variable {K : Ld} {N M c c' : Nat} {t : Nat → Int32} {s : SS}
theorem okT_mono (h : okT K c t) (h1 : c ≤ c') (h2 : c' ≤ 1000000) : okT K c' t := by
  obtain ⟨a, b, e, f⟩ := h
  exact ⟨h2, b, by omega, f⟩
theorem gS.mono (h : gS K N t) (h1 : N ≤ M) (h2 : M ≤ 1001) : gS K M t := by
  obtain ⟨a, b, c, e⟩ := h
  exact ⟨okT_mono a (by omega) (by omega), b, c, by omega⟩
theorem pI.up (h : pI N s) (h1 : N < 1000) : pI (N + 1) s := by
  obtain ⟨n, tx, K, t, sz, T, nv, pp, tm, mn, ke, w0, w1, sd⟩ := s
  obtain ⟨a, b, c, e, f, g, i, j⟩ := h
  exact ⟨by omega, b, c, e.mono (by omega) (by omega), fun k hk => (f k hk).mono (by omega) (by omega), g, fun z => (i z).mono (by omega) (by omega), fun z => (j z).mono (by omega) (by omega)⟩
theorem gS_hour (hv : vK K) (h : gS K N t) (hN : N ≤ 1000) : gS K (N + 1) (aP K 0 t) := by
  obtain ⟨a, ⟨o, b1, b2⟩, c, e⟩ := h
  refine ⟨okT_mono (okT_aP hv a 0) (by omega) (by omega), ⟨o, b1, by rw [aP_18]; exact b2⟩, ?_, ?_⟩
  · have : aP K 0 t 19 = t 19 + 1 := gl_19
    rw [this, i_add c (by decide) (by rw [show (1 : Int32).toInt = 1 by decide]; omega), show (1 : Int32).toInt = 1 by decide]
    omega
  · have : aP K 0 t 19 = t 19 + 1 := gl_19
    rw [this, i_add c (by decide) (by rw [show (1 : Int32).toInt = 1 by decide]; omega), show (1 : Int32).toInt = 1 by decide]
    omega
theorem xor_lt : ∀ m, m < 7 → ∀ o, o < 64 → o < 2 ^ m → ∀ i, i < m → nI o ^^^ 1 <<< (nI i &&& 31) = nI (o ^^^ 2 ^ i) ∧ o ^^^ 2 ^ i < 2 ^ m := by decide +kernel
theorem gS_turn {di : Int32} (hm : K.m ≤ 6) (h : gS K N t) (hd : hP K.m di = true) : gS K N (so t (t 18 ^^^ 1 <<< (di &&& 31))) := by
  obtain ⟨a, ⟨o, b1, b2⟩, c, e⟩ := h
  obtain ⟨-, p2, -, p4⟩ := hP_of hm hd
  have p6 := (p2m hm).2
  obtain ⟨x1, x2⟩ := xor_lt K.m (by omega) o (by omega) b1 _ p2
  refine ⟨okT_so a _, ⟨_, x2, ?_⟩, by rw [so_ne (by omega)]; exact c, by rw [so_ne (by omega)]; exact e⟩
  rw [so_18, b2, p4, nI_clamp (by omega)]
  exact x1
theorem gS_rain {p : Nat} {k : Int32} (hn : K.n ≤ 6) (h : gS K N t) (hN : N ≤ 1000) (hp : p < K.n) (hk : 1 ≤ k.toInt ∧ k.toInt ≤ 9) : gS K (N + 1) (rnT t p k) := by
  obtain ⟨⟨h0, h1, h2, h3, h4, h5⟩, ⟨o, b1, b2⟩, c, e⟩ := h
  have hup : rnT t p k = upd t p (t p + k) := rfl
  have a1 := h1 p (by omega)
  have a2 := h1.le (p := p) (by omega)
  have e1 : (t p + k).toInt = (t p).toInt + k.toInt := i_add a1 (by omega) (by omega)
  have ne : ∀ j, j ≠ p → rnT t p k j = t j := fun j hj => if_neg hj
  refine ⟨⟨by omega, ?_, ?_, fun r x y => ?_, fun r hr => ?_, fun r hr hk3 => ?_⟩, ⟨o, b1, by rw [ne _ (by omega)]; exact b2⟩, by rw [ne _ (by omega)]; exact c, by rw [ne _ (by omega)]; omega⟩
  · rw [hup]; exact h1.up (by omega)
  · rw [hup, s6_up (by omega), e1]; omega
  · rw [ne _ (by omega), ne _ (by omega), ne _ (by omega)]; exact h3 r x y
  · rw [ne _ (by omega)]; exact h4 r hr
  · rw [ne _ (by omega)]; exact h5 r hr hk3
theorem gS_begin (hw : wfL K) (hN : N ≤ 1000) : gS K N (aBg K) := by
  obtain ⟨h1, h2, h3, h4, o, h5, h6⟩ := hw
  have nn : ∀ p, p < 6 → 0 ≤ (aBg K p).toInt ∧ (aBg K p).toInt ≤ 9 := by
    intro p hp
    rw [aBg_b hp]
    split
    · rename_i z
      have := h3 p z.1
      exact ⟨this.2.2.2.1, this.2.2.2.2.1⟩
    · decide
  refine ⟨⟨by omega, fun p hp => (nn p hp).1, ?_, fun p x y => ⟨?_, ?_, aBg_w y⟩, fun p hp => ?_, fun p hp _ => aBg_w hp⟩, ⟨o, h5, h6⟩, by show 0 ≤ (0 : Int32).toInt; decide, ?_⟩
  · unfold s6
    have a0 := nn 0 (by omega); have a1 := nn 1 (by omega); have a2 := nn 2 (by omega); have a3 := nn 3 (by omega); have a4 := nn 4 (by omega); have a5 := nn 5 (by omega)
    omega
  · rw [aBg_b y, if_neg (fun z => by omega)]
  · rw [aBg_d y, if_neg (fun z => by omega)]
  · rw [aBg_d hp]
    split
    · rename_i z
      have := h3 p z.1
      exact ⟨this.2.2.2.1, this.2.2.2.2.1, fun y => absurd z.2 y⟩
    · exact ⟨by decide, by decide, fun _ => rfl⟩
  · have : (aBg K 19).toInt = 0 := i_0
    rw [this]
    omega
theorem row_all {P : (Nat → Int32) → Prop} {sz : Nat} {T : Nat → Nat → Int32} (hT : ∀ i, i < sz → P (T i)) (ht : P t) (h14 : sz ≤ 14) : ∀ i, i < rowS sz → P (rowT sz T t i) := by
  intro i hi
  unfold rowS at hi
  unfold rowT
  by_cases z : sz < 14
  · rw [if_pos z] at hi
    rw [if_pos z]
    by_cases e : i = sz
    · rw [if_pos e]; exact ht
    · rw [if_neg e]; exact hT i (by omega)
  · rw [if_neg z] at hi
    rw [if_neg z]
    by_cases e : i = 13
    · rw [if_pos e]; exact ht
    · rw [if_neg e]; exact hT (i + 1) (by omega)
/-- the last time that something was seen -/
theorem lT_nat {tm : Nat → Int32} : ∀ n, (∀ i, i < n → ∃ r, r ≤ 12 ∧ tm i = nI r) → ∃ L, L ≤ 12 ∧ lT tm n = nI L ∧ ∀ i, i < n → ∃ r, r ≤ L ∧ tm i = nI r
  | 0, _ => ⟨0, by omega, rfl, fun i hi => by omega⟩
  | n + 1, h => by
    obtain ⟨L, h1, h2, h3⟩ := lT_nat n (fun i hi => h i (by omega))
    obtain ⟨r, r1, r2⟩ := h n (by omega)
    rw [lT, h2, r2]
    unfold mxI
    by_cases z : nI L < nI r
    · rw [if_pos z]
      have z' := (nI_ltI (by omega) (by omega)).mp z
      refine ⟨r, r1, rfl, fun i hi => ?_⟩
      by_cases e : i = n
      · subst e; exact ⟨r, by omega, r2⟩
      · obtain ⟨r', r3, r4⟩ := h3 i (by omega)
        exact ⟨r', by omega, r4⟩
    · rw [if_neg z]
      rw [nI_ltI (by omega) (by omega)] at z
      refine ⟨L, h1, rfl, fun i hi => ?_⟩
      by_cases e : i = n
      · subst e; exact ⟨r, by omega, r2⟩
      · exact h3 i (by omega)
end W2
