/-! ===== pairs of calls that change something ===== -/
section K1
variable {G G' : px_H} {n n' sz sz' nv la dr : Nat} {tx tx' t t' pp tm mn w0 w1 q q' : Nat → Int32} {K : Ld} {T T' : Nat → Nat → Int32} {ke ke' : Int32} {sd sd' : Int64}
theorem rX.to (h : rX G (nI n) la dr ke sd K t) (h2 : hget G' 2 = some (c_x (nI n') la dr ke' sd')) (hk : ∀ k, ((la ≤ k ∧ k < la + 6) ∨ k = 17 ∨ k = 18 ∨ (19 ≤ k ∧ k < 23) ∨ (86 ≤ k ∧ k < 94)) → hget G' k = hget G k) : rX G' (nI n') la dr ke' sd' K t := by
  obtain ⟨⟨a, b, c, e⟩, f, ⟨u, g⟩, v, i⟩ := h
  exact ⟨⟨h2, b, c.kept (fun k x y => hk k (by omega)), e.kept (hk _ (by omega)) (hk _ (by omega))⟩, f.kept (fun k x y => hk k (by omega)), ⟨u, g.kept (fun k x y => hk k (by omega))⟩, v, i.kept (fun k x y => hk k (by omega))⟩
theorem cR.txx (h : cR G dr tx sz T nv pp tm mn w0 w1) (hd : 5 ≤ dr ∧ dr + 6 ≤ 17) (h3 : hget G' 3 = some (c_ia 48 tx')) (hk : ∀ k, (k = 1 ∨ k = 4 ∨ (5 ≤ k ∧ k < 17) ∨ (23 ≤ k ∧ k < 86) ∨ (94 ≤ k ∧ k < 124)) → hget G' k = hget G k) : cR G' dr tx' sz T nv pp tm mn w0 w1 := by
  obtain ⟨h1, h2, h3', h4, ⟨st, h5⟩, h6, ⟨a, b, c, h7⟩, ⟨K2, h8⟩, h9⟩ := h
  exact ⟨h1.kept (fun k x y => hk k (by omega)), h2.kept (fun k x y => hk k (by omega)), h3'.kept (fun k x => hk k (by omega)), h4.kep (fun k x => hk k (by omega)), ⟨st, (hk _ (by omega)).trans h5⟩, h3, ⟨a, b, c, (hk _ (by omega)).trans h7⟩, ⟨K2, h8.kept (fun k x y => hk k (by omega))⟩, (hk _ (by omega)).trans h9⟩
theorem cR.act (h : cR G dr tx sz T nv pp tm mn w0 w1) (hd : 5 ≤ dr ∧ dr + 6 ≤ 17) (hA : isA G' sz' T') (hk : ∀ k, (k = 1 ∨ k = 3 ∨ k = 4 ∨ (5 ≤ k ∧ k < 17) ∨ (81 ≤ k ∧ k < 86) ∨ (94 ≤ k ∧ k < 124)) → hget G' k = hget G k) : cR G' dr tx sz' T' nv pp tm mn w0 w1 := by
  obtain ⟨h1, h2, h3', h4, ⟨st, h5⟩, h6, ⟨a, b, c, h7⟩, ⟨K2, h8⟩, h9⟩ := h
  exact ⟨hA, h2.kept (fun k x y => hk k (by omega)), h3'.kept (fun k x => hk k (by omega)), h4.kep (fun k x => hk k (by omega)), ⟨st, (hk _ (by omega)).trans h5⟩, (hk _ (by omega)).trans h6, ⟨a, b, c, (hk _ (by omega)).trans h7⟩, ⟨K2, h8.kept (fun k x y => hk k (by omega))⟩, (hk _ (by omega)).trans h9⟩
theorem rM.to (h : rM G q sd K t) (h0 : hget G' 124 = some (c_m q' sd')) (h13 : q' 13 = q 13) (h14 : q' 14 = q 14) (hk : ∀ k, ((131 ≤ k ∧ k ≤ 135) ∨ k = 137) → hget G' k = hget G k) : rM G' q' sd' K t := by
  obtain ⟨w, ⟨⟨a, b, c, e, e', kd, ms, fm, tt, g1, g2, g3, g4, g5⟩, f, ff, i⟩, j⟩ := h
  exact ⟨w, ⟨⟨h0, h13.trans b, h14.trans c, e, e', kd, ms, fm, tt, (hk _ (by omega)).trans g1, (hk _ (by omega)).trans g2, (hk _ (by omega)).trans g3, (hk _ (by omega)).trans g4, g5⟩, (hk _ (by omega)).trans f, ff, (hk _ (by omega)).trans i⟩, j⟩
theorem mB.kept (h : mB G) (hk : ∀ k, 125 ≤ k → k ≤ 130 → hget G' k = hget G k) : mB G' := by
  obtain ⟨rk, rh, rr, rf, rt, rg, r1, r2, r3, r4, r5, r6⟩ := h
  exact ⟨rk, rh, rr, rf, rt, rg, (hk _ (by omega) (by omega)).trans r1, (hk _ (by omega) (by omega)).trans r2, (hk _ (by omega) (by omega)).trans r3, (hk _ (by omega) (by omega)).trans r4, (hk _ (by omega) (by omega)).trans r5, (hk _ (by omega) (by omega)).trans r6⟩
theorem mT.kept (h : mT G) (hk : ∀ k, 142 ≤ k → k ≤ 144 → hget G' k = hget G k) : mT G' := by
  obtain ⟨T', B', M', t1, t2, t3⟩ := h
  exact ⟨T', B', M', (hk _ (by omega) (by omega)).trans t1, (hk _ (by omega) (by omega)).trans t2, (hk _ (by omega) (by omega)).trans t3⟩
theorem mV.kept (h : mV G q nv pp tm mn) (hk : ∀ k, 139 ≤ k → k ≤ 141 → hget G' k = hget G k) (h24 : q' 24 = q 24) : mV G' q' nv pp tm mn := ⟨h24.trans h.1, h.2.1, (hk _ (by omega) (by omega)).trans h.2.2.1, (hk _ (by omega) (by omega)).trans h.2.2.2.1, (hk _ (by omega) (by omega)).trans h.2.2.2.2⟩
/-- the row of acts is another one -/
theorem mE.act (h : mE K G q n tx sz T nv pp tm mn ke w0 w1) (hA : mA K G' q' sz' T') (hq : qA q q') (hk : ∀ k, ((125 ≤ k ∧ k ≤ 130) ∨ k = 136 ∨ (139 ≤ k ∧ k ≤ 146)) → hget G' k = hget G k) : mE K G' q' n tx sz' T' nv pp tm mn ke w0 w1 := by
  obtain ⟨h1, h2, h3, h4, h5, h6, h7⟩ := h
  exact ⟨hA, h2.kept (fun k a b => hk k (by omega)) (hq _ (by omega) (by omega)), h3.kept (hk _ (by omega)) (hk _ (by omega)), h4.kept (fun k a b => hk k (by omega)), h5.kept (fun k a b => hk k (by omega)), (hk _ (by omega)).trans h6, (hq _ (by omega) (by omega)).trans h7⟩
end K1
theorem k_write {d : Nat} {x : Int32} : pairI (d + 12) 42 94 [.int x] := by
  refine pair_of ?_
  rintro G N ⟨n, tx, K, t, sz, T, nv, pp, tm, mn, ke, w0, w1, sd⟩ ⟨la, dr, hr, hc⟩ _ hp hN
  obtain ⟨p0, p1, pr⟩ := id hp
  have hd := hr.1.2.1.b
  have key : ∀ n2 tx2, (n2, tx2) = (if wrR n x = 0 then (n + 1, upd tx n x) else (n, tx)) → n2 ≤ 48 → ∃ (v : Int32) (s' : SS), pI (N + 1) s' ∧ (∀ Q : px_Q, (∀ G1, cW G1 s' → (∀ k, k = 0 ∨ 124 ≤ k → hget G1 k = hget G k) → Q (some (.int v)) G1) → pcal (d + 12) 42 (.ref 2 :: [.int x]) G Q) ∧ (∀ H, mWd H (n, tx, K, t, sz, T, nv, pp, tm, mn, ke, w0, w1, sd) → ∀ Q : px_Q, (∀ G2, mWd G2 s' → (∀ k, k < 124 → hget G2 k = hget H k) → Q (some (.int v)) G2) → pcal (d + 12) 94 (.ref 124 :: [.int x]) H Q) := by
    intro n2 tx2 he hn2
    have hup := hp.up hN
    refine ⟨if wrR n x = 0 then nI (n + 1) else wrR n x, (n2, tx2, K, t, sz, T, nv, pp, tm, mn, ke, w0, w1, sd), ⟨hup.1, hn2, hup.2.2⟩, fun Q hQ => ?_, fun H hm Q hQ => ?_⟩
    · refine sp_write hr.x hc.2.2.2.2.2.1 p1 (fun G1 n' tx' e1 e2 e3 e4 => ?_)
      rw [← he] at e1
      obtain ⟨rfl, rfl⟩ := Prod.mk.inj e1
      exact hQ G1 ⟨la, dr, hr.to e2 (fun k hk => e4 k (by omega)), hc.txx hd.1 e3 (fun k hk => e4 k (by omega))⟩ (fun k hk => e4 k (by omega))
    · obtain ⟨q, hrm, hm1⟩ := hm
      refine sp_mwrite hrm.o hm1.2.2.2.2.2.2 hm1.2.2.2.2.2.1 p1 (fun G2 q' n' tx' e1 e2 e3 e4 e5 e6 => ?_)
      rw [← he] at e1
      obtain ⟨rfl, rfl⟩ := Prod.mk.inj e1
      obtain ⟨h1, h2, h3, h4, h5, h6, h7⟩ := hm1
      exact hQ G2 ⟨q', hrm.to e2 (e4 _ (by omega)) (e4 _ (by omega)) (fun k hk => e6 k (by omega) (by omega)), h1.kept (e6 _ (by omega) (by omega)) (e4 _ (by omega)) (e4 _ (by omega)), h2.kept (fun k a b => e6 k (by omega) (by omega)) (e4 _ (by omega)), h3.kept (e6 _ (by omega) (by omega)) (e6 _ (by omega) (by omega)), h4.kept (fun k a b => e6 k (by omega) (by omega)), h5.kept (fun k a b => e6 k (by omega) (by omega)), e5, e3⟩ (fun k hk => e6 k (by omega) (by omega))
  by_cases z : wrR n x = 0
  · rw [if_pos z] at key
    refine key _ _ rfl ?_
    unfold wrR at z
    by_cases u : x < 0 ∨ 255 < x
    · rw [if_pos u] at z; exact absurd z (by decide)
    · rw [if_neg u] at z
      by_cases v : n < 48
      · omega
      · rw [if_neg v] at z; exact absurd z (by decide)
  · rw [if_neg z] at key
    exact key _ _ rfl p1
theorem k_wipe {d : Nat} : pairI (d + 12) 43 95 [] := by
  refine pair_of ?_
  rintro G N ⟨n, tx, K, t, sz, T, nv, pp, tm, mn, ke, w0, w1, sd⟩ ⟨la, dr, hr, hc⟩ _ hp hN
  have hd := hr.1.2.1.b
  have hup := hp.up hN
  refine ⟨nI n, (0, tx, K, t, sz, T, nv, pp, tm, mn, ke, w0, w1, sd), ⟨hup.1, by omega, hup.2.2⟩, fun Q hQ => ?_, fun H hm Q hQ => ?_⟩
  · exact sp_wipe hr.x (hQ _ ⟨la, dr, hr.to (n' := 0) (hget_self _ _ _) (fun k hk => hget_ne (by omega)), hc.kept hd.1 (fun k hk => hget_ne (by omega))⟩ (fun k hk => hget_ne (by omega)))
  · obtain ⟨q, hrm, h1, h2, h3, h4, h5, h6, h7⟩ := hm
    refine sp_mwipe hrm.o ?_
    rw [h7]
    have ne : ∀ k, k ≠ 17 → upd q 17 0 k = q k := fun k hk => upd_n hk
    exact hQ _ ⟨upd q 17 0, hrm.to (hget_self _ _ _) (ne _ (by omega)) (ne _ (by omega)) (fun k hk => hget_ne (by omega)), h1.kept (hget_ne (by omega)) (ne _ (by omega)) (ne _ (by omega)), h2.kept (fun k a b => hget_ne (by omega)) (ne _ (by omega)), h3.kept (hget_ne (by omega)) (hget_ne (by omega)), h4.kept (fun k a b => hget_ne (by omega)), h5.kept (fun k a b => hget_ne (by omega)), (hget_ne (by omega)).trans h6, upd_y⟩ (fun k hk => hget_ne (by omega))
theorem cR.rd {G G' : px_H} {sz nv la dr n : Nat} {tx t pp tm mn w0 w1 : Nat → Int32} {K : Ld} {T : Nat → Nat → Int32} {ke : Int32} {sd : Int64} {r : RS} (h : cR G dr tx sz T nv pp tm mn w0 w1) (hr : rX G (nI n) la dr ke sd K t) (h1 : isR G' dr r) (hf : fR G G' dr) : rX G' (nI n) la dr ke sd K t ∧ cR G' dr tx sz T nv pp tm mn w0 w1 := by
  have hd := hr.1.2.1.b
  have hl : la + 6 ≤ dr ∨ dr + 6 ≤ la := by have := hr.1.2.1; unfold lad at this; omega
  obtain ⟨i1, i2, i3, i4, ⟨st, i5⟩, i6, -, -, i9⟩ := h
  refine ⟨hr.to ((hf _ (by omega) (by omega)).trans hr.x) (fun k hk => hf k (by omega) (by omega)), i1.kept (fun k x y => hf k (by omega) (by omega)), i2.kept (fun k x y => hf k (by omega) (by omega)), i3.kept (fun k x => hf k (by omega) (by omega)), i4.kep (fun k x => hf k (by omega) (by omega)), ⟨st, (hf _ (by omega) (by omega)).trans i5⟩, (hf _ (by omega) (by omega)).trans i6, ⟨_, _, _, h1.2.1⟩, ⟨_, h1.2.2⟩, (hf _ (by omega) (by omega)).trans i9⟩
theorem mE.rd {G G' : px_H} {sz nv n : Nat} {tx t pp tm mn w0 w1 q q' : Nat → Int32} {K : Ld} {T : Nat → Nat → Int32} {ke : Int32} {sd : Int64} (hrm : rM G q sd K t) (h : mE K G q n tx sz T nv pp tm mn ke w0 w1) (e0 : hget G' 124 = some (c_m q' sd)) (e1 : mB G') (e2 : fQ G G') (e3 : eQ q q') : rM G' q' sd K t ∧ mE K G' q' n tx sz T nv pp tm mn ke w0 w1 := by
  obtain ⟨h1, h2, h3, h4, h5, h6, h7⟩ := h
  have e : ∀ j, j ≠ 6 → j ≠ 7 → j ≠ 8 → j ≠ 18 → j ≠ 19 → q' j = q j := e3
  exact ⟨hrm.to e0 (e _ (by omega) (by omega) (by omega) (by omega) (by omega)) (e _ (by omega) (by omega) (by omega) (by omega) (by omega)) (fun k hk => e2 k (by omega)), h1.kept (e2 _ (by omega)) (e _ (by omega) (by omega) (by omega) (by omega) (by omega)) (e _ (by omega) (by omega) (by omega) (by omega) (by omega)), h2.kept (fun k a b => e2 k (by omega)) (e _ (by omega) (by omega) (by omega) (by omega) (by omega)), h3.kept (e2 _ (by omega)) (e2 _ (by omega)), h4.kept (fun k a b => e2 k (by omega)), e1, (e2 _ (by omega)).trans h6, (e _ (by omega) (by omega) (by omega) (by omega) (by omega)).trans h7⟩
theorem k_fault {d : Nat} : pairI (d + 12) 44 101 [] := by
  refine pair_of ?_
  rintro G N ⟨n, tx, K, t, sz, T, nv, pp, tm, mn, ke, w0, w1, sd⟩ ⟨la, dr, hr, hc⟩ _ hp hN
  obtain ⟨p0, p1, -⟩ := id hp
  obtain ⟨a, b, c, h4⟩ := hc.2.2.2.2.2.2.1
  obtain ⟨K2, hl⟩ := hc.2.2.2.2.2.2.2.1
  refine ⟨(rdC tx n n 0 (0, b, c, clK K2)).1, (n, tx, K, t, sz, T, nv, pp, tm, mn, ke, w0, w1, sd), hp.up hN, fun Q hQ => ?_, fun H hm Q hQ => ?_⟩
  · refine sp_fault hr.x hr.1.2.1 hc.2.2.2.2.2.1 h4 hl p1 (fun G1 r r1 r2 => ?_)
    have hd := hr.1.2.1.b
    exact hQ G1 ⟨la, dr, hc.rd hr r1 r2⟩ (fun k hk => r2 k (by omega) (by omega))
  · obtain ⟨q, hrm, he⟩ := hm
    refine sp_mfault (f1 := b) (s1 := c) (K2 := K2) hrm.o he.2.2.2.2.1 he.2.2.2.2.2.1 he.2.2.2.2.2.2 p1 (fun G2 q' e0 e1 e2 e3 => ?_)
    exact hQ G2 ⟨q', mE.rd hrm he e0 e1 e2 e3⟩ (fun k hk => e2 k (by omega))
theorem k_land {d : Nat} : pairI (d + 12) 45 102 [] := by
  refine pair_of ?_
  rintro G N ⟨n, tx, K, t, sz, T, nv, pp, tm, mn, ke, w0, w1, sd⟩ ⟨la, dr, hr, hc⟩ hm0 hp hN
  obtain ⟨p0, p1, pr, pg, pT, pV, pw0, pw1⟩ := id hp
  obtain ⟨a, b, c, h4⟩ := hc.2.2.2.2.2.2.1
  obtain ⟨K2, hl⟩ := hc.2.2.2.2.2.2.2.1
  have hd := hr.1.2.1.b
  by_cases z : (rdC tx n n 0 (0, b, c, clK K2)).1 = -9
  · generalize hK : (rdC tx n n 0 (0, b, c, clK K2)).2 = K'
    have hrd : rdC tx n n 0 (0, b, c, clK K2) = (-9, K') := by rw [← z, ← hK]
    have hw : wfL K' := by rw [← hK]; exact rdC_wf n 0 _ (wfS_0 (wfL_cl K2))
    refine ⟨10 * nI K'.n + nI K'.m, (n, tx, K', aBg K', 0, T, nv, pp, tm, mn, 0, w0, w1, sd), ⟨by omega, p1, wfL_v hw, gS_begin hw (by omega), fun i hi => by omega, pV, fun y => absurd y (by decide), fun y => absurd y (by decide)⟩, fun Q hQ => ?_, fun H hm Q hQ => ?_⟩
    · refine sp_land hr hc.1 hc.2.2.2.2.2.1 h4 hl p1 (fun y => absurd z y) (fun K'' e G1 r1 r2 r3 r4 r5 => ?_)
      rw [hrd] at e
      obtain ⟨-, rfl⟩ := Prod.mk.inj e
      obtain ⟨i1, i2, i3, i4, ⟨st, i5⟩, i6, -, -, i9⟩ := hc
      exact hQ G1 ⟨dr, la, r1, r2, i2.kept (fun k x y => r5 k (by omega) (by omega) (by omega)), i3.kept (fun k x => r5 k (by omega) (by omega) (by omega)), i4.kep (fun k x => r5 k (by omega) (by omega) (by omega)), ⟨st, (r5 _ (by omega) (by omega) (by omega)).trans i5⟩, (r5 _ (by omega) (by omega) (by omega)).trans i6, r4, ⟨K, r3⟩, (r5 _ (by omega) (by omega) (by omega)).trans i9⟩ (fun k hk => r5 k (by omega) (by omega) (by omega))
    · obtain ⟨q, hrm, he⟩ := hm
      obtain ⟨h1, h2, h3, h4', h5, h6, h7⟩ := id he
      refine sp_mland (f1 := b) (s1 := c) (K2 := K2) hrm h1 h3 h5 h6 h7 p1 (fun y => absurd z y) (fun K'' e _ G2 q' r1 r2 r3 r4 r5 r6 => ?_)
      rw [hrd] at e
      obtain ⟨-, rfl⟩ := Prod.mk.inj e
      exact hQ G2 ⟨q', r1, r2, h2.kept (fun k a b => r6 k (by omega) (by omega)) (r5 _ (by omega) (by omega) (by omega) (by omega) (by omega) (by omega) (by omega) (by omega)), r3, h4'.kept (fun k a b => r6 k (by omega) (by omega)), r4, (r6 _ (by omega) (by omega)).trans h6, (r5 _ (by omega) (by omega) (by omega) (by omega) (by omega) (by omega) (by omega) (by omega)).trans h7⟩ (fun k hk => r6 k (by omega) (by omega))
  · refine ⟨-3, (n, tx, K, t, sz, T, nv, pp, tm, mn, ke, w0, w1, sd), hp.up hN, fun Q hQ => ?_, fun H hm Q hQ => ?_⟩
    · refine sp_land hr hc.1 hc.2.2.2.2.2.1 h4 hl p1 (fun _ G1 r r1 r2 => ?_) (fun K'' e => by rw [e] at z; exact absurd rfl z)
      exact hQ G1 ⟨la, dr, hc.rd hr r1 r2⟩ (fun k hk => r2 k (by omega) (by omega))
    · obtain ⟨q, hrm, he⟩ := hm
      obtain ⟨h1, h2, h3, h4', h5, h6, h7⟩ := id he
      refine sp_mland (f1 := b) (s1 := c) (K2 := K2) hrm h1 h3 h5 h6 h7 p1 (fun _ G2 q' e0 e1 e2 e3 => ?_) (fun K'' e => by rw [e] at z; exact absurd rfl z)
      exact hQ G2 ⟨q', mE.rd hrm he e0 e1 e2 e3⟩ (fun k hk => e2 k (by omega))
