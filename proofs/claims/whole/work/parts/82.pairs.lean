/-! ===== pairs: acts, seen, seed, days, slots ===== -/
theorem k_hour {d : Nat} : pairI (d + 12) 48 116 [] := by
  refine pair_of ?_
  rintro G N ⟨n, tx, K, t, sz, T, nv, pp, tm, mn, ke, w0, w1, sd⟩ ⟨la, dr, hr, hc⟩ _ hp hN
  obtain ⟨p0, p1, ⟨hv, hvf, hvn⟩, pg, pT, pV, pw0, pw1⟩ := id hp
  obtain ⟨hok, ⟨o, ho1, ho2⟩, hh0, hh1⟩ := id pg
  have hd := hr.d
  refine ⟨aW K 0 t, (n, tx, K, aP K 0 t, rowS sz, rowT sz T t, nv, pp, tm, mn, ke, w0, w1, sd), ⟨by omega, p1, ⟨hv, hvf, hvn⟩, gS_hour hv pg p0, row_all (P := gS K (N + 1)) (fun i hi => (pT i hi).mono (by omega) (by omega)) (pg.mono (by omega) (by omega)) hc.1.2.1, pV, fun z => (pw0 z).mono (by omega) (by omega), fun z => (pw1 z).mono (by omega) (by omega)⟩, fun Q hQ => ?_, fun H hm Q hQ => ?_⟩
  · exact sp_hour hr hc.1 hv hok (fun G' r a f => hQ G' ⟨la, dr, r, hc.act hd a (fun k hk => f k (by omega) (by omega))⟩ (fun k hk => f k (by omega) (by omega)))
  · obtain ⟨q, hrm, he⟩ := hm
    exact sp_mhour ⟨hrm, hv, hvf, hok, ho2, ho1, hvn⟩ he.1 (fun G' q' r a hq f => hQ G' ⟨q', r, he.act a hq (fun k hk => f k (by omega) (by omega) (by omega) (by omega))⟩ (fun k hk => f k (by omega) (by omega) (by omega) (by omega)))
theorem k_turn {d : Nat} {x : Int32} : pairI (d + 12) 49 117 [.int x] := by
  refine pair_of ?_
  rintro G N ⟨n, tx, K, t, sz, T, nv, pp, tm, mn, ke, w0, w1, sd⟩ ⟨la, dr, hr, hc⟩ _ hp hN
  obtain ⟨p0, p1, ⟨hv, hvf, hvn⟩, pg, pT, pV, pw0, pw1⟩ := id hp
  have hd := hr.d
  have key : ∀ t2 sz2 T2, (t2, sz2, T2) = (if hP K.m x = false then (t, sz, T) else (so t (t 18 ^^^ 1 <<< (x &&& 31)), rowS sz, rowT sz T t)) → gS K (N + 1) t2 → (∀ i, i < sz2 → gS K (N + 1) (T2 i)) → ∃ (v : Int32) (s' : SS), pI (N + 1) s' ∧ (∀ Q : px_Q, (∀ G1, cW G1 s' → (∀ k, k = 0 ∨ 124 ≤ k → hget G1 k = hget G k) → Q (some (.int v)) G1) → pcal (d + 12) 49 (.ref 2 :: [.int x]) G Q) ∧ (∀ H, mWd H (n, tx, K, t, sz, T, nv, pp, tm, mn, ke, w0, w1, sd) → ∀ Q : px_Q, (∀ G2, mWd G2 s' → (∀ k, k < 124 → hget G2 k = hget H k) → Q (some (.int v)) G2) → pcal (d + 12) 117 (.ref 124 :: [.int x]) H Q) := by
    intro t2 sz2 T2 he g1 g2
    refine ⟨aTn K t x, (n, tx, K, t2, sz2, T2, nv, pp, tm, mn, ke, w0, w1, sd), ⟨by omega, p1, ⟨hv, hvf, hvn⟩, g1, g2, pV, fun z => (pw0 z).mono (by omega) (by omega), fun z => (pw1 z).mono (by omega) (by omega)⟩, fun Q hQ => ?_, fun H hm Q hQ => ?_⟩
    · refine sp_turn hr hc.1 (fun G' t' sz' T' e r a f => ?_)
      rw [← he] at e
      obtain ⟨rfl, e'⟩ := Prod.mk.inj e
      obtain ⟨rfl, rfl⟩ := Prod.mk.inj e'
      exact hQ G' ⟨la, dr, r, hc.act hd a (fun k hk => f k (by omega) (by omega))⟩ (fun k hk => f k (by omega) (by omega))
    · obtain ⟨q, hrm, hm1⟩ := hm
      refine sp_mturn hrm hm1.1 (fun G' q' t' sz' T' e r a hq f => ?_)
      rw [← he] at e
      obtain ⟨rfl, e'⟩ := Prod.mk.inj e
      obtain ⟨rfl, rfl⟩ := Prod.mk.inj e'
      exact hQ G' ⟨q', r, hm1.act a hq (fun k hk => f k (by omega) (by omega) (by omega) (by omega))⟩ (fun k hk => f k (by omega) (by omega) (by omega) (by omega))
  by_cases z : hP K.m x = false
  · rw [if_pos z] at key
    exact key _ _ _ rfl (pg.mono (by omega) (by omega)) (fun i hi => (pT i hi).mono (by omega) (by omega))
  · rw [if_neg z] at key
    exact key _ _ _ rfl ((gS_turn hv.1.2.1 pg (nt z)).mono (by omega) (by omega)) (row_all (P := gS K (N + 1)) (fun i hi => (pT i hi).mono (by omega) (by omega)) (pg.mono (by omega) (by omega)) hc.1.2.1)
theorem rnR_0 {K : Ld} {t : Nat → Int32} {p k : Int32} (h : rnR K t p k = 0) : hP K.n p = true ∧ 1 ≤ k.toInt ∧ k.toInt ≤ 9 := by
  unfold rnR at h
  by_cases a : hP K.n p = false
  · rw [if_pos a] at h; exact absurd h (by decide)
  · rw [if_neg a] at h
    by_cases b : k < 1 ∨ 9 < k
    · rw [if_pos b] at h; exact absurd h (by decide)
    · have b1 : ¬ k < 1 := fun z => b (Or.inl z)
      have b2 : ¬ 9 < k := fun z => b (Or.inr z)
      rw [i_lt, show (1 : Int32).toInt = 1 by decide] at b1
      rw [i_lt, show (9 : Int32).toInt = 9 by decide] at b2
      exact ⟨nt a, by omega, by omega⟩
theorem k_rain {d : Nat} {x y : Int32} : pairI (d + 12) 50 118 [.int x, .int y] := by
  refine pair_of ?_
  rintro G N ⟨n, tx, K, t, sz, T, nv, pp, tm, mn, ke, w0, w1, sd⟩ ⟨la, dr, hr, hc⟩ _ hp hN
  obtain ⟨p0, p1, ⟨hv, hvf, hvn⟩, pg, pT, pV, pw0, pw1⟩ := id hp
  have hd := hr.d
  have key : ∀ t2 sz2 T2, (t2, sz2, T2) = (if rnR K t x y = 0 then (rnT t x.toNatClampNeg y, rowS sz, rowT sz T t) else (t, sz, T)) → gS K (N + 1) t2 → (∀ i, i < sz2 → gS K (N + 1) (T2 i)) → ∃ (v : Int32) (s' : SS), pI (N + 1) s' ∧ (∀ Q : px_Q, (∀ G1, cW G1 s' → (∀ k, k = 0 ∨ 124 ≤ k → hget G1 k = hget G k) → Q (some (.int v)) G1) → pcal (d + 12) 50 (.ref 2 :: [.int x, .int y]) G Q) ∧ (∀ H, mWd H (n, tx, K, t, sz, T, nv, pp, tm, mn, ke, w0, w1, sd) → ∀ Q : px_Q, (∀ G2, mWd G2 s' → (∀ k, k < 124 → hget G2 k = hget H k) → Q (some (.int v)) G2) → pcal (d + 12) 118 (.ref 124 :: [.int x, .int y]) H Q) := by
    intro t2 sz2 T2 he g1 g2
    refine ⟨aRa K t x y, (n, tx, K, t2, sz2, T2, nv, pp, tm, mn, ke, w0, w1, sd), ⟨by omega, p1, ⟨hv, hvf, hvn⟩, g1, g2, pV, fun z => (pw0 z).mono (by omega) (by omega), fun z => (pw1 z).mono (by omega) (by omega)⟩, fun Q hQ => ?_, fun H hm Q hQ => ?_⟩
    · refine sp_rain hr hc.1 (fun G' t' sz' T' e r a f => ?_)
      rw [← he] at e
      obtain ⟨rfl, e'⟩ := Prod.mk.inj e
      obtain ⟨rfl, rfl⟩ := Prod.mk.inj e'
      exact hQ G' ⟨la, dr, r, hc.act hd a (fun k hk => f k (by omega) (by omega))⟩ (fun k hk => f k (by omega) (by omega))
    · obtain ⟨q, hrm, hm1⟩ := hm
      refine sp_mrain hrm hm1.1 (fun G' q' t' sz' T' e r a hq f => ?_)
      rw [← he] at e
      obtain ⟨rfl, e'⟩ := Prod.mk.inj e
      obtain ⟨rfl, rfl⟩ := Prod.mk.inj e'
      exact hQ G' ⟨q', r, hm1.act a hq (fun k hk => f k (by omega) (by omega) (by omega) (by omega))⟩ (fun k hk => f k (by omega) (by omega) (by omega) (by omega))
  by_cases z : rnR K t x y = 0
  · rw [if_pos z] at key
    obtain ⟨a1, a2, a3⟩ := rnR_0 z
    obtain ⟨-, b2, -, -⟩ := hP_of hv.1.1 a1
    exact key _ _ _ rfl (gS_rain hv.1.1 pg p0 b2 ⟨a2, a3⟩) (row_all (P := gS K (N + 1)) (fun i hi => (pT i hi).mono (by omega) (by omega)) (pg.mono (by omega) (by omega)) hc.1.2.1)
  · rw [if_neg z] at key
    exact key _ _ _ rfl (pg.mono (by omega) (by omega)) (fun i hi => (pT i hi).mono (by omega) (by omega))
theorem k_undo {d : Nat} : pairI (d + 12) 51 119 [] := by
  refine pair_of ?_
  rintro G N ⟨n, tx, K, t, sz, T, nv, pp, tm, mn, ke, w0, w1, sd⟩ ⟨la, dr, hr, hc⟩ _ hp hN
  obtain ⟨p0, p1, ⟨hv, hvf, hvn⟩, pg, pT, pV, pw0, pw1⟩ := id hp
  have hd := hr.d
  have g1 : gS K (N + 1) (if sz = 0 then t else T (sz - 1)) := by
    by_cases z : sz = 0
    · rw [if_pos z]; exact pg.mono (by omega) (by omega)
    · rw [if_neg z]; exact (pT _ (by omega)).mono (by omega) (by omega)
  refine ⟨if sz = 0 then -3 else nI (sz - 1), (n, tx, K, if sz = 0 then t else T (sz - 1), sz - 1, T, nv, pp, tm, mn, ke, w0, w1, sd), ⟨by omega, p1, ⟨hv, hvf, hvn⟩, g1, fun i hi => (pT i (by omega)).mono (by omega) (by omega), pV, fun z => (pw0 z).mono (by omega) (by omega), fun z => (pw1 z).mono (by omega) (by omega)⟩, fun Q hQ => ?_, fun H hm Q hQ => ?_⟩
  · refine sp_undo hr hc.1 (fun G' t' e r a f => ?_)
    subst e
    exact hQ G' ⟨la, dr, r, hc.act hd a (fun k hk => f k (by omega) (by omega))⟩ (fun k hk => f k (by omega) (by omega))
  · obtain ⟨q, hrm, he⟩ := hm
    refine sp_mundo hrm he.1 (fun G' q' t' e r a hq f => ?_)
    subst e
    exact hQ G' ⟨q', r, he.act a hq (fun k hk => f k (by omega) (by omega) (by omega) (by omega))⟩ (fun k hk => f k (by omega) (by omega) (by omega) (by omega))
theorem seR_0 {K : Ld} {n : Nat} {p x k : Int32} (h : seR K n p x k = 0) : aHr x = true := by
  unfold seR at h
  by_cases a : hP K.n p = false
  · rw [if_pos a] at h; exact absurd h (by decide)
  · rw [if_neg a] at h
    by_cases b : aHr x = false ∨ k < 0 ∨ 99 < k
    · rw [if_pos b] at h; exact absurd h (by decide)
    · exact nt (fun z => b (Or.inl z))
theorem cR.see {G G' : px_H} {sz nv nv' dr : Nat} {tx pp tm mn pp' tm' mn' w0 w1 : Nat → Int32} {T : Nat → Nat → Int32} (h : cR G dr tx sz T nv pp tm mn w0 w1) (hd : 5 ≤ dr ∧ dr + 6 ≤ 17) (hV : isV G' nv' pp' tm' mn') (hf : fr G G' 81 85) : cR G' dr tx sz T nv' pp' tm' mn' w0 w1 := by
  obtain ⟨h1, h2, h3', h4, ⟨st, h5⟩, h6, ⟨a, b, c, h7⟩, ⟨K2, h8⟩, h9⟩ := h
  exact ⟨h1.kept (fun k x y => hf k (by omega)), hV, h3'.kept (fun k x => hf k (by omega)), h4.kep (fun k x => hf k (by omega)), ⟨st, (hf _ (by omega)).trans h5⟩, (hf _ (by omega)).trans h6, ⟨a, b, c, (hf _ (by omega)).trans h7⟩, ⟨K2, h8.kept (fun k x y => hf k (by omega))⟩, (hf _ (by omega)).trans h9⟩
theorem k_see {d : Nat} {x y z : Int32} : pairI (d + 12) 78 141 [.int x, .int y, .int z] := by
  refine pair_of ?_
  rintro G N ⟨n, tx, K, t, sz, T, nv, pp, tm, mn, ke, w0, w1, sd⟩ ⟨la, dr, hr, hc⟩ _ hp hN
  have hup := hp.up hN
  obtain ⟨p0, p1, pr, pg, pT, pV, pw0, pw1⟩ := id hup
  have hd := hr.1.2.1.b
  have key : ∀ n2 pp2 tm2 mn2, (n2, pp2, tm2, mn2) = (if seR K nv x y z = 0 then (nv + 1, upd pp nv x, upd tm nv y, upd mn nv z) else (nv, pp, tm, mn)) → (∀ i, i < n2 → ∃ r, r ≤ 12 ∧ tm2 i = nI r) → ∃ (v : Int32) (s' : SS), pI (N + 1) s' ∧ (∀ Q : px_Q, (∀ G1, cW G1 s' → (∀ k, k = 0 ∨ 124 ≤ k → hget G1 k = hget G k) → Q (some (.int v)) G1) → pcal (d + 12) 78 (.ref 2 :: [.int x, .int y, .int z]) G Q) ∧ (∀ H, mWd H (n, tx, K, t, sz, T, nv, pp, tm, mn, ke, w0, w1, sd) → ∀ Q : px_Q, (∀ G2, mWd G2 s' → (∀ k, k < 124 → hget G2 k = hget H k) → Q (some (.int v)) G2) → pcal (d + 12) 141 (.ref 124 :: [.int x, .int y, .int z]) H Q) := by
    intro n2 pp2 tm2 mn2 he g1
    refine ⟨if seR K nv x y z = 0 then nI (nv + 1) else seR K nv x y z, (n, tx, K, t, sz, T, n2, pp2, tm2, mn2, ke, w0, w1, sd), ⟨p0, p1, pr, pg, pT, g1, pw0, pw1⟩, fun Q hQ => ?_, fun H hm Q hQ => ?_⟩
    · refine sp_see hr hc.2.1 (fun G' n' pp' tm' mn' e v f => ?_)
      rw [← he] at e
      obtain ⟨rfl, e1⟩ := Prod.mk.inj e
      obtain ⟨rfl, e2⟩ := Prod.mk.inj e1
      obtain ⟨rfl, rfl⟩ := Prod.mk.inj e2
      exact hQ G' ⟨la, dr, hr.to ((f _ (by omega)).trans hr.x) (fun k hk => f k (by omega)), hc.see hd.1 v f⟩ (fun k hk => f k (by omega))
    · obtain ⟨q, hrm, h1, h2, h3, h4, h5, h6, h7⟩ := hm
      refine sp_msee hrm h2 (fun G' q' n' pp' tm' mn' e r v hq f => ?_)
      rw [← he] at e
      obtain ⟨rfl, e1⟩ := Prod.mk.inj e
      obtain ⟨rfl, e2⟩ := Prod.mk.inj e1
      obtain ⟨rfl, rfl⟩ := Prod.mk.inj e2
      exact hQ G' ⟨q', r, h1.kept (f _ (by omega) (by omega) (by omega) (by omega)) (hq _ (by omega)) (hq _ (by omega)), v, h3.kept (f _ (by omega) (by omega) (by omega) (by omega)) (f _ (by omega) (by omega) (by omega) (by omega)), h4.kept (fun k a b => f k (by omega) (by omega) (by omega) (by omega)), h5.kept (fun k a b => f k (by omega) (by omega) (by omega) (by omega)), (f _ (by omega) (by omega) (by omega) (by omega)).trans h6, (hq _ (by omega)).trans h7⟩ (fun k hk => f k (by omega) (by omega) (by omega) (by omega))
  by_cases u : seR K nv x y z = 0
  · rw [if_pos u] at key
    refine key _ _ _ _ rfl (fun i hi => ?_)
    by_cases e : i = nv
    · subst e
      rw [upd_y]
      exact aHr_of (seR_0 u)
    · rw [upd_n e]
      exact pV i (by omega)
  · rw [if_neg u] at key
    exact key _ _ _ _ rfl pV
theorem k_unsee {d : Nat} : pairI (d + 12) 79 142 [] := by
  refine pair_of ?_
  rintro G N ⟨n, tx, K, t, sz, T, nv, pp, tm, mn, ke, w0, w1, sd⟩ ⟨la, dr, hr, hc⟩ _ hp hN
  have hup := hp.up hN
  obtain ⟨p0, p1, pr, pg, pT, pV, pw0, pw1⟩ := id hup
  have hd := hr.1.2.1.b
  refine ⟨nI nv, (n, tx, K, t, sz, T, 0, pp, tm, mn, ke, w0, w1, sd), ⟨p0, p1, pr, pg, pT, fun i hi => by omega, pw0, pw1⟩, fun Q hQ => ?_, fun H hm Q hQ => ?_⟩
  · exact sp_unsee hr hc.2.1 (fun G' v f => hQ G' ⟨la, dr, hr.to ((f _ (by omega)).trans hr.x) (fun k hk => f k (by omega)), hc.see hd.1 v f⟩ (fun k hk => f k (by omega)))
  · obtain ⟨q, hrm, h1, h2, h3, h4, h5, h6, h7⟩ := hm
    have ne : ∀ k, k ≠ 24 → upd q 24 0 k = q k := fun k hk => upd_n hk
    exact sp_munsee hrm h2 (fun r v => hQ _ ⟨upd q 24 0, r, h1.kept (hget_ne (by omega)) (ne _ (by omega)) (ne _ (by omega)), v, h3.kept (hget_ne (by omega)) (hget_ne (by omega)), h4.kept (fun k a b => hget_ne (by omega)), h5.kept (fun k a b => hget_ne (by omega)), (hget_ne (by omega)).trans h6, (ne _ (by omega)).trans h7⟩ (fun k hk => hget_ne (by omega)))
theorem k_days {d : Nat} {x : Int32} : pairI (d + 12) 86 147 [.int x] := by
  refine pair_of ?_
  rintro G N ⟨n, tx, K, t, sz, T, nv, pp, tm, mn, ke, w0, w1, sd⟩ ⟨la, dr, hr, hc⟩ _ hp hN
  obtain ⟨p0, p1, ⟨hv, hvf, hvn⟩, ⟨hok, ⟨o, ho1, ho2⟩, hh0, hh1⟩, pT, pV, pw0, pw1⟩ := id hp
  have hd := hr.d
  refine ⟨aDy K t sd x, (n, tx, K, t, sz, T, nv, pp, tm, mn, ke, w0, w1, aDz K t sd x), hp.up hN, fun Q hQ => ?_, fun H hm Q hQ => ?_⟩
  · exact sp_days hr hv hok (by omega) (fun G' r f => hQ G' ⟨la, dr, r, hc.kept hd (fun k hk => f k (by omega) (by omega) (by omega))⟩ (fun k hk => f k (by omega) (by omega) (by omega)))
  · obtain ⟨q, hrm, he⟩ := hm
    exact sp_mdays ⟨hrm, hv, hvf, hok, ho2, ho1, hvn⟩ (by omega) (fun G' r f => hQ G' ⟨q, r, he.kept (fun k hk => f k (by omega) (by omega) (by omega)) rfl rfl rfl rfl⟩ (fun k hk => f k (by omega) (by omega) (by omega)))
theorem cR.slot {G G' : px_H} {sz nv dr : Nat} {tx pp tm mn w0 w1 w0' w1' : Nat → Int32} {T : Nat → Nat → Int32} (h : cR G dr tx sz T nv pp tm mn w0 w1) (hd : 5 ≤ dr ∧ dr + 6 ≤ 17) (hW : isW G' w0' w1') (hf : ∀ k, k ≠ 2 → (k < 96 ∨ 104 ≤ k) → hget G' k = hget G k) : cR G' dr tx sz T nv pp tm mn w0' w1' := by
  obtain ⟨h1, h2, h3', h4, ⟨st, h5⟩, h6, ⟨a, b, c, h7⟩, ⟨K2, h8⟩, h9⟩ := h
  exact ⟨h1.kept (fun k x y => hf k (by omega) (by omega)), h2.kept (fun k x y => hf k (by omega) (by omega)), hW, h4.kep (fun k x => hf k (by omega) (by omega)), ⟨st, (hf _ (by omega) (by omega)).trans h5⟩, (hf _ (by omega) (by omega)).trans h6, ⟨a, b, c, (hf _ (by omega) (by omega)).trans h7⟩, ⟨K2, h8.kept (fun k x y => hf k (by omega) (by omega))⟩, (hf _ (by omega) (by omega)).trans h9⟩
theorem x01 {x : Int32} : (x < 0 ∨ 1 < x) ↔ ¬ (x = 0 ∨ x = 1) := by
  constructor
  · rintro (h | h) (rfl | rfl)
    · exact absurd h (by decide)
    · exact absurd h (by decide)
    · exact absurd h (by decide)
    · exact absurd h (by decide)
  · intro h
    by_cases z : x < 0 ∨ 1 < x
    · exact z
    · exfalso
      obtain ⟨s, s2, rfl⟩ := iN01 z
      rcases (show s = 0 ∨ s = 1 by omega) with rfl | rfl
      · exact h (Or.inl rfl)
      · exact h (Or.inr rfl)
theorem bt_keep : ∀ e, e < 4 → bt (nI e ||| 1) 0 = 1 ∧ bt (nI e ||| 1) 1 = bt (nI e) 1 ∧ bt (nI e ||| 2) 0 = bt (nI e) 0 ∧ bt (nI e ||| 2) 1 = 1 := by decide +kernel
theorem k_keep {d : Nat} {x : Int32} : pairI (d + 12) 87 148 [.int x] := by
  refine pair_of ?_
  rintro G N ⟨n, tx, K, t, sz, T, nv, pp, tm, mn, ke, w0, w1, sd⟩ ⟨la, dr, hr, hc⟩ hm0 hp hN
  have hup := hp.up hN
  obtain ⟨p0, p1, pr, pg, pT, pV, pw0, pw1⟩ := id hup
  have hd := hr.d
  obtain ⟨q0, -, -, -, ⟨zk, kp, e, -, -, e4, eke, -⟩, -⟩ := hm0
  obtain ⟨bk1, bk2, bk3, bk4⟩ := bt_keep e e4
  have key : ∀ ke2 v0 v1, (ke2, v0, v1) = (if x = 0 then (ke ||| 1, t, w1) else if x = 1 then (ke ||| 2, w0, t) else (ke, w0, w1)) → (bt ke2 0 = 1 → gS K (N + 1) v0) → (bt ke2 1 = 1 → gS K (N + 1) v1) → (∀ ke' (W' : Nat → Nat → Int32), ((x < 0 ∨ 1 < x) → ke' = ke ∧ W' = fun r => if r = 0 then w0 else w1) → (∀ s, s < 2 → x = nI s → ke' = ke ||| b1 s ∧ W' = fun r => if r = s then t else if r = 0 then w0 else w1) → ke' = ke2 ∧ W' 0 = v0 ∧ W' 1 = v1) → ∃ (v : Int32) (s' : SS), pI (N + 1) s' ∧ (∀ Q : px_Q, (∀ G1, cW G1 s' → (∀ k, k = 0 ∨ 124 ≤ k → hget G1 k = hget G k) → Q (some (.int v)) G1) → pcal (d + 12) 87 (.ref 2 :: [.int x]) G Q) ∧ (∀ H, mWd H (n, tx, K, t, sz, T, nv, pp, tm, mn, ke, w0, w1, sd) → ∀ Q : px_Q, (∀ G2, mWd G2 s' → (∀ k, k < 124 → hget G2 k = hget H k) → Q (some (.int v)) G2) → pcal (d + 12) 148 (.ref 124 :: [.int x]) H Q) := by
    intro ke2 v0 v1 he g1 g2 g3
    refine ⟨if x = 0 ∨ x = 1 then t 19 else -1, (n, tx, K, t, sz, T, nv, pp, tm, mn, ke2, v0, v1, sd), ⟨p0, p1, pr, pg, pT, pV, g1, g2⟩, fun Q hQ => ?_, fun H hm Q hQ => ?_⟩
    · refine sp_keep hr hc.2.2.1 (fun G' ke' w0' w1' e r v f => ?_)
      rw [← he] at e
      obtain ⟨rfl, e'⟩ := Prod.mk.inj e
      obtain ⟨rfl, rfl⟩ := Prod.mk.inj e'
      exact hQ G' ⟨la, dr, r, hc.slot hd v f⟩ (fun k hk => f k (by omega) (by omega))
    · obtain ⟨q, hrm, h1, h2, h3, h4, h5, h6, h7⟩ := hm
      refine sp_mkeep hrm h3 (fun G' ke' W' e1 e2 r v f => ?_)
      obtain ⟨rfl, y0, y1⟩ := g3 ke' W' e1 e2
      have hh := hQ G' ⟨q, r, h1.kept (f _ (by omega) (by omega)) rfl rfl, h2.kept (fun k a b => f k (by omega) (by omega)) rfl, v.to (by simp [y0]) (by simp [y1]), h4.kept (fun k a b => f k (by omega) (by omega)), h5.kept (fun k a b => f k (by omega) (by omega)), (f _ (by omega) (by omega)).trans h6, h7⟩ (fun k hk => f k (by omega) (by omega))
      by_cases u : x = 0 ∨ x = 1
      · rw [if_pos u] at hh
        rw [if_neg (fun z => x01.mp z u)]
        exact hh
      · rw [if_neg u] at hh
        rw [if_pos (x01.mpr u)]
        exact hh
  by_cases a : x = 0
  · rw [if_pos a] at key
    refine key _ _ _ rfl (fun _ => pg) (fun z => pw1 (by rw [eke] at z ⊢; rw [← bk2]; exact z)) (fun ke' W' _ e2 => ?_)
    obtain ⟨r1, r2⟩ := e2 0 (by omega) a
    rw [r2]
    exact ⟨r1, by simp, by simp⟩
  · rw [if_neg a] at key
    by_cases b : x = 1
    · rw [if_pos b] at key
      refine key _ _ _ rfl (fun z => pw0 (by rw [eke] at z ⊢; rw [← bk3]; exact z)) (fun _ => pg) (fun ke' W' _ e2 => ?_)
      obtain ⟨r1, r2⟩ := e2 1 (by omega) b
      rw [r2]
      exact ⟨r1, by simp, by simp⟩
    · rw [if_neg b] at key
      refine key _ _ _ rfl pw0 pw1 (fun ke' W' e1 _ => ?_)
      obtain ⟨r1, r2⟩ := e1 (x01.mpr (by rintro (z | z); exact a z; exact b z))
      rw [r2]
      exact ⟨r1, by simp, by simp⟩
theorem agR_0 {ke x : Int32} (h : agR ke x = 0) : (x = 0 ∧ ¬ bt ke 0 = 0) ∨ (x = 1 ∧ ¬ bt ke 1 = 0) := by
  unfold agR at h
  by_cases a : x = 0 ∨ x = 1
  · rw [if_pos a] at h
    by_cases b : ke >>> (x &&& 31) &&& 1 = 0
    · rw [if_pos b] at h; exact absurd h (by decide)
    · rcases a with rfl | rfl
      · exact Or.inl ⟨rfl, b⟩
      · exact Or.inr ⟨rfl, b⟩
  · rw [if_neg a] at h; exact absurd h (by decide)
theorem bt_4 : ∀ e, e < 4 → ∀ s, s < 2 → ¬ bt (nI e) s = 0 → bt (nI e) s = 1 := by decide +kernel
theorem k_again {d : Nat} {x : Int32} : pairI (d + 12) 88 149 [.int x] := by
  refine pair_of ?_
  rintro G N ⟨n, tx, K, t, sz, T, nv, pp, tm, mn, ke, w0, w1, sd⟩ ⟨la, dr, hr, hc⟩ hm0 hp hN
  have hup := hp.up hN
  obtain ⟨p0, p1, pr, pg, pT, pV, pw0, pw1⟩ := id hup
  have hd := hr.d
  obtain ⟨q0, -, -, -, ⟨zk, kp, e, -, -, e4, eke, -⟩, -⟩ := hm0
  by_cases z : agR ke x = 0
  · have ew : (if x.toNatClampNeg = 0 then w0 else w1) = if x = 0 then w0 else w1 := by
      rcases agR_0 z with ⟨rfl, -⟩ | ⟨rfl, -⟩
      · rw [if_pos (by decide), if_pos rfl]
      · rw [if_neg (by decide), if_neg (by decide)]
    have gw : gS K (N + 1) (if x = 0 then w0 else w1) := by
      rcases agR_0 z with ⟨rfl, u⟩ | ⟨rfl, u⟩
      · rw [if_pos rfl]; exact pw0 (by rw [eke] at u ⊢; exact bt_4 e e4 0 (by omega) u)
      · rw [if_neg (by decide)]; exact pw1 (by rw [eke] at u ⊢; exact bt_4 e e4 1 (by omega) u)
    refine ⟨if x = 0 then w0 19 else w1 19, (n, tx, K, if x = 0 then w0 else w1, 0, T, nv, pp, tm, mn, ke, w0, w1, sd), ⟨p0, p1, pr, gw, fun i hi => by omega, pV, pw0, pw1⟩, fun Q hQ => ?_, fun H hm Q hQ => ?_⟩
    · refine sp_again hr hc.1 hc.2.2.1 (fun G' t' sz' e r a f => ?_)
      rw [if_pos z] at e
      obtain ⟨rfl, rfl⟩ := Prod.mk.inj e
      rw [if_pos z]
      exact hQ G' ⟨la, dr, r, hc.act hd a (fun k hk => f k (by omega) (by omega))⟩ (fun k hk => f k (by omega) (by omega))
    · obtain ⟨q, hrm, he⟩ := hm
      refine sp_magain hrm he.1 he.2.2.1 (fun G' q' t' sz' e r a hq f => ?_)
      rw [if_pos z, ew] at e
      obtain ⟨rfl, rfl⟩ := Prod.mk.inj e
      rw [if_pos z]
      have hh := hQ G' ⟨q', r, he.act a hq (fun k hk => f k (by omega) (by omega))⟩ (fun k hk => f k (by omega) (by omega))
      have e19 : (if x.toNatClampNeg = 0 then w0 else w1) 19 = if x = 0 then w0 19 else w1 19 := by
        rw [ew]
        split <;> rfl
      rw [e19]
      exact hh
  · refine ⟨agR ke x, (n, tx, K, t, sz, T, nv, pp, tm, mn, ke, w0, w1, sd), hup, fun Q hQ => ?_, fun H hm Q hQ => ?_⟩
    · refine sp_again hr hc.1 hc.2.2.1 (fun G' t' sz' e r a f => ?_)
      rw [if_neg z] at e
      obtain ⟨rfl, rfl⟩ := Prod.mk.inj e
      rw [if_neg z]
      exact hQ G' ⟨la, dr, r, hc.act hd a (fun k hk => f k (by omega) (by omega))⟩ (fun k hk => f k (by omega) (by omega))
    · obtain ⟨q, hrm, he⟩ := hm
      refine sp_magain hrm he.1 he.2.2.1 (fun G' q' t' sz' e r a hq f => ?_)
      rw [if_neg z] at e
      obtain ⟨rfl, rfl⟩ := Prod.mk.inj e
      rw [if_neg z]
      exact hQ G' ⟨q', r, he.act a hq (fun k hk => f k (by omega) (by omega))⟩ (fun k hk => f k (by omega) (by omega))
