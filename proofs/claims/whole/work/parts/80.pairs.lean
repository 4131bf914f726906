/-! ===== a call of the class and the same call of the reference ===== -/
def pairI (d cy my : Nat) (as : List Value) : Prop := ∀ (G : px_H) (N : Nat) (s : SS), cW G s → mWd G s → pI N s → N < 1000 → ∀ Q : px_Q, (∀ G1 (v : Int32), hget G1 0 = hget G 0 → (∃ q sd, hget G1 124 = some (c_m q sd)) → (∀ Q2 : px_Q, (∀ G2 s', cW G2 s' → mWd G2 s' → pI (N + 1) s' → hget G2 0 = hget G 0 → Q2 (some (.int v)) G2) → pcal d my (.ref 124 :: as) G1 Q2) → Q (some (.int v)) G1) → pcal d cy (.ref 2 :: as) G Q
theorem pair_of {d cy my : Nat} {as : List Value} (h : ∀ (G : px_H) (N : Nat) (s : SS), cW G s → mWd G s → pI N s → N < 1000 → ∃ (v : Int32) (s' : SS), pI (N + 1) s' ∧ (∀ Q : px_Q, (∀ G1, cW G1 s' → (∀ k, k = 0 ∨ 124 ≤ k → hget G1 k = hget G k) → Q (some (.int v)) G1) → pcal d cy (.ref 2 :: as) G Q) ∧ (∀ H, mWd H s → ∀ Q : px_Q, (∀ G2, mWd G2 s' → (∀ k, k < 124 → hget G2 k = hget H k) → Q (some (.int v)) G2) → pcal d my (.ref 124 :: as) H Q)) : pairI d cy my as := by
  intro G N s hc hm hp hN Q hQ
  obtain ⟨v, s', h1, h2, h3⟩ := h G N s hc hm hp hN
  refine h2 Q (fun G1 c1 f1 => ?_)
  have m1 : mWd G1 s := hm.kept (fun k hk => f1 k (Or.inr hk))
  refine hQ G1 v (f1 0 (Or.inl rfl)) m1.o (fun Q2 hQ2 => ?_)
  refine h3 G1 m1 Q2 (fun G2 m2 f2 => ?_)
  exact hQ2 G2 s' (c1.kept (fun k _ hk => f2 k hk)) m2 h1 ((f2 0 (by omega)).trans (f1 0 (Or.inl rfl)))
theorem k_place {d : Nat} {p x : Int32} : pairI (d + 12) 46 106 [.int p, .int x] := by
  refine pair_of ?_
  rintro G N ⟨n, tx, K, t, sz, T, nv, pp, tm, mn, ke, w0, w1, sd⟩ ⟨la, dr, hr, hc⟩ _ hp hN
  obtain ⟨p0, p1, ⟨hv, hvf, hvn⟩, ⟨hok, ⟨o, ho1, ho2⟩, hh0, hh1⟩, pT, pV, pw0, pw1⟩ := id hp
  refine ⟨aPl K t p x, (n, tx, K, t, sz, T, nv, pp, tm, mn, ke, w0, w1, sd), hp.up hN, fun Q hQ => ?_, fun H hm Q hQ => ?_⟩
  · exact sp_place hr (hQ G ⟨la, dr, hr, hc⟩ (fun _ _ => rfl))
  · obtain ⟨q, hrm, he⟩ := hm
    exact sp_mplace hrm (hQ H ⟨q, hrm, he⟩ (fun _ _ => rfl))
theorem k_ditch {d : Nat} {p x : Int32} : pairI (d + 12) 47 107 [.int p, .int x] := by
  refine pair_of ?_
  rintro G N ⟨n, tx, K, t, sz, T, nv, pp, tm, mn, ke, w0, w1, sd⟩ ⟨la, dr, hr, hc⟩ _ hp hN
  obtain ⟨p0, p1, ⟨hv, hvf, hvn⟩, ⟨hok, ⟨o, ho1, ho2⟩, hh0, hh1⟩, pT, pV, pw0, pw1⟩ := id hp
  refine ⟨aDi K t p x, (n, tx, K, t, sz, T, nv, pp, tm, mn, ke, w0, w1, sd), hp.up hN, fun Q hQ => ?_, fun H hm Q hQ => ?_⟩
  · exact sp_ditch hr (hQ G ⟨la, dr, hr, hc⟩ (fun _ _ => rfl))
  · obtain ⟨q, hrm, he⟩ := hm
    exact sp_mditch hrm (hQ H ⟨q, hrm, he⟩ (fun _ _ => rfl))
theorem k_count {d : Nat} {x : Int32} : pairI (d + 12) 89 150 [.int x] := by
  refine pair_of ?_
  rintro G N ⟨n, tx, K, t, sz, T, nv, pp, tm, mn, ke, w0, w1, sd⟩ ⟨la, dr, hr, hc⟩ _ hp hN
  obtain ⟨p0, p1, ⟨hv, hvf, hvn⟩, ⟨hok, ⟨o, ho1, ho2⟩, hh0, hh1⟩, pT, pV, pw0, pw1⟩ := id hp
  refine ⟨aCo K t (nI n) sz nv x, (n, tx, K, t, sz, T, nv, pp, tm, mn, ke, w0, w1, sd), hp.up hN, fun Q hQ => ?_, fun H hm Q hQ => ?_⟩
  · exact sp_count hr hc.1.1 hc.2.1.1 (hQ G ⟨la, dr, hr, hc⟩ (fun _ _ => rfl))
  · obtain ⟨q, hrm, he⟩ := hm
    exact sp_mcount hrm hv.1.1 hok he.2.2.2.2.2.2 he.1.2.1 he.2.1.1 (hQ H ⟨q, hrm, he⟩ (fun _ _ => rfl))
theorem k_behind {d : Nat} {p h x : Int32} : pairI (d + 12) 55 122 [.int p, .int h, .int x] := by
  refine pair_of ?_
  rintro G N ⟨n, tx, K, t, sz, T, nv, pp, tm, mn, ke, w0, w1, sd⟩ ⟨la, dr, hr, hc⟩ _ hp hN
  obtain ⟨p0, p1, ⟨hv, hvf, hvn⟩, ⟨hok, ⟨o, ho1, ho2⟩, hh0, hh1⟩, pT, pV, pw0, pw1⟩ := id hp
  refine ⟨aBe K t p h x, (n, tx, K, t, sz, T, nv, pp, tm, mn, ke, w0, w1, sd), hp.up hN, fun Q hQ => ?_, fun H hm Q hQ => ?_⟩
  · exact sp_behind hr hv hok (fun G' r f => hQ G' ⟨la, dr, r, hc.z hr f⟩ (fun k hk => f k (by omega) (by omega)))
  · obtain ⟨q, hrm, he⟩ := hm
    exact sp_mbehind ⟨hrm, hv, hvf, hok, ho2, ho1, hvn⟩  (fun G' r f => hQ G' ⟨q, r, he.fM f⟩ (fun k hk => f k (by omega) (by omega)))
theorem k_once {d : Nat} {h x : Int32} : pairI (d + 12) 57 127 [.int h, .int x] := by
  refine pair_of ?_
  rintro G N ⟨n, tx, K, t, sz, T, nv, pp, tm, mn, ke, w0, w1, sd⟩ ⟨la, dr, hr, hc⟩ _ hp hN
  obtain ⟨p0, p1, ⟨hv, hvf, hvn⟩, ⟨hok, ⟨o, ho1, ho2⟩, hh0, hh1⟩, pT, pV, pw0, pw1⟩ := id hp
  refine ⟨aOnce K t h x, (n, tx, K, t, sz, T, nv, pp, tm, mn, ke, w0, w1, sd), hp.up hN, fun Q hQ => ?_, fun H hm Q hQ => ?_⟩
  · exact sp_once hr hv hok (fun G' r f => hQ G' ⟨la, dr, r, hc.z hr f⟩ (fun k hk => f k (by omega) (by omega)))
  · obtain ⟨q, hrm, he⟩ := hm
    exact sp_monce ⟨hrm, hv, hvf, hok, ho2, ho1, hvn⟩  (fun G' r f => hQ G' ⟨q, r, he.fM f⟩ (fun k hk => f k (by omega) (by omega)))
theorem k_twice {d : Nat} {h x : Int32} : pairI (d + 12) 58 128 [.int h, .int x] := by
  refine pair_of ?_
  rintro G N ⟨n, tx, K, t, sz, T, nv, pp, tm, mn, ke, w0, w1, sd⟩ ⟨la, dr, hr, hc⟩ _ hp hN
  obtain ⟨p0, p1, ⟨hv, hvf, hvn⟩, ⟨hok, ⟨o, ho1, ho2⟩, hh0, hh1⟩, pT, pV, pw0, pw1⟩ := id hp
  refine ⟨aTw K t h x, (n, tx, K, t, sz, T, nv, pp, tm, mn, ke, w0, w1, sd), hp.up hN, fun Q hQ => ?_, fun H hm Q hQ => ?_⟩
  · exact sp_twice hr hv hok (fun G' r f => hQ G' ⟨la, dr, r, hc.z hr f⟩ (fun k hk => f k (by omega) (by omega)))
  · obtain ⟨q, hrm, he⟩ := hm
    exact sp_mtwice ⟨hrm, hv, hvf, hok, ho2, ho1, hvn⟩ hh0 (by omega) (fun G' r f => hQ G' ⟨q, r, he.fM f⟩ (fun k hk => f k (by omega) (by omega)))
theorem k_richest {d : Nat} {h : Int32} : pairI (d + 12) 59 129 [.int h] := by
  refine pair_of ?_
  rintro G N ⟨n, tx, K, t, sz, T, nv, pp, tm, mn, ke, w0, w1, sd⟩ ⟨la, dr, hr, hc⟩ _ hp hN
  obtain ⟨p0, p1, ⟨hv, hvf, hvn⟩, ⟨hok, ⟨o, ho1, ho2⟩, hh0, hh1⟩, pT, pV, pw0, pw1⟩ := id hp
  refine ⟨aRich K t h, (n, tx, K, t, sz, T, nv, pp, tm, mn, ke, w0, w1, sd), hp.up hN, fun Q hQ => ?_, fun H hm Q hQ => ?_⟩
  · exact sp_richest hr hv hok (fun G' r f => hQ G' ⟨la, dr, r, hc.z hr f⟩ (fun k hk => f k (by omega) (by omega)))
  · obtain ⟨q, hrm, he⟩ := hm
    exact sp_mrichest ⟨hrm, hv, hvf, hok, ho2, ho1, hvn⟩  (fun G' r f => hQ G' ⟨q, r, he.fM f⟩ (fun k hk => f k (by omega) (by omega)))
theorem k_barred {d : Nat} {h : Int32} : pairI (d + 12) 60 130 [.int h] := by
  refine pair_of ?_
  rintro G N ⟨n, tx, K, t, sz, T, nv, pp, tm, mn, ke, w0, w1, sd⟩ ⟨la, dr, hr, hc⟩ _ hp hN
  obtain ⟨p0, p1, ⟨hv, hvf, hvn⟩, ⟨hok, ⟨o, ho1, ho2⟩, hh0, hh1⟩, pT, pV, pw0, pw1⟩ := id hp
  refine ⟨aBar K t h, (n, tx, K, t, sz, T, nv, pp, tm, mn, ke, w0, w1, sd), hp.up hN, fun Q hQ => ?_, fun H hm Q hQ => ?_⟩
  · exact sp_barred hr hv hok (fun G' r f => hQ G' ⟨la, dr, r, hc.z hr f⟩ (fun k hk => f k (by omega) (by omega)))
  · obtain ⟨q, hrm, he⟩ := hm
    exact sp_mbarred ⟨hrm, hv, hvf, hok, ho2, ho1, hvn⟩  (fun G' r f => hQ G' ⟨q, r, he.fM f⟩ (fun k hk => f k (by omega) (by omega)))
theorem k_free {d : Nat} {p h : Int32} : pairI (d + 12) 61 131 [.int p, .int h] := by
  refine pair_of ?_
  rintro G N ⟨n, tx, K, t, sz, T, nv, pp, tm, mn, ke, w0, w1, sd⟩ ⟨la, dr, hr, hc⟩ _ hp hN
  obtain ⟨p0, p1, ⟨hv, hvf, hvn⟩, ⟨hok, ⟨o, ho1, ho2⟩, hh0, hh1⟩, pT, pV, pw0, pw1⟩ := id hp
  refine ⟨aFree K t p h, (n, tx, K, t, sz, T, nv, pp, tm, mn, ke, w0, w1, sd), hp.up hN, fun Q hQ => ?_, fun H hm Q hQ => ?_⟩
  · exact sp_free hr hv hok (fun G' r f => hQ G' ⟨la, dr, r, hc.z hr f⟩ (fun k hk => f k (by omega) (by omega)))
  · obtain ⟨q, hrm, he⟩ := hm
    exact sp_mfree ⟨hrm, hv, hvf, hok, ho2, ho1, hvn⟩  (fun G' r f => hQ G' ⟨q, r, he.fM f⟩ (fun k hk => f k (by omega) (by omega)))
theorem k_stuck {d : Nat} {p h : Int32} : pairI (d + 12) 62 132 [.int p, .int h] := by
  refine pair_of ?_
  rintro G N ⟨n, tx, K, t, sz, T, nv, pp, tm, mn, ke, w0, w1, sd⟩ ⟨la, dr, hr, hc⟩ _ hp hN
  obtain ⟨p0, p1, ⟨hv, hvf, hvn⟩, ⟨hok, ⟨o, ho1, ho2⟩, hh0, hh1⟩, pT, pV, pw0, pw1⟩ := id hp
  refine ⟨aStuck K t p h, (n, tx, K, t, sz, T, nv, pp, tm, mn, ke, w0, w1, sd), hp.up hN, fun Q hQ => ?_, fun H hm Q hQ => ?_⟩
  · exact sp_stuck hr hv hok (fun G' r f => hQ G' ⟨la, dr, r, hc.z hr f⟩ (fun k hk => f k (by omega) (by omega)))
  · obtain ⟨q, hrm, he⟩ := hm
    exact sp_mstuck ⟨hrm, hv, hvf, hok, ho2, ho1, hvn⟩  (fun G' r f => hQ G' ⟨q, r, he.fM f⟩ (fun k hk => f k (by omega) (by omega)))
theorem k_share {d : Nat} {p h x : Int32} : pairI (d + 12) 69 137 [.int p, .int h, .int x] := by
  refine pair_of ?_
  rintro G N ⟨n, tx, K, t, sz, T, nv, pp, tm, mn, ke, w0, w1, sd⟩ ⟨la, dr, hr, hc⟩ _ hp hN
  obtain ⟨p0, p1, ⟨hv, hvf, hvn⟩, ⟨hok, ⟨o, ho1, ho2⟩, hh0, hh1⟩, pT, pV, pw0, pw1⟩ := id hp
  obtain ⟨D, hD⟩ := isD_of (K := K) hv.1.1
  refine ⟨aSh K t D p h x, (n, tx, K, t, sz, T, nv, pp, tm, mn, ke, w0, w1, sd), hp.up hN, fun Q hQ => ?_, fun H hm Q hQ => ?_⟩
  · exact sp_share hr hc.2.2.2.2.2.2.2.2 hv hok hD.2.1 hD.2.2.1 (fun G' r f => hQ G' ⟨la, dr, r, hc.z hr f⟩ (fun k hk => f k (by omega) (by omega)))
  · obtain ⟨q, hrm, he⟩ := hm
    exact sp_mshare ⟨hrm, hv, hvf, hok, ho2, ho1, hvn⟩ hD (fun G' r f => hQ G' ⟨q, r, he.fM f⟩ (fun k hk => f k (by omega) (by omega)))
theorem k_chance {d : Nat} {p h x : Int32} : pairI (d + 12) 70 139 [.int p, .int h, .int x] := by
  refine pair_of ?_
  rintro G N ⟨n, tx, K, t, sz, T, nv, pp, tm, mn, ke, w0, w1, sd⟩ ⟨la, dr, hr, hc⟩ _ hp hN
  obtain ⟨p0, p1, ⟨hv, hvf, hvn⟩, ⟨hok, ⟨o, ho1, ho2⟩, hh0, hh1⟩, pT, pV, pw0, pw1⟩ := id hp
  obtain ⟨D, hD⟩ := isD_of (K := K) hv.1.1
  refine ⟨aCh K t D p h x 0, (n, tx, K, t, sz, T, nv, pp, tm, mn, ke, w0, w1, sd), hp.up hN, fun Q hQ => ?_, fun H hm Q hQ => ?_⟩
  · exact sp_chance hr hv hok (by omega) hD.2.1 hD.2.2.1 (fun G' r f => hQ G' ⟨la, dr, r, hc.z hr f⟩ (fun k hk => f k (by omega) (by omega)))
  · obtain ⟨q, hrm, he⟩ := hm
    exact sp_mchance ⟨hrm, hv, hvf, hok, ho2, ho1, hvn⟩ (by omega) hD (fun G' r f => hQ G' ⟨q, r, he.fM f⟩ (fun k hk => f k (by omega) (by omega)))
theorem k_mean {d : Nat} {p h x : Int32} : pairI (d + 12) 71 140 [.int p, .int h, .int x] := by
  refine pair_of ?_
  rintro G N ⟨n, tx, K, t, sz, T, nv, pp, tm, mn, ke, w0, w1, sd⟩ ⟨la, dr, hr, hc⟩ _ hp hN
  obtain ⟨p0, p1, ⟨hv, hvf, hvn⟩, ⟨hok, ⟨o, ho1, ho2⟩, hh0, hh1⟩, pT, pV, pw0, pw1⟩ := id hp
  obtain ⟨D, hD⟩ := isD_of (K := K) hv.1.1
  refine ⟨aCh K t D p h x 1, (n, tx, K, t, sz, T, nv, pp, tm, mn, ke, w0, w1, sd), hp.up hN, fun Q hQ => ?_, fun H hm Q hQ => ?_⟩
  · exact sp_mean hr hv hok (by omega) hD.2.1 hD.2.2.1 (fun G' r f => hQ G' ⟨la, dr, r, hc.z hr f⟩ (fun k hk => f k (by omega) (by omega)))
  · obtain ⟨q, hrm, he⟩ := hm
    exact sp_mmean ⟨hrm, hv, hvf, hok, ho2, ho1, hvn⟩ (by omega) hD (fun G' r f => hQ G' ⟨q, r, he.fM f⟩ (fun k hk => f k (by omega) (by omega)))
theorem k_judge {d : Nat} {x y : Int32} : pairI (d + 12) 52 121 [.int x, .int y] := by
  refine pair_of ?_
  rintro G N ⟨n, tx, K, t, sz, T, nv, pp, tm, mn, ke, w0, w1, sd⟩ ⟨la, dr, hr, hc⟩ _ hp hN
  obtain ⟨p0, p1, ⟨hv, hvf, hvn⟩, ⟨hok, ⟨o, ho1, ho2⟩, hh0, hh1⟩, pT, pV, pw0, pw1⟩ := id hp
  obtain ⟨st, h95⟩ := hc.2.2.2.2.1
  refine ⟨aJu K t x y, (n, tx, K, t, sz, T, nv, pp, tm, mn, ke, w0, w1, sd), hp.up hN, fun Q hQ => ?_, fun H hm Q hQ => ?_⟩
  · exact sp_judge2 hr h95 hv hok (fun G' r h f f94 => hQ G' ⟨la, dr, r, hc.1.kept (fun k a b => f k (by omega) (by omega)), hc.2.1.kept (fun k a b => f k (by omega) (by omega)), hc.2.2.1.kept (fun k a => f k (by omega) (by omega)), hc.2.2.2.1.kep (fun k a => by rcases a with a | a; rw [a]; exact f94; exact f k (by omega) (by omega)), h, (f _ (by omega) (by omega)).trans hc.2.2.2.2.2.1, by obtain ⟨a, b, c, e⟩ := hc.2.2.2.2.2.2.1; exact ⟨a, b, c, (f _ (by omega) (by omega)).trans e⟩, by obtain ⟨K2, e⟩ := hc.2.2.2.2.2.2.2.1; have hd := hr.d; exact ⟨K2, e.kept (fun k a b => f k (by omega) (by omega))⟩, (f _ (by omega) (by omega)).trans hc.2.2.2.2.2.2.2.2⟩ (fun k hk => f k (by omega) (by omega)))
  · obtain ⟨q, hrm, he⟩ := hm
    exact sp_mjudge ⟨hrm, hv, hvf, hok, ho2, ho1, hvn⟩  (fun G' r f => hQ G' ⟨q, r, he.fM f⟩ (fun k hk => f k (by omega) (by omega)))
theorem k_fit {d : Nat} {x : Int32} : pairI (d + 12) 80 144 [.int x] := by
  refine pair_of ?_
  rintro G N ⟨n, tx, K, t, sz, T, nv, pp, tm, mn, ke, w0, w1, sd⟩ ⟨la, dr, hr, hc⟩ _ hp hN
  obtain ⟨p0, p1, ⟨hv, hvf, hvn⟩, ⟨hok, ⟨o, ho1, ho2⟩, hh0, hh1⟩, pT, pV, pw0, pw1⟩ := id hp
  obtain ⟨L, L1, L2, L3⟩ := lT_nat nv pV
  refine ⟨aFit K t nv L pp tm mn x, (n, tx, K, t, sz, T, nv, pp, tm, mn, ke, w0, w1, sd), hp.up hN, fun Q hQ => ?_, fun H hm Q hQ => ?_⟩
  · exact sp_fit hr hc.2.1 hv hok L2 L1 (fun G' r f => hQ G' ⟨la, dr, r, hc.z hr f⟩ (fun k hk => f k (by omega) (by omega)))
  · obtain ⟨q, hrm, he⟩ := hm
    exact sp_mfit ⟨hrm, hv, hvf, hok, ho2, ho1, hvn⟩ he.2.1 L1 L3 (fun G' r f => hQ G' ⟨q, r, he.fM f⟩ (fun k hk => f k (by omega) (by omega)))
theorem k_by {d : Nat} {p h x : Int32} : pairI (d + 12) 56 124 [.int p, .int h, .int x] := by
  refine pair_of ?_
  rintro G N ⟨n, tx, K, t, sz, T, nv, pp, tm, mn, ke, w0, w1, sd⟩ ⟨la, dr, hr, hc⟩ _ hp hN
  obtain ⟨p0, p1, ⟨hv, hvf, hvn⟩, ⟨hok, ⟨o, ho1, ho2⟩, hh0, hh1⟩, pT, pV, pw0, pw1⟩ := id hp
  by_cases hb : byR K p h x
  · refine ⟨-2, (n, tx, K, t, sz, T, nv, pp, tm, mn, ke, w0, w1, sd), hp.up hN, fun Q hQ => ?_, fun H hm Q hQ => ?_⟩
    · refine sp_by hr hv hok (fun G' e e1 _ r f => ?_)
      rw [e1 hb]
      exact hQ G' ⟨la, dr, r, hc.z hr f⟩ (fun k hk => f k (by omega) (by omega))
    · obtain ⟨q, hrm, he⟩ := hm
      exact sp_mby ⟨hrm, hv, hvf, hok, ho2, ho1, hvn⟩ (fun G' r f => ⟨fun _ => hQ G' ⟨q, r, he.fM f⟩ (fun k hk => f k (by omega) (by omega)), fun z => absurd hb z⟩)
  · refine ⟨byA K (sT K t h.toNatClampNeg p) x, (n, tx, K, t, sz, T, nv, pp, tm, mn, ke, w0, w1, sd), hp.up hN, fun Q hQ => ?_, fun H hm Q hQ => ?_⟩
    · refine sp_by hr hv hok (fun G' e _ e2 r f => ?_)
      rw [e2 hb]
      exact hQ G' ⟨la, dr, r, hc.z hr f⟩ (fun k hk => f k (by omega) (by omega))
    · obtain ⟨q, hrm, he⟩ := hm
      exact sp_mby ⟨hrm, hv, hvf, hok, ho2, ho1, hvn⟩ (fun G' r f => ⟨fun z => absurd z hb, fun _ => hQ G' ⟨q, r, he.fM f⟩ (fun k hk => f k (by omega) (by omega))⟩)
theorem k_kings {d : Nat} {p h x : Int32} : pairI (d + 12) 82 145 [.int p, .int h, .int x] := by
  refine pair_of ?_
  rintro G N ⟨n, tx, K, t, sz, T, nv, pp, tm, mn, ke, w0, w1, sd⟩ ⟨la, dr, hr, hc⟩ _ hp hN
  obtain ⟨p0, p1, ⟨hv, hvf, hvn⟩, ⟨hok, ⟨o, ho1, ho2⟩, hh0, hh1⟩, pT, pV, pw0, pw1⟩ := id hp
  refine ⟨aKi K t p h x, (n, tx, K, t, sz, T, nv, pp, tm, mn, ke, w0, w1, sd), hp.up hN, fun Q hQ => ?_, fun H hm Q hQ => ?_⟩
  · exact sp_kings hr hc.2.2.2.1 hv hok (fun G' r hU f => hQ G' ⟨la, dr, r, hc.1.kept (fun k a b => f k (by omega) (by omega)), hc.2.1.kept (fun k a b => f k (by omega) (by omega)), hc.2.2.1.kept (fun k a => f k (by omega) (by omega)), hU, by obtain ⟨st, e⟩ := hc.2.2.2.2.1; exact ⟨st, (f _ (by omega) (by omega)).trans e⟩, (f _ (by omega) (by omega)).trans hc.2.2.2.2.2.1, by obtain ⟨a, b, c, e⟩ := hc.2.2.2.2.2.2.1; exact ⟨a, b, c, (f _ (by omega) (by omega)).trans e⟩, by obtain ⟨K2, e⟩ := hc.2.2.2.2.2.2.2.1; have hd := hr.d; exact ⟨K2, e.kept (fun k a b => f k (by omega) (by omega))⟩, (f _ (by omega) (by omega)).trans hc.2.2.2.2.2.2.2.2⟩ (fun k hk => f k (by omega) (by omega)))
  · obtain ⟨q, hrm, he⟩ := hm
    exact sp_mkings (d := d + 8) ⟨hrm, hv, hvf, hok, ho2, ho1, hvn⟩ he.2.2.2.1 (fun G' r hT f => hQ G' ⟨q, r, he.1.kept (f _ (by omega) (by omega) (by omega) (by omega) (by omega)) rfl rfl, ⟨he.2.1.1, he.2.1.2.1, (f _ (by omega) (by omega) (by omega) (by omega) (by omega)).trans he.2.1.2.2.1, (f _ (by omega) (by omega) (by omega) (by omega) (by omega)).trans he.2.1.2.2.2.1, (f _ (by omega) (by omega) (by omega) (by omega) (by omega)).trans he.2.1.2.2.2.2⟩, he.2.2.1.kept (f _ (by omega) (by omega) (by omega) (by omega) (by omega)) (f _ (by omega) (by omega) (by omega) (by omega) (by omega)), hT, by obtain ⟨rk, rh, rr, rf, rt, rg, r1, r2, r3, r4, r5, r6⟩ := he.2.2.2.2.1; exact ⟨rk, rh, rr, rf, rt, rg, (f _ (by omega) (by omega) (by omega) (by omega) (by omega)).trans r1, (f _ (by omega) (by omega) (by omega) (by omega) (by omega)).trans r2, (f _ (by omega) (by omega) (by omega) (by omega) (by omega)).trans r3, (f _ (by omega) (by omega) (by omega) (by omega) (by omega)).trans r4, (f _ (by omega) (by omega) (by omega) (by omega) (by omega)).trans r5, (f _ (by omega) (by omega) (by omega) (by omega) (by omega)).trans r6⟩, (f _ (by omega) (by omega) (by omega) (by omega) (by omega)).trans he.2.2.2.2.2.1, he.2.2.2.2.2.2⟩ (fun k hk => f k (by omega) (by omega) (by omega) (by omega) (by omega)))
