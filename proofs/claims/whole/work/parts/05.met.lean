/-! ===== a method whose instructions are borne out meets its contract ===== -/
theorem px_chk_of {lok : List Nat} : ∀ {ls : px_L} {k : Nat}, px_chk ls k lok = true → ∀ (i : Nat) (x : Value), ls[i]? = some (some x) → x.category = 2 → k + i ∈ lok
  | [], k, _, i, x, hi, _ => by simp at hi
  | o :: r, k, h, i, x, hi, hx => by
    have hr : px_chk r (k + 1) lok = true := by
      cases o with
      | none => exact h
      | some v => cases v <;> first | exact h | (simp only [px_chk, Bool.and_eq_true] at h; exact h.2)
    cases i with
    | zero =>
      simp at hi
      subst hi
      cases x <;> first | (simp only [px_chk, Bool.and_eq_true, List.contains_iff_mem] at h; exact h.1) | (simp [Value.category] at hx)
    | succ i =>
      have := px_chk_of hr i x (by simpa using hi) hx
      rwa [show k + (i + 1) = k + 1 + i by omega]
theorem px_sl_len (Y : px_Y) : ∀ as : List Value, (lg_sl (as.map (px_mv Y))).length = (as.flatMap (fun v => if v.category = 2 then [some v, none] else [some v])).length
  | [] => rfl
  | v :: as => by
    have h := px_sl_len Y as
    unfold lg_sl at h ⊢
    simp only [List.map_cons, List.flatMap_cons, List.length_append, h, px_mv_cat]
    congr 1
    split <;> rfl
theorem px_args_mem (Y : px_Y) : ∀ (as : List Value) (k : Nat) (r : px_L), (∀ o ∈ r, o = none) → ∀ q ∈ px_as Y k (as.flatMap (fun v => if v.category = 2 then [some v, none] else [some v]) ++ r), q ∈ lv_args k (as.map (px_mv Y))
  | [], k, r, hr, q, hq => by
    obtain ⟨j, v, h1, -⟩ := px_as_mem.mp hq
    have := hr _ (List.mem_of_getElem? h1)
    cases this
  | v :: as, k, r, hr, q, hq => by
    rw [List.flatMap_cons, List.append_assoc] at hq
    simp only [List.map_cons, lv_args, px_mv_cat]
    by_cases hv : v.category = 2
    · rw [if_pos hv] at hq ⊢
      rcases List.mem_cons.mp hq with rfl | hq
      · exact List.mem_cons_self
      · exact List.mem_cons_of_mem _ (px_args_mem Y as (k + 2) r hr q hq)
    · rw [if_neg hv] at hq ⊢
      rcases List.mem_cons.mp hq with rfl | hq
      · exact List.mem_cons_self
      · exact List.mem_cons_of_mem _ (px_args_mem Y as (k + 1) r hr q hq)
theorem px_enter {Y : px_Y} {as : List Value} {nL : Nat} {lok : List Nat} (h : px_fit0 as nL lok = true) : px_lc Y nL lok ((lg_sl (as.map (px_mv Y)) ++ List.replicate (nL - (lg_sl (as.map (px_mv Y))).length) Slot.unset).toArray) (px_ent as nL) := by
  unfold px_fit0 at h
  rw [Bool.and_eq_true] at h
  have hl := Nat.eq_of_beq_eq_true h.1
  have hlen : (lg_sl (as.map (px_mv Y))).length ≤ nL := by
    rw [px_sl_len]
    unfold px_ent at hl
    simp only [List.length_append, List.length_replicate] at hl
    omega
  have he := lv_entry (as.map (px_mv Y)) hlen
  refine ⟨hl, ⟨he.1, he.2.1, fun q hq => he.2.2 q ?_⟩, fun i x hi hx => by have := px_chk_of h.2 i x hi hx; rwa [Nat.zero_add] at this⟩
  exact px_args_mem Y as 0 _ (fun o ho => (List.mem_replicate.mp ho).2) q hq
/-- what is known of a method's text -/
def px_G (tb : Nat → List (Nat × px_I)) (mt : Nat → px_D) (lk : Nat → List Nat) (y : Nat) : Prop :=
  plainName (mt y).1.cls = true ∧ ∃ (ini al : Bool), (ini = true → (mt y).1.name = "<init>") ∧ (al = false → (mt y).2.2.2.2 = (0, 0)) ∧ (al = true → ¬ ((mt y).2.2.2.2.1 = 0 ∧ (mt y).2.2.2.2.2 = 0)) ∧ ∀ q ∈ tb y, px_S mt (mt y).2.1 (mt y).1.cls (mt y).2.2.1 (lk y) (mt y).2.2.2.1 ini al q.1 q.2
theorem px_met {tb : Nat → List (Nat × px_I)} {mt : Nat → px_D} {lk : Nat → List Nat} {l : Launch} {Y : px_Y} (hG : ∀ y, tb y = [] ∨ px_G tb mt lk y) : ∀ d, px_ok l Y mt d (px_m tb (fun y => (mt y).2.2.1) lk (fun y => (mt y).2.2.2.2) d)
  | 0 => fun _ _ _ _ _ h => h.elim
  | d + 1 => by
    intro y as G Q hQ hrun
    obtain ⟨hfit, hrun⟩ := hrun
    rcases hG y with hnil | ⟨hpl, ini, al, hini, hal1, hal2, hS⟩
    · exact (hrun (fun _ _ _ _ => False) (fun pc ls st G k => by rw [hnil] at k; exact k)).elim
    · have ih := px_met (l := l) (Y := Y) hG d
      dsimp only at hfit hrun
      generalize hq : mt y = q at *
      obtain ⟨yn, cc, nL, rt, mc, ms⟩ := q
      dsimp only at *
      refine Met.ofW (cc := cc) (maxL := nL) (ret := rt) hpl rfl ?_
      intro p e s m args below meth c s₁ B hml hv
      obtain ⟨rfl, hB, hR⟩ := hv
      have hts := atoms_spec (ws := px_ws (yn, cc, nL, rt, mc, ms)) B.pre
      have hlocks := B.notSynchronized
      have hr := B.returns
      have hN : px_N p s m (as.map (px_mv Y)).toArray meth c Y cc yn.cls nL ini := ⟨B.exec, B.bytes, hml, findClass_of_methodNamed B.named, fun w hw => hts w (List.mem_cons_of_mem _ hw), fun h => (name_of_methodNamed B.named B.method).1.trans (hini h), hB⟩
      have sizes : ∀ (v : Option Value) (G' : px_H) (cells slots : Nat), Q v G' → G'.1 = G.1 + cells → G'.2.1 = G.2.1 + slots → (al = false → cells = 0 ∧ slots = 0) → cells = mc ∧ slots = ms := by
        intro v G' cells slots h1 h2 h3 h4
        cases al with
        | false =>
          have := hal1 rfl
          cases this
          exact h4 rfl
        | true =>
          rcases hQ with h5 | h5
          · exact absurd h5 (hal2 rfl)
          · have := h5 v G' h1
            omega
      have hret : px_ret p l e (px_rm (d + 1) (yn, cc, nL, rt, mc, ms)) s m (as.map (px_mv Y)).toArray below meth c Y cc nL (lk y) rt al G.1 G.2.1 (MQ below (px_Qc Y G Q mc ms) (as.map (px_mv Y)).toArray s mc ms (px_A Y)) Q := by
        refine ⟨?_, ?_, ?_, ?_⟩
        · intro x pc ls G' h1 h2 h3 H locs cells slots sl kR kS kc ks _ _ kal _
          obtain ⟨rfl, rfl⟩ := sizes _ _ _ _ h3 kc ks kal
          exact W.iret B.exec B.bytes (hr.trans h1) (fun t ht _ => ⟨⟨some (.int x), G', rfl, h3, by rw [ht]; exact kR, kc, ks⟩, kS.F ht⟩) kS.2.2 h2
        · intro x pc ls G' h1 h0 h2 h3 H locs cells slots sl kR kS kc ks _ _ kal _
          obtain ⟨rfl, rfl⟩ := sizes _ _ _ _ h3 kc ks kal
          exact W.zret (ty := .boolean) B.exec B.bytes (hr.trans h1) (by rcases h0 with rfl | rfl <;> rfl) (fun t ht _ => ⟨⟨some (.int x), G', rfl, h3, by rw [ht]; exact kR, kc, ks⟩, kS.F ht⟩) kS.2.2 h2
        · intro x pc ls G' h1 h2 h3 H locs cells slots sl kR kS kc ks _ _ kal _
          obtain ⟨rfl, rfl⟩ := sizes _ _ _ _ h3 kc ks kal
          exact W.lret B.exec B.bytes (hr.trans h1) (fun t ht _ => ⟨⟨some (.long x), G', rfl, h3, by rw [ht]; exact kR, kc, ks⟩, kS.F ht⟩) kS.2.2 h2
        · intro pc ls G' h1 h2 h3 H locs cells slots sl kR kS kc ks _ _ kal _
          obtain ⟨rfl, rfl⟩ := sizes _ _ _ _ h3 kc ks kal
          exact W.vret B.exec B.bytes (hr.trans h1) (fun t ht _ => ⟨⟨none, G', rfl, h3, by rw [ht]; exact kR, kc, ks⟩, kS.F ht⟩) kS.2.2 h2
      rw [lg_entry_eq]
      refine hrun (px_W p l e (px_rm (d + 1) (yn, cc, nL, rt, mc, ms)) s m (as.map (px_mv Y)).toArray below meth c Y nL (lk y) al G.1 G.2.1 (MQ below (px_Qc Y G Q mc ms) (as.map (px_mv Y)).toArray s mc ms (px_A Y))) ?_ s.heap [] 0 0 _ hR va_S.rf rfl rfl (Nat.zero_le _) (Nat.zero_le _) (fun _ => ⟨rfl, rfl⟩) (px_enter hfit)
      intro pc ls st G' hi
      exact px_look_of (P := px_S mt cc yn.cls nL (lk y) rt ini al) (fun pc => ps_stuck) (tb y) hS pc p l e _ s m _ below meth c Y G.1 G.2.1 d _ _ Q _ _ hN ih (by show d + 4 ≤ d + 1 + 3; omega) (by show 60 * (d + 4) ≤ 60 * (d + 1 + 3); omega) (Nat.le_refl _) (Nat.le_refl _) hret (fun _ _ _ _ h => h) ls st G' hi
