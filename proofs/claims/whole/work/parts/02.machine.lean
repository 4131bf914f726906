/-! ===== the plain machine: cells by role, instructions as transformers of goals ===== -/
/-- a cell: a row of ints (0 int, 1 boolean, 2 read only), a row of references, an object -/
abbrev px_E : Type := (Nat × Nat × (Nat → Int32)) ⊕ ((Nat × (Nat → Option Nat)) ⊕ (Nat × List Value))
/-- how many own cells, how many slots, what stands at each role -/
abbrev px_H : Type := Nat × Nat × (Nat → Option px_E)
def hget (G : px_H) (k : Nat) : Option px_E := G.2.2 k
def hset (G : px_H) (k : Nat) (c : px_E) : px_H := (G.1, G.2.1, fun j => if j = k then some c else G.2.2 j)
def hnew (G : px_H) (n : Nat) (c : px_E) : px_H := (G.1 + 1, G.2.1 + n, fun j => if j = G.1 + 2 then some c else G.2.2 j)
theorem hget_hset (G : px_H) (k : Nat) (c : px_E) (j : Nat) : hget (hset G k c) j = if j = k then some c else hget G j := rfl
theorem hget_self (G : px_H) (k : Nat) (c : px_E) : hget (hset G k c) k = some c := by simp [hget_hset]
theorem hget_ne {G : px_H} {k : Nat} {c : px_E} {j : Nat} (h : j ≠ k) : hget (hset G k c) j = hget G j := by simp [hget_hset, h]
theorem hget_hnew (G : px_H) (n : Nat) (c : px_E) (j : Nat) : hget (hnew G n c) j = if j = G.1 + 2 then some c else hget G j := rfl
abbrev px_Q : Type := Option Value → px_H → Prop
abbrev px_L : Type := List (Option Value)
abbrev px_K : Type := Nat → px_L → List Value → px_H → Prop
abbrev px_C : Type := Nat → List Value → px_H → px_Q → Prop
abbrev px_I : Type := px_C → px_Q → Nat × Nat → px_K → px_L → List Value → px_H → Prop
def lget (ls : px_L) (i : Nat) : Option Value := match ls[i]? with
  | some o => o
  | none => none
def pgf (e : Option px_E) (ci k : Nat) (f : Value → Prop) : Prop := match e with
  | some (.inr (.inr (c, fs))) => c = ci ∧ match fs[k]? with
    | some v => f v
    | none => False
  | _ => False
def ppf (e : Option px_E) (ci : Nat) (f : List Value → Prop) : Prop := match e with
  | some (.inr (.inr (c, fs))) => c = ci ∧ f fs
  | _ => False
def pia (e : Option px_E) (f : Nat → Nat → (Nat → Int32) → Prop) : Prop := match e with
  | some (.inl (t, n, g)) => f t n g
  | _ => False
def par (e : Option px_E) (f : Nat → (Nat → Option Nat) → Prop) : Prop := match e with
  | some (.inr (.inl (n, g))) => f n g
  | _ => False
def pfit (t : Nat) (v : Value) : Prop := match t, v with
  | 0, .int _ => True
  | 1, .long _ => True
  | 2, .ref _ => True
  | _, _ => False
def px_sw (x : Int32) : List (Int32 × Nat) → Nat → Nat
  | [], d => d
  | q :: r, d => if x = q.1 then q.2 else px_sw x r d
def pi_stuck : px_I := fun _ _ _ _ _ _ _ => False
def pi_const (v : Value) (nx : Nat) : px_I := fun _ _ _ K ls st G => K nx ls (v :: st) G
def pi_iload (i nx : Nat) : px_I := fun _ _ _ K ls st G => match lget ls i with
  | some (.int x) => K nx ls (.int x :: st) G
  | _ => False
def pi_aload (i nx : Nat) : px_I := fun _ _ _ K ls st G => match lget ls i with
  | some (.ref x) => K nx ls (.ref x :: st) G
  | _ => False
def pi_lload (i nx : Nat) : px_I := fun _ _ _ K ls st G => match lget ls i with
  | some (.long x) => K nx ls (.long x :: st) G
  | _ => False
def pi_istore (i nx : Nat) : px_I := fun _ _ _ K ls st G => match st with
  | .int x :: r => K nx (ls.set i (some (.int x))) r G
  | _ => False
def pi_astore (i nx : Nat) : px_I := fun _ _ _ K ls st G => match st with
  | .ref x :: r => K nx (ls.set i (some (.ref x))) r G
  | _ => False
def pi_lstore (i nx : Nat) : px_I := fun _ _ _ K ls st G => match st with
  | .long x :: r => K nx ((ls.set i (some (.long x))).set (i + 1) none) r G
  | _ => False
def pi_iinc (i : Nat) (k : Int32) (nx : Nat) : px_I := fun _ _ _ K ls st G => match lget ls i with
  | some (.int x) => K nx (ls.set i (some (.int (x + k)))) st G
  | _ => False
def pi_bin (f : Int32 → Int32 → Int32) (nx : Nat) : px_I := fun _ _ _ K ls st G => match st with
  | .int y :: .int x :: r => K nx ls (.int (f x y) :: r) G
  | _ => False
def pi_idiv (nx : Nat) : px_I := fun _ _ _ K ls st G => match st with
  | .int y :: .int x :: r => ¬ y = 0 ∧ K nx ls (.int (x / y) :: r) G
  | _ => False
def pi_irem (nx : Nat) : px_I := fun _ _ _ K ls st G => match st with
  | .int y :: .int x :: r => ¬ y = 0 ∧ K nx ls (.int (x - x / y * y) :: r) G
  | _ => False
def pi_lbin (f : Int64 → Int64 → Int64) (nx : Nat) : px_I := fun _ _ _ K ls st G => match st with
  | .long y :: .long x :: r => K nx ls (.long (f x y) :: r) G
  | _ => False
def pi_lrem (nx : Nat) : px_I := fun _ _ _ K ls st G => match st with
  | .long y :: .long x :: r => ¬ y = 0 ∧ K nx ls (.long (x - x / y * y) :: r) G
  | _ => False
def pi_lcmp (nx : Nat) : px_I := fun _ _ _ K ls st G => match st with
  | .long y :: .long x :: r => K nx ls (.int (lg_cmp x y) :: r) G
  | _ => False
def pi_lsh (f : Int64 → Int32 → Int64) (nx : Nat) : px_I := fun _ _ _ K ls st G => match st with
  | .int y :: .long x :: r => K nx ls (.long (f x y) :: r) G
  | _ => False
def pi_i2l (nx : Nat) : px_I := fun _ _ _ K ls st G => match st with
  | .int x :: r => K nx ls (.long x.toInt64 :: r) G
  | _ => False
def pi_l2i (nx : Nat) : px_I := fun _ _ _ K ls st G => match st with
  | .long x :: r => K nx ls (.int x.toInt32 :: r) G
  | _ => False
def pi_dup (nx : Nat) : px_I := fun _ _ _ K ls st G => match st with
  | v :: r => v.category = 1 ∧ K nx ls (v :: v :: r) G
  | _ => False
def pi_dup2 (nx : Nat) : px_I := fun _ _ _ K ls st G => match st with
  | v :: w :: r => v.category = 1 ∧ w.category = 1 ∧ K nx ls (v :: w :: v :: w :: r) G
  | _ => False
def pi_pop (nx : Nat) : px_I := fun _ _ _ K ls st G => match st with
  | v :: r => v.category = 1 ∧ K nx ls r G
  | _ => False
def pi_ifeq (t nx : Nat) : px_I := fun _ _ _ K ls st G => match st with
  | .int x :: r => if x = 0 then K t ls r G else K nx ls r G
  | _ => False
def pi_iflt (t nx : Nat) : px_I := fun _ _ _ K ls st G => match st with
  | .int x :: r => if x < 0 then K t ls r G else K nx ls r G
  | _ => False
def pi_ifgt (t nx : Nat) : px_I := fun _ _ _ K ls st G => match st with
  | .int x :: r => if 0 < x then K t ls r G else K nx ls r G
  | _ => False
def pi_iceq (t nx : Nat) : px_I := fun _ _ _ K ls st G => match st with
  | .int y :: .int x :: r => if x = y then K t ls r G else K nx ls r G
  | _ => False
def pi_iclt (t nx : Nat) : px_I := fun _ _ _ K ls st G => match st with
  | .int y :: .int x :: r => if x < y then K t ls r G else K nx ls r G
  | _ => False
def pi_icgt (t nx : Nat) : px_I := fun _ _ _ K ls st G => match st with
  | .int y :: .int x :: r => if y < x then K t ls r G else K nx ls r G
  | _ => False
def pi_goto (t : Nat) : px_I := fun _ _ _ K ls st G => K t ls st G
def pi_switch (tab : List (Int32 × Nat)) (d : Nat) : px_I := fun _ _ _ K ls st G => match st with
  | .int x :: r => K (px_sw x tab d) ls r G
  | _ => False
def pi_getf (ci k nx : Nat) : px_I := fun _ _ _ K ls st G => match st with
  | .ref a :: r => pgf (hget G a) ci k (fun v => K nx ls (v :: r) G)
  | _ => False
def pi_putf (ci k t nx : Nat) : px_I := fun _ _ _ K ls st G => match st with
  | v :: .ref a :: r => ppf (hget G a) ci (fun fs => pfit t v ∧ k < fs.length ∧ K nx ls r (hset G a (.inr (.inr (ci, fs.set k v)))))
  | _ => False
def pi_gets (nx : Nat) : px_I := fun _ _ _ K ls st G => K nx ls (.ref 1 :: st) G
def pi_iald (nx : Nat) : px_I := fun _ _ _ K ls st G => match st with
  | .int i :: .ref a :: r => pia (hget G a) (fun t n f => ¬ t = 1 ∧ vp_in i n ∧ K nx ls (.int (f i.toNatClampNeg) :: r) G)
  | _ => False
def pi_iast (nx : Nat) : px_I := fun _ _ _ K ls st G => match st with
  | .int x :: .int i :: .ref a :: r => pia (hget G a) (fun t n f => t = 0 ∧ vp_in i n ∧ K nx ls r (hset G a (.inl (0, n, upd f i.toNatClampNeg x))))
  | _ => False
def pi_zald (nx : Nat) : px_I := fun _ _ _ K ls st G => match st with
  | .int i :: .ref a :: r => pia (hget G a) (fun t n f => t = 1 ∧ vp_in i n ∧ K nx ls (.int (f i.toNatClampNeg) :: r) G)
  | _ => False
def pi_zast (nx : Nat) : px_I := fun _ _ _ K ls st G => match st with
  | .int x :: .int i :: .ref a :: r => pia (hget G a) (fun t n f => t = 1 ∧ vp_in i n ∧ K nx ls r (hset G a (.inl (1, n, upd f i.toNatClampNeg (x &&& 1)))))
  | _ => False
def pi_aald (nx : Nat) : px_I := fun _ _ _ K ls st G => match st with
  | .int i :: .ref a :: r => par (hget G a) (fun n f => vp_in i n ∧ match f i.toNatClampNeg with
    | some q => K nx ls (.ref q :: r) G
    | none => False)
  | _ => False
def pi_aast (nx : Nat) : px_I := fun _ _ _ K ls st G => match st with
  | .ref v :: .int i :: .ref a :: r => par (hget G a) (fun n f => vp_in i n ∧ ppf (hget G v) 3 (fun _ => K nx ls r (hset G a (.inr (.inl (n, va_up f i.toNatClampNeg (some v)))))))
  | _ => False
def pi_alen (nx : Nat) : px_I := fun _ _ _ K ls st G => match st with
  | .ref a :: r => pia (hget G a) (fun _ n _ => K nx ls (.int (Int32.ofNat n) :: r) G)
  | _ => False
def pi_new (ci N : Nat) (fs : List Value) (nx : Nat) : px_I := fun _ _ lim K ls st G =>
  G.1 + 1 ≤ lim.1 ∧ G.2.1 + N ≤ lim.2 ∧ K nx ls (.ref (G.1 + 2) :: st) (hnew G N (.inr (.inr (ci, fs))))
def pi_newa (t nx : Nat) : px_I := fun _ _ lim K ls st G => match st with
  | .int n :: r => ¬ n < 0 ∧ n.toNatClampNeg ≤ 100000 ∧ G.1 + 1 ≤ lim.1 ∧ G.2.1 + n.toNatClampNeg ≤ lim.2 ∧ K nx ls (.ref (G.1 + 2) :: r) (hnew G n.toNatClampNeg (.inl (t, n.toNatClampNeg, fun _ => 0)))
  | _ => False
def pi_anew (nx : Nat) : px_I := fun _ _ lim K ls st G => match st with
  | .int n :: r => ¬ n < 0 ∧ n.toNatClampNeg ≤ 100000 ∧ G.1 + 1 ≤ lim.1 ∧ G.2.1 + n.toNatClampNeg ≤ lim.2 ∧ K nx ls (.ref (G.1 + 2) :: r) (hnew G n.toNatClampNeg (.inr (.inl (n.toNatClampNeg, fun _ => none))))
  | _ => False
def pi_oini (nx : Nat) : px_I := fun _ _ _ K ls st G => match st with
  | .ref _ :: r => r.length ≤ 4 ∧ K nx ls r G
  | _ => False
def pi_mmax (nx : Nat) : px_I := fun _ _ _ K ls st G => match st with
  | .int y :: .int x :: r => r.length ≤ 4 ∧ K nx ls (.int (if x < y then y else x) :: r) G
  | _ => False
def pi_mmin (nx : Nat) : px_I := fun _ _ _ K ls st G => match st with
  | .int y :: .int x :: r => r.length ≤ 4 ∧ K nx ls (.int (if y < x then y else x) :: r) G
  | _ => False
def pi_mabs (nx : Nat) : px_I := fun _ _ _ K ls st G => match st with
  | .int x :: r => r.length ≤ 4 ∧ K nx ls (.int (if 0 ≤ x then x else 0 - x) :: r) G
  | _ => False
/-- a call of an object's method: number, parameters, class of the receiver -/
def pi_callV (y n ci nx : Nat) : px_I := fun cal _ _ K ls st G => n + 1 ≤ st.length ∧ (st.drop (n + 1)).length ≤ 4 ∧ match (st.take (n + 1)).reverse with
  | .ref o :: as => ppf (hget G o) ci (fun _ => cal y (.ref o :: as) G (fun v G' => K nx ls (v.toList ++ st.drop (n + 1)) G'))
  | _ => False
def pi_callS (y n nx : Nat) : px_I := fun cal _ _ K ls st G => n ≤ st.length ∧ (st.drop n).length ≤ 4 ∧ cal y (st.take n).reverse G (fun v G' => K nx ls (v.toList ++ st.drop n) G')
/-- a constructor that makes mc cells of ms slots -/
def pi_callI (y n mc ms nx : Nat) : px_I := fun cal _ lim K ls st G => n + 1 ≤ st.length ∧ (st.drop (n + 1)).length ≤ 4 ∧ G.1 + mc ≤ lim.1 ∧ G.2.1 + ms ≤ lim.2 ∧ match (st.take (n + 1)).reverse with
  | .ref o :: as => cal y (.ref o :: as) G (fun v G' => G'.1 = G.1 + mc ∧ G'.2.1 = G.2.1 + ms ∧ K nx ls (v.toList ++ st.drop (n + 1)) G')
  | _ => False
def pi_iret : px_I := fun _ Q _ _ _ st G => match st with
  | [.int x] => Q (some (.int x)) G
  | _ => False
def pi_zret : px_I := fun _ Q _ _ _ st G => match st with
  | [.int x] => (x = 0 ∨ x = 1) ∧ Q (some (.int x)) G
  | _ => False
def pi_lret : px_I := fun _ Q _ _ _ st G => match st with
  | [.long x] => Q (some (.long x)) G
  | _ => False
def pi_vret : px_I := fun _ Q _ _ _ st G => match st with
  | [] => Q none G
  | _ => False
/-! ===== runs: the least set of states from which the end is reached ===== -/
def px_run (cal : px_C) (code : Nat → px_I) (Q : px_Q) (lim : Nat × Nat) : px_K := fun pc ls st G =>
  ∀ P : px_K, (∀ pc ls st G, code pc cal Q lim P ls st G → P pc ls st G) → P pc ls st G
def px_cm (cal : px_C) : Prop := ∀ y as G (Q Q' : px_Q), (∀ v G, Q v G → Q' v G) → cal y as G Q → cal y as G Q'
def px_M (i : px_I) : Prop := ∀ (cal : px_C) (Q Q' : px_Q) (lim : Nat × Nat) (K K' : px_K) (ls : px_L) (st : List Value) (G : px_H), px_cm cal → (∀ v G, Q v G → Q' v G) → (∀ pc ls st G, K pc ls st G → K' pc ls st G) → i cal Q lim K ls st G → i cal Q' lim K' ls st G
theorem px_run_in {cal : px_C} {code : Nat → px_I} {Q : px_Q} {lim : Nat × Nat} (hc : px_cm cal) (hM : ∀ pc, px_M (code pc)) {pc : Nat} {ls : px_L} {st : List Value} {G : px_H} (h : code pc cal Q lim (px_run cal code Q lim) ls st G) : px_run cal code Q lim pc ls st G := by
  intro P hP
  exact hP _ _ _ _ (hM pc cal Q Q lim _ _ ls st G hc (fun _ _ h => h) (fun pc ls st G k => k P hP) h)
theorem px_run_iff {cal : px_C} {code : Nat → px_I} {Q : px_Q} {lim : Nat × Nat} (hc : px_cm cal) (hM : ∀ pc, px_M (code pc)) {pc : Nat} {ls : px_L} {st : List Value} {G : px_H} : px_run cal code Q lim pc ls st G ↔ code pc cal Q lim (px_run cal code Q lim) ls st G := by
  refine ⟨fun h => ?_, px_run_in hc hM⟩
  refine h (fun pc ls st G => code pc cal Q lim (px_run cal code Q lim) ls st G) (fun pc ls st G k => ?_)
  exact hM pc cal Q Q lim _ _ ls st G hc (fun _ _ h => h) (fun pc ls st G k => px_run_in hc hM k) k
theorem px_run_mono {cal : px_C} {code : Nat → px_I} {Q Q' : px_Q} {lim : Nat × Nat} (hc : px_cm cal) (hM : ∀ pc, px_M (code pc)) (hQ : ∀ v G, Q v G → Q' v G) {pc : Nat} {ls : px_L} {st : List Value} {G : px_H} (h : px_run cal code Q lim pc ls st G) : px_run cal code Q' lim pc ls st G := by
  intro P hP
  exact h P (fun pc ls st G k => hP pc ls st G (hM pc cal Q Q' lim P P ls st G hc hQ (fun _ _ _ _ h => h) k))
def px_look : List (Nat × px_I) → Nat → px_I
  | [], _ => pi_stuck
  | q :: r, pc => match Nat.beq q.1 pc with
    | true => q.2
    | false => px_look r pc
theorem px_look_of {P : Nat → px_I → Prop} (hs : ∀ pc, P pc pi_stuck) : ∀ (l : List (Nat × px_I)), (∀ q ∈ l, P q.1 q.2) → ∀ pc, P pc (px_look l pc)
  | [], _, pc => hs pc
  | q :: r, h, pc => by
    unfold px_look
    cases hb : Nat.beq q.1 pc with
    | true =>
      have e : q.1 = pc := Nat.eq_of_beq_eq_true hb
      subst e
      exact h q List.mem_cons_self
    | false => exact px_look_of hs r (fun x hx => h x (List.mem_cons_of_mem _ hx)) pc
def px_ent (as : List Value) (n : Nat) : px_L :=
  as.flatMap (fun v => if v.category = 2 then [some v, none] else [some v]) ++ List.replicate (n - (as.flatMap (fun v => if v.category = 2 then [some v, none] else [some v])).length) none
/-- longs stand only where a method has them -/
def px_chk : px_L → Nat → List Nat → Bool
  | [], _, _ => true
  | some (.long _) :: r, i, lok => lok.contains i && px_chk r (i + 1) lok
  | some (.double _) :: r, i, lok => lok.contains i && px_chk r (i + 1) lok
  | _ :: r, i, lok => px_chk r (i + 1) lok
def px_fit0 (as : List Value) (n : Nat) (lok : List Nat) : Bool := Nat.beq (px_ent as n).length n && px_chk (px_ent as n) 0 lok
/-- a method by its number, called at most d deep -/
def px_m (tb : Nat → List (Nat × px_I)) (mx : Nat → Nat) (lk : Nat → List Nat) (mcs : Nat → Nat × Nat) : Nat → px_C
  | 0 => fun _ _ _ _ => False
  | d + 1 => fun y as G Q => px_fit0 as (mx y) (lk y) = true ∧ px_run (px_m tb mx lk mcs d) (px_look (tb y)) Q (G.1 + (mcs y).1, G.2.1 + (mcs y).2) 0 (px_ent as (mx y)) [] G
theorem px_m_mono {tb : Nat → List (Nat × px_I)} {mx : Nat → Nat} {lk : Nat → List Nat} {mcs : Nat → Nat × Nat} (hM : ∀ y pc, px_M (px_look (tb y) pc)) : ∀ d, px_cm (px_m tb mx lk mcs d)
  | 0 => fun _ _ _ _ _ _ h => h.elim
  | d + 1 => fun y _ _ _ _ hQ h => ⟨h.1, px_run_mono (px_m_mono hM d) (hM y) hQ h.2⟩
/-! every instruction grows with what is asked of the end -/
theorem pm_stuck : px_M pi_stuck := fun _ _ _ _ _ _ _ _ _ _ _ _ h => h
theorem pgf_mono {e : Option px_E} {ci k : Nat} {f g : Value → Prop} (hfg : ∀ v, f v → g v) (h : pgf e ci k f) : pgf e ci k g := by
  unfold pgf at h ⊢
  split at h
  · refine ⟨h.1, ?_⟩
    have h2 := h.2
    split at h2
    · exact hfg _ h2
    · exact h2.elim
  · exact h.elim
theorem ppf_mono {e : Option px_E} {ci : Nat} {f g : List Value → Prop} (hfg : ∀ v, f v → g v) (h : ppf e ci f) : ppf e ci g := by
  unfold ppf at h ⊢
  split at h
  · exact ⟨h.1, hfg _ h.2⟩
  · exact h.elim
theorem pia_mono {e : Option px_E} {f g : Nat → Nat → (Nat → Int32) → Prop} (hfg : ∀ t n v, f t n v → g t n v) (h : pia e f) : pia e g := by
  unfold pia at h ⊢
  split at h
  · exact hfg _ _ _ h
  · exact h.elim
theorem par_mono {e : Option px_E} {f g : Nat → (Nat → Option Nat) → Prop} (hfg : ∀ n v, f n v → g n v) (h : par e f) : par e g := by
  unfold par at h ⊢
  split at h
  · exact hfg _ _ h
  · exact h.elim
theorem pm_const (v : Value) (nx : Nat) : px_M (pi_const v nx) := fun _ _ _ _ _ _ _ _ _ _ _ hK h => hK _ _ _ _ h
theorem pm_iload (i nx : Nat) : px_M (pi_iload i nx) := fun _ _ _ _ _ _ _ _ _ _ _ hK h => by
  unfold pi_iload at h ⊢; split at h
  · exact hK _ _ _ _ h
  · exact h.elim
theorem pm_aload (i nx : Nat) : px_M (pi_aload i nx) := fun _ _ _ _ _ _ _ _ _ _ _ hK h => by
  unfold pi_aload at h ⊢; split at h
  · exact hK _ _ _ _ h
  · exact h.elim
theorem pm_lload (i nx : Nat) : px_M (pi_lload i nx) := fun _ _ _ _ _ _ _ _ _ _ _ hK h => by
  unfold pi_lload at h ⊢; split at h
  · exact hK _ _ _ _ h
  · exact h.elim
theorem pm_istore (i nx : Nat) : px_M (pi_istore i nx) := fun _ _ _ _ _ _ _ _ _ _ _ hK h => by
  unfold pi_istore at h ⊢; split at h
  · exact hK _ _ _ _ h
  · exact h.elim
theorem pm_astore (i nx : Nat) : px_M (pi_astore i nx) := fun _ _ _ _ _ _ _ _ _ _ _ hK h => by
  unfold pi_astore at h ⊢; split at h
  · exact hK _ _ _ _ h
  · exact h.elim
theorem pm_lstore (i nx : Nat) : px_M (pi_lstore i nx) := fun _ _ _ _ _ _ _ _ _ _ _ hK h => by
  unfold pi_lstore at h ⊢; split at h
  · exact hK _ _ _ _ h
  · exact h.elim
theorem pm_iinc (i : Nat) (k : Int32) (nx : Nat) : px_M (pi_iinc i k nx) := fun _ _ _ _ _ _ _ _ _ _ _ hK h => by
  unfold pi_iinc at h ⊢; split at h
  · exact hK _ _ _ _ h
  · exact h.elim
theorem pm_bin (f : Int32 → Int32 → Int32) (nx : Nat) : px_M (pi_bin f nx) := fun _ _ _ _ _ _ _ _ _ _ _ hK h => by
  unfold pi_bin at h ⊢; split at h
  · exact hK _ _ _ _ h
  · exact h.elim
theorem pm_idiv (nx : Nat) : px_M (pi_idiv nx) := fun _ _ _ _ _ _ _ _ _ _ _ hK h => by
  unfold pi_idiv at h ⊢; split at h
  · exact ⟨h.1, hK _ _ _ _ h.2⟩
  · exact h.elim
theorem pm_irem (nx : Nat) : px_M (pi_irem nx) := fun _ _ _ _ _ _ _ _ _ _ _ hK h => by
  unfold pi_irem at h ⊢; split at h
  · exact ⟨h.1, hK _ _ _ _ h.2⟩
  · exact h.elim
theorem pm_lbin (f : Int64 → Int64 → Int64) (nx : Nat) : px_M (pi_lbin f nx) := fun _ _ _ _ _ _ _ _ _ _ _ hK h => by
  unfold pi_lbin at h ⊢; split at h
  · exact hK _ _ _ _ h
  · exact h.elim
theorem pm_lrem (nx : Nat) : px_M (pi_lrem nx) := fun _ _ _ _ _ _ _ _ _ _ _ hK h => by
  unfold pi_lrem at h ⊢; split at h
  · exact ⟨h.1, hK _ _ _ _ h.2⟩
  · exact h.elim
theorem pm_lcmp (nx : Nat) : px_M (pi_lcmp nx) := fun _ _ _ _ _ _ _ _ _ _ _ hK h => by
  unfold pi_lcmp at h ⊢; split at h
  · exact hK _ _ _ _ h
  · exact h.elim
theorem pm_lsh (f : Int64 → Int32 → Int64) (nx : Nat) : px_M (pi_lsh f nx) := fun _ _ _ _ _ _ _ _ _ _ _ hK h => by
  unfold pi_lsh at h ⊢; split at h
  · exact hK _ _ _ _ h
  · exact h.elim
theorem pm_i2l (nx : Nat) : px_M (pi_i2l nx) := fun _ _ _ _ _ _ _ _ _ _ _ hK h => by
  unfold pi_i2l at h ⊢; split at h
  · exact hK _ _ _ _ h
  · exact h.elim
theorem pm_l2i (nx : Nat) : px_M (pi_l2i nx) := fun _ _ _ _ _ _ _ _ _ _ _ hK h => by
  unfold pi_l2i at h ⊢; split at h
  · exact hK _ _ _ _ h
  · exact h.elim
theorem pm_dup (nx : Nat) : px_M (pi_dup nx) := fun _ _ _ _ _ _ _ _ _ _ _ hK h => by
  unfold pi_dup at h ⊢; split at h
  · exact ⟨h.1, hK _ _ _ _ h.2⟩
  · exact h.elim
theorem pm_dup2 (nx : Nat) : px_M (pi_dup2 nx) := fun _ _ _ _ _ _ _ _ _ _ _ hK h => by
  unfold pi_dup2 at h ⊢; split at h
  · exact ⟨h.1, h.2.1, hK _ _ _ _ h.2.2⟩
  · exact h.elim
theorem pm_pop (nx : Nat) : px_M (pi_pop nx) := fun _ _ _ _ _ _ _ _ _ _ _ hK h => by
  unfold pi_pop at h ⊢; split at h
  · exact ⟨h.1, hK _ _ _ _ h.2⟩
  · exact h.elim
theorem pm_ite {c : Prop} [Decidable c] {A B A' B' : Prop} (ha : A → A') (hb : B → B') (h : if c then A else B) : if c then A' else B' := by
  split at h
  · rename_i hc; rw [if_pos hc]; exact ha h
  · rename_i hc; rw [if_neg hc]; exact hb h
theorem pm_ifeq (t nx : Nat) : px_M (pi_ifeq t nx) := fun _ _ _ _ _ _ _ _ _ _ _ hK h => by
  unfold pi_ifeq at h ⊢; split at h
  · exact pm_ite (hK _ _ _ _) (hK _ _ _ _) h
  · exact h.elim
theorem pm_iflt (t nx : Nat) : px_M (pi_iflt t nx) := fun _ _ _ _ _ _ _ _ _ _ _ hK h => by
  unfold pi_iflt at h ⊢; split at h
  · exact pm_ite (hK _ _ _ _) (hK _ _ _ _) h
  · exact h.elim
theorem pm_ifgt (t nx : Nat) : px_M (pi_ifgt t nx) := fun _ _ _ _ _ _ _ _ _ _ _ hK h => by
  unfold pi_ifgt at h ⊢; split at h
  · exact pm_ite (hK _ _ _ _) (hK _ _ _ _) h
  · exact h.elim
theorem pm_iceq (t nx : Nat) : px_M (pi_iceq t nx) := fun _ _ _ _ _ _ _ _ _ _ _ hK h => by
  unfold pi_iceq at h ⊢; split at h
  · exact pm_ite (hK _ _ _ _) (hK _ _ _ _) h
  · exact h.elim
theorem pm_iclt (t nx : Nat) : px_M (pi_iclt t nx) := fun _ _ _ _ _ _ _ _ _ _ _ hK h => by
  unfold pi_iclt at h ⊢; split at h
  · exact pm_ite (hK _ _ _ _) (hK _ _ _ _) h
  · exact h.elim
theorem pm_icgt (t nx : Nat) : px_M (pi_icgt t nx) := fun _ _ _ _ _ _ _ _ _ _ _ hK h => by
  unfold pi_icgt at h ⊢; split at h
  · exact pm_ite (hK _ _ _ _) (hK _ _ _ _) h
  · exact h.elim
theorem pm_goto (t : Nat) : px_M (pi_goto t) := fun _ _ _ _ _ _ _ _ _ _ _ hK h => hK _ _ _ _ h
theorem pm_switch (tab : List (Int32 × Nat)) (d : Nat) : px_M (pi_switch tab d) := fun _ _ _ _ _ _ _ _ _ _ _ hK h => by
  unfold pi_switch at h ⊢; split at h
  · exact hK _ _ _ _ h
  · exact h.elim
theorem pm_getf (ci k nx : Nat) : px_M (pi_getf ci k nx) := fun _ _ _ _ _ _ _ _ _ _ _ hK h => by
  unfold pi_getf at h ⊢; split at h
  · exact pgf_mono (fun v => hK _ _ _ _) h
  · exact h.elim
theorem pm_putf (ci k t nx : Nat) : px_M (pi_putf ci k t nx) := fun _ _ _ _ _ _ _ _ _ _ _ hK h => by
  unfold pi_putf at h ⊢; split at h
  · exact ppf_mono (fun v q => ⟨q.1, q.2.1, hK _ _ _ _ q.2.2⟩) h
  · exact h.elim
theorem pm_gets (nx : Nat) : px_M (pi_gets nx) := fun _ _ _ _ _ _ _ _ _ _ _ hK h => hK _ _ _ _ h
theorem pm_iald (nx : Nat) : px_M (pi_iald nx) := fun _ _ _ _ _ _ _ _ _ _ _ hK h => by
  unfold pi_iald at h ⊢; split at h
  · exact pia_mono (fun t n v q => ⟨q.1, q.2.1, hK _ _ _ _ q.2.2⟩) h
  · exact h.elim
theorem pm_iast (nx : Nat) : px_M (pi_iast nx) := fun _ _ _ _ _ _ _ _ _ _ _ hK h => by
  unfold pi_iast at h ⊢; split at h
  · exact pia_mono (fun t n v q => ⟨q.1, q.2.1, hK _ _ _ _ q.2.2⟩) h
  · exact h.elim
theorem pm_zald (nx : Nat) : px_M (pi_zald nx) := fun _ _ _ _ _ _ _ _ _ _ _ hK h => by
  unfold pi_zald at h ⊢; split at h
  · exact pia_mono (fun t n v q => ⟨q.1, q.2.1, hK _ _ _ _ q.2.2⟩) h
  · exact h.elim
theorem pm_zast (nx : Nat) : px_M (pi_zast nx) := fun _ _ _ _ _ _ _ _ _ _ _ hK h => by
  unfold pi_zast at h ⊢; split at h
  · exact pia_mono (fun t n v q => ⟨q.1, q.2.1, hK _ _ _ _ q.2.2⟩) h
  · exact h.elim
theorem pm_aald (nx : Nat) : px_M (pi_aald nx) := fun _ _ _ _ _ _ _ _ _ _ _ hK h => by
  unfold pi_aald at h ⊢; split at h
  · refine par_mono (fun n v q => ⟨q.1, ?_⟩) h
    have q2 := q.2
    split at q2
    · exact hK _ _ _ _ q2
    · exact q2.elim
  · exact h.elim
theorem pm_aast (nx : Nat) : px_M (pi_aast nx) := fun _ _ _ _ _ _ _ _ _ _ _ hK h => by
  unfold pi_aast at h ⊢; split at h
  · exact par_mono (fun n v q => ⟨q.1, ppf_mono (fun v => hK _ _ _ _) q.2⟩) h
  · exact h.elim
theorem pm_alen (nx : Nat) : px_M (pi_alen nx) := fun _ _ _ _ _ _ _ _ _ _ _ hK h => by
  unfold pi_alen at h ⊢; split at h
  · exact pia_mono (fun t n v => hK _ _ _ _) h
  · exact h.elim
theorem pm_new (ci N : Nat) (fs : List Value) (nx : Nat) : px_M (pi_new ci N fs nx) := fun _ _ _ _ _ _ _ _ _ _ _ hK h => ⟨h.1, h.2.1, hK _ _ _ _ h.2.2⟩
theorem pm_newa (t nx : Nat) : px_M (pi_newa t nx) := fun _ _ _ _ _ _ _ _ _ _ _ hK h => by
  unfold pi_newa at h ⊢; split at h
  · exact ⟨h.1, h.2.1, h.2.2.1, h.2.2.2.1, hK _ _ _ _ h.2.2.2.2⟩
  · exact h.elim
theorem pm_anew (nx : Nat) : px_M (pi_anew nx) := fun _ _ _ _ _ _ _ _ _ _ _ hK h => by
  unfold pi_anew at h ⊢; split at h
  · exact ⟨h.1, h.2.1, h.2.2.1, h.2.2.2.1, hK _ _ _ _ h.2.2.2.2⟩
  · exact h.elim
theorem pm_oini (nx : Nat) : px_M (pi_oini nx) := fun _ _ _ _ _ _ _ _ _ _ _ hK h => by
  unfold pi_oini at h ⊢; split at h
  · exact ⟨h.1, hK _ _ _ _ h.2⟩
  · exact h.elim
theorem pm_mmax (nx : Nat) : px_M (pi_mmax nx) := fun _ _ _ _ _ _ _ _ _ _ _ hK h => by
  unfold pi_mmax at h ⊢; split at h
  · exact ⟨h.1, hK _ _ _ _ h.2⟩
  · exact h.elim
theorem pm_mmin (nx : Nat) : px_M (pi_mmin nx) := fun _ _ _ _ _ _ _ _ _ _ _ hK h => by
  unfold pi_mmin at h ⊢; split at h
  · exact ⟨h.1, hK _ _ _ _ h.2⟩
  · exact h.elim
theorem pm_mabs (nx : Nat) : px_M (pi_mabs nx) := fun _ _ _ _ _ _ _ _ _ _ _ hK h => by
  unfold pi_mabs at h ⊢; split at h
  · exact ⟨h.1, hK _ _ _ _ h.2⟩
  · exact h.elim
theorem pm_callV (y n ci nx : Nat) : px_M (pi_callV y n ci nx) := fun _ _ _ _ _ _ _ _ _ hc _ hK h => by
  unfold pi_callV at h ⊢
  refine ⟨h.1, h.2.1, ?_⟩
  have h2 := h.2.2
  split at h2
  · exact ppf_mono (fun v q => hc _ _ _ _ _ (fun v G => hK _ _ _ _) q) h2
  · exact h2.elim
theorem pm_callS (y n nx : Nat) : px_M (pi_callS y n nx) := fun _ _ _ _ _ _ _ _ _ hc _ hK h => ⟨h.1, h.2.1, hc _ _ _ _ _ (fun v G => hK _ _ _ _) h.2.2⟩
theorem pm_callI (y n mc ms nx : Nat) : px_M (pi_callI y n mc ms nx) := fun _ _ _ _ _ _ _ _ _ hc _ hK h => by
  unfold pi_callI at h ⊢
  refine ⟨h.1, h.2.1, h.2.2.1, h.2.2.2.1, ?_⟩
  have h2 := h.2.2.2.2
  split at h2
  · exact hc _ _ _ _ _ (fun v G q => ⟨q.1, q.2.1, hK _ _ _ _ q.2.2⟩) h2
  · exact h2.elim
theorem pm_iret : px_M pi_iret := fun _ _ _ _ _ _ _ _ _ _ hQ _ h => by
  unfold pi_iret at h ⊢; split at h
  · exact hQ _ _ h
  · exact h.elim
theorem pm_zret : px_M pi_zret := fun _ _ _ _ _ _ _ _ _ _ hQ _ h => by
  unfold pi_zret at h ⊢; split at h
  · exact ⟨h.1, hQ _ _ h.2⟩
  · exact h.elim
theorem pm_lret : px_M pi_lret := fun _ _ _ _ _ _ _ _ _ _ hQ _ h => by
  unfold pi_lret at h ⊢; split at h
  · exact hQ _ _ h
  · exact h.elim
theorem pm_vret : px_M pi_vret := fun _ _ _ _ _ _ _ _ _ _ hQ _ h => by
  unfold pi_vret at h ⊢; split at h
  · exact hQ _ _ h
  · exact h.elim
