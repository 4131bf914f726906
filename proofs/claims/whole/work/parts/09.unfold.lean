/-! ===== runs by a method's number ===== -/
def pcal (d : Nat) : px_C := px_m px_tb (fun y => (px_mt y).2.2.1) px_lk (fun y => (px_mt y).2.2.2.2) d
theorem pcal_mono (d : Nat) : px_cm (pcal d) := px_m_mono px_mon d
def pr (d y : Nat) (lim : Nat × Nat) (Q : px_Q) : px_K := px_run (pcal d) (px_look (px_tb y)) Q lim
theorem pr_of {d y : Nat} {lim : Nat × Nat} {Q : px_Q} {l : List (Nat × px_I)} (ht : px_tb y = l) {pc : Nat} {i : px_I} (hl : px_look l pc = i) (ls : px_L) (st : List Value) (G : px_H) : pr d y lim Q pc ls st G ↔ i (pcal d) Q lim (pr d y lim Q) ls st G := by
  subst ht
  subst hl
  exact px_run_iff (pcal_mono d) (px_mon y)
theorem pcal_of {d y : Nat} {as : List Value} {G : px_H} {Q : px_Q} {n : Nat} {lok : List Nat} {mc ms : Nat} {ls : px_L} (h1 : (px_mt y).2.2.1 = n) (h2 : px_lk y = lok) (h3 : (px_mt y).2.2.2.2 = (mc, ms)) (h4 : px_fit0 as n lok = true) (h5 : px_ent as n = ls) (h : pr d y (G.1 + mc, G.2.1 + ms) Q 0 ls [] G) : pcal (d + 1) y as G Q := by
  subst h1; subst h2; subst h5
  refine ⟨h4, ?_⟩
  have e : (fun y => (px_mt y).2.2.2.2) y = (mc, ms) := h3
  show px_run _ _ Q (G.1 + (px_mt y).2.2.2.2.1, G.2.1 + (px_mt y).2.2.2.2.2) 0 _ [] G
  rw [h3]
  exact h
theorem pcal_up {d y : Nat} {as : List Value} {G : px_H} {Q Q' : px_Q} (h : pcal d y as G Q) (hQ : ∀ v G', Q v G' → Q' v G') : pcal d y as G Q' := pcal_mono d y as G Q Q' hQ h
/-! what an instruction asks, at a state of a known shape -/
def pput (e : Option px_E) (ci k t : Nat) (v : Value) (f : px_E → Prop) : Prop := ppf e ci (fun fs => pfit t v ∧ k < fs.length ∧ f (.inr (.inr (ci, fs.set k v))))
def plda (e : Option px_E) (i : Int32) (f : Int32 → Prop) : Prop := pia e (fun t n g => ¬ t = 1 ∧ vp_in i n ∧ f (g i.toNatClampNeg))
def psta (e : Option px_E) (i x : Int32) (f : px_E → Prop) : Prop := pia e (fun t n g => t = 0 ∧ vp_in i n ∧ f (.inl (0, n, upd g i.toNatClampNeg x)))
def pldz (e : Option px_E) (i : Int32) (f : Int32 → Prop) : Prop := pia e (fun t n g => t = 1 ∧ vp_in i n ∧ f (g i.toNatClampNeg))
def pstz (e : Option px_E) (i x : Int32) (f : px_E → Prop) : Prop := pia e (fun t n g => t = 1 ∧ vp_in i n ∧ f (.inl (1, n, upd g i.toNatClampNeg (x &&& 1))))
def plen (e : Option px_E) (f : Int32 → Prop) : Prop := pia e (fun _ n _ => f (Int32.ofNat n))
def pldr (e : Option px_E) (i : Int32) (f : Nat → Prop) : Prop := par e (fun n g => vp_in i n ∧ match g i.toNatClampNeg with
  | some q => f q
  | none => False)
def pstr (e e2 : Option px_E) (i : Int32) (v : Nat) (f : px_E → Prop) : Prop := par e (fun n g => vp_in i n ∧ ppf e2 3 (fun _ => f (.inr (.inl (n, va_up g i.toNatClampNeg (some v))))))
def pobj (e : Option px_E) (ci : Nat) (f : Prop) : Prop := ppf e ci (fun _ => f)
section PE
variable {cal : px_C} {Q : px_Q} {lim : Nat × Nat} {K : px_K} {ls : px_L} {st : List Value} {G : px_H} {nx t : Nat} {x y : Int32} {u v : Int64} {a b : Nat}
theorem pe_const {w : Value} : pi_const w nx cal Q lim K ls st G = K nx ls (w :: st) G := rfl
theorem pe_iload_0 : pi_iload 0 nx cal Q lim K (some (.int x) :: ls) st G = K nx (some (.int x) :: ls) (.int x :: st) G := rfl
theorem pe_istore_0 {o : Option Value} : pi_istore 0 nx cal Q lim K (o :: ls) (.int x :: st) G = K nx (some (.int x) :: ls) st G := rfl
theorem pe_aload_0 : pi_aload 0 nx cal Q lim K (some (.ref a) :: ls) st G = K nx (some (.ref a) :: ls) (.ref a :: st) G := rfl
theorem pe_astore_0 {o : Option Value} : pi_astore 0 nx cal Q lim K (o :: ls) (.ref a :: st) G = K nx (some (.ref a) :: ls) st G := rfl
theorem pe_iinc_0 : pi_iinc 0 y nx cal Q lim K (some (.int x) :: ls) st G = K nx (some (.int (x + y)) :: ls) st G := rfl
theorem pe_iload_1 {l0 : Option Value} : pi_iload 1 nx cal Q lim K (l0 :: some (.int x) :: ls) st G = K nx (l0 :: some (.int x) :: ls) (.int x :: st) G := rfl
theorem pe_istore_1 {l0 : Option Value} {o : Option Value} : pi_istore 1 nx cal Q lim K (l0 :: o :: ls) (.int x :: st) G = K nx (l0 :: some (.int x) :: ls) st G := rfl
theorem pe_aload_1 {l0 : Option Value} : pi_aload 1 nx cal Q lim K (l0 :: some (.ref a) :: ls) st G = K nx (l0 :: some (.ref a) :: ls) (.ref a :: st) G := rfl
theorem pe_astore_1 {l0 : Option Value} {o : Option Value} : pi_astore 1 nx cal Q lim K (l0 :: o :: ls) (.ref a :: st) G = K nx (l0 :: some (.ref a) :: ls) st G := rfl
theorem pe_iinc_1 {l0 : Option Value} : pi_iinc 1 y nx cal Q lim K (l0 :: some (.int x) :: ls) st G = K nx (l0 :: some (.int (x + y)) :: ls) st G := rfl
theorem pe_iload_2 {l0 l1 : Option Value} : pi_iload 2 nx cal Q lim K (l0 :: l1 :: some (.int x) :: ls) st G = K nx (l0 :: l1 :: some (.int x) :: ls) (.int x :: st) G := rfl
theorem pe_istore_2 {l0 l1 : Option Value} {o : Option Value} : pi_istore 2 nx cal Q lim K (l0 :: l1 :: o :: ls) (.int x :: st) G = K nx (l0 :: l1 :: some (.int x) :: ls) st G := rfl
theorem pe_aload_2 {l0 l1 : Option Value} : pi_aload 2 nx cal Q lim K (l0 :: l1 :: some (.ref a) :: ls) st G = K nx (l0 :: l1 :: some (.ref a) :: ls) (.ref a :: st) G := rfl
theorem pe_astore_2 {l0 l1 : Option Value} {o : Option Value} : pi_astore 2 nx cal Q lim K (l0 :: l1 :: o :: ls) (.ref a :: st) G = K nx (l0 :: l1 :: some (.ref a) :: ls) st G := rfl
theorem pe_iinc_2 {l0 l1 : Option Value} : pi_iinc 2 y nx cal Q lim K (l0 :: l1 :: some (.int x) :: ls) st G = K nx (l0 :: l1 :: some (.int (x + y)) :: ls) st G := rfl
theorem pe_iload_3 {l0 l1 l2 : Option Value} : pi_iload 3 nx cal Q lim K (l0 :: l1 :: l2 :: some (.int x) :: ls) st G = K nx (l0 :: l1 :: l2 :: some (.int x) :: ls) (.int x :: st) G := rfl
theorem pe_istore_3 {l0 l1 l2 : Option Value} {o : Option Value} : pi_istore 3 nx cal Q lim K (l0 :: l1 :: l2 :: o :: ls) (.int x :: st) G = K nx (l0 :: l1 :: l2 :: some (.int x) :: ls) st G := rfl
theorem pe_aload_3 {l0 l1 l2 : Option Value} : pi_aload 3 nx cal Q lim K (l0 :: l1 :: l2 :: some (.ref a) :: ls) st G = K nx (l0 :: l1 :: l2 :: some (.ref a) :: ls) (.ref a :: st) G := rfl
theorem pe_astore_3 {l0 l1 l2 : Option Value} {o : Option Value} : pi_astore 3 nx cal Q lim K (l0 :: l1 :: l2 :: o :: ls) (.ref a :: st) G = K nx (l0 :: l1 :: l2 :: some (.ref a) :: ls) st G := rfl
theorem pe_iinc_3 {l0 l1 l2 : Option Value} : pi_iinc 3 y nx cal Q lim K (l0 :: l1 :: l2 :: some (.int x) :: ls) st G = K nx (l0 :: l1 :: l2 :: some (.int (x + y)) :: ls) st G := rfl
theorem pe_iload_4 {l0 l1 l2 l3 : Option Value} : pi_iload 4 nx cal Q lim K (l0 :: l1 :: l2 :: l3 :: some (.int x) :: ls) st G = K nx (l0 :: l1 :: l2 :: l3 :: some (.int x) :: ls) (.int x :: st) G := rfl
theorem pe_istore_4 {l0 l1 l2 l3 : Option Value} {o : Option Value} : pi_istore 4 nx cal Q lim K (l0 :: l1 :: l2 :: l3 :: o :: ls) (.int x :: st) G = K nx (l0 :: l1 :: l2 :: l3 :: some (.int x) :: ls) st G := rfl
theorem pe_aload_4 {l0 l1 l2 l3 : Option Value} : pi_aload 4 nx cal Q lim K (l0 :: l1 :: l2 :: l3 :: some (.ref a) :: ls) st G = K nx (l0 :: l1 :: l2 :: l3 :: some (.ref a) :: ls) (.ref a :: st) G := rfl
theorem pe_astore_4 {l0 l1 l2 l3 : Option Value} {o : Option Value} : pi_astore 4 nx cal Q lim K (l0 :: l1 :: l2 :: l3 :: o :: ls) (.ref a :: st) G = K nx (l0 :: l1 :: l2 :: l3 :: some (.ref a) :: ls) st G := rfl
theorem pe_iinc_4 {l0 l1 l2 l3 : Option Value} : pi_iinc 4 y nx cal Q lim K (l0 :: l1 :: l2 :: l3 :: some (.int x) :: ls) st G = K nx (l0 :: l1 :: l2 :: l3 :: some (.int (x + y)) :: ls) st G := rfl
theorem pe_iload_5 {l0 l1 l2 l3 l4 : Option Value} : pi_iload 5 nx cal Q lim K (l0 :: l1 :: l2 :: l3 :: l4 :: some (.int x) :: ls) st G = K nx (l0 :: l1 :: l2 :: l3 :: l4 :: some (.int x) :: ls) (.int x :: st) G := rfl
theorem pe_istore_5 {l0 l1 l2 l3 l4 : Option Value} {o : Option Value} : pi_istore 5 nx cal Q lim K (l0 :: l1 :: l2 :: l3 :: l4 :: o :: ls) (.int x :: st) G = K nx (l0 :: l1 :: l2 :: l3 :: l4 :: some (.int x) :: ls) st G := rfl
theorem pe_aload_5 {l0 l1 l2 l3 l4 : Option Value} : pi_aload 5 nx cal Q lim K (l0 :: l1 :: l2 :: l3 :: l4 :: some (.ref a) :: ls) st G = K nx (l0 :: l1 :: l2 :: l3 :: l4 :: some (.ref a) :: ls) (.ref a :: st) G := rfl
theorem pe_astore_5 {l0 l1 l2 l3 l4 : Option Value} {o : Option Value} : pi_astore 5 nx cal Q lim K (l0 :: l1 :: l2 :: l3 :: l4 :: o :: ls) (.ref a :: st) G = K nx (l0 :: l1 :: l2 :: l3 :: l4 :: some (.ref a) :: ls) st G := rfl
theorem pe_iinc_5 {l0 l1 l2 l3 l4 : Option Value} : pi_iinc 5 y nx cal Q lim K (l0 :: l1 :: l2 :: l3 :: l4 :: some (.int x) :: ls) st G = K nx (l0 :: l1 :: l2 :: l3 :: l4 :: some (.int (x + y)) :: ls) st G := rfl
theorem pe_iload_6 {l0 l1 l2 l3 l4 l5 : Option Value} : pi_iload 6 nx cal Q lim K (l0 :: l1 :: l2 :: l3 :: l4 :: l5 :: some (.int x) :: ls) st G = K nx (l0 :: l1 :: l2 :: l3 :: l4 :: l5 :: some (.int x) :: ls) (.int x :: st) G := rfl
theorem pe_istore_6 {l0 l1 l2 l3 l4 l5 : Option Value} {o : Option Value} : pi_istore 6 nx cal Q lim K (l0 :: l1 :: l2 :: l3 :: l4 :: l5 :: o :: ls) (.int x :: st) G = K nx (l0 :: l1 :: l2 :: l3 :: l4 :: l5 :: some (.int x) :: ls) st G := rfl
theorem pe_aload_6 {l0 l1 l2 l3 l4 l5 : Option Value} : pi_aload 6 nx cal Q lim K (l0 :: l1 :: l2 :: l3 :: l4 :: l5 :: some (.ref a) :: ls) st G = K nx (l0 :: l1 :: l2 :: l3 :: l4 :: l5 :: some (.ref a) :: ls) (.ref a :: st) G := rfl
theorem pe_astore_6 {l0 l1 l2 l3 l4 l5 : Option Value} {o : Option Value} : pi_astore 6 nx cal Q lim K (l0 :: l1 :: l2 :: l3 :: l4 :: l5 :: o :: ls) (.ref a :: st) G = K nx (l0 :: l1 :: l2 :: l3 :: l4 :: l5 :: some (.ref a) :: ls) st G := rfl
theorem pe_iinc_6 {l0 l1 l2 l3 l4 l5 : Option Value} : pi_iinc 6 y nx cal Q lim K (l0 :: l1 :: l2 :: l3 :: l4 :: l5 :: some (.int x) :: ls) st G = K nx (l0 :: l1 :: l2 :: l3 :: l4 :: l5 :: some (.int (x + y)) :: ls) st G := rfl
theorem pe_iload_7 {l0 l1 l2 l3 l4 l5 l6 : Option Value} : pi_iload 7 nx cal Q lim K (l0 :: l1 :: l2 :: l3 :: l4 :: l5 :: l6 :: some (.int x) :: ls) st G = K nx (l0 :: l1 :: l2 :: l3 :: l4 :: l5 :: l6 :: some (.int x) :: ls) (.int x :: st) G := rfl
theorem pe_istore_7 {l0 l1 l2 l3 l4 l5 l6 : Option Value} {o : Option Value} : pi_istore 7 nx cal Q lim K (l0 :: l1 :: l2 :: l3 :: l4 :: l5 :: l6 :: o :: ls) (.int x :: st) G = K nx (l0 :: l1 :: l2 :: l3 :: l4 :: l5 :: l6 :: some (.int x) :: ls) st G := rfl
theorem pe_aload_7 {l0 l1 l2 l3 l4 l5 l6 : Option Value} : pi_aload 7 nx cal Q lim K (l0 :: l1 :: l2 :: l3 :: l4 :: l5 :: l6 :: some (.ref a) :: ls) st G = K nx (l0 :: l1 :: l2 :: l3 :: l4 :: l5 :: l6 :: some (.ref a) :: ls) (.ref a :: st) G := rfl
theorem pe_astore_7 {l0 l1 l2 l3 l4 l5 l6 : Option Value} {o : Option Value} : pi_astore 7 nx cal Q lim K (l0 :: l1 :: l2 :: l3 :: l4 :: l5 :: l6 :: o :: ls) (.ref a :: st) G = K nx (l0 :: l1 :: l2 :: l3 :: l4 :: l5 :: l6 :: some (.ref a) :: ls) st G := rfl
theorem pe_iinc_7 {l0 l1 l2 l3 l4 l5 l6 : Option Value} : pi_iinc 7 y nx cal Q lim K (l0 :: l1 :: l2 :: l3 :: l4 :: l5 :: l6 :: some (.int x) :: ls) st G = K nx (l0 :: l1 :: l2 :: l3 :: l4 :: l5 :: l6 :: some (.int (x + y)) :: ls) st G := rfl
theorem pe_iload_8 {l0 l1 l2 l3 l4 l5 l6 l7 : Option Value} : pi_iload 8 nx cal Q lim K (l0 :: l1 :: l2 :: l3 :: l4 :: l5 :: l6 :: l7 :: some (.int x) :: ls) st G = K nx (l0 :: l1 :: l2 :: l3 :: l4 :: l5 :: l6 :: l7 :: some (.int x) :: ls) (.int x :: st) G := rfl
theorem pe_istore_8 {l0 l1 l2 l3 l4 l5 l6 l7 : Option Value} {o : Option Value} : pi_istore 8 nx cal Q lim K (l0 :: l1 :: l2 :: l3 :: l4 :: l5 :: l6 :: l7 :: o :: ls) (.int x :: st) G = K nx (l0 :: l1 :: l2 :: l3 :: l4 :: l5 :: l6 :: l7 :: some (.int x) :: ls) st G := rfl
theorem pe_aload_8 {l0 l1 l2 l3 l4 l5 l6 l7 : Option Value} : pi_aload 8 nx cal Q lim K (l0 :: l1 :: l2 :: l3 :: l4 :: l5 :: l6 :: l7 :: some (.ref a) :: ls) st G = K nx (l0 :: l1 :: l2 :: l3 :: l4 :: l5 :: l6 :: l7 :: some (.ref a) :: ls) (.ref a :: st) G := rfl
theorem pe_astore_8 {l0 l1 l2 l3 l4 l5 l6 l7 : Option Value} {o : Option Value} : pi_astore 8 nx cal Q lim K (l0 :: l1 :: l2 :: l3 :: l4 :: l5 :: l6 :: l7 :: o :: ls) (.ref a :: st) G = K nx (l0 :: l1 :: l2 :: l3 :: l4 :: l5 :: l6 :: l7 :: some (.ref a) :: ls) st G := rfl
theorem pe_iinc_8 {l0 l1 l2 l3 l4 l5 l6 l7 : Option Value} : pi_iinc 8 y nx cal Q lim K (l0 :: l1 :: l2 :: l3 :: l4 :: l5 :: l6 :: l7 :: some (.int x) :: ls) st G = K nx (l0 :: l1 :: l2 :: l3 :: l4 :: l5 :: l6 :: l7 :: some (.int (x + y)) :: ls) st G := rfl
theorem pe_iload_9 {l0 l1 l2 l3 l4 l5 l6 l7 l8 : Option Value} : pi_iload 9 nx cal Q lim K (l0 :: l1 :: l2 :: l3 :: l4 :: l5 :: l6 :: l7 :: l8 :: some (.int x) :: ls) st G = K nx (l0 :: l1 :: l2 :: l3 :: l4 :: l5 :: l6 :: l7 :: l8 :: some (.int x) :: ls) (.int x :: st) G := rfl
theorem pe_istore_9 {l0 l1 l2 l3 l4 l5 l6 l7 l8 : Option Value} {o : Option Value} : pi_istore 9 nx cal Q lim K (l0 :: l1 :: l2 :: l3 :: l4 :: l5 :: l6 :: l7 :: l8 :: o :: ls) (.int x :: st) G = K nx (l0 :: l1 :: l2 :: l3 :: l4 :: l5 :: l6 :: l7 :: l8 :: some (.int x) :: ls) st G := rfl
theorem pe_aload_9 {l0 l1 l2 l3 l4 l5 l6 l7 l8 : Option Value} : pi_aload 9 nx cal Q lim K (l0 :: l1 :: l2 :: l3 :: l4 :: l5 :: l6 :: l7 :: l8 :: some (.ref a) :: ls) st G = K nx (l0 :: l1 :: l2 :: l3 :: l4 :: l5 :: l6 :: l7 :: l8 :: some (.ref a) :: ls) (.ref a :: st) G := rfl
theorem pe_astore_9 {l0 l1 l2 l3 l4 l5 l6 l7 l8 : Option Value} {o : Option Value} : pi_astore 9 nx cal Q lim K (l0 :: l1 :: l2 :: l3 :: l4 :: l5 :: l6 :: l7 :: l8 :: o :: ls) (.ref a :: st) G = K nx (l0 :: l1 :: l2 :: l3 :: l4 :: l5 :: l6 :: l7 :: l8 :: some (.ref a) :: ls) st G := rfl
theorem pe_iinc_9 {l0 l1 l2 l3 l4 l5 l6 l7 l8 : Option Value} : pi_iinc 9 y nx cal Q lim K (l0 :: l1 :: l2 :: l3 :: l4 :: l5 :: l6 :: l7 :: l8 :: some (.int x) :: ls) st G = K nx (l0 :: l1 :: l2 :: l3 :: l4 :: l5 :: l6 :: l7 :: l8 :: some (.int (x + y)) :: ls) st G := rfl
theorem pe_iload_10 {l0 l1 l2 l3 l4 l5 l6 l7 l8 l9 : Option Value} : pi_iload 10 nx cal Q lim K (l0 :: l1 :: l2 :: l3 :: l4 :: l5 :: l6 :: l7 :: l8 :: l9 :: some (.int x) :: ls) st G = K nx (l0 :: l1 :: l2 :: l3 :: l4 :: l5 :: l6 :: l7 :: l8 :: l9 :: some (.int x) :: ls) (.int x :: st) G := rfl
theorem pe_istore_10 {l0 l1 l2 l3 l4 l5 l6 l7 l8 l9 : Option Value} {o : Option Value} : pi_istore 10 nx cal Q lim K (l0 :: l1 :: l2 :: l3 :: l4 :: l5 :: l6 :: l7 :: l8 :: l9 :: o :: ls) (.int x :: st) G = K nx (l0 :: l1 :: l2 :: l3 :: l4 :: l5 :: l6 :: l7 :: l8 :: l9 :: some (.int x) :: ls) st G := rfl
theorem pe_aload_10 {l0 l1 l2 l3 l4 l5 l6 l7 l8 l9 : Option Value} : pi_aload 10 nx cal Q lim K (l0 :: l1 :: l2 :: l3 :: l4 :: l5 :: l6 :: l7 :: l8 :: l9 :: some (.ref a) :: ls) st G = K nx (l0 :: l1 :: l2 :: l3 :: l4 :: l5 :: l6 :: l7 :: l8 :: l9 :: some (.ref a) :: ls) (.ref a :: st) G := rfl
theorem pe_astore_10 {l0 l1 l2 l3 l4 l5 l6 l7 l8 l9 : Option Value} {o : Option Value} : pi_astore 10 nx cal Q lim K (l0 :: l1 :: l2 :: l3 :: l4 :: l5 :: l6 :: l7 :: l8 :: l9 :: o :: ls) (.ref a :: st) G = K nx (l0 :: l1 :: l2 :: l3 :: l4 :: l5 :: l6 :: l7 :: l8 :: l9 :: some (.ref a) :: ls) st G := rfl
theorem pe_iinc_10 {l0 l1 l2 l3 l4 l5 l6 l7 l8 l9 : Option Value} : pi_iinc 10 y nx cal Q lim K (l0 :: l1 :: l2 :: l3 :: l4 :: l5 :: l6 :: l7 :: l8 :: l9 :: some (.int x) :: ls) st G = K nx (l0 :: l1 :: l2 :: l3 :: l4 :: l5 :: l6 :: l7 :: l8 :: l9 :: some (.int (x + y)) :: ls) st G := rfl
theorem pe_iload_11 {l0 l1 l2 l3 l4 l5 l6 l7 l8 l9 l10 : Option Value} : pi_iload 11 nx cal Q lim K (l0 :: l1 :: l2 :: l3 :: l4 :: l5 :: l6 :: l7 :: l8 :: l9 :: l10 :: some (.int x) :: ls) st G = K nx (l0 :: l1 :: l2 :: l3 :: l4 :: l5 :: l6 :: l7 :: l8 :: l9 :: l10 :: some (.int x) :: ls) (.int x :: st) G := rfl
theorem pe_istore_11 {l0 l1 l2 l3 l4 l5 l6 l7 l8 l9 l10 : Option Value} {o : Option Value} : pi_istore 11 nx cal Q lim K (l0 :: l1 :: l2 :: l3 :: l4 :: l5 :: l6 :: l7 :: l8 :: l9 :: l10 :: o :: ls) (.int x :: st) G = K nx (l0 :: l1 :: l2 :: l3 :: l4 :: l5 :: l6 :: l7 :: l8 :: l9 :: l10 :: some (.int x) :: ls) st G := rfl
theorem pe_aload_11 {l0 l1 l2 l3 l4 l5 l6 l7 l8 l9 l10 : Option Value} : pi_aload 11 nx cal Q lim K (l0 :: l1 :: l2 :: l3 :: l4 :: l5 :: l6 :: l7 :: l8 :: l9 :: l10 :: some (.ref a) :: ls) st G = K nx (l0 :: l1 :: l2 :: l3 :: l4 :: l5 :: l6 :: l7 :: l8 :: l9 :: l10 :: some (.ref a) :: ls) (.ref a :: st) G := rfl
theorem pe_astore_11 {l0 l1 l2 l3 l4 l5 l6 l7 l8 l9 l10 : Option Value} {o : Option Value} : pi_astore 11 nx cal Q lim K (l0 :: l1 :: l2 :: l3 :: l4 :: l5 :: l6 :: l7 :: l8 :: l9 :: l10 :: o :: ls) (.ref a :: st) G = K nx (l0 :: l1 :: l2 :: l3 :: l4 :: l5 :: l6 :: l7 :: l8 :: l9 :: l10 :: some (.ref a) :: ls) st G := rfl
theorem pe_iinc_11 {l0 l1 l2 l3 l4 l5 l6 l7 l8 l9 l10 : Option Value} : pi_iinc 11 y nx cal Q lim K (l0 :: l1 :: l2 :: l3 :: l4 :: l5 :: l6 :: l7 :: l8 :: l9 :: l10 :: some (.int x) :: ls) st G = K nx (l0 :: l1 :: l2 :: l3 :: l4 :: l5 :: l6 :: l7 :: l8 :: l9 :: l10 :: some (.int (x + y)) :: ls) st G := rfl
theorem pe_iload_12 {l0 l1 l2 l3 l4 l5 l6 l7 l8 l9 l10 l11 : Option Value} : pi_iload 12 nx cal Q lim K (l0 :: l1 :: l2 :: l3 :: l4 :: l5 :: l6 :: l7 :: l8 :: l9 :: l10 :: l11 :: some (.int x) :: ls) st G = K nx (l0 :: l1 :: l2 :: l3 :: l4 :: l5 :: l6 :: l7 :: l8 :: l9 :: l10 :: l11 :: some (.int x) :: ls) (.int x :: st) G := rfl
theorem pe_istore_12 {l0 l1 l2 l3 l4 l5 l6 l7 l8 l9 l10 l11 : Option Value} {o : Option Value} : pi_istore 12 nx cal Q lim K (l0 :: l1 :: l2 :: l3 :: l4 :: l5 :: l6 :: l7 :: l8 :: l9 :: l10 :: l11 :: o :: ls) (.int x :: st) G = K nx (l0 :: l1 :: l2 :: l3 :: l4 :: l5 :: l6 :: l7 :: l8 :: l9 :: l10 :: l11 :: some (.int x) :: ls) st G := rfl
theorem pe_aload_12 {l0 l1 l2 l3 l4 l5 l6 l7 l8 l9 l10 l11 : Option Value} : pi_aload 12 nx cal Q lim K (l0 :: l1 :: l2 :: l3 :: l4 :: l5 :: l6 :: l7 :: l8 :: l9 :: l10 :: l11 :: some (.ref a) :: ls) st G = K nx (l0 :: l1 :: l2 :: l3 :: l4 :: l5 :: l6 :: l7 :: l8 :: l9 :: l10 :: l11 :: some (.ref a) :: ls) (.ref a :: st) G := rfl
theorem pe_astore_12 {l0 l1 l2 l3 l4 l5 l6 l7 l8 l9 l10 l11 : Option Value} {o : Option Value} : pi_astore 12 nx cal Q lim K (l0 :: l1 :: l2 :: l3 :: l4 :: l5 :: l6 :: l7 :: l8 :: l9 :: l10 :: l11 :: o :: ls) (.ref a :: st) G = K nx (l0 :: l1 :: l2 :: l3 :: l4 :: l5 :: l6 :: l7 :: l8 :: l9 :: l10 :: l11 :: some (.ref a) :: ls) st G := rfl
theorem pe_iinc_12 {l0 l1 l2 l3 l4 l5 l6 l7 l8 l9 l10 l11 : Option Value} : pi_iinc 12 y nx cal Q lim K (l0 :: l1 :: l2 :: l3 :: l4 :: l5 :: l6 :: l7 :: l8 :: l9 :: l10 :: l11 :: some (.int x) :: ls) st G = K nx (l0 :: l1 :: l2 :: l3 :: l4 :: l5 :: l6 :: l7 :: l8 :: l9 :: l10 :: l11 :: some (.int (x + y)) :: ls) st G := rfl
theorem pe_lload_0 : pi_lload 0 nx cal Q lim K (some (.long u) :: ls) st G = K nx (some (.long u) :: ls) (.long u :: st) G := rfl
theorem pe_lload_1 {l0 : Option Value} : pi_lload 1 nx cal Q lim K (l0 :: some (.long u) :: ls) st G = K nx (l0 :: some (.long u) :: ls) (.long u :: st) G := rfl
theorem pe_lload_2 {l0 l1 : Option Value} : pi_lload 2 nx cal Q lim K (l0 :: l1 :: some (.long u) :: ls) st G = K nx (l0 :: l1 :: some (.long u) :: ls) (.long u :: st) G := rfl
theorem pe_lload_3 {l0 l1 l2 : Option Value} : pi_lload 3 nx cal Q lim K (l0 :: l1 :: l2 :: some (.long u) :: ls) st G = K nx (l0 :: l1 :: l2 :: some (.long u) :: ls) (.long u :: st) G := rfl
theorem pe_lload_4 {l0 l1 l2 l3 : Option Value} : pi_lload 4 nx cal Q lim K (l0 :: l1 :: l2 :: l3 :: some (.long u) :: ls) st G = K nx (l0 :: l1 :: l2 :: l3 :: some (.long u) :: ls) (.long u :: st) G := rfl
theorem pe_lstore_3 {l0 l1 l2 o o2 : Option Value} : pi_lstore 3 nx cal Q lim K (l0 :: l1 :: l2 :: o :: o2 :: ls) (.long u :: st) G = K nx (l0 :: l1 :: l2 :: some (.long u) :: none :: ls) st G := rfl
theorem pe_bin {f : Int32 → Int32 → Int32} : pi_bin f nx cal Q lim K ls (.int y :: .int x :: st) G = K nx ls (.int (f x y) :: st) G := rfl
theorem pe_idiv : pi_idiv nx cal Q lim K ls (.int y :: .int x :: st) G = (¬ y = 0 ∧ K nx ls (.int (x / y) :: st) G) := rfl
theorem pe_irem : pi_irem nx cal Q lim K ls (.int y :: .int x :: st) G = (¬ y = 0 ∧ K nx ls (.int (x - x / y * y) :: st) G) := rfl
theorem pe_lbin {f : Int64 → Int64 → Int64} : pi_lbin f nx cal Q lim K ls (.long v :: .long u :: st) G = K nx ls (.long (f u v) :: st) G := rfl
theorem pe_lrem : pi_lrem nx cal Q lim K ls (.long v :: .long u :: st) G = (¬ v = 0 ∧ K nx ls (.long (u - u / v * v) :: st) G) := rfl
theorem pe_lcmp : pi_lcmp nx cal Q lim K ls (.long v :: .long u :: st) G = K nx ls (.int (lg_cmp u v) :: st) G := rfl
theorem pe_lsh {f : Int64 → Int32 → Int64} : pi_lsh f nx cal Q lim K ls (.int y :: .long u :: st) G = K nx ls (.long (f u y) :: st) G := rfl
theorem pe_i2l : pi_i2l nx cal Q lim K ls (.int x :: st) G = K nx ls (.long x.toInt64 :: st) G := rfl
theorem pe_l2i : pi_l2i nx cal Q lim K ls (.long u :: st) G = K nx ls (.int u.toInt32 :: st) G := rfl
theorem pe_dup_r : pi_dup nx cal Q lim K ls (.ref a :: st) G = K nx ls (.ref a :: .ref a :: st) G := by simp [pi_dup, Value.category]
theorem pe_dup_i : pi_dup nx cal Q lim K ls (.int x :: st) G = K nx ls (.int x :: .int x :: st) G := by simp [pi_dup, Value.category]
theorem pe_dup2_ir : pi_dup2 nx cal Q lim K ls (.int x :: .ref a :: st) G = K nx ls (.int x :: .ref a :: .int x :: .ref a :: st) G := by simp [pi_dup2, Value.category]
theorem pe_pop_i : pi_pop nx cal Q lim K ls (.int x :: st) G = K nx ls st G := by simp [pi_pop, Value.category]
theorem pe_ifeq : pi_ifeq t nx cal Q lim K ls (.int x :: st) G = (if x = 0 then K t ls st G else K nx ls st G) := rfl
theorem pe_iflt : pi_iflt t nx cal Q lim K ls (.int x :: st) G = (if x < 0 then K t ls st G else K nx ls st G) := rfl
theorem pe_ifgt : pi_ifgt t nx cal Q lim K ls (.int x :: st) G = (if 0 < x then K t ls st G else K nx ls st G) := rfl
theorem pe_iceq : pi_iceq t nx cal Q lim K ls (.int y :: .int x :: st) G = (if x = y then K t ls st G else K nx ls st G) := rfl
theorem pe_iclt : pi_iclt t nx cal Q lim K ls (.int y :: .int x :: st) G = (if x < y then K t ls st G else K nx ls st G) := rfl
theorem pe_icgt : pi_icgt t nx cal Q lim K ls (.int y :: .int x :: st) G = (if y < x then K t ls st G else K nx ls st G) := rfl
theorem pe_goto : pi_goto t cal Q lim K ls st G = K t ls st G := rfl
theorem pe_switch {tab : List (Int32 × Nat)} : pi_switch tab t cal Q lim K ls (.int x :: st) G = K (px_sw x tab t) ls st G := rfl
theorem pe_getf {ci k : Nat} : pi_getf ci k nx cal Q lim K ls (.ref a :: st) G = pgf (hget G a) ci k (fun w => K nx ls (w :: st) G) := rfl
theorem pe_putf {ci k : Nat} {w : Value} : pi_putf ci k t nx cal Q lim K ls (w :: .ref a :: st) G = pput (hget G a) ci k t w (fun e => K nx ls st (hset G a e)) := rfl
theorem pe_gets : pi_gets nx cal Q lim K ls st G = K nx ls (.ref 1 :: st) G := rfl
theorem pe_iald : pi_iald nx cal Q lim K ls (.int x :: .ref a :: st) G = plda (hget G a) x (fun z => K nx ls (.int z :: st) G) := rfl
theorem pe_iast : pi_iast nx cal Q lim K ls (.int y :: .int x :: .ref a :: st) G = psta (hget G a) x y (fun e => K nx ls st (hset G a e)) := rfl
theorem pe_zald : pi_zald nx cal Q lim K ls (.int x :: .ref a :: st) G = pldz (hget G a) x (fun z => K nx ls (.int z :: st) G) := rfl
theorem pe_zast : pi_zast nx cal Q lim K ls (.int y :: .int x :: .ref a :: st) G = pstz (hget G a) x y (fun e => K nx ls st (hset G a e)) := rfl
theorem pe_aald : pi_aald nx cal Q lim K ls (.int x :: .ref a :: st) G = pldr (hget G a) x (fun q => K nx ls (.ref q :: st) G) := rfl
theorem pe_aast : pi_aast nx cal Q lim K ls (.ref b :: .int x :: .ref a :: st) G = pstr (hget G a) (hget G b) x b (fun e => K nx ls st (hset G a e)) := rfl
theorem pe_alen : pi_alen nx cal Q lim K ls (.ref a :: st) G = plen (hget G a) (fun z => K nx ls (.int z :: st) G) := rfl
theorem pe_new {ci N : Nat} {fs : List Value} : pi_new ci N fs nx cal Q lim K ls st G = (G.1 + 1 ≤ lim.1 ∧ G.2.1 + N ≤ lim.2 ∧ K nx ls (.ref (G.1 + 2) :: st) (hnew G N (.inr (.inr (ci, fs))))) := rfl
theorem pe_newa : pi_newa t nx cal Q lim K ls (.int x :: st) G = (¬ x < 0 ∧ x.toNatClampNeg ≤ 100000 ∧ G.1 + 1 ≤ lim.1 ∧ G.2.1 + x.toNatClampNeg ≤ lim.2 ∧ K nx ls (.ref (G.1 + 2) :: st) (hnew G x.toNatClampNeg (.inl (t, x.toNatClampNeg, fun _ => 0)))) := rfl
theorem pe_anew : pi_anew nx cal Q lim K ls (.int x :: st) G = (¬ x < 0 ∧ x.toNatClampNeg ≤ 100000 ∧ G.1 + 1 ≤ lim.1 ∧ G.2.1 + x.toNatClampNeg ≤ lim.2 ∧ K nx ls (.ref (G.1 + 2) :: st) (hnew G x.toNatClampNeg (.inr (.inl (x.toNatClampNeg, fun _ => none))))) := rfl
theorem pe_oini : pi_oini nx cal Q lim K ls (.ref a :: st) G = (st.length ≤ 4 ∧ K nx ls st G) := rfl
theorem pe_mmax : pi_mmax nx cal Q lim K ls (.int y :: .int x :: st) G = (st.length ≤ 4 ∧ K nx ls (.int (if x < y then y else x) :: st) G) := rfl
theorem pe_mmin : pi_mmin nx cal Q lim K ls (.int y :: .int x :: st) G = (st.length ≤ 4 ∧ K nx ls (.int (if y < x then y else x) :: st) G) := rfl
theorem pe_mabs : pi_mabs nx cal Q lim K ls (.int x :: st) G = (st.length ≤ 4 ∧ K nx ls (.int (if 0 ≤ x then x else 0 - x) :: st) G) := rfl
theorem pe_callV_0 {y ci : Nat} : pi_callV y 0 ci nx cal Q lim K ls (.ref a :: st) G = (st.length ≤ 4 ∧ pobj (hget G a) ci (cal y [.ref a] G (fun w G2 => K nx ls (w.toList ++ st) G2))) := by
  simp only [pi_callV, List.length_cons, List.take_succ_cons, List.take_zero, List.reverse_cons, List.reverse_nil, List.nil_append, List.cons_append, List.drop_succ_cons, List.drop_zero, pobj]
  simp
theorem pe_callV_1 {w0 : Value} {y ci : Nat} : pi_callV y 1 ci nx cal Q lim K ls (w0 :: .ref a :: st) G = (st.length ≤ 4 ∧ pobj (hget G a) ci (cal y [.ref a, w0] G (fun w G2 => K nx ls (w.toList ++ st) G2))) := by
  simp only [pi_callV, List.length_cons, List.take_succ_cons, List.take_zero, List.reverse_cons, List.reverse_nil, List.nil_append, List.cons_append, List.drop_succ_cons, List.drop_zero, pobj]
  simp
theorem pe_callS_1 {w0 : Value} {y : Nat} : pi_callS y 1 nx cal Q lim K ls (w0 :: st) G = (st.length ≤ 4 ∧ cal y [w0] G (fun w G2 => K nx ls (w.toList ++ st) G2)) := by
  simp only [pi_callS, List.length_cons, List.take_succ_cons, List.take_zero, List.reverse_cons, List.reverse_nil, List.nil_append, List.cons_append, List.drop_succ_cons, List.drop_zero]
  simp
theorem pe_callV_2 {w0 w1 : Value} {y ci : Nat} : pi_callV y 2 ci nx cal Q lim K ls (w1 :: w0 :: .ref a :: st) G = (st.length ≤ 4 ∧ pobj (hget G a) ci (cal y [.ref a, w0, w1] G (fun w G2 => K nx ls (w.toList ++ st) G2))) := by
  simp only [pi_callV, List.length_cons, List.take_succ_cons, List.take_zero, List.reverse_cons, List.reverse_nil, List.nil_append, List.cons_append, List.drop_succ_cons, List.drop_zero, pobj]
  simp
theorem pe_callS_2 {w0 w1 : Value} {y : Nat} : pi_callS y 2 nx cal Q lim K ls (w1 :: w0 :: st) G = (st.length ≤ 4 ∧ cal y [w0, w1] G (fun w G2 => K nx ls (w.toList ++ st) G2)) := by
  simp only [pi_callS, List.length_cons, List.take_succ_cons, List.take_zero, List.reverse_cons, List.reverse_nil, List.nil_append, List.cons_append, List.drop_succ_cons, List.drop_zero]
  simp
theorem pe_callV_3 {w0 w1 w2 : Value} {y ci : Nat} : pi_callV y 3 ci nx cal Q lim K ls (w2 :: w1 :: w0 :: .ref a :: st) G = (st.length ≤ 4 ∧ pobj (hget G a) ci (cal y [.ref a, w0, w1, w2] G (fun w G2 => K nx ls (w.toList ++ st) G2))) := by
  simp only [pi_callV, List.length_cons, List.take_succ_cons, List.take_zero, List.reverse_cons, List.reverse_nil, List.nil_append, List.cons_append, List.drop_succ_cons, List.drop_zero, pobj]
  simp
theorem pe_callS_3 {w0 w1 w2 : Value} {y : Nat} : pi_callS y 3 nx cal Q lim K ls (w2 :: w1 :: w0 :: st) G = (st.length ≤ 4 ∧ cal y [w0, w1, w2] G (fun w G2 => K nx ls (w.toList ++ st) G2)) := by
  simp only [pi_callS, List.length_cons, List.take_succ_cons, List.take_zero, List.reverse_cons, List.reverse_nil, List.nil_append, List.cons_append, List.drop_succ_cons, List.drop_zero]
  simp
theorem pe_callV_4 {w0 w1 w2 w3 : Value} {y ci : Nat} : pi_callV y 4 ci nx cal Q lim K ls (w3 :: w2 :: w1 :: w0 :: .ref a :: st) G = (st.length ≤ 4 ∧ pobj (hget G a) ci (cal y [.ref a, w0, w1, w2, w3] G (fun w G2 => K nx ls (w.toList ++ st) G2))) := by
  simp only [pi_callV, List.length_cons, List.take_succ_cons, List.take_zero, List.reverse_cons, List.reverse_nil, List.nil_append, List.cons_append, List.drop_succ_cons, List.drop_zero, pobj]
  simp
theorem pe_callS_4 {w0 w1 w2 w3 : Value} {y : Nat} : pi_callS y 4 nx cal Q lim K ls (w3 :: w2 :: w1 :: w0 :: st) G = (st.length ≤ 4 ∧ cal y [w0, w1, w2, w3] G (fun w G2 => K nx ls (w.toList ++ st) G2)) := by
  simp only [pi_callS, List.length_cons, List.take_succ_cons, List.take_zero, List.reverse_cons, List.reverse_nil, List.nil_append, List.cons_append, List.drop_succ_cons, List.drop_zero]
  simp
theorem pe_callI_0 {y mc ms : Nat} : pi_callI y 0 mc ms nx cal Q lim K ls (.ref a :: st) G = (st.length ≤ 4 ∧ G.1 + mc ≤ lim.1 ∧ G.2.1 + ms ≤ lim.2 ∧ cal y [.ref a] G (fun w G2 => G2.1 = G.1 + mc ∧ G2.2.1 = G.2.1 + ms ∧ K nx ls (w.toList ++ st) G2)) := by
  simp [pi_callI]
theorem pe_iret : pi_iret cal Q lim K ls [.int x] G = Q (some (.int x)) G := rfl
theorem pe_zret : pi_zret cal Q lim K ls [.int x] G = ((x = 0 ∨ x = 1) ∧ Q (some (.int x)) G) := rfl
theorem pe_lret : pi_lret cal Q lim K ls [.long u] G = Q (some (.long u)) G := rfl
theorem pe_vret : pi_vret cal Q lim K ls [] G = Q none G := rfl
end PE
theorem pgf_0 {c : Nat} {w : Value} {r : List Value} {f : Value → Prop} : pgf (some (.inr (.inr (c, w :: r)))) c 0 f = f w := by simp [pgf]
theorem pgf_s {c k : Nat} {w : Value} {r : List Value} {f : Value → Prop} : pgf (some (.inr (.inr (c, w :: r)))) c (k + 1) f = pgf (some (.inr (.inr (c, r)))) c k f := by simp [pgf]
theorem pobj_e {c : Nat} {fs : List Value} {f : Prop} : pobj (some (.inr (.inr (c, fs)))) c f = f := by simp [pobj, ppf]
theorem plda_0 {n : Nat} {g : Nat → Int32} {i : Int32} {f : Int32 → Prop} : plda (some (.inl (0, n, g))) i f = (vp_in i n ∧ f (g i.toNatClampNeg)) := by simp [plda, pia]
theorem plda_2 {n : Nat} {g : Nat → Int32} {i : Int32} {f : Int32 → Prop} : plda (some (.inl (2, n, g))) i f = (vp_in i n ∧ f (g i.toNatClampNeg)) := by simp [plda, pia]
theorem psta_0 {n : Nat} {g : Nat → Int32} {i x : Int32} {f : px_E → Prop} : psta (some (.inl (0, n, g))) i x f = (vp_in i n ∧ f (.inl (0, n, upd g i.toNatClampNeg x))) := by simp [psta, pia]
theorem pldz_1 {n : Nat} {g : Nat → Int32} {i : Int32} {f : Int32 → Prop} : pldz (some (.inl (1, n, g))) i f = (vp_in i n ∧ f (g i.toNatClampNeg)) := by simp [pldz, pia]
theorem pstz_1 {n : Nat} {g : Nat → Int32} {i x : Int32} {f : px_E → Prop} : pstz (some (.inl (1, n, g))) i x f = (vp_in i n ∧ f (.inl (1, n, upd g i.toNatClampNeg (x &&& 1)))) := by simp [pstz, pia]
theorem plen_e {t n : Nat} {g : Nat → Int32} {f : Int32 → Prop} : plen (some (.inl (t, n, g))) f = f (Int32.ofNat n) := rfl
theorem pldr_e {n : Nat} {g : Nat → Option Nat} {i : Int32} {f : Nat → Prop} {q : Nat} (h : g i.toNatClampNeg = some q) : pldr (some (.inr (.inl (n, g)))) i f = (vp_in i n ∧ f q) := by simp [pldr, par, h]
theorem pstr_e {n : Nat} {g : Nat → Option Nat} {i : Int32} {v : Nat} {fs : List Value} {f : px_E → Prop} : pstr (some (.inr (.inl (n, g)))) (some (.inr (.inr (3, fs)))) i v f = (vp_in i n ∧ f (.inr (.inl (n, va_up g i.toNatClampNeg (some v))))) := by simp [pstr, par, ppf]
theorem pput_i {c k : Nat} {fs : List Value} {x : Int32} {f : px_E → Prop} (h : k < fs.length) : pput (some (.inr (.inr (c, fs)))) c k 0 (.int x) f = f (.inr (.inr (c, fs.set k (.int x)))) := by simp [pput, ppf, pfit, h]
theorem pput_l {c k : Nat} {fs : List Value} {x : Int64} {f : px_E → Prop} (h : k < fs.length) : pput (some (.inr (.inr (c, fs)))) c k 1 (.long x) f = f (.inr (.inr (c, fs.set k (.long x)))) := by simp [pput, ppf, pfit, h]
theorem pput_r {c k : Nat} {fs : List Value} {x : Nat} {f : px_E → Prop} (h : k < fs.length) : pput (some (.inr (.inr (c, fs)))) c k 2 (.ref x) f = f (.inr (.inr (c, fs.set k (.ref x)))) := by simp [pput, ppf, pfit, h]
