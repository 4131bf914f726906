/-! ===== each plain instruction is borne out by the machine ===== -/
def px_T : List Cond := lw_tbl.filter goodWord
theorem px_T_good {ls : List Cond} (h : ∀ w ∈ ls, w ∈ px_T) : GoodIn px_T ls := fun w hw => ⟨h w hw, good_of_word (List.mem_filter.mp (h w hw)).2⟩
/-- name, bytes, locals, return, cells and slots made -/
abbrev px_D : Type := MethodName × ByteArray × Nat × Option FieldType × Nat × Nat
def px_ws (q : px_D) : List Cond := Cond.code q.1 q.2.1 q.2.2.1 q.2.2.2.1 :: px_T
def px_rm (d : Nat) (q : px_D) : Room := { frames := d + 3, cells := q.2.2.2.2.1, slots := q.2.2.2.2.2, locals := 60 * (d + 3) }
def px_Pc (Y : px_Y) (as : List Value) (G : px_H) : Array Value → State → Prop := fun v U => v = (as.map (px_mv Y)).toArray ∧ px_B Y U U.heap ∧ px_R Y G U.heap
def px_Qc (Y : px_Y) (G : px_H) (Q : px_Q) (mc ms : Nat) : Array Value → State → Outcome → State → Prop := fun _ st oc t =>
  (∃ (v : Option Value) (G' : px_H), oc = .returned (v.map (px_mv Y)) ∧ Q v G' ∧ px_R Y G' t.heap ∧ G'.1 = G.1 + mc ∧ G'.2.1 = G.2.1 + ms) ∧ va_F (px_A Y) st t
def px_ok (l : Launch) (Y : px_Y) (mt : Nat → px_D) (d : Nat) (cal : px_C) : Prop := ∀ (y : Nat) (as : List Value) (G : px_H) (Q : px_Q),
  (((mt y).2.2.2.2.1 = 0 ∧ (mt y).2.2.2.2.2 = 0) ∨ ∀ v G', Q v G' → G'.1 = G.1 + (mt y).2.2.2.2.1 ∧ G'.2.1 = G.2.1 + (mt y).2.2.2.2.2) → cal y as G Q →
  Met l (mt y).1 (px_ws (mt y)) (px_rm d (mt y)) (px_Pc Y as G) (px_Qc Y G Q (mt y).2.2.2.2.1 (mt y).2.2.2.2.2) (mt y).2.2.2.2.1 (mt y).2.2.2.2.2 (px_A Y)
section PXS
variable (p : Program) (l : Launch) (e : Env) (R : Room) (s : State) (m : MethodId) (args : Array Value) (below : List Frame) (meth : Method) (c : Code) (Y : px_Y) (cc : ByteArray) (own : String) (nL : Nat) (lok : List Nat) (rt : Option FieldType) (ini al : Bool) (n0 s0 : Nat) (Qf : State → Prop)
/-- the walk's goal at a plain state -/
def px_W : px_K := fun pc ls st G =>
  ∀ (H : Heap) (locs : List Loc) (cells slots : Nat) (sl : Array Slot), px_R Y G H → va_S (px_A Y) s.heap H locs → G.1 = n0 + cells → G.2.1 = s0 + slots → cells ≤ R.cells → slots ≤ R.slots → (al = false → cells = 0 ∧ slots = 0) → px_lc Y nL lok sl ls →
    W p l e R s m args below meth c H locs cells slots Qf (F0 m pc sl (st.map (px_mv Y)))
def px_N : Prop := p.tables.exec = Jvm.exec ∧ c.code = cc ∧ c.maxLocals = nL ∧ s.vm.findClass own = some m.cls ∧ (∀ w ∈ px_T, w.before args s = true) ∧ (ini = true → meth.name = "<init>") ∧ px_B Y s s.heap
def px_ret (Q : px_Q) : Prop :=
  (∀ (x : Int32) (pc : Nat) (ls : px_L) (G : px_H), rt = some .int → decode cc pc = .ok (.ireturn, 1) → Q (some (.int x)) G → px_W p l e R s m args below meth c Y nL lok al n0 s0 Qf pc ls [.int x] G) ∧
  (∀ (x : Int32) (pc : Nat) (ls : px_L) (G : px_H), rt = some .boolean → (x = 0 ∨ x = 1) → decode cc pc = .ok (.ireturn, 1) → Q (some (.int x)) G → px_W p l e R s m args below meth c Y nL lok al n0 s0 Qf pc ls [.int x] G) ∧
  (∀ (x : Int64) (pc : Nat) (ls : px_L) (G : px_H), rt = some .long → decode cc pc = .ok (.lreturn, 1) → Q (some (.long x)) G → px_W p l e R s m args below meth c Y nL lok al n0 s0 Qf pc ls [.long x] G) ∧
  (∀ (pc : Nat) (ls : px_L) (G : px_H), rt = none → decode cc pc = .ok (.return_, 1) → Q none G → px_W p l e R s m args below meth c Y nL lok al n0 s0 Qf pc ls [] G)
end PXS
/-- an instruction at its place: from what it asks, the machine comes on -/
def px_S (mt : Nat → px_D) (cc : ByteArray) (own : String) (nL : Nat) (lok : List Nat) (rt : Option FieldType) (ini al : Bool) (pc : Nat) (i : px_I) : Prop :=
  ∀ (p : Program) (l : Launch) (e : Env) (R : Room) (s : State) (m : MethodId) (args : Array Value) (below : List Frame) (meth : Method) (c : Code) (Y : px_Y) (n0 s0 d : Nat) (Qf : State → Prop) (cal : px_C) (Q : px_Q) (lim : Nat × Nat) (K : px_K),
    px_N p s m args meth c Y cc own nL ini → px_ok l Y mt d cal → d + 4 ≤ R.frames → 60 * (d + 4) ≤ R.locals → lim.1 ≤ n0 + R.cells → lim.2 ≤ s0 + R.slots → px_ret p l e R s m args below meth c Y cc nL lok rt al n0 s0 Qf Q →
    (∀ pc ls st G, K pc ls st G → px_W p l e R s m args below meth c Y nL lok al n0 s0 Qf pc ls st G) → ∀ (ls : px_L) (st : List Value) (G : px_H), i cal Q lim K ls st G → px_W p l e R s m args below meth c Y nL lok al n0 s0 Qf pc ls st G
theorem px_cats {Y : px_Y} : ∀ (r : List Value), ((r.map (px_mv Y)).map fun v => v.category).sum ≤ 2 * r.length
  | [] => by simp
  | v :: r => by
    have h := px_cats (Y := Y) r
    have h1 : (px_mv Y v).category ≤ 2 := by rcases lv_cat (px_mv Y v) with q | q <;> omega
    simp only [List.map_cons, List.sum_cons, List.length_cons]
    omega
theorem px_room {Y : px_Y} {m : MethodId} {pc : Nat} {sl : Array Slot} {st : List Value} {r : List Value} (h : r.length ≤ 4) : 2 * (F0 m pc sl st).monitorRoom + ((r.map (px_mv Y)).map fun v => v.category).sum ≤ 8 := lv_room (Nat.le_trans (px_cats r) (by omega))
theorem px_blind {Y : px_Y} {as : List Value} {G : px_H} : FrameBlind (px_Pc Y as G) := fun _ _ _ _ h => ⟨h.1, h.2.1.calling, h.2.2⟩
section PXI
variable {mt : Nat → px_D} {cc : ByteArray} {own : String} {nL : Nat} {lok : List Nat} {rt : Option FieldType} {ini al : Bool} {pc : Nat}

theorem ps_stuck : px_S mt cc own nL lok rt ini al pc pi_stuck := by
  intro p l e R s m args below meth c Y n0 s0 d Qf cal Q lim K hN hok hfr hlo hl1 hl2 hret hK ls st G h H locs cells slots sl hR hS hc hs hcr hsr hal hlc
  exact h.elim
theorem ps_iconst {n : Int} {v : Int32} (hd : decode cc pc = .ok (.iconst n, 1)) (hv : Int32.ofInt n = v) : px_S mt cc own nL lok rt ini al pc (pi_const (.int v) (pc + 1)) := by
  intro p l e R s m args below meth c Y n0 s0 d Qf cal Q lim K hN hok hfr hlo hl1 hl2 hret hK ls st G h H locs cells slots sl hR hS hc hs hcr hsr hal hlc
  exact lv_iconst hN.1 hN.2.1 hd hv (hK _ _ _ _ h H locs cells slots sl hR hS hc hs hcr hsr hal hlc)
theorem ps_bipush {n : Int} {v : Int32} (hd : decode cc pc = .ok (.bipush n, 2)) (hv : (Int8.ofInt n).toInt32 = v) : px_S mt cc own nL lok rt ini al pc (pi_const (.int v) (pc + 2)) := by
  intro p l e R s m args below meth c Y n0 s0 d Qf cal Q lim K hN hok hfr hlo hl1 hl2 hret hK ls st G h H locs cells slots sl hR hS hc hs hcr hsr hal hlc
  exact lv_bipush hN.1 hN.2.1 hd hv (hK _ _ _ _ h H locs cells slots sl hR hS hc hs hcr hsr hal hlc)
theorem ps_sipush {n : Int} {v : Int32} (hd : decode cc pc = .ok (.sipush n, 3)) (hv : (Int16.ofInt n).toInt32 = v) : px_S mt cc own nL lok rt ini al pc (pi_const (.int v) (pc + 3)) := by
  intro p l e R s m args below meth c Y n0 s0 d Qf cal Q lim K hN hok hfr hlo hl1 hl2 hret hK ls st G h H locs cells slots sl hR hS hc hs hcr hsr hal hlc
  exact lv_sipush hN.1 hN.2.1 hd hv (hK _ _ _ _ h H locs cells slots sl hR hS hc hs hcr hsr hal hlc)
theorem ps_lconst {n : Fin 2} {v : Int64} (hd : decode cc pc = .ok (.lconst n, 1)) (hv : Int64.ofNat (n : Nat) = v) : px_S mt cc own nL lok rt ini al pc (pi_const (.long v) (pc + 1)) := by
  intro p l e R s m args below meth c Y n0 s0 d Qf cal Q lim K hN hok hfr hlo hl1 hl2 hret hK ls st G h H locs cells slots sl hR hS hc hs hcr hsr hal hlc
  exact lv_lconst hN.1 hN.2.1 hd hv (hK _ _ _ _ h H locs cells slots sl hR hS hc hs hcr hsr hal hlc)
theorem ps_ldcw {k : Nat} {v : Int32} (hd : decode cc pc = .ok (.ldc_w k, 3)) (hw : Cond.constant own k v ∈ px_T) : px_S mt cc own nL lok rt ini al pc (pi_const (.int v) (pc + 3)) := by
  intro p l e R s m args below meth c Y n0 s0 d Qf cal Q lim K hN hok hfr hlo hl1 hl2 hret hK ls st G h H locs cells slots sl hR hS hc hs hcr hsr hal hlc
  exact lv_ldcw hN.1 hN.2.1 hN.2.2.2.1 (hN.2.2.2.2.1 _ hw) hd (hK _ _ _ _ h H locs cells slots sl hR hS hc hs hcr hsr hal hlc)
theorem ps_ldc2 {k : Nat} {v : Int64} (hd : decode cc pc = .ok (.ldc2_w k, 3)) (hw : Cond.constantLong own k v ∈ px_T) : px_S mt cc own nL lok rt ini al pc (pi_const (.long v) (pc + 3)) := by
  intro p l e R s m args below meth c Y n0 s0 d Qf cal Q lim K hN hok hfr hlo hl1 hl2 hret hK ls st G h H locs cells slots sl hR hS hc hs hcr hsr hal hlc
  exact lv_ldc2 hN.1 hN.2.1 hN.2.2.2.1 (hN.2.2.2.2.1 _ hw) hd (hK _ _ _ _ h H locs cells slots sl hR hS hc hs hcr hsr hal hlc)
theorem ps_iload_n {k : Fin 4} (hd : decode cc pc = .ok (.iload_n k, 1)) : px_S mt cc own nL lok rt ini al pc (pi_iload k.val (pc + 1)) := by
  intro p l e R s m args below meth c Y n0 s0 d Qf cal Q lim K hN hok hfr hlo hl1 hl2 hret hK ls st G h H locs cells slots sl hR hS hc hs hcr hsr hal hlc
  unfold pi_iload at h
  split at h
  · rename_i x hx
    exact lv_iload_n hN.1 hN.2.1 hd rfl (hlc.at hx) (hK _ _ _ _ h H locs cells slots sl hR hS hc hs hcr hsr hal hlc)
  · exact h.elim
theorem ps_iload {k : Nat} (hd : decode cc pc = .ok (.iload k, 2)) : px_S mt cc own nL lok rt ini al pc (pi_iload k (pc + 2)) := by
  intro p l e R s m args below meth c Y n0 s0 d Qf cal Q lim K hN hok hfr hlo hl1 hl2 hret hK ls st G h H locs cells slots sl hR hS hc hs hcr hsr hal hlc
  unfold pi_iload at h
  split at h
  · rename_i x hx
    exact lv_iload hN.1 hN.2.1 hd (hlc.at hx) (hK _ _ _ _ h H locs cells slots sl hR hS hc hs hcr hsr hal hlc)
  · exact h.elim
theorem ps_aload_n {k : Fin 4} (hd : decode cc pc = .ok (.aload_n k, 1)) : px_S mt cc own nL lok rt ini al pc (pi_aload k.val (pc + 1)) := by
  intro p l e R s m args below meth c Y n0 s0 d Qf cal Q lim K hN hok hfr hlo hl1 hl2 hret hK ls st G h H locs cells slots sl hR hS hc hs hcr hsr hal hlc
  unfold pi_aload at h
  split at h
  · rename_i x hx
    exact lv_aload_n hN.1 hN.2.1 hd rfl (hlc.at hx) (hK _ _ _ _ h H locs cells slots sl hR hS hc hs hcr hsr hal hlc)
  · exact h.elim
theorem ps_aload {k : Nat} (hd : decode cc pc = .ok (.aload k, 2)) : px_S mt cc own nL lok rt ini al pc (pi_aload k (pc + 2)) := by
  intro p l e R s m args below meth c Y n0 s0 d Qf cal Q lim K hN hok hfr hlo hl1 hl2 hret hK ls st G h H locs cells slots sl hR hS hc hs hcr hsr hal hlc
  unfold pi_aload at h
  split at h
  · rename_i x hx
    exact lv_aload hN.1 hN.2.1 hd (hlc.at hx) (hK _ _ _ _ h H locs cells slots sl hR hS hc hs hcr hsr hal hlc)
  · exact h.elim
theorem ps_lload_n {k : Fin 4} (hd : decode cc pc = .ok (.lload_n k, 1)) : px_S mt cc own nL lok rt ini al pc (pi_lload k.val (pc + 1)) := by
  intro p l e R s m args below meth c Y n0 s0 d Qf cal Q lim K hN hok hfr hlo hl1 hl2 hret hK ls st G h H locs cells slots sl hR hS hc hs hcr hsr hal hlc
  unfold pi_lload at h
  split at h
  · rename_i x hx
    exact lv_lload_n hN.1 hN.2.1 hd rfl (hlc.at hx) (hK _ _ _ _ h H locs cells slots sl hR hS hc hs hcr hsr hal hlc)
  · exact h.elim
theorem ps_lload {k : Nat} (hd : decode cc pc = .ok (.lload k, 2)) : px_S mt cc own nL lok rt ini al pc (pi_lload k (pc + 2)) := by
  intro p l e R s m args below meth c Y n0 s0 d Qf cal Q lim K hN hok hfr hlo hl1 hl2 hret hK ls st G h H locs cells slots sl hR hS hc hs hcr hsr hal hlc
  unfold pi_lload at h
  split at h
  · rename_i x hx
    exact lv_lload hN.1 hN.2.1 hd (hlc.at hx) (hK _ _ _ _ h H locs cells slots sl hR hS hc hs hcr hsr hal hlc)
  · exact h.elim
theorem ps_istore_n {k : Fin 4} (hd : decode cc pc = .ok (.istore_n k, 1)) (hn : k.val < nL) (hk : ∀ j, j + 1 = k.val → j ∉ lok) : px_S mt cc own nL lok rt ini al pc (pi_istore k.val (pc + 1)) := by
  intro p l e R s m args below meth c Y n0 s0 d Qf cal Q lim K hN hok hfr hlo hl1 hl2 hret hK ls st G h H locs cells slots sl hR hS hc hs hcr hsr hal hlc
  unfold pi_istore at h
  split at h
  · exact lv_istore_n hN.1 hN.2.1 hd rfl hlc.2.1 hn rfl (fun ls2 hl2 => hK _ _ _ _ h H locs cells slots ls2 hR hS hc hs hcr hsr hal (hlc.store (v := .int _) hn hk rfl hl2))
  · exact h.elim
theorem ps_istore {k : Nat} (hd : decode cc pc = .ok (.istore k, 2)) (hn : k < nL) (hk : ∀ j, j + 1 = k → j ∉ lok) : px_S mt cc own nL lok rt ini al pc (pi_istore k (pc + 2)) := by
  intro p l e R s m args below meth c Y n0 s0 d Qf cal Q lim K hN hok hfr hlo hl1 hl2 hret hK ls st G h H locs cells slots sl hR hS hc hs hcr hsr hal hlc
  unfold pi_istore at h
  split at h
  · exact lv_istore hN.1 hN.2.1 hd hlc.2.1 hn rfl (fun ls2 hl2 => hK _ _ _ _ h H locs cells slots ls2 hR hS hc hs hcr hsr hal (hlc.store (v := .int _) hn hk rfl hl2))
  · exact h.elim
theorem ps_astore_n {k : Fin 4} (hd : decode cc pc = .ok (.astore_n k, 1)) (hn : k.val < nL) (hk : ∀ j, j + 1 = k.val → j ∉ lok) : px_S mt cc own nL lok rt ini al pc (pi_astore k.val (pc + 1)) := by
  intro p l e R s m args below meth c Y n0 s0 d Qf cal Q lim K hN hok hfr hlo hl1 hl2 hret hK ls st G h H locs cells slots sl hR hS hc hs hcr hsr hal hlc
  unfold pi_astore at h
  split at h
  · exact lv_astore_n hN.1 hN.2.1 hd rfl hlc.2.1 hn rfl (fun ls2 hl2 => hK _ _ _ _ h H locs cells slots ls2 hR hS hc hs hcr hsr hal (hlc.store (v := .ref _) hn hk rfl hl2))
  · exact h.elim
theorem ps_astore {k : Nat} (hd : decode cc pc = .ok (.astore k, 2)) (hn : k < nL) (hk : ∀ j, j + 1 = k → j ∉ lok) : px_S mt cc own nL lok rt ini al pc (pi_astore k (pc + 2)) := by
  intro p l e R s m args below meth c Y n0 s0 d Qf cal Q lim K hN hok hfr hlo hl1 hl2 hret hK ls st G h H locs cells slots sl hR hS hc hs hcr hsr hal hlc
  unfold pi_astore at h
  split at h
  · exact lv_astore hN.1 hN.2.1 hd hlc.2.1 hn rfl (fun ls2 hl2 => hK _ _ _ _ h H locs cells slots ls2 hR hS hc hs hcr hsr hal (hlc.store (v := .ref _) hn hk rfl hl2))
  · exact h.elim
theorem ps_lstore_n {k : Fin 4} (hd : decode cc pc = .ok (.lstore_n k, 1)) (hn : k.val + 1 < nL) (hk : ∀ j, j + 1 = k.val → j ∉ lok) (hi : k.val ∈ lok) : px_S mt cc own nL lok rt ini al pc (pi_lstore k.val (pc + 1)) := by
  intro p l e R s m args below meth c Y n0 s0 d Qf cal Q lim K hN hok hfr hlo hl1 hl2 hret hK ls st G h H locs cells slots sl hR hS hc hs hcr hsr hal hlc
  unfold pi_lstore at h
  split at h
  · exact lv_lstore_n hN.1 hN.2.1 hd rfl hlc.2.1 hn rfl (fun ls2 hl2 => hK _ _ _ _ h H locs cells slots ls2 hR hS hc hs hcr hsr hal (hlc.store2 (v := .long _) hn hk hi hl2))
  · exact h.elim
theorem ps_iinc {k : Nat} {n : Int} {v : Int32} (hd : decode cc pc = .ok (.iinc k n, 3)) (hv : Int32.ofInt n = v) (hn : k < nL) (hk : ∀ j, j + 1 = k → j ∉ lok) : px_S mt cc own nL lok rt ini al pc (pi_iinc k v (pc + 3)) := by
  intro p l e R s m args below meth c Y n0 s0 d Qf cal Q lim K hN hok hfr hlo hl1 hl2 hret hK ls st G h H locs cells slots sl hR hS hc hs hcr hsr hal hlc
  unfold pi_iinc at h
  split at h
  · rename_i x hx
    subst hv
    obtain ⟨q, hq⟩ := List.getElem?_of_mem (px_as_mem (Y := Y) (q := (k, .int x)) (ls := ls) (i := 0) |>.mpr ⟨k, .int x, lget_some.mp hx, by simp [px_mv]⟩)
    exact lv_iinc hN.1 hN.2.1 hd hlc.2.1 hq rfl hn rfl (fun ls2 hl2 => hK _ _ _ _ h H locs cells slots ls2 hR hS hc hs hcr hsr hal (hlc.store (v := .int _) hn hk rfl hl2))
  · exact h.elim
theorem ps_iadd (hd : decode cc pc = .ok (.iadd, 1)) : px_S mt cc own nL lok rt ini al pc (pi_bin (fun x y => x + y) (pc + 1)) := by
  intro p l e R s m args below meth c Y n0 s0 d Qf cal Q lim K hN hok hfr hlo hl1 hl2 hret hK ls st G h H locs cells slots sl hR hS hc hs hcr hsr hal hlc
  unfold pi_bin at h
  split at h
  · exact lv_iadd hN.1 hN.2.1 hd (hK _ _ _ _ h H locs cells slots sl hR hS hc hs hcr hsr hal hlc)
  · exact h.elim
theorem ps_isub (hd : decode cc pc = .ok (.isub, 1)) : px_S mt cc own nL lok rt ini al pc (pi_bin (fun x y => x - y) (pc + 1)) := by
  intro p l e R s m args below meth c Y n0 s0 d Qf cal Q lim K hN hok hfr hlo hl1 hl2 hret hK ls st G h H locs cells slots sl hR hS hc hs hcr hsr hal hlc
  unfold pi_bin at h
  split at h
  · exact lv_isub hN.1 hN.2.1 hd (hK _ _ _ _ h H locs cells slots sl hR hS hc hs hcr hsr hal hlc)
  · exact h.elim
theorem ps_imul (hd : decode cc pc = .ok (.imul, 1)) : px_S mt cc own nL lok rt ini al pc (pi_bin (fun x y => x * y) (pc + 1)) := by
  intro p l e R s m args below meth c Y n0 s0 d Qf cal Q lim K hN hok hfr hlo hl1 hl2 hret hK ls st G h H locs cells slots sl hR hS hc hs hcr hsr hal hlc
  unfold pi_bin at h
  split at h
  · exact lv_imul hN.1 hN.2.1 hd (hK _ _ _ _ h H locs cells slots sl hR hS hc hs hcr hsr hal hlc)
  · exact h.elim
theorem ps_iand (hd : decode cc pc = .ok (.iand, 1)) : px_S mt cc own nL lok rt ini al pc (pi_bin (fun x y => x &&& y) (pc + 1)) := by
  intro p l e R s m args below meth c Y n0 s0 d Qf cal Q lim K hN hok hfr hlo hl1 hl2 hret hK ls st G h H locs cells slots sl hR hS hc hs hcr hsr hal hlc
  unfold pi_bin at h
  split at h
  · exact lv_iand hN.1 hN.2.1 hd (hK _ _ _ _ h H locs cells slots sl hR hS hc hs hcr hsr hal hlc)
  · exact h.elim
theorem ps_ior (hd : decode cc pc = .ok (.ior, 1)) : px_S mt cc own nL lok rt ini al pc (pi_bin (fun x y => x ||| y) (pc + 1)) := by
  intro p l e R s m args below meth c Y n0 s0 d Qf cal Q lim K hN hok hfr hlo hl1 hl2 hret hK ls st G h H locs cells slots sl hR hS hc hs hcr hsr hal hlc
  unfold pi_bin at h
  split at h
  · exact lv_ior hN.1 hN.2.1 hd (hK _ _ _ _ h H locs cells slots sl hR hS hc hs hcr hsr hal hlc)
  · exact h.elim
theorem ps_ixor (hd : decode cc pc = .ok (.ixor, 1)) : px_S mt cc own nL lok rt ini al pc (pi_bin (fun x y => x ^^^ y) (pc + 1)) := by
  intro p l e R s m args below meth c Y n0 s0 d Qf cal Q lim K hN hok hfr hlo hl1 hl2 hret hK ls st G h H locs cells slots sl hR hS hc hs hcr hsr hal hlc
  unfold pi_bin at h
  split at h
  · exact lv_ixor hN.1 hN.2.1 hd (hK _ _ _ _ h H locs cells slots sl hR hS hc hs hcr hsr hal hlc)
  · exact h.elim
theorem ps_ishl (hd : decode cc pc = .ok (.ishl, 1)) : px_S mt cc own nL lok rt ini al pc (pi_bin (fun x y => x <<< (y &&& 31)) (pc + 1)) := by
  intro p l e R s m args below meth c Y n0 s0 d Qf cal Q lim K hN hok hfr hlo hl1 hl2 hret hK ls st G h H locs cells slots sl hR hS hc hs hcr hsr hal hlc
  unfold pi_bin at h
  split at h
  · exact lv_ishl hN.1 hN.2.1 hd (hK _ _ _ _ h H locs cells slots sl hR hS hc hs hcr hsr hal hlc)
  · exact h.elim
theorem ps_ishr (hd : decode cc pc = .ok (.ishr, 1)) : px_S mt cc own nL lok rt ini al pc (pi_bin (fun x y => x >>> (y &&& 31)) (pc + 1)) := by
  intro p l e R s m args below meth c Y n0 s0 d Qf cal Q lim K hN hok hfr hlo hl1 hl2 hret hK ls st G h H locs cells slots sl hR hS hc hs hcr hsr hal hlc
  unfold pi_bin at h
  split at h
  · exact lv_ishr hN.1 hN.2.1 hd (hK _ _ _ _ h H locs cells slots sl hR hS hc hs hcr hsr hal hlc)
  · exact h.elim
theorem ps_iushr (hd : decode cc pc = .ok (.iushr, 1)) : px_S mt cc own nL lok rt ini al pc (pi_bin (fun x y => (x.toUInt32 >>> (y.toUInt32 &&& Int32.toUInt32 31)).toInt32) (pc + 1)) := by
  intro p l e R s m args below meth c Y n0 s0 d Qf cal Q lim K hN hok hfr hlo hl1 hl2 hret hK ls st G h H locs cells slots sl hR hS hc hs hcr hsr hal hlc
  unfold pi_bin at h
  split at h
  · exact lv_iushr hN.1 hN.2.1 hd rfl (hK _ _ _ _ h H locs cells slots sl hR hS hc hs hcr hsr hal hlc)
  · exact h.elim
theorem ps_idiv (hd : decode cc pc = .ok (.idiv, 1)) : px_S mt cc own nL lok rt ini al pc (pi_idiv (pc + 1)) := by
  intro p l e R s m args below meth c Y n0 s0 d Qf cal Q lim K hN hok hfr hlo hl1 hl2 hret hK ls st G h H locs cells slots sl hR hS hc hs hcr hsr hal hlc
  unfold pi_idiv at h
  split at h
  · exact lv_idiv hN.1 hN.2.1 hd h.1 (hK _ _ _ _ h.2 H locs cells slots sl hR hS hc hs hcr hsr hal hlc)
  · exact h.elim
theorem ps_irem (hd : decode cc pc = .ok (.irem, 1)) : px_S mt cc own nL lok rt ini al pc (pi_irem (pc + 1)) := by
  intro p l e R s m args below meth c Y n0 s0 d Qf cal Q lim K hN hok hfr hlo hl1 hl2 hret hK ls st G h H locs cells slots sl hR hS hc hs hcr hsr hal hlc
  unfold pi_irem at h
  split at h
  · exact lv_irem hN.1 hN.2.1 hd h.1 (hK _ _ _ _ h.2 H locs cells slots sl hR hS hc hs hcr hsr hal hlc)
  · exact h.elim
theorem ps_ladd (hd : decode cc pc = .ok (.ladd, 1)) : px_S mt cc own nL lok rt ini al pc (pi_lbin (fun x y => x + y) (pc + 1)) := by
  intro p l e R s m args below meth c Y n0 s0 d Qf cal Q lim K hN hok hfr hlo hl1 hl2 hret hK ls st G h H locs cells slots sl hR hS hc hs hcr hsr hal hlc
  unfold pi_lbin at h
  split at h
  · exact lv_ladd hN.1 hN.2.1 hd (hK _ _ _ _ h H locs cells slots sl hR hS hc hs hcr hsr hal hlc)
  · exact h.elim
theorem ps_lmul (hd : decode cc pc = .ok (.lmul, 1)) : px_S mt cc own nL lok rt ini al pc (pi_lbin (fun x y => x * y) (pc + 1)) := by
  intro p l e R s m args below meth c Y n0 s0 d Qf cal Q lim K hN hok hfr hlo hl1 hl2 hret hK ls st G h H locs cells slots sl hR hS hc hs hcr hsr hal hlc
  unfold pi_lbin at h
  split at h
  · exact lv_lmul hN.1 hN.2.1 hd (hK _ _ _ _ h H locs cells slots sl hR hS hc hs hcr hsr hal hlc)
  · exact h.elim
theorem ps_land (hd : decode cc pc = .ok (.land, 1)) : px_S mt cc own nL lok rt ini al pc (pi_lbin (fun x y => x &&& y) (pc + 1)) := by
  intro p l e R s m args below meth c Y n0 s0 d Qf cal Q lim K hN hok hfr hlo hl1 hl2 hret hK ls st G h H locs cells slots sl hR hS hc hs hcr hsr hal hlc
  unfold pi_lbin at h
  split at h
  · exact lv_land hN.1 hN.2.1 hd (hK _ _ _ _ h H locs cells slots sl hR hS hc hs hcr hsr hal hlc)
  · exact h.elim
theorem ps_lor (hd : decode cc pc = .ok (.lor, 1)) : px_S mt cc own nL lok rt ini al pc (pi_lbin (fun x y => x ||| y) (pc + 1)) := by
  intro p l e R s m args below meth c Y n0 s0 d Qf cal Q lim K hN hok hfr hlo hl1 hl2 hret hK ls st G h H locs cells slots sl hR hS hc hs hcr hsr hal hlc
  unfold pi_lbin at h
  split at h
  · exact lv_lor hN.1 hN.2.1 hd (hK _ _ _ _ h H locs cells slots sl hR hS hc hs hcr hsr hal hlc)
  · exact h.elim
theorem ps_lrem (hd : decode cc pc = .ok (.lrem, 1)) : px_S mt cc own nL lok rt ini al pc (pi_lrem (pc + 1)) := by
  intro p l e R s m args below meth c Y n0 s0 d Qf cal Q lim K hN hok hfr hlo hl1 hl2 hret hK ls st G h H locs cells slots sl hR hS hc hs hcr hsr hal hlc
  unfold pi_lrem at h
  split at h
  · exact lv_lrem hN.1 hN.2.1 hd h.1 (hK _ _ _ _ h.2 H locs cells slots sl hR hS hc hs hcr hsr hal hlc)
  · exact h.elim
theorem ps_lcmp (hd : decode cc pc = .ok (.lcmp, 1)) : px_S mt cc own nL lok rt ini al pc (pi_lcmp (pc + 1)) := by
  intro p l e R s m args below meth c Y n0 s0 d Qf cal Q lim K hN hok hfr hlo hl1 hl2 hret hK ls st G h H locs cells slots sl hR hS hc hs hcr hsr hal hlc
  unfold pi_lcmp at h
  split at h
  · exact W.lcmp hN.1 hN.2.1 hd (hK _ _ _ _ h H locs cells slots sl hR hS hc hs hcr hsr hal hlc)
  · exact h.elim
theorem ps_lshl (hd : decode cc pc = .ok (.lshl, 1)) : px_S mt cc own nL lok rt ini al pc (pi_lsh (fun x y => x <<< (y.toInt64 &&& 63)) (pc + 1)) := by
  intro p l e R s m args below meth c Y n0 s0 d Qf cal Q lim K hN hok hfr hlo hl1 hl2 hret hK ls st G h H locs cells slots sl hR hS hc hs hcr hsr hal hlc
  unfold pi_lsh at h
  split at h
  · exact lv_lshl hN.1 hN.2.1 hd rfl (hK _ _ _ _ h H locs cells slots sl hR hS hc hs hcr hsr hal hlc)
  · exact h.elim
theorem ps_lushr (hd : decode cc pc = .ok (.lushr, 1)) : px_S mt cc own nL lok rt ini al pc (pi_lsh (fun x y => (x.toUInt64 >>> (y.toInt64.toUInt64 &&& Int64.toUInt64 63)).toInt64) (pc + 1)) := by
  intro p l e R s m args below meth c Y n0 s0 d Qf cal Q lim K hN hok hfr hlo hl1 hl2 hret hK ls st G h H locs cells slots sl hR hS hc hs hcr hsr hal hlc
  unfold pi_lsh at h
  split at h
  · exact lv_lushr hN.1 hN.2.1 hd rfl (hK _ _ _ _ h H locs cells slots sl hR hS hc hs hcr hsr hal hlc)
  · exact h.elim
theorem ps_i2l (hd : decode cc pc = .ok (.i2l, 1)) : px_S mt cc own nL lok rt ini al pc (pi_i2l (pc + 1)) := by
  intro p l e R s m args below meth c Y n0 s0 d Qf cal Q lim K hN hok hfr hlo hl1 hl2 hret hK ls st G h H locs cells slots sl hR hS hc hs hcr hsr hal hlc
  unfold pi_i2l at h
  split at h
  · exact lv_i2l hN.1 hN.2.1 hd rfl (hK _ _ _ _ h H locs cells slots sl hR hS hc hs hcr hsr hal hlc)
  · exact h.elim
theorem ps_l2i (hd : decode cc pc = .ok (.l2i, 1)) : px_S mt cc own nL lok rt ini al pc (pi_l2i (pc + 1)) := by
  intro p l e R s m args below meth c Y n0 s0 d Qf cal Q lim K hN hok hfr hlo hl1 hl2 hret hK ls st G h H locs cells slots sl hR hS hc hs hcr hsr hal hlc
  unfold pi_l2i at h
  split at h
  · exact lv_l2i hN.1 hN.2.1 hd rfl (hK _ _ _ _ h H locs cells slots sl hR hS hc hs hcr hsr hal hlc)
  · exact h.elim
theorem ps_dup (hd : decode cc pc = .ok (.dup, 1)) : px_S mt cc own nL lok rt ini al pc (pi_dup (pc + 1)) := by
  intro p l e R s m args below meth c Y n0 s0 d Qf cal Q lim K hN hok hfr hlo hl1 hl2 hret hK ls st G h H locs cells slots sl hR hS hc hs hcr hsr hal hlc
  unfold pi_dup at h
  split at h
  · exact lv_dup hN.1 hN.2.1 hd ((px_mv_cat Y _).trans h.1) (hK _ _ _ _ h.2 H locs cells slots sl hR hS hc hs hcr hsr hal hlc)
  · exact h.elim
theorem ps_dup2 (hd : decode cc pc = .ok (.dup2, 1)) : px_S mt cc own nL lok rt ini al pc (pi_dup2 (pc + 1)) := by
  intro p l e R s m args below meth c Y n0 s0 d Qf cal Q lim K hN hok hfr hlo hl1 hl2 hret hK ls st G h H locs cells slots sl hR hS hc hs hcr hsr hal hlc
  unfold pi_dup2 at h
  split at h
  · exact lv_dup2_11 hN.1 hN.2.1 hd ((px_mv_cat Y _).trans h.1) ((px_mv_cat Y _).trans h.2.1) (hK _ _ _ _ h.2.2 H locs cells slots sl hR hS hc hs hcr hsr hal hlc)
  · exact h.elim
theorem ps_pop (hd : decode cc pc = .ok (.pop, 1)) : px_S mt cc own nL lok rt ini al pc (pi_pop (pc + 1)) := by
  intro p l e R s m args below meth c Y n0 s0 d Qf cal Q lim K hN hok hfr hlo hl1 hl2 hret hK ls st G h H locs cells slots sl hR hS hc hs hcr hsr hal hlc
  unfold pi_pop at h
  split at h
  · exact lv_pop hN.1 hN.2.1 hd ((px_mv_cat Y _).trans h.1) (hK _ _ _ _ h.2 H locs cells slots sl hR hS hc hs hcr hsr hal hlc)
  · exact h.elim
theorem ps_ifeq {off : Int} {t : Nat} (hd : decode cc pc = .ok (.ifCond .eq off, 3)) (ht : (pc : Int) + off = (t : Int)) : px_S mt cc own nL lok rt ini al pc (pi_ifeq t (pc + 3)) := by
  intro p l e R s m args below meth c Y n0 s0 d Qf cal Q lim K hN hok hfr hlo hl1 hl2 hret hK ls st G h H locs cells slots sl hR hS hc hs hcr hsr hal hlc
  unfold pi_ifeq at h
  split at h
  · exact lv_if_eq hN.1 hN.2.1 hd ht (fun q => by rw [if_pos q] at h; exact hK _ _ _ _ h H locs cells slots sl hR hS hc hs hcr hsr hal hlc) (fun q => by rw [if_neg q] at h; exact hK _ _ _ _ h H locs cells slots sl hR hS hc hs hcr hsr hal hlc)
  · exact h.elim
theorem ps_ifne {off : Int} {t : Nat} (hd : decode cc pc = .ok (.ifCond .ne off, 3)) (ht : (pc : Int) + off = (t : Int)) : px_S mt cc own nL lok rt ini al pc (pi_ifeq (pc + 3) t) := by
  intro p l e R s m args below meth c Y n0 s0 d Qf cal Q lim K hN hok hfr hlo hl1 hl2 hret hK ls st G h H locs cells slots sl hR hS hc hs hcr hsr hal hlc
  unfold pi_ifeq at h
  split at h
  · exact lv_if_ne hN.1 hN.2.1 hd ht (fun q => by rw [if_neg q] at h; exact hK _ _ _ _ h H locs cells slots sl hR hS hc hs hcr hsr hal hlc) (fun q => by rw [if_pos q] at h; exact hK _ _ _ _ h H locs cells slots sl hR hS hc hs hcr hsr hal hlc)
  · exact h.elim
theorem ps_iflt {off : Int} {t : Nat} (hd : decode cc pc = .ok (.ifCond .lt off, 3)) (ht : (pc : Int) + off = (t : Int)) : px_S mt cc own nL lok rt ini al pc (pi_iflt t (pc + 3)) := by
  intro p l e R s m args below meth c Y n0 s0 d Qf cal Q lim K hN hok hfr hlo hl1 hl2 hret hK ls st G h H locs cells slots sl hR hS hc hs hcr hsr hal hlc
  unfold pi_iflt at h
  split at h
  · exact lv_if_lt hN.1 hN.2.1 hd ht (fun q => by rw [if_pos q] at h; exact hK _ _ _ _ h H locs cells slots sl hR hS hc hs hcr hsr hal hlc) (fun q => by rw [if_neg q] at h; exact hK _ _ _ _ h H locs cells slots sl hR hS hc hs hcr hsr hal hlc)
  · exact h.elim
theorem ps_ifge {off : Int} {t : Nat} (hd : decode cc pc = .ok (.ifCond .ge off, 3)) (ht : (pc : Int) + off = (t : Int)) : px_S mt cc own nL lok rt ini al pc (pi_iflt (pc + 3) t) := by
  intro p l e R s m args below meth c Y n0 s0 d Qf cal Q lim K hN hok hfr hlo hl1 hl2 hret hK ls st G h H locs cells slots sl hR hS hc hs hcr hsr hal hlc
  unfold pi_iflt at h
  split at h
  · exact lv_if_ge hN.1 hN.2.1 hd ht (fun q => by rw [if_neg (Int32.not_lt.mpr q)] at h; exact hK _ _ _ _ h H locs cells slots sl hR hS hc hs hcr hsr hal hlc) (fun q => by rw [if_pos (Int32.not_le.mp q)] at h; exact hK _ _ _ _ h H locs cells slots sl hR hS hc hs hcr hsr hal hlc)
  · exact h.elim
theorem ps_ifgt {off : Int} {t : Nat} (hd : decode cc pc = .ok (.ifCond .gt off, 3)) (ht : (pc : Int) + off = (t : Int)) : px_S mt cc own nL lok rt ini al pc (pi_ifgt t (pc + 3)) := by
  intro p l e R s m args below meth c Y n0 s0 d Qf cal Q lim K hN hok hfr hlo hl1 hl2 hret hK ls st G h H locs cells slots sl hR hS hc hs hcr hsr hal hlc
  unfold pi_ifgt at h
  split at h
  · exact lv_if_gt hN.1 hN.2.1 hd ht (fun q => by rw [if_pos q] at h; exact hK _ _ _ _ h H locs cells slots sl hR hS hc hs hcr hsr hal hlc) (fun q => by rw [if_neg q] at h; exact hK _ _ _ _ h H locs cells slots sl hR hS hc hs hcr hsr hal hlc)
  · exact h.elim
theorem ps_ifle {off : Int} {t : Nat} (hd : decode cc pc = .ok (.ifCond .le off, 3)) (ht : (pc : Int) + off = (t : Int)) : px_S mt cc own nL lok rt ini al pc (pi_ifgt (pc + 3) t) := by
  intro p l e R s m args below meth c Y n0 s0 d Qf cal Q lim K hN hok hfr hlo hl1 hl2 hret hK ls st G h H locs cells slots sl hR hS hc hs hcr hsr hal hlc
  unfold pi_ifgt at h
  split at h
  · exact lv_if_le hN.1 hN.2.1 hd ht (fun q => by rw [if_neg (Int32.not_lt.mpr q)] at h; exact hK _ _ _ _ h H locs cells slots sl hR hS hc hs hcr hsr hal hlc) (fun q => by rw [if_pos (Int32.not_le.mp q)] at h; exact hK _ _ _ _ h H locs cells slots sl hR hS hc hs hcr hsr hal hlc)
  · exact h.elim
theorem ps_iceq {off : Int} {t : Nat} (hd : decode cc pc = .ok (.if_icmp .eq off, 3)) (ht : (pc : Int) + off = (t : Int)) : px_S mt cc own nL lok rt ini al pc (pi_iceq t (pc + 3)) := by
  intro p l e R s m args below meth c Y n0 s0 d Qf cal Q lim K hN hok hfr hlo hl1 hl2 hret hK ls st G h H locs cells slots sl hR hS hc hs hcr hsr hal hlc
  unfold pi_iceq at h
  split at h
  · exact lv_icmp_eq hN.1 hN.2.1 hd ht (fun q => by rw [if_pos q] at h; exact hK _ _ _ _ h H locs cells slots sl hR hS hc hs hcr hsr hal hlc) (fun q => by rw [if_neg q] at h; exact hK _ _ _ _ h H locs cells slots sl hR hS hc hs hcr hsr hal hlc)
  · exact h.elim
theorem ps_icne {off : Int} {t : Nat} (hd : decode cc pc = .ok (.if_icmp .ne off, 3)) (ht : (pc : Int) + off = (t : Int)) : px_S mt cc own nL lok rt ini al pc (pi_iceq (pc + 3) t) := by
  intro p l e R s m args below meth c Y n0 s0 d Qf cal Q lim K hN hok hfr hlo hl1 hl2 hret hK ls st G h H locs cells slots sl hR hS hc hs hcr hsr hal hlc
  unfold pi_iceq at h
  split at h
  · exact lv_icmp_ne hN.1 hN.2.1 hd ht (fun q => by rw [if_neg q] at h; exact hK _ _ _ _ h H locs cells slots sl hR hS hc hs hcr hsr hal hlc) (fun q => by rw [if_pos q] at h; exact hK _ _ _ _ h H locs cells slots sl hR hS hc hs hcr hsr hal hlc)
  · exact h.elim
theorem ps_iclt {off : Int} {t : Nat} (hd : decode cc pc = .ok (.if_icmp .lt off, 3)) (ht : (pc : Int) + off = (t : Int)) : px_S mt cc own nL lok rt ini al pc (pi_iclt t (pc + 3)) := by
  intro p l e R s m args below meth c Y n0 s0 d Qf cal Q lim K hN hok hfr hlo hl1 hl2 hret hK ls st G h H locs cells slots sl hR hS hc hs hcr hsr hal hlc
  unfold pi_iclt at h
  split at h
  · exact lv_icmp_lt hN.1 hN.2.1 hd ht (fun q => by rw [if_pos q] at h; exact hK _ _ _ _ h H locs cells slots sl hR hS hc hs hcr hsr hal hlc) (fun q => by rw [if_neg q] at h; exact hK _ _ _ _ h H locs cells slots sl hR hS hc hs hcr hsr hal hlc)
  · exact h.elim
theorem ps_icge {off : Int} {t : Nat} (hd : decode cc pc = .ok (.if_icmp .ge off, 3)) (ht : (pc : Int) + off = (t : Int)) : px_S mt cc own nL lok rt ini al pc (pi_iclt (pc + 3) t) := by
  intro p l e R s m args below meth c Y n0 s0 d Qf cal Q lim K hN hok hfr hlo hl1 hl2 hret hK ls st G h H locs cells slots sl hR hS hc hs hcr hsr hal hlc
  unfold pi_iclt at h
  split at h
  · exact lv_icmp_ge hN.1 hN.2.1 hd ht (fun q => by rw [if_neg (Int32.not_lt.mpr q)] at h; exact hK _ _ _ _ h H locs cells slots sl hR hS hc hs hcr hsr hal hlc) (fun q => by rw [if_pos (Int32.not_le.mp q)] at h; exact hK _ _ _ _ h H locs cells slots sl hR hS hc hs hcr hsr hal hlc)
  · exact h.elim
theorem ps_icgt {off : Int} {t : Nat} (hd : decode cc pc = .ok (.if_icmp .gt off, 3)) (ht : (pc : Int) + off = (t : Int)) : px_S mt cc own nL lok rt ini al pc (pi_icgt t (pc + 3)) := by
  intro p l e R s m args below meth c Y n0 s0 d Qf cal Q lim K hN hok hfr hlo hl1 hl2 hret hK ls st G h H locs cells slots sl hR hS hc hs hcr hsr hal hlc
  unfold pi_icgt at h
  split at h
  · exact lv_icmp_gt hN.1 hN.2.1 hd ht (fun q => by rw [if_pos q] at h; exact hK _ _ _ _ h H locs cells slots sl hR hS hc hs hcr hsr hal hlc) (fun q => by rw [if_neg q] at h; exact hK _ _ _ _ h H locs cells slots sl hR hS hc hs hcr hsr hal hlc)
  · exact h.elim
theorem ps_icle {off : Int} {t : Nat} (hd : decode cc pc = .ok (.if_icmp .le off, 3)) (ht : (pc : Int) + off = (t : Int)) : px_S mt cc own nL lok rt ini al pc (pi_icgt (pc + 3) t) := by
  intro p l e R s m args below meth c Y n0 s0 d Qf cal Q lim K hN hok hfr hlo hl1 hl2 hret hK ls st G h H locs cells slots sl hR hS hc hs hcr hsr hal hlc
  unfold pi_icgt at h
  split at h
  · exact lv_icmp_le hN.1 hN.2.1 hd ht (fun q => by rw [if_neg (Int32.not_lt.mpr q)] at h; exact hK _ _ _ _ h H locs cells slots sl hR hS hc hs hcr hsr hal hlc) (fun q => by rw [if_pos (Int32.not_le.mp q)] at h; exact hK _ _ _ _ h H locs cells slots sl hR hS hc hs hcr hsr hal hlc)
  · exact h.elim
theorem ps_goto {off : Int} {t : Nat} (hd : decode cc pc = .ok (.goto off, 3)) (ht : (pc : Int) + off = (t : Int)) : px_S mt cc own nL lok rt ini al pc (pi_goto t) := by
  intro p l e R s m args below meth c Y n0 s0 d Qf cal Q lim K hN hok hfr hlo hl1 hl2 hret hK ls st G h H locs cells slots sl hR hS hc hs hcr hsr hal hlc
  exact lv_goto hN.1 hN.2.1 hd ht (hK _ _ _ _ h H locs cells slots sl hR hS hc hs hcr hsr hal hlc)
/-- where a switch goes, by the machine's rule and by ours -/
def px_tab (pc : Nat) (dflt lo hi : Int) (offs : Array Int) (tab : List (Int32 × Nat)) (d : Nat) : Prop := ∀ x : Int32, (x.toInt < lo ∨ hi < x.toInt) ∧ (pc : Int) + dflt = (px_sw x tab d : Nat) ∨ ¬ x.toInt < lo ∧ ¬ hi < x.toInt ∧ ∃ off, offs[(x.toInt - lo).toNat]? = some off ∧ (pc : Int) + off = (px_sw x tab d : Nat)
theorem ps_table {dflt lo hi : Int} {offs : Array Int} {len : Nat} {tab : List (Int32 × Nat)} {dd : Nat} (hd : decode cc pc = .ok (.tableswitch dflt lo hi offs, len)) (ht : px_tab pc dflt lo hi offs tab dd) : px_S mt cc own nL lok rt ini al pc (pi_switch tab dd) := by
  intro p l e R s m args below meth c Y n0 s0 d Qf cal Q lim K hN hok hfr hlo hl1 hl2 hret hK ls st G h H locs cells slots sl hR hS hc hs hcr hsr hal hlc
  unfold pi_switch at h
  split at h
  · rename_i x r
    rcases ht x with ⟨q1, q2⟩ | ⟨q1, q2, off, q3, q4⟩
    · exact lv_tableOut hN.1 hN.2.1 hd q1 q2 (hK _ _ _ _ h H locs cells slots sl hR hS hc hs hcr hsr hal hlc)
    · exact lv_tableIn hN.1 hN.2.1 hd q1 q2 q3 q4 (hK _ _ _ _ h H locs cells slots sl hR hS hc hs hcr hsr hal hlc)
  · exact h.elim
theorem ps_lookup {dflt : Int} {ps : Array (Int × Int)} {len : Nat} {tab : List (Int32 × Nat)} {dd : Nat} (hd : decode cc pc = .ok (.lookupswitch dflt ps, len)) (hp : (ps.toList.zip (ps.toList.drop 1)).all (fun (a, next) => a.1 < next.1) = true) (ht : ∀ x : Int32, (pc : Int) + Op.lookupswitch.offset ps.toList dflt x.toInt = (px_sw x tab dd : Nat)) : px_S mt cc own nL lok rt ini al pc (pi_switch tab dd) := by
  intro p l e R s m args below meth c Y n0 s0 d Qf cal Q lim K hN hok hfr hlo hl1 hl2 hret hK ls st G h H locs cells slots sl hR hS hc hs hcr hsr hal hlc
  unfold pi_switch at h
  split at h
  · rename_i x r
    exact lv_lookup hN.1 hN.2.1 hd hp rfl (ht x) (hK _ _ _ _ h H locs cells slots sl hR hS hc hs hcr hsr hal hlc)
  · exact h.elim
theorem ps_getf {idx ci k N : Nat} {C : String} {T : u_T} (hd : decode cc pc = .ok (.getfield idx, 3)) (hc : vwCl[ci]? = some (C, T, N)) (hin : ∀ w ∈ u_ws C T N, w ∈ px_T) (hk : k < N) (hw : Cond.fieldLink own idx (T k).1 (T k).2.1 (T k).2.2.1 ∈ px_T) : px_S mt cc own nL lok rt ini al pc (pi_getf ci k (pc + 3)) := by
  intro p l e R s m args below meth c Y n0 s0 d Qf cal Q lim K hN hok hfr hlo hl1 hl2 hret hK ls st G h H locs cells slots sl hR hS hcn hs hcr hsr hal hlc
  unfold pi_getf at h
  split at h
  · rename_i a r
    unfold pgf at h
    split at h
    · rename_i c0 fs hg
      obtain ⟨rfl, h⟩ := h
      split at h
      · rename_i v hv
        obtain ⟨h1, h2, h3, h4⟩ := hR.obj hg
        exact va_get hN.1 hN.2.1 hN.2.2.2.2.1 hin hN.2.2.2.1 hN.2.2.2.2.2.2.1 (px_P1 h4) 0 rfl hc k hk (hN.2.2.2.2.1 _ hw) (fun _ q => q) (v := px_mv Y v) (by rw [List.getElem?_map, hv]; rfl) hd (hK _ _ _ _ h H locs cells slots sl hR hS hcn hs hcr hsr hal hlc)
      · exact h.elim
    · exact h.elim
  · exact h.elim
theorem px_fit {Y : px_Y} {t : Nat} {v : Value} {ty : FieldType} (h : pfit t v) (ht : (t = 0 ∧ ty = .int) ∨ (t = 1 ∧ ty = .long) ∨ (t = 2 ∧ ((∃ n, ty = .object n) ∨ ∃ u, ty = .array u))) : narrow ty (px_mv Y v) = px_mv Y v ∧ fits ty (px_mv Y v) = true := by
  rcases ht with ⟨rfl, rfl⟩ | ⟨rfl, rfl⟩ | ⟨rfl, ⟨n, rfl⟩ | ⟨u, rfl⟩⟩ <;> cases v <;> first | exact h.elim | exact ⟨rfl, rfl⟩
theorem ps_putf {idx ci k N : Nat} {C : String} {T : u_T} {t : Nat} {ty0 : Nat → FieldType} (hd : decode cc pc = .ok (.putfield idx, 3)) (hc : vwCl[ci]? = some (C, T, N)) (hin : ∀ w ∈ u_ws C T N, w ∈ px_T) (hty : ∀ k, k < N → parseFieldDescriptor (T k).2.2.1 = some (ty0 k)) (hnm : ∀ a, a < N → ∀ b, b < N → a ≠ b → (T a).2.1 ≠ (T b).2.1) (hk : k < N) (hw : Cond.fieldLink own idx (T k).1 (T k).2.1 (T k).2.2.1 ∈ px_T) (hfin : (T k).2.2.2 = false) (ht : (t = 0 ∧ ty0 k = .int) ∨ (t = 1 ∧ ty0 k = .long) ∨ (t = 2 ∧ ((∃ n, ty0 k = .object n) ∨ ∃ u, ty0 k = .array u))) : px_S mt cc own nL lok rt ini al pc (pi_putf ci k t (pc + 3)) := by
  intro p l e R s m args below meth c Y n0 s0 d Qf cal Q lim K hN hok hfr hlo hl1 hl2 hret hK ls st G h H locs cells slots sl hR hS hcn hs hcr hsr hal hlc
  unfold pi_putf at h
  split at h
  · rename_i v a r
    unfold ppf at h
    split at h
    · rename_i c0 fs hg
      obtain ⟨rfl, hfv, hkl, h⟩ := h
      obtain ⟨h1, h2, h3, h4⟩ := hR.obj hg
      obtain ⟨hn1, hn2⟩ := px_fit (Y := Y) hfv ht
      obtain ⟨hx, hb, -, hown, hts, hnam, hB⟩ := id hN
      have hap := va_apart (own := own) hts hin ty0 hty hnm hB.1 hc
      obtain ⟨r0, g1, cell, q1, q2, q3, q4⟩ := id h4
      have hr : r0 = (C, T, N) := Option.some.inj (g1.symm.trans hc)
      subst hr
      obtain ⟨hSl, hfc, kC, hkC, hkind⟩ := hB.1.1 c0 _ hc
      obtain ⟨cf, kf, fi, f, hi, hsl⟩ := hSl k hk
      have hlay := hts _ (hin _ (u_in_lay hk))
      unfold u_lay at hlay
      have hst := (u_facts hfc hkC (u_lays hts hin hk) hi).1
      have step : ∀ H' : Heap, H'[px_ad Y a]? = some (cell.setSlot f.slot (px_mv Y v)) → H'.size = H.size → (∀ q, q ≠ px_ad Y a → H'[q]? = H[q]?) → W p l e R s m args below meth c H' (locs ++ [⟨px_ad Y a, f.slot⟩]) cells slots Qf (F0 m (pc + 3) sl (r.map (px_mv Y))) := by
        intro H' e1 e2 e3
        rw [hsl] at e1
        refine hK _ _ _ _ h H' _ cells slots sl (hR.set h1 h2 trivial ?_ e2 e3) (hS.put e2 e3 (by show y_s Y ≤ _; omega)) hcn hs hcr hsr hal hlc
        refine ⟨_, hc, ?_⟩
        refine t_OB.to (V := updV (vp_V (fs.map (px_mv Y))) k (px_mv Y v)) ⟨_, e1, q2, q3, t_set q4 hap hk (px_mv Y v)⟩ (fun j _ => ?_)
        rw [vp_updV_set (by rw [List.length_map]; exact hkl), List.map_set]
      rw [if_neg (by rw [hfin]; decide)] at hlay
      have h6 := u_store hfc hkC hkind hlay hi (hty k hk) hn1 hn2
      exact W.putK hx hb (f := f) ⟨hown, hts _ hw, ⟨_, _, _, hi⟩, hst⟩ (by rw [q2]; exact h6) q1 q3 (by rw [hsl]; exact k2_hasslot (q4 k hk)) rfl rfl hd step
    · exact h.elim
  · exact h.elim
theorem ps_putF {idx ci k N : Nat} {C : String} {T : u_T} {t : Nat} {ty0 : Nat → FieldType} (hd : decode cc pc = .ok (.putfield idx, 3)) (hc : vwCl[ci]? = some (C, T, N)) (hin : ∀ w ∈ u_ws C T N, w ∈ px_T) (hty : ∀ k, k < N → parseFieldDescriptor (T k).2.2.1 = some (ty0 k)) (hnm : ∀ a, a < N → ∀ b, b < N → a ≠ b → (T a).2.1 ≠ (T b).2.1) (hk : k < N) (hw : Cond.fieldLink own idx (T k).1 (T k).2.1 (T k).2.2.1 ∈ px_T) (hfin : (T k).2.2.2 = true) (hdecl : (T k).1 = own) (hini : ini = true) (ht : (t = 0 ∧ ty0 k = .int) ∨ (t = 1 ∧ ty0 k = .long) ∨ (t = 2 ∧ ((∃ n, ty0 k = .object n) ∨ ∃ u, ty0 k = .array u))) : px_S mt cc own nL lok rt ini al pc (pi_putf ci k t (pc + 3)) := by
  intro p l e R s m args below meth c Y n0 s0 d Qf cal Q lim K hN hok hfr hlo hl1 hl2 hret hK ls st G h H locs cells slots sl hR hS hcn hs hcr hsr hal hlc
  unfold pi_putf at h
  split at h
  · rename_i v a r
    unfold ppf at h
    split at h
    · rename_i c0 fs hg
      obtain ⟨rfl, hfv, hkl, h⟩ := h
      obtain ⟨h1, h2, h3, h4⟩ := hR.obj hg
      obtain ⟨hn1, hn2⟩ := px_fit (Y := Y) hfv ht
      obtain ⟨hx, hb, -, hown, hts, hnam, hB⟩ := id hN
      have hap := va_apart (own := own) hts hin ty0 hty hnm hB.1 hc
      obtain ⟨r0, g1, cell, q1, q2, q3, q4⟩ := id h4
      have hr : r0 = (C, T, N) := Option.some.inj (g1.symm.trans hc)
      subst hr
      obtain ⟨hSl, hfc, kC, hkC, hkind⟩ := hB.1.1 c0 _ hc
      obtain ⟨cf, kf, fi, f, hi, hsl⟩ := hSl k hk
      have hlay := hts _ (hin _ (u_in_lay hk))
      unfold u_lay at hlay
      have hst := (u_facts hfc hkC (u_lays hts hin hk) hi).1
      have step : ∀ H' : Heap, H'[px_ad Y a]? = some (cell.setSlot f.slot (px_mv Y v)) → H'.size = H.size → (∀ q, q ≠ px_ad Y a → H'[q]? = H[q]?) → W p l e R s m args below meth c H' (locs ++ [⟨px_ad Y a, f.slot⟩]) cells slots Qf (F0 m (pc + 3) sl (r.map (px_mv Y))) := by
        intro H' e1 e2 e3
        rw [hsl] at e1
        refine hK _ _ _ _ h H' _ cells slots sl (hR.set h1 h2 trivial ?_ e2 e3) (hS.put e2 e3 (by show y_s Y ≤ _; omega)) hcn hs hcr hsr hal hlc
        refine ⟨_, hc, ?_⟩
        refine t_OB.to (V := updV (vp_V (fs.map (px_mv Y))) k (px_mv Y v)) ⟨_, e1, q2, q3, t_set q4 hap hk (px_mv Y v)⟩ (fun j _ => ?_)
        rw [vp_updV_set (by rw [List.length_map]; exact hkl), List.map_set]
      rw [if_pos hfin] at hlay
      have hcf : m.cls = cf := by
        obtain ⟨_, _, c', _, _, _, -, -, hf', -, -, -, hown2, -⟩ := Cond.laysFinal_spec hlay
        have e1 : c' = cf := by have := hi.symm.trans hf'; simp at this; exact this.1.symm
        rw [hdecl] at hown2
        rw [← e1]; exact Option.some.inj (hown.symm.trans hown2)
      have h6 := u_fits hfc hkC hkind (Or.inr hlay) hi (hty k hk) hn1 hn2
      exact W.putFinK hx hb hown (hts _ hw) hi hst hcf (hnam hini) (by rw [q2]; exact h6) q1 q3 (by rw [hsl]; exact k2_hasslot (q4 k hk)) rfl rfl hd step
    · exact h.elim
  · exact h.elim
theorem ps_gets {idx : Nat} (hd : decode cc pc = .ok (.getstatic idx, 3)) (hw : Cond.fieldLink own idx "StableRivers" "FACTORIALS" "[I" ∈ px_T) : px_S mt cc own nL lok rt ini al pc (pi_gets (pc + 3)) := by
  intro p l e R s m args below meth c Y n0 s0 d Qf cal Q lim K hN hok hfr hlo hl1 hl2 hret hK ls st G h H locs cells slots sl hR hS hc hs hcr hsr hal hlc
  exact va_gets hN.1 hN.2.1 hN.2.2.2.2.2.2.2.2.2.1 hS hN.2.2.2.1 (hN.2.2.2.2.1 _ hw) (fun _ q => q) hd (hK _ _ _ _ h H locs cells slots sl hR hS hc hs hcr hsr hal hlc)
theorem ps_iald (hd : decode cc pc = .ok (.iaload, 1)) : px_S mt cc own nL lok rt ini al pc (pi_iald (pc + 1)) := by
  intro p l e R s m args below meth c Y n0 s0 d Qf cal Q lim K hN hok hfr hlo hl1 hl2 hret hK ls st G h H locs cells slots sl hR hS hc hs hcr hsr hal hlc
  unfold pi_iald at h
  split at h
  · rename_i i a r
    unfold pia at h
    split at h
    · rename_i t n f hg
      obtain ⟨ht, hin, h⟩ := h
      obtain ⟨hx, hb, -, hown, hts, hnam, hB⟩ := id hN
      rcases hR.2 a _ hg with ⟨rfl, e1⟩ | ⟨rfl, e1⟩ | ⟨g1, g2, g3, g4⟩
      · cases e1
        exact va_sld hx hb hB.2.2.2.2.2.1 (Nat.lt_of_lt_of_le hB.2.2.2.2.2.2.1 hB.2.2.2.2.2.2.2) (A := px_A Y) (by unfold px_A; have := hB.2.2.2.2.2.2.1; omega) hS hin hd (hK _ _ _ _ h H locs cells slots sl hR hS hc hs hcr hsr hal hlc)
      · cases e1
        exact va_ti hx hb hB.2.2.2.2.1 hS hin rfl hd (hK _ _ _ _ h H locs cells slots sl hR hS hc hs hcr hsr hal hlc)
      · have ht0 : t = 0 := by have : t < 2 := g3; omega
        subst ht0
        obtain ⟨h1, h2, h3, h4⟩ := hR.row hg (by omega)
        exact va_iald hx hb hB.1 (px_P1 h4) 0 0 rfl rfl hin hd (hK _ _ _ _ h H locs cells slots sl hR hS hc hs hcr hsr hal hlc)
    · exact h.elim
  · exact h.elim
theorem ps_zald (hd : decode cc pc = .ok (.baload, 1)) : px_S mt cc own nL lok rt ini al pc (pi_zald (pc + 1)) := by
  intro p l e R s m args below meth c Y n0 s0 d Qf cal Q lim K hN hok hfr hlo hl1 hl2 hret hK ls st G h H locs cells slots sl hR hS hc hs hcr hsr hal hlc
  unfold pi_zald at h
  split at h
  · rename_i i a r
    unfold pia at h
    split at h
    · rename_i t n f hg
      obtain ⟨rfl, hin, h⟩ := h
      obtain ⟨hx, hb, -, hown, hts, hnam, hB⟩ := id hN
      obtain ⟨h1, h2, h3, h4⟩ := hR.row hg (by omega)
      exact va_zald hx hb hB.1 (px_P1 h4) 0 1 rfl rfl hin hd (hK _ _ _ _ h H locs cells slots sl hR hS hc hs hcr hsr hal hlc)
    · exact h.elim
  · exact h.elim
theorem ps_iast (hd : decode cc pc = .ok (.iastore, 1)) : px_S mt cc own nL lok rt ini al pc (pi_iast (pc + 1)) := by
  intro p l e R s m args below meth c Y n0 s0 d Qf cal Q lim K hN hok hfr hlo hl1 hl2 hret hK ls st G h H locs cells slots sl hR hS hc hs hcr hsr hal hlc
  unfold pi_iast at h
  split at h
  · rename_i x i a r
    unfold pia at h
    split at h
    · rename_i t n f hg
      obtain ⟨rfl, hin, h⟩ := h
      obtain ⟨hx, hb, -, hown, hts, hnam, hB⟩ := id hN
      obtain ⟨h1, h2, h3, h4⟩ := hR.row hg (by omega)
      refine W.iast hx hb h4 ((hB.1.2 0 _ rfl).1 n (fun j => .int (f j))) (fun q => by cases q) (by show ¬ (i < 0 ∨ (arrV _ _ _).slots.size ≤ _); rw [arrV_size]; exact hin) rfl rfl hd fun H1 e z oq => ?_
      refine hK _ _ _ _ h H1 _ cells slots sl (hR.set h1 h2 (by show _ < 2; omega) ?_ z oq) (hS.put z oq (by show y_s Y ≤ _; omega)) hc hs hcr hsr hal hlc
      show H1[_]? = some (vp_cell _ _)
      rw [e]
      dsimp only
      rw [vp_cell_i, vp_cell_i, arrV_store]
      congr 2
      funext q
      by_cases hq : q = i.toNatClampNeg
      · subst hq
        simp [updV, upd, narrow]
      · simp [updV, upd, hq]
    · exact h.elim
  · exact h.elim
theorem ps_zast (hd : decode cc pc = .ok (.bastore, 1)) : px_S mt cc own nL lok rt ini al pc (pi_zast (pc + 1)) := by
  intro p l e R s m args below meth c Y n0 s0 d Qf cal Q lim K hN hok hfr hlo hl1 hl2 hret hK ls st G h H locs cells slots sl hR hS hc hs hcr hsr hal hlc
  unfold pi_zast at h
  split at h
  · rename_i x i a r
    unfold pia at h
    split at h
    · rename_i t n f hg
      obtain ⟨rfl, hin, h⟩ := h
      obtain ⟨hx, hb, -, hown, hts, hnam, hB⟩ := id hN
      obtain ⟨h1, h2, h3, h4⟩ := hR.row hg (by omega)
      refine W.zast hx hb h4 ((hB.1.2 1 _ rfl).1 n (fun j => .int (f j))) (fun q => by cases q) (by show ¬ (i < 0 ∨ (arrV _ _ _).slots.size ≤ _); rw [arrV_size]; exact hin) rfl rfl hd fun H1 e z oq => ?_
      refine hK _ _ _ _ h H1 _ cells slots sl (hR.set h1 h2 (by show _ < 2; omega) ?_ z oq) (hS.put z oq (by show y_s Y ≤ _; omega)) hc hs hcr hsr hal hlc
      show H1[_]? = some (vp_cell _ _)
      rw [e]
      dsimp only
      rw [vp_cell_i, vp_cell_i, arrV_store]
      congr 2
      funext q
      by_cases hq : q = i.toNatClampNeg
      · subst hq
        simp [updV, upd, narrow]
      · simp [updV, upd, hq]
    · exact h.elim
  · exact h.elim
theorem ps_aald (hd : decode cc pc = .ok (.aaload, 1)) : px_S mt cc own nL lok rt ini al pc (pi_aald (pc + 1)) := by
  intro p l e R s m args below meth c Y n0 s0 d Qf cal Q lim K hN hok hfr hlo hl1 hl2 hret hK ls st G h H locs cells slots sl hR hS hc hs hcr hsr hal hlc
  unfold pi_aald at h
  split at h
  · rename_i i a r
    unfold par at h
    split at h
    · rename_i n f hg
      obtain ⟨hin, h⟩ := h
      split at h
      · rename_i q hq
        obtain ⟨hx, hb, -, hown, hts, hnam, hB⟩ := id hN
        obtain ⟨h1, h2, h3, h4⟩ := hR.refs hg
        refine va_aldq hx hb hB.1 (px_P1 h4) 0 2 rfl rfl hin hd ?_
        rw [hq]
        exact hK _ _ _ _ h H locs cells slots sl hR hS hc hs hcr hsr hal hlc
      · exact h.elim
    · exact h.elim
  · exact h.elim
theorem ps_aast (hd : decode cc pc = .ok (.aastore, 1)) : px_S mt cc own nL lok rt ini al pc (pi_aast (pc + 1)) := by
  intro p l e R s m args below meth c Y n0 s0 d Qf cal Q lim K hN hok hfr hlo hl1 hl2 hret hK ls st G h H locs cells slots sl hR hS hc hs hcr hsr hal hlc
  unfold pi_aast at h
  split at h
  · rename_i v i a r
    unfold par at h
    split at h
    · rename_i n f hg
      obtain ⟨hin, h⟩ := h
      unfold ppf at h
      split at h
      · rename_i c3 vs hv
        obtain ⟨rfl, h⟩ := h
        obtain ⟨hx, hb, -, hown, hts, hnam, hB⟩ := id hN
        obtain ⟨h1, h2, h3, h4⟩ := hR.refs hg
        obtain ⟨v1, v2, v3, r', hr', cellV, g1, g2, g3, -⟩ := hR.obj hv
        have hlt : i.toNatClampNeg < n := Nat.not_le.mp fun q => hin (Or.inr q)
        have h0 : ¬ i < 0 := fun q => hin (Or.inl q)
        have hcls := (hB.1.1 3 (RX3, TX3, 5) rfl).2
        obtain ⟨kA, comp, k1, k2, k3, -⟩ := (hB.1.2 2 _ rfl).2
        have hcomp : comp = (y_D Y).1 3 := Option.some.inj (k3.symm.trans hcls.1)
        subst hcomp
        obtain ⟨kC, hkC, -⟩ := id hcls.2
        refine W.aast hx hb h4 (fun q h => by cases h) (fun h => by cases h) k1 k2 rfl hkC ⟨h0, by show _ < (arrV _ _ _).slots.size; rw [arrV_size]; exact hlt⟩ g1 (fun q h => by rw [g3] at h; cases h) (by rw [g2]; exact hkC) (by rw [g2]; exact va_assign hcls) rfl rfl hd fun H1 e z oq => ?_
        refine hK _ _ _ _ h H1 _ cells slots sl (hR.set h1 h2 trivial ?_ z oq) (hS.put z oq (by show y_s Y ≤ _; omega)) hc hs hcr hsr hal hlc
        show H1[_]? = some (vp_cell _ _)
        rw [e]
        dsimp only
        rw [vp_cell_q, vp_cell_q, arrV_store]
        congr 2
        funext q
        by_cases hq : q = i.toNatClampNeg
        · subst hq
          simp [updV, va_up, va_rf]
        · simp [updV, va_up, hq]
      · exact h.elim
    · exact h.elim
  · exact h.elim
theorem ps_alen (hd : decode cc pc = .ok (.arraylength, 1)) : px_S mt cc own nL lok rt ini al pc (pi_alen (pc + 1)) := by
  intro p l e R s m args below meth c Y n0 s0 d Qf cal Q lim K hN hok hfr hlo hl1 hl2 hret hK ls st G h H locs cells slots sl hR hS hc hs hcr hsr hal hlc
  unfold pi_alen at h
  split at h
  · rename_i a r
    unfold pia at h
    split at h
    · rename_i t n f hg
      obtain ⟨hx, hb, -, hown, hts, hnam, hB⟩ := id hN
      rcases hR.2 a _ hg with ⟨rfl, e1⟩ | ⟨rfl, e1⟩ | ⟨g1, g2, g3, g4⟩
      · cases e1
        exact va_slen (b := y_b Y) hx hb hB.2.2.2.2.2.1 (Nat.lt_of_lt_of_le hB.2.2.2.2.2.2.1 hB.2.2.2.2.2.2.2) (A := px_A Y) (by unfold px_A; have := hB.2.2.2.2.2.2.1; omega) hS hd (hK _ _ _ _ h H locs cells slots sl hR hS hc hs hcr hsr hal hlc)
      · cases e1
        obtain ⟨cell, h1, h2, h3, h4, h5, h6, h7⟩ := hB.2.2.2.2.1
        exact W.alen (a := y_f Y) (n := Int32.ofNat 7) hx hb (by rw [hS.2.1 _ (Array.getElem?_eq_some_iff.mp h1).1 h7]; exact h1) h2 h5 rfl rfl hd (hK _ _ _ _ h H locs cells slots sl hR hS hc hs hcr hsr hal hlc)
      · have ht2 : t < 2 := g3
        obtain ⟨h1, h2, h3, h4⟩ := hR.row hg ht2
        rcases (show t = 0 ∨ t = 1 by omega) with rfl | rfl
        · exact va_alen hx hb hB.1 (px_P1 h4) 0 0 rfl rfl rfl hd (hK _ _ _ _ h H locs cells slots sl hR hS hc hs hcr hsr hal hlc)
        · exact va_alen hx hb hB.1 (px_P1 h4) 0 1 rfl rfl rfl hd (hK _ _ _ _ h H locs cells slots sl hR hS hc hs hcr hsr hal hlc)
    · exact h.elim
  · exact h.elim
theorem ps_new {idx ci N : Nat} {C : String} {T : u_T} {ty0 : Nat → FieldType} {fs : List Value} (hal0 : al = true) (hd : decode cc pc = .ok (.new idx, 3)) (hc : vwCl[ci]? = some (C, T, N)) (hin : ∀ w ∈ u_ws C T N, w ∈ px_T) (hty : ∀ k, k < N → parseFieldDescriptor (T k).2.2.1 = some (ty0 k)) (h1 : Cond.classLink own idx C ∈ px_T) (h2 : Cond.instantiable C N ∈ px_T) (h3 : Cond.initialized C ∈ px_T) (hfs : ∀ j, j < N → defaultValue (ty0 j) = vp_V fs j) (hmv : ∀ Y, fs.map (px_mv Y) = fs) : px_S mt cc own nL lok rt ini al pc (pi_new ci N fs (pc + 3)) := by
  intro p l e R s m args below meth c Y n0 s0 d Qf cal Q lim K hN hok hfr hlo hl1 hl2 hret hK ls st G h H locs cells slots sl hR hS hcn hs hcr hsr hal hlc
  obtain ⟨g1, g2, h⟩ := h
  obtain ⟨hx, hb, -, hown, hts, hnam, hB⟩ := id hN
  have hKn := hB.1.1 ci _ hc
  refine W.newcK hx hb hown (hts _ h1) (hts _ h2) (hts _ h3) rfl hd (by omega) (by omega) hKn.2.1 rfl fun H1 kC hkC e1 z1 o1 => ?_
  have := hK _ _ _ _ h H1 locs (cells + 1) (slots + N) sl (hR.new (n := N) (c := .inr (.inr (ci, fs))) trivial ?_ z1 o1) ⟨Nat.le_trans hS.1 (by omega), fun x q1 q2 => (o1 x (Nat.lt_of_lt_of_le q1 hS.1)).trans (hS.2.1 x q1 q2), hS.2.2⟩ (by show G.1 + 1 = _; omega) (by show G.2.1 + N = _; omega) (by omega) (by omega) (fun q => by rw [hal0] at q; cases q) hlc
  · rw [List.map_cons, px_mv_ref, hR.newad] at this
    exact this
  · show va_at _ _ (H.size, .inr (ci, fs.map (px_mv Y))) H1
    rw [hmv]
    exact ⟨_, hc, (u_born ty0 hts hin hKn hkC e1 hty).to hfs⟩
theorem ps_newi (hal0 : al = true) (hd : decode cc pc = .ok (.newarray .int, 2)) (h1 : Cond.arrayClass .int ∈ px_T) : px_S mt cc own nL lok rt ini al pc (pi_newa 0 (pc + 2)) := by
  intro p l e R s m args below meth c Y n0 s0 d Qf cal Q lim K hN hok hfr hlo hl1 hl2 hret hK ls st G h H locs cells slots sl hR hS hc hs hcr hsr hal hlc
  unfold pi_newa at h
  split at h
  · rename_i n r
    obtain ⟨g0, g1, g2, g3, h⟩ := h
    obtain ⟨hx, hb, -, hown, hts, hnam, hB⟩ := id hN
    refine va_newaK (atype := .int) hx hb (hts _ h1) rfl hd rfl g0 rfl (by show _ * 4 ≤ _; omega) (by omega) (by omega) rfl fun H1 cA e1 z1 o1 hAr hNm => ?_
    have hcA : cA = y_I Y := Option.some.inj (hNm.symm.trans (hB.1.2 0 _ rfl).2)
    have := hK _ _ _ _ h H1 locs (cells + 1) (slots + n.toNatClampNeg) sl (hR.new (n := n.toNatClampNeg) (c := .inl (0, n.toNatClampNeg, fun _ => 0)) (by show 0 < 2; omega) ?_ z1 o1) ⟨Nat.le_trans hS.1 (by omega), fun x q1 q2 => (o1 x (Nat.lt_of_lt_of_le q1 hS.1)).trans (hS.2.1 x q1 q2), hS.2.2⟩ (by show G.1 + 1 = _; omega) (by show G.2.1 + _ = _; omega) (by omega) (by omega) (fun q => by rw [hal0] at q; cases q) hlc
    · rw [List.map_cons, px_mv_ref, hR.newad] at this
      exact this
    · show H1[H.size]? = some (vp_cell _ _)
      rw [e1, hcA]
      rfl
  · exact h.elim
theorem ps_newz (hal0 : al = true) (hd : decode cc pc = .ok (.newarray .boolean, 2)) (h1 : Cond.arrayClass .boolean ∈ px_T) : px_S mt cc own nL lok rt ini al pc (pi_newa 1 (pc + 2)) := by
  intro p l e R s m args below meth c Y n0 s0 d Qf cal Q lim K hN hok hfr hlo hl1 hl2 hret hK ls st G h H locs cells slots sl hR hS hc hs hcr hsr hal hlc
  unfold pi_newa at h
  split at h
  · rename_i n r
    obtain ⟨g0, g1, g2, g3, h⟩ := h
    obtain ⟨hx, hb, -, hown, hts, hnam, hB⟩ := id hN
    refine va_newaK (atype := .boolean) hx hb (hts _ h1) rfl hd rfl g0 rfl (by show _ * 1 ≤ _; omega) (by omega) (by omega) rfl fun H1 cA e1 z1 o1 hAr hNm => ?_
    have hcA : cA = y_Z Y := Option.some.inj (hNm.symm.trans (hB.1.2 1 _ rfl).2)
    have := hK _ _ _ _ h H1 locs (cells + 1) (slots + n.toNatClampNeg) sl (hR.new (n := n.toNatClampNeg) (c := .inl (1, n.toNatClampNeg, fun _ => 0)) (by show 1 < 2; omega) ?_ z1 o1) ⟨Nat.le_trans hS.1 (by omega), fun x q1 q2 => (o1 x (Nat.lt_of_lt_of_le q1 hS.1)).trans (hS.2.1 x q1 q2), hS.2.2⟩ (by show G.1 + 1 = _; omega) (by show G.2.1 + _ = _; omega) (by omega) (by omega) (fun q => by rw [hal0] at q; cases q) hlc
    · rw [List.map_cons, px_mv_ref, hR.newad] at this
      exact this
    · show H1[H.size]? = some (vp_cell _ _)
      rw [e1, hcA]
      rfl
  · exact h.elim
theorem ps_anew {idx : Nat} (hal0 : al = true) (hd : decode cc pc = .ok (.anewarray idx, 3)) (h1 : Cond.classLink own idx "StableRivers$Scene" ∈ px_T) : px_S mt cc own nL lok rt ini al pc (pi_anew (pc + 3)) := by
  intro p l e R s m args below meth c Y n0 s0 d Qf cal Q lim K hN hok hfr hlo hl1 hl2 hret hK ls st G h H locs cells slots sl hR hS hc hs hcr hsr hal hlc
  unfold pi_anew at h
  split at h
  · rename_i n r
    obtain ⟨g0, g1, g2, g3, h⟩ := h
    obtain ⟨hx, hb, -, hown, hts, hnam, hB⟩ := id hN
    refine W.anew hx hb hown (hts _ h1) (va_AO.use hB.2.2.1) rfl hd rfl g0 (by omega) (by omega) (by omega) fun cA kA comp f1 f2 f3 f4 => ?_
    generalize hH1 : H.push ({ cls := cA, slots := Array.replicate n.toNatClampNeg .null, vm := .none } : Cell) = H1
    have z1 : H1.size = H.size + 1 := by rw [← hH1, Array.size_push]
    have e1 : H1[H.size]? = some (arrV cA n.toNatClampNeg (fun _ => .null)) := by rw [← hH1, Array.getElem?_push_size, ← arrV_new]
    have o1 : ∀ q : Nat, q < H.size → H1[q]? = H[q]? := fun q hq => by rw [← hH1, Array.getElem?_push, if_neg (Nat.ne_of_lt hq)]
    obtain ⟨kA', comp', k1, k2, k3, k4⟩ := (hB.1.2 2 _ rfl).2
    have hcA : cA = y_R Y := Option.some.inj (f1.symm.trans k4)
    have := hK _ _ _ _ h H1 locs (cells + 1) (slots + n.toNatClampNeg) sl (hR.new (n := n.toNatClampNeg) (c := .inr (.inl (n.toNatClampNeg, fun _ => none))) trivial ?_ z1 o1) ⟨Nat.le_trans hS.1 (by omega), fun x q1 q2 => (o1 x (Nat.lt_of_lt_of_le q1 hS.1)).trans (hS.2.1 x q1 q2), hS.2.2⟩ (by show G.1 + 1 = _; omega) (by show G.2.1 + _ = _; omega) (by omega) (by omega) (fun q => by rw [hal0] at q; cases q) hlc
    · rw [List.map_cons, px_mv_ref, hR.newad] at this
      exact this
    · show H1[H.size]? = some (vp_cell _ _)
      rw [e1, hcA]
      rfl
  · exact h.elim
theorem ps_oini {idx : Nat} (hd : decode cc pc = .ok (.invokespecial idx, 3)) (h1 : Cond.methodLink own idx Lib.objectInit ∈ px_T) (h2 : Cond.instanceMethod Lib.objectInit ∈ px_T) (h3 : Cond.code Lib.objectInit ⟨#[0xb1]⟩ 1 none ∈ px_T) : px_S mt cc own nL lok rt ini al pc (pi_oini (pc + 3)) := by
  intro p l e R s m args below meth c Y n0 s0 d Qf cal Q lim K hN hok hfr hlo hl1 hl2 hret hK ls st G h H locs cells slots sl hR hS hc hs hcr hsr hal hlc
  unfold pi_oini at h
  split at h
  · rename_i a r
    obtain ⟨hx, hb, hml, hown, hts, hnam, hB⟩ := id hN
    have hq := px_room (Y := Y) (m := m) (pc := pc) (sl := sl) (st := (Value.ref a :: r).map (px_mv Y)) h.1
    exact W.objInit hx hb hown (hts _ h1) (hts _ h2) (hts _ h3) rfl (hlc.2.1.1.trans hml.symm) rfl hd (by omega) (by omega) (hK _ _ _ _ h.2 H locs cells slots sl hR hS hc hs hcr hsr hal hlc)
  · exact h.elim
theorem ps_mmax {idx : Nat} (hd : decode cc pc = .ok (.invokestatic idx, 3)) (h1 : Cond.methodLink own idx Lib.Math.max.name ∈ px_T) (h2 : Cond.static Lib.Math.max.name ∈ px_T) (h3 : Cond.initialized "java/lang/Math" ∈ px_T) (h4 : Cond.code Lib.Math.max.name Lib.Math.max.code 2 (some .int) ∈ px_T) : px_S mt cc own nL lok rt ini al pc (pi_mmax (pc + 3)) := by
  intro p l e R s m args below meth c Y n0 s0 d Qf cal Q lim K hN hok hfr hlo hl1 hl2 hret hK ls st G h H locs cells slots sl hR hS hc hs hcr hsr hal hlc
  unfold pi_mmax at h
  split at h
  · rename_i x1 x2 r
    obtain ⟨hx, hb, hml, hown, hts, hnam, hB⟩ := id hN
    have hq := px_cats (Y := Y) r
    have h41 := h.1
    exact va_mmax hx hb (hml.trans hlc.2.1.1.symm) hown (hts _ h1) (hts _ h2) (hts _ h3) (hts _ h4) (by omega) (by omega) hcr hsr hd (hK _ _ _ _ h.2 H locs cells slots sl hR hS hc hs hcr hsr hal hlc)
  · exact h.elim
theorem ps_mmin {idx : Nat} (hd : decode cc pc = .ok (.invokestatic idx, 3)) (h1 : Cond.methodLink own idx Lib.Math.min.name ∈ px_T) (h2 : Cond.static Lib.Math.min.name ∈ px_T) (h3 : Cond.initialized "java/lang/Math" ∈ px_T) (h4 : Cond.code Lib.Math.min.name Lib.Math.min.code 2 (some .int) ∈ px_T) : px_S mt cc own nL lok rt ini al pc (pi_mmin (pc + 3)) := by
  intro p l e R s m args below meth c Y n0 s0 d Qf cal Q lim K hN hok hfr hlo hl1 hl2 hret hK ls st G h H locs cells slots sl hR hS hc hs hcr hsr hal hlc
  unfold pi_mmin at h
  split at h
  · rename_i x1 x2 r
    obtain ⟨hx, hb, hml, hown, hts, hnam, hB⟩ := id hN
    have hq := px_cats (Y := Y) r
    have h41 := h.1
    exact va_mmin hx hb (hml.trans hlc.2.1.1.symm) hown (hts _ h1) (hts _ h2) (hts _ h3) (hts _ h4) (by omega) (by omega) hcr hsr hd (hK _ _ _ _ h.2 H locs cells slots sl hR hS hc hs hcr hsr hal hlc)
  · exact h.elim
theorem ps_mabs {idx : Nat} (hd : decode cc pc = .ok (.invokestatic idx, 3)) (h1 : Cond.methodLink own idx Lib.Math.abs.name ∈ px_T) (h2 : Cond.static Lib.Math.abs.name ∈ px_T) (h3 : Cond.initialized "java/lang/Math" ∈ px_T) (h4 : Cond.code Lib.Math.abs.name Lib.Math.abs.code 1 (some .int) ∈ px_T) : px_S mt cc own nL lok rt ini al pc (pi_mabs (pc + 3)) := by
  intro p l e R s m args below meth c Y n0 s0 d Qf cal Q lim K hN hok hfr hlo hl1 hl2 hret hK ls st G h H locs cells slots sl hR hS hc hs hcr hsr hal hlc
  unfold pi_mabs at h
  split at h
  · rename_i x1 r
    obtain ⟨hx, hb, hml, hown, hts, hnam, hB⟩ := id hN
    have hq := px_cats (Y := Y) r
    have h41 := h.1
    exact va_mabs hx hb (hml.trans hlc.2.1.1.symm) hown (hts _ h1) (hts _ h2) (hts _ h3) (hts _ h4) (by omega) (by omega) hcr hsr hd (hK _ _ _ _ h.2 H locs cells slots sl hR hS hc hs hcr hsr hal hlc)
  · exact h.elim
theorem px_goes {p : Program} {l : Launch} {e : Env} {R : Room} {s : State} {m : MethodId} {args : Array Value} {below : List Frame} {meth : Method} {c : Code} {Y : px_Y} {n0 s0 : Nat} {Qf : State → Prop} {H : Heap} {locs : List Loc} {cells slots mc ms : Nat} {sl : Array Slot} {st0 : List Value} {ls : px_L} {r : List Value} {G : px_H} {Q : px_Q} {a : Array Value}
    (hr : va_Run p l e R s m args below meth c H locs cells slots mc ms (F0 m pc sl st0) (r.map (px_mv Y)) (px_Qc Y G Q mc ms a) (px_A Y)) (hS : va_S (px_A Y) s.heap H locs) (hc : G.1 = n0 + cells) (hs : G.2.1 = s0 + slots) (hcr : cells + mc ≤ R.cells) (hsr : slots + ms ≤ R.slots) (hal : al = false → cells + mc = 0 ∧ slots + ms = 0) (hlc : px_lc Y nL lok sl ls)
    (hK : ∀ v G', Q v G' → px_W p l e R s m args below meth c Y nL lok al n0 s0 Qf (pc + 3) ls (v.toList ++ r) G') : W p l e R s m args below meth c H locs cells slots Qf (F0 m pc sl st0) := by
  intro T hT X
  obtain ⟨v, st₀, t, T', L, h0, X', hL, e1, e2, ⟨⟨v', G', hv, hq, hR', hn', hs'⟩, hz, hk⟩, st⟩ := hr T hT X
  have hv' : v = v'.map (px_mv Y) := Outcome.returned.inj hv
  subst hv'
  rw [h0] at hz hk
  have hS' : va_S (px_A Y) s.heap T'.heap (locs ++ L) := by
    refine ⟨Nat.le_trans hS.1 (by rw [e1]; exact hz), fun q h1 h2 => ?_, fun q hq => ?_⟩
    · rw [e1, hk q (Nat.lt_of_lt_of_le h1 hS.1) h2]
      exact hS.2.1 q h1 h2
    · rcases List.mem_append.mp hq with h | h
      · exact hS.2.2 q h
      · exact hL q h
  have hgo := hK v' G' hq T'.heap (locs ++ L) (cells + mc) (slots + ms) sl (by rw [e1]; exact hR') hS' (by omega) (by omega) hcr hsr hal hlc
  have hst : (v'.toList ++ r).map (px_mv Y) = (v'.map (px_mv Y)).toList ++ r.map (px_mv Y) := by cases v' <;> rfl
  rw [hst] at hgo
  obtain ⟨t2, a1, b1⟩ := hgo T' rfl X'
  exact ⟨t2, st t2 a1, b1⟩
theorem px_cut {st : List Value} {n : Nat} {o : Value} {as : List Value} (h : (st.take (n + 1)).reverse = o :: as) : st = as.reverse ++ o :: st.drop (n + 1) := by
  have h1 : st.take (n + 1) = as.reverse ++ [o] := by
    have := congrArg List.reverse h
    simpa using this
  calc st = st.take (n + 1) ++ st.drop (n + 1) := (List.take_append_drop _ _).symm
    _ = as.reverse ++ o :: st.drop (n + 1) := by rw [h1]; simp
theorem ps_callV {y n idx ci N : Nat} {T : u_T} {q : px_D} (hd : decode cc pc = .ok (.invokevirtual idx, 3)) (hy : mt y = q) (hm : q.2.2.2.2 = (0, 0)) (hc0 : vwCl[ci]? = some (q.1.cls, T, N)) (h1 : Cond.methodLink own idx q.1 ∈ px_T) (h2 : Cond.instanceMethod q.1 ∈ px_T) (h3 : Cond.selects q.1.cls q.1 q.1 ∈ px_T) (h4 : Cond.initialized q.1.cls ∈ px_T) (h5 : Cond.code q.1 q.2.1 q.2.2.1 q.2.2.2.1 ∈ px_T) (hx0 : q.2.2.1 ≤ 40) (hg : q.1.cls = q.1.cls ∧ q.1.cls ≠ "java/lang/invoke/MethodHandle" ∧ q.1.cls ≠ "java/lang/invoke/VarHandle" ∧ (parseMethodDescriptor q.1.desc).map (fun d => d.parameters.length) = some n) : px_S mt cc own nL lok rt ini al pc (pi_callV y n ci (pc + 3)) := by
  intro p l e R s m args below meth c Y n0 s0 d Qf cal Q lim K hN hok hfr hlo hl1 hl2 hret hK ls st G h H locs cells slots sl hR hS hc hs hcr hsr hal hlc
  obtain ⟨g1, g2, h⟩ := h
  split at h
  · rename_i o as hst
    unfold ppf at h
    split at h
    · rename_i c0 fs hob
      obtain ⟨rfl, h⟩ := h
      obtain ⟨hx, hb, hml, hown, hts, hnam, hB⟩ := id hN
      obtain ⟨o1, o2, o3, o4⟩ := hR.obj hob
      subst hy
      have m1 : (mt y).2.2.2.2.1 = 0 := by rw [hm]
      have m2 : (mt y).2.2.2.2.2 = 0 := by rw [hm]
      have hM := hok y _ G _ (Or.inl ⟨m1, m2⟩) h
      rw [m1, m2] at hM
      have hstack := px_cut hst
      have hlen : as.length = n := by
        have := congrArg List.length hst
        simp at this
        omega
      refine px_goes (mc := 0) (ms := 0) (r := st.drop (n + 1)) (va_runV (As := as.map (px_mv Y)) ⟨hx, hb, hml, hown, hts⟩ hM (cwV n hts (px_T_good (fun w hw => ?_)) rfl m1 m2 hg ⟨by show d + 3 + 1 ≤ _; omega, by show 8 + (_ + 11) + 60 * (d + 3) ≤ _; omega⟩) ⟨px_blind, va_recv (q0 := 0) (fs := fs.map (px_mv Y)) hB.1 (px_P1 o4) hc0 rfl, fun U hU hW => ⟨rfl, by rw [hU]; exact (hB.kept hS).moved hW, by rw [hU]; exact hR⟩⟩ rfl (by rw [List.length_map]; exact hlen) hlc.2.1.1 ?_ (px_room g2) hd ⟨hcr, hsr⟩) hS hc hs hcr hsr hal hlc (fun v G' hq => hK _ _ _ _ hq)
      · simp only [wsV, List.mem_append, List.mem_cons, List.not_mem_nil, or_false] at hw
        rcases hw with (rfl | rfl | rfl | rfl) | hw
        · exact h1
        · exact h2
        · exact h3
        · exact h4
        · rcases List.mem_cons.mp hw with rfl | hw
          · exact h5
          · exact hw
      · show st.map (px_mv Y) = _
        conv => lhs; rw [hstack]
        rw [List.map_append, List.map_reverse, List.map_cons]
        rfl
    · exact h.elim
  · exact h.elim
theorem ps_callS {y n idx : Nat} {q : px_D} (hd : decode cc pc = .ok (.invokestatic idx, 3)) (hy : mt y = q) (hm : q.2.2.2.2 = (0, 0)) (h1 : Cond.methodLink own idx q.1 ∈ px_T) (h2 : Cond.static q.1 ∈ px_T) (h4 : Cond.initialized q.1.cls ∈ px_T) (h5 : Cond.code q.1 q.2.1 q.2.2.1 q.2.2.2.1 ∈ px_T) (hx0 : q.2.2.1 ≤ 40) (hg : q.1.cls ≠ "java/lang/invoke/MethodHandle" ∧ q.1.cls ≠ "java/lang/invoke/VarHandle" ∧ (parseMethodDescriptor q.1.desc).map (fun d => d.parameters.length) = some n) : px_S mt cc own nL lok rt ini al pc (pi_callS y n (pc + 3)) := by
  intro p l e R s m args below meth c Y n0 s0 d Qf cal Q lim K hN hok hfr hlo hl1 hl2 hret hK ls st G h H locs cells slots sl hR hS hc hs hcr hsr hal hlc
  obtain ⟨g1, g2, h⟩ := h
  obtain ⟨hx, hb, hml, hown, hts, hnam, hB⟩ := id hN
  subst hy
  have m1 : (mt y).2.2.2.2.1 = 0 := by rw [hm]
  have m2 : (mt y).2.2.2.2.2 = 0 := by rw [hm]
  have hM := hok y _ G _ (Or.inl ⟨m1, m2⟩) h
  rw [m1, m2] at hM
  refine px_goes (mc := 0) (ms := 0) (r := st.drop n) (va_runS (As := (st.take n).reverse.map (px_mv Y)) ⟨hx, hb, hml, hown, hts⟩ hM (va_cwS n hts (px_T_good (fun w hw => ?_)) rfl m1 m2 hg ⟨by show d + 3 + 1 ≤ _; omega, by show 8 + (_ + 11) + 60 * (d + 3) ≤ _; omega⟩) ⟨px_blind, fun U hU hW => ⟨rfl, by rw [hU]; exact (hB.kept hS).moved hW, by rw [hU]; exact hR⟩⟩ rfl (by simp; omega) hlc.2.1.1 ?_ (px_room g2) hd ⟨hcr, hsr⟩) hS hc hs hcr hsr hal hlc (fun v G' hq => hK _ _ _ _ hq)
  · simp only [va_wsS, List.mem_append, List.mem_cons, List.not_mem_nil, or_false] at hw
    rcases hw with (rfl | rfl | rfl) | hw
    · exact h1
    · exact h2
    · exact h4
    · rcases List.mem_cons.mp hw with rfl | hw
      · exact h5
      · exact hw
  · show st.map (px_mv Y) = _
    rw [List.map_reverse, List.reverse_reverse, ← List.map_append, List.take_append_drop]

theorem ps_callI {y n idx mc ms : Nat} {nm0 : MethodName} {by0 : ByteArray} {mx0 : Nat} (hal0 : al = true) (hd : decode cc pc = .ok (.invokespecial idx, 3)) (hy : mt y = (nm0, by0, mx0, none, mc, ms)) (h1 : Cond.methodLink own idx nm0 ∈ px_T) (h2 : Cond.instanceMethod nm0 ∈ px_T) (h4 : Cond.initialized nm0.cls ∈ px_T) (h5 : Cond.code nm0 by0 mx0 none ∈ px_T) (hx0 : mx0 ≤ 40) (hy1 : nm0.name = "<init>") (hg : nm0.cls ≠ "java/lang/invoke/MethodHandle" ∧ nm0.cls ≠ "java/lang/invoke/VarHandle" ∧ (parseMethodDescriptor nm0.desc).map (fun d => d.parameters.length) = some n) : px_S mt cc own nL lok rt ini al pc (pi_callI y n mc ms (pc + 3)) := by
  intro p l e R s m args below meth c Y n0 s0 d Qf cal Q lim K hN hok hfr hlo hl1 hl2 hret hK ls st G h H locs cells slots sl hR hS hc hs hcr hsr hal hlc
  obtain ⟨g1, g2, g3, g4, h⟩ := h
  split at h
  · rename_i o as hst
    obtain ⟨hx, hb, hml, hown, hts, hnam, hB⟩ := id hN
    have hM := hok y _ G _ (Or.inr (fun v G' hq => by rw [hy]; exact ⟨hq.1, hq.2.1⟩)) h
    rw [hy] at hM
    have hstack := px_cut hst
    have hlen : as.length = n := by
      have := congrArg List.length hst
      simp at this
      omega
    have m1 : (px_rm d (nm0, by0, mx0, none, mc, ms)).cells = mc := rfl
    have m2 : (px_rm d (nm0, by0, mx0, none, mc, ms)).slots = ms := rfl
    have hRm : (px_rm d (nm0, by0, mx0, none, mc, ms)).frames + 1 ≤ R.frames ∧ 8 + (mx0 + 11) + (px_rm d (nm0, by0, mx0, none, mc, ms)).locals ≤ R.locals := ⟨by show d + 3 + 1 ≤ _; omega, by show 8 + (_ + 11) + 60 * (d + 3) ≤ _; omega⟩
    have hG : GoodIn px_T (px_ws (nm0, by0, mx0, none, mc, ms)) := px_T_good (fun w hw => by
      rcases List.mem_cons.mp hw with rfl | hw
      · exact h5
      · exact hw)
    refine px_goes (mc := mc) (ms := ms) (r := st.drop (n + 1)) (va_runI (b := px_ad Y o) (As := as.map (px_mv Y)) ⟨hx, hb, hml, hown, hts⟩ hM (cwI n hts hG rfl m1 m2 (hts _ h4) (hts _ h1) (hts _ h2) hy1 hg hRm) ⟨px_blind, fun U hU hW => ⟨rfl, by rw [hU]; exact (hB.kept hS).moved hW, by rw [hU]; exact hR⟩⟩ rfl (by rw [List.length_map]; exact hlen) hlc.2.1.1 ?_ (px_room g2) hd ⟨by omega, by omega⟩) hS hc hs (by omega) (by omega) (fun q => by rw [hal0] at q; cases q) hlc (fun v G' hq => hK _ _ _ _ hq.2.2)
    show st.map (px_mv Y) = _
    conv => lhs; rw [hstack]
    rw [List.map_append, List.map_reverse, List.map_cons]
    rfl
  · exact h.elim
theorem ps_callN {y n idx mc ms : Nat} {nm0 : MethodName} {by0 : ByteArray} {mx0 : Nat} (hal0 : al = true) (hd : decode cc pc = .ok (.invokespecial idx, 3)) (hy : mt y = (nm0, by0, mx0, none, mc, ms)) (hh : (own, idx, nm0, "StableRivers") ∈ px_nw) (h2 : Cond.instanceMethod nm0 ∈ px_T) (h4 : Cond.initialized nm0.cls ∈ px_T) (h5 : Cond.code nm0 by0 mx0 none ∈ px_T) (hx0 : mx0 ≤ 40) (hy1 : nm0.name = "<init>") (hg : nm0.cls ≠ "java/lang/invoke/MethodHandle" ∧ nm0.cls ≠ "java/lang/invoke/VarHandle" ∧ (parseMethodDescriptor nm0.desc).map (fun d => d.parameters.length) = some n) : px_S mt cc own nL lok rt ini al pc (pi_callI y n mc ms (pc + 3)) := by
  intro p l e R s m args below meth c Y n0 s0 d Qf cal Q lim K hN hok hfr hlo hl1 hl2 hret hK ls st G h H locs cells slots sl hR hS hc hs hcr hsr hal hlc
  obtain ⟨g1, g2, g3, g4, h⟩ := h
  split at h
  · rename_i o as hst
    obtain ⟨hx, hb, hml, hown, hts, hnam, hB⟩ := id hN
    have hM := hok y _ G _ (Or.inr (fun v G' hq => by rw [hy]; exact ⟨hq.1, hq.2.1⟩)) h
    rw [hy] at hM
    have hstack := px_cut hst
    have hlen : as.length = n := by
      have := congrArg List.length hst
      simp at this
      omega
    have m1 : (px_rm d (nm0, by0, mx0, none, mc, ms)).cells = mc := rfl
    have m2 : (px_rm d (nm0, by0, mx0, none, mc, ms)).slots = ms := rfl
    have hRm : (px_rm d (nm0, by0, mx0, none, mc, ms)).frames + 1 ≤ R.frames ∧ 8 + (mx0 + 11) + (px_rm d (nm0, by0, mx0, none, mc, ms)).locals ≤ R.locals := ⟨by show d + 3 + 1 ≤ _; omega, by show 8 + (_ + 11) + 60 * (d + 3) ≤ _; omega⟩
    have hG : GoodIn px_T (px_ws (nm0, by0, mx0, none, mc, ms)) := px_T_good (fun w hw => by
      rcases List.mem_cons.mp hw with rfl | hw
      · exact h5
      · exact hw)
    refine px_goes (mc := mc) (ms := ms) (r := st.drop (n + 1)) (va_runIN (b := px_ad Y o) (As := as.map (px_mv Y)) ⟨hx, hb, hml, hown, hts⟩ hM (⟨va_cnB n hts hG rfl m1 m2 (hB.2.1 _ hh) (hts _ h4) hg hRm, hy1, hts _ h2⟩) ⟨px_blind, fun U hU hW => ⟨rfl, by rw [hU]; exact (hB.kept hS).moved hW, by rw [hU]; exact hR⟩⟩ rfl (by rw [List.length_map]; exact hlen) hlc.2.1.1 ?_ (px_room g2) hd ⟨by omega, by omega⟩) hS hc hs (by omega) (by omega) (fun q => by rw [hal0] at q; cases q) hlc (fun v G' hq => hK _ _ _ _ hq.2.2)
    show st.map (px_mv Y) = _
    conv => lhs; rw [hstack]
    rw [List.map_append, List.map_reverse, List.map_cons]
    rfl
  · exact h.elim
theorem ps_iret (hd : decode cc pc = .ok (.ireturn, 1)) (hr : rt = some .int) : px_S mt cc own nL lok rt ini al pc pi_iret := by
  intro p l e R s m args below meth c Y n0 s0 d Qf cal Q lim K hN hok hfr hlo hl1 hl2 hret hK ls st G h H locs cells slots sl hR hS hc hs hcr hsr hal hlc
  unfold pi_iret at h
  split at h
  · exact hret.1 _ pc ls G hr hd h H locs cells slots sl hR hS hc hs hcr hsr hal hlc
  · exact h.elim
theorem ps_zret (hd : decode cc pc = .ok (.ireturn, 1)) (hr : rt = some .boolean) : px_S mt cc own nL lok rt ini al pc pi_zret := by
  intro p l e R s m args below meth c Y n0 s0 d Qf cal Q lim K hN hok hfr hlo hl1 hl2 hret hK ls st G h H locs cells slots sl hR hS hc hs hcr hsr hal hlc
  unfold pi_zret at h
  split at h
  · exact hret.2.1 _ pc ls G hr h.1 hd h.2 H locs cells slots sl hR hS hc hs hcr hsr hal hlc
  · exact h.elim
theorem ps_lret (hd : decode cc pc = .ok (.lreturn, 1)) (hr : rt = some .long) : px_S mt cc own nL lok rt ini al pc pi_lret := by
  intro p l e R s m args below meth c Y n0 s0 d Qf cal Q lim K hN hok hfr hlo hl1 hl2 hret hK ls st G h H locs cells slots sl hR hS hc hs hcr hsr hal hlc
  unfold pi_lret at h
  split at h
  · exact hret.2.2.1 _ pc ls G hr hd h H locs cells slots sl hR hS hc hs hcr hsr hal hlc
  · exact h.elim
theorem ps_vret (hd : decode cc pc = .ok (.return_, 1)) (hr : rt = none) : px_S mt cc own nL lok rt ini al pc pi_vret := by
  intro p l e R s m args below meth c Y n0 s0 d Qf cal Q lim K hN hok hfr hlo hl1 hl2 hret hK ls st G h H locs cells slots sl hR hS hc hs hcr hsr hal hlc
  unfold pi_vret at h
  split at h
  · exact hret.2.2.2 pc ls G hr hd h H locs cells slots sl hR hS hc hs hcr hsr hal hlc
  · exact h.elim
end PXI
