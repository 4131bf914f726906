/-! ===== the ground: how the plain machine's states lie in the machine's ===== -/
/-- layout, classes of int, boolean and Scene rows, the script's cell, length and values, the factorials' cell, the first own cell -/
abbrev px_Y : Type := va_G × ClassId × ClassId × ClassId × Nat × Nat × (Nat → Int32) × Nat × Nat
abbrev y_D (Y : px_Y) : va_G := Y.1
abbrev y_I (Y : px_Y) : ClassId := Y.2.1
abbrev y_Z (Y : px_Y) : ClassId := Y.2.2.1
abbrev y_R (Y : px_Y) : ClassId := Y.2.2.2.1
abbrev y_b (Y : px_Y) : Nat := Y.2.2.2.2.1
abbrev y_L (Y : px_Y) : Nat := Y.2.2.2.2.2.1
abbrev y_x (Y : px_Y) : Nat → Int32 := Y.2.2.2.2.2.2.1
abbrev y_f (Y : px_Y) : Nat := Y.2.2.2.2.2.2.2.1
abbrev y_s (Y : px_Y) : Nat := Y.2.2.2.2.2.2.2.2
def px_ad (Y : px_Y) (k : Nat) : Nat := if k = 0 then y_b Y else if k = 1 then y_f Y else y_s Y + (k - 2)
def px_mv (Y : px_Y) (v : Value) : Value := match v with
  | .ref k => .ref (px_ad Y k)
  | w => w
theorem px_mv_int (Y : px_Y) (x : Int32) : px_mv Y (.int x) = .int x := rfl
theorem px_mv_long (Y : px_Y) (x : Int64) : px_mv Y (.long x) = .long x := rfl
theorem px_mv_ref (Y : px_Y) (k : Nat) : px_mv Y (.ref k) = .ref (px_ad Y k) := rfl
theorem px_mv_cat (Y : px_Y) (v : Value) : (px_mv Y v).category = v.category := by cases v <;> rfl
def px_emb (Y : px_Y) (c : px_E) : va_E := match c with
  | .inl (t, n, f) => .inl (if t = 1 then y_Z Y else y_I Y, n, .inl f)
  | .inr (.inl (n, f)) => .inl (y_R Y, n, .inr (.inr (.inr (.inr (fun j => (f j).map (px_ad Y))))))
  | .inr (.inr (ci, fs)) => .inr (ci, fs.map (px_mv Y))
def px_own (c : px_E) : Prop := match c with
  | .inl (t, _, _) => t < 2
  | _ => True
def px_fac (j : Nat) : Int32 := match j with
  | 0 => 1
  | 1 => 1
  | 2 => 2
  | 3 => 6
  | 4 => 24
  | 5 => 120
  | _ => 720
def px_tys (Y : px_Y) : List (ClassId × FieldType) := [(y_I Y, .int), (y_Z Y, .boolean), (y_R Y, .object "StableRivers$Scene")]
def px_A (Y : px_Y) : Nat → Prop := fun q => y_s Y ≤ q
/-- the heap holds what the plain cells say -/
def px_R (Y : px_Y) (G : px_H) (H : Heap) : Prop := H.size = y_s Y + G.1 ∧ ∀ (k : Nat) (c : px_E), G.2.2 k = some c →
  (k = 0 ∧ c = .inl (2, y_L Y, y_x Y)) ∨ (k = 1 ∧ c = .inl (2, 7, px_fac)) ∨ (2 ≤ k ∧ k < G.1 + 2 ∧ px_own c ∧ va_at (y_D Y) vwCl (y_s Y + (k - 2), px_emb Y c) H)
def px_nw : List (String × Nat × MethodName × String) := [("StableRivers", 15, yX2_init, "StableRivers"), ("StableRivers", 22, yX1_init, "StableRivers"), ("StableRivers", 32, yX5_init, "StableRivers"), ("StableRivers", 39, yX3_init, "StableRivers"), ("StableRivers$Acts", 17, yX3_init, "StableRivers"), ("StableRivers", 53, yX4_init, "StableRivers")]
/-- what holds of a state beside the own cells -/
def px_B (Y : px_Y) (U : State) (H : Heap) : Prop := va_K (y_D Y) vwCl (px_tys Y) U ∧ (∀ w ∈ px_nw, va_Nw (.methodLinkNest w.1 w.2.1 w.2.2.1 w.2.2.2) U) ∧ va_AO "StableRivers$Scene" U ∧
  va_Z "StableRivers" "FACTORIALS" "[I" (.ref (y_f Y)) (px_A Y) U H ∧ va_T .int (y_f Y) 7 (fun j => .int (px_fac j)) (px_A Y) U H ∧ va_X (y_b Y) (y_L Y) (y_x Y) U H ∧ y_b Y < y_s Y ∧ y_s Y ≤ H.size
theorem px_B.moved {Y : px_Y} {u U : State} {H : Heap} (hW : u.WarmedH U.vm) (h : px_B Y u H) : px_B Y U H := by
  obtain ⟨h1, h2, h3, h4, h5, h6, h7⟩ := h
  exact ⟨h1.moved hW.alike, fun w hw => (h2 w hw).warmM hW, h3.moved hW.alike, h4.moved hW.alike, h5.moved hW.alike, h6.moved hW.alike, h7⟩
theorem px_B.calling {Y : px_Y} {U : State} {H : Heap} {g : JFrame} {mk : MethodId} {a : Array Value} (h : px_B Y U H) : px_B Y (U.calling g mk a) H := by
  obtain ⟨h1, h2, h3, h4, h5, h6, h7⟩ := h
  exact ⟨va_K.moved (u := U) (U := U.calling g mk a) (Vm.Alike.refl U.vm) h1, fun w hw => va_Nw.same (U := U.calling g mk a) rfl rfl (h2 w hw), va_AO.moved (u := U) (U := U.calling g mk a) (Vm.Alike.refl U.vm) h3, va_Z.moved (u := U) (U := U.calling g mk a) (Vm.Alike.refl U.vm) h4, va_T.moved (u := U) (U := U.calling g mk a) (Vm.Alike.refl U.vm) h5, va_X.moved (u := U) (U := U.calling g mk a) (Vm.Alike.refl U.vm) h6, h7⟩
theorem px_B.kept {Y : px_Y} {U : State} {H0 H : Heap} {locs : List Loc} (h : px_B Y U H0) (hS : va_S (px_A Y) H0 H locs) : px_B Y U H := by
  obtain ⟨h1, h2, h3, h4, h5, h6, h7, h8⟩ := h
  exact ⟨h1, h2, h3, h4.kept hS.2.1, h5.kept hS.2.1, h6.kept (hS.2.1 _ (by omega) (by unfold px_A; omega)), h7, Nat.le_trans h8 hS.1⟩
/-! locals -/
def px_as (Y : px_Y) : Nat → px_L → List (Nat × Value)
  | _, [] => []
  | i, none :: r => px_as Y (i + 1) r
  | i, some v :: r => (i, px_mv Y v) :: px_as Y (i + 1) r
theorem px_as_mem {Y : px_Y} {q : Nat × Value} : ∀ {ls : px_L} {i : Nat}, q ∈ px_as Y i ls ↔ ∃ (j : Nat) (v : Value), ls[j]? = some (some v) ∧ q = (i + j, px_mv Y v)
  | [], i => by simp [px_as]
  | none :: r, i => by
    rw [px_as, px_as_mem]
    constructor
    · rintro ⟨j, v, h1, h2⟩
      exact ⟨j + 1, v, by simpa using h1, by rw [h2]; congr 1; omega⟩
    · rintro ⟨j, v, h1, h2⟩
      cases j with
      | zero => simp at h1
      | succ j => exact ⟨j, v, by simpa using h1, by rw [h2]; congr 1; omega⟩
  | some w :: r, i => by
    rw [px_as, List.mem_cons, px_as_mem]
    constructor
    · rintro (h | ⟨j, v, h1, h2⟩)
      · exact ⟨0, w, by simp, by rw [h]; rfl⟩
      · exact ⟨j + 1, v, by simpa using h1, by rw [h2]; congr 1; omega⟩
    · rintro ⟨j, v, h1, h2⟩
      cases j with
      | zero =>
        simp at h1
        subst h1
        exact Or.inl h2
      | succ j => exact Or.inr ⟨j, v, by simpa using h1, by rw [h2]; congr 1; omega⟩
def px_lc (Y : px_Y) (nL : Nat) (lok : List Nat) (sl : Array Slot) (ls : px_L) : Prop := ls.length = nL ∧ lv_has sl nL (px_as Y 0 ls) ∧ ∀ (i : Nat) (x : Value), ls[i]? = some (some x) → x.category = 2 → i ∈ lok
theorem lget_some {ls : px_L} {i : Nat} {v : Value} : lget ls i = some v ↔ ls[i]? = some (some v) := by
  unfold lget
  cases h : ls[i]? with
  | none => simp
  | some o => simp
theorem px_lc.at {Y : px_Y} {nL : Nat} {lok : List Nat} {sl : Array Slot} {ls : px_L} (h : px_lc Y nL lok sl ls) {i : Nat} {v : Value} (hi : lget ls i = some v) : sl[i]? = some (.val (px_mv Y v)) := by
  exact h.2.1.2.2 (i, px_mv Y v) (px_as_mem.mpr ⟨i, v, lget_some.mp hi, by simp⟩)
theorem px_lc.store {Y : px_Y} {nL : Nat} {lok : List Nat} {sl sl' : Array Slot} {ls : px_L} {i : Nat} {v : Value} (h : px_lc Y nL lok sl ls) (hn : i < nL) (hk : ∀ j, j + 1 = i → j ∉ lok) (hv : v.category = 1)
    (h' : lv_has sl' nL ((i, px_mv Y v) :: (px_as Y 0 ls).filter (fun q => !(q.1 == i) && !(q.1 + 1 == i && q.2.category == 2)))) : px_lc Y nL lok sl' (ls.set i (some v)) := by
  refine ⟨by rw [List.length_set]; exact h.1, ⟨h'.1, h'.2.1, fun q hq => h'.2.2 q ?_⟩, fun j x hj hx => ?_⟩
  · obtain ⟨j, w, h1, h2⟩ := px_as_mem.mp hq
    rw [List.getElem?_set] at h1
    split at h1
    · rename_i hji
      subst hji
      have hl : i < ls.length := by rw [h.1]; exact hn
      rw [if_pos hl] at h1
      cases h1
      rw [h2]
      simp
    · rename_i hji
      refine List.mem_cons_of_mem _ (List.mem_filter.mpr ⟨px_as_mem.mpr ⟨j, w, h1, h2⟩, ?_⟩)
      rw [h2]
      have a1 : ¬ (0 + j = i) := by omega
      have a2 : ¬ (0 + j + 1 = i ∧ (px_mv Y w).category = 2) := by
        rintro ⟨b1, b2⟩
        rw [px_mv_cat] at b2
        exact hk j (by omega) (h.2.2 j w h1 b2)
      simp only [Bool.and_eq_true, Bool.not_eq_true', beq_eq_false_iff_ne, ne_eq, Bool.and_eq_false_iff]
      refine ⟨a1, ?_⟩
      by_cases b1 : 0 + j + 1 = i
      · exact Or.inr (fun b2 => a2 ⟨b1, b2⟩)
      · exact Or.inl b1
  · rw [List.getElem?_set] at hj
    split at hj
    · split at hj
      · cases hj
        omega
      · cases hj
    · exact h.2.2 j x hj hx
theorem px_lc.store2 {Y : px_Y} {nL : Nat} {lok : List Nat} {sl sl' : Array Slot} {ls : px_L} {i : Nat} {v : Value} (h : px_lc Y nL lok sl ls) (hn : i + 1 < nL) (hk : ∀ j, j + 1 = i → j ∉ lok) (hi : i ∈ lok)
    (h' : lv_has sl' nL ((i, px_mv Y v) :: (px_as Y 0 ls).filter (fun q => !(q.1 == i) && (!(q.1 == i + 1) && !(q.1 + 1 == i && q.2.category == 2))))) : px_lc Y nL lok sl' ((ls.set i (some v)).set (i + 1) none) := by
  refine ⟨by rw [List.length_set, List.length_set]; exact h.1, ⟨h'.1, h'.2.1, fun q hq => h'.2.2 q ?_⟩, fun j x hj hx => ?_⟩
  · obtain ⟨j, w, h1, h2⟩ := px_as_mem.mp hq
    rw [List.getElem?_set] at h1
    split at h1
    · split at h1 <;> cases h1
    · rename_i hji1
      rw [List.getElem?_set] at h1
      split at h1
      · rename_i hji
        subst hji
        have hl : i < ls.length := by rw [h.1]; omega
        rw [if_pos hl] at h1
        cases h1
        rw [h2]
        simp
      · rename_i hji
        refine List.mem_cons_of_mem _ (List.mem_filter.mpr ⟨px_as_mem.mpr ⟨j, w, h1, h2⟩, ?_⟩)
        rw [h2]
        have a2 : ¬ (0 + j + 1 = i ∧ (px_mv Y w).category = 2) := by
          rintro ⟨b1, b2⟩
          rw [px_mv_cat] at b2
          exact hk j (by omega) (h.2.2 j w h1 b2)
        simp only [Bool.and_eq_true, Bool.not_eq_true', beq_eq_false_iff_ne, ne_eq, Bool.and_eq_false_iff]
        refine ⟨by omega, by omega, ?_⟩
        by_cases b1 : 0 + j + 1 = i
        · exact Or.inr (fun b2 => a2 ⟨b1, b2⟩)
        · exact Or.inl b1
  · rw [List.getElem?_set] at hj
    split at hj
    · split at hj <;> cases hj
    · rw [List.getElem?_set] at hj
      split at hj
      · rename_i hji
        rw [← hji]
        exact hi
      · exact h.2.2 j x hj hx
/-! cells -/
theorem px_R.obj {Y : px_Y} {G : px_H} {H : Heap} (h : px_R Y G H) {k ci : Nat} {fs : List Value} (hk : hget G k = some (.inr (.inr (ci, fs)))) : 2 ≤ k ∧ k < G.1 + 2 ∧ px_ad Y k = y_s Y + (k - 2) ∧ va_at (y_D Y) vwCl (px_ad Y k, .inr (ci, fs.map (px_mv Y))) H := by
  rcases h.2 k _ hk with ⟨-, h1⟩ | ⟨-, h1⟩ | ⟨h1, h2, -, h3⟩
  · cases h1
  · cases h1
  · have e : px_ad Y k = y_s Y + (k - 2) := by unfold px_ad; rw [if_neg (by omega), if_neg (by omega)]
    exact ⟨h1, h2, e, by rw [e]; exact h3⟩
theorem px_R.row {Y : px_Y} {G : px_H} {H : Heap} (h : px_R Y G H) {k t n : Nat} {f : Nat → Int32} (hk : hget G k = some (.inl (t, n, f))) (ht : t < 2) : 2 ≤ k ∧ k < G.1 + 2 ∧ px_ad Y k = y_s Y + (k - 2) ∧ va_at (y_D Y) vwCl (px_ad Y k, .inl (if t = 1 then y_Z Y else y_I Y, n, .inl f)) H := by
  rcases h.2 k _ hk with ⟨-, h1⟩ | ⟨-, h1⟩ | ⟨h1, h2, -, h3⟩
  · cases h1; omega
  · cases h1; omega
  · have e : px_ad Y k = y_s Y + (k - 2) := by unfold px_ad; rw [if_neg (by omega), if_neg (by omega)]
    exact ⟨h1, h2, e, by rw [e]; exact h3⟩
theorem px_R.refs {Y : px_Y} {G : px_H} {H : Heap} (h : px_R Y G H) {k n : Nat} {f : Nat → Option Nat} (hk : hget G k = some (.inr (.inl (n, f)))) : 2 ≤ k ∧ k < G.1 + 2 ∧ px_ad Y k = y_s Y + (k - 2) ∧ va_at (y_D Y) vwCl (px_ad Y k, .inl (y_R Y, n, .inr (.inr (.inr (.inr (fun j => (f j).map (px_ad Y))))))) H := by
  rcases h.2 k _ hk with ⟨-, h1⟩ | ⟨-, h1⟩ | ⟨h1, h2, -, h3⟩
  · cases h1
  · cases h1
  · have e : px_ad Y k = y_s Y + (k - 2) := by unfold px_ad; rw [if_neg (by omega), if_neg (by omega)]
    exact ⟨h1, h2, e, by rw [e]; exact h3⟩
theorem px_P1 {D : va_G} {q : Nat × va_E} {H : Heap} (h : va_at D vwCl q H) : va_P D vwCl [q] H := by
  intro k x hx
  have hz : k < 1 := (List.getElem?_eq_some_iff.mp hx).1
  rw [show k = 0 by omega] at hx
  cases hx
  exact h
theorem px_R.set {Y : px_Y} {G : px_H} {H H1 : Heap} (h : px_R Y G H) {k : Nat} {c : px_E} (h1 : 2 ≤ k) (h2 : k < G.1 + 2) (ho : px_own c) (hc : va_at (y_D Y) vwCl (px_ad Y k, px_emb Y c) H1) (hz : H1.size = H.size) (hq : ∀ q : Nat, q ≠ px_ad Y k → H1[q]? = H[q]?) : px_R Y (hset G k c) H1 := by
  have e : px_ad Y k = y_s Y + (k - 2) := by unfold px_ad; rw [if_neg (by omega), if_neg (by omega)]
  refine ⟨by rw [hz]; exact h.1, fun j x hj => ?_⟩
  have hj' : (if j = k then some c else G.2.2 j) = some x := hj
  split at hj'
  · rename_i hjk
    subst hjk
    cases hj'
    exact Or.inr (Or.inr ⟨h1, h2, ho, by rw [← e]; exact hc⟩)
  · rename_i hjk
    rcases h.2 j x hj' with r | r | ⟨r1, r2, r3, r4⟩
    · exact Or.inl r
    · exact Or.inr (Or.inl r)
    · refine Or.inr (Or.inr ⟨r1, r2, r3, r4.kept (hq _ ?_)⟩)
      show y_s Y + (j - 2) ≠ px_ad Y k
      omega
theorem px_R.new {Y : px_Y} {G : px_H} {H H1 : Heap} (h : px_R Y G H) {n : Nat} {c : px_E} (ho : px_own c) (hc : va_at (y_D Y) vwCl (H.size, px_emb Y c) H1) (hz : H1.size = H.size + 1) (hq : ∀ q : Nat, q < H.size → H1[q]? = H[q]?) : px_R Y (hnew G n c) H1 := by
  refine ⟨by rw [hz, h.1]; show _ = y_s Y + (G.1 + 1); omega, fun j x hj => ?_⟩
  have hj' : (if j = G.1 + 2 then some c else G.2.2 j) = some x := hj
  split at hj'
  · rename_i hjk
    subst hjk
    cases hj'
    refine Or.inr (Or.inr ⟨by omega, ?_, ho, ?_⟩)
    · show G.1 + 2 < (G.1 + 1) + 2; omega
    · rw [show y_s Y + (G.1 + 2 - 2) = H.size by rw [h.1]; omega]
      exact hc
  · rename_i hjk
    rcases h.2 j x hj' with r | r | ⟨r1, r2, r3, r4⟩
    · exact Or.inl r
    · exact Or.inr (Or.inl r)
    · refine Or.inr (Or.inr ⟨r1, ?_, r3, r4.kept (hq _ ?_)⟩)
      · show j < (G.1 + 1) + 2; omega
      · show y_s Y + (j - 2) < H.size
        rw [h.1]; omega
theorem px_R.newad {Y : px_Y} {G : px_H} {H : Heap} (h : px_R Y G H) : px_ad Y (G.1 + 2) = H.size := by
  unfold px_ad; rw [if_neg (by omega), if_neg (by omega), h.1]; omega
