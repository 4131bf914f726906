/-! ===== cells of the two objects ===== -/
def c_ia (n : Nat) (f : Nat → Int32) : px_E := .inl (0, n, f)
def c_za (n : Nat) (f : Nat → Int32) : px_E := .inl (1, n, f)
def c_ro (n : Nat) (f : Nat → Int32) : px_E := .inl (2, n, f)
def c_ra (n : Nat) (f : Nat → Option Nat) : px_E := .inr (.inl (n, f))
/-- a Scene at role a: its rows stand behind it -/
def c_sc (a : Nat) (op hr : Int32) : px_E := .inr (.inr (3, [.ref (a + 1), .ref (a + 2), .ref (a + 3), .int op, .int hr]))
def c_ld (a : Nat) (oa pl di : Int32) : px_E := .inr (.inr (1, [.ref (a + 1), .ref (a + 2), .ref (a + 3), .ref (a + 4), .ref (a + 5), .int oa, .int pl, .int di]))
def c_rd (s f g : Int32) : px_E := .inr (.inr (2, [.int s, .int f, .int g]))
def c_sr (a : Nat) : px_E := .inr (.inr (5, [.ref (a + 1)]))
def c_ac (a : Nat) (n : Int32) : px_E := .inr (.inr (0, [.ref (a + 1), .int n]))
def c_sg (a : Nat) (n : Int32) : px_E := .inr (.inr (4, [.ref (a + 1), .ref (a + 2), .ref (a + 3), .int n]))
section CE
variable {f : Value → Prop} {h : px_E → Prop} {p : Prop} {a : Nat} {op hr oa pl di s g k x : Int32} {n : Nat} {w : Nat → Int32} {i : Int32} {q : Int32 → Prop}
theorem sc_g0 : pgf (some (c_sc a op hr)) 3 0 f = f (.ref (a + 1)) := by simp [c_sc, pgf]
theorem sc_g1 : pgf (some (c_sc a op hr)) 3 1 f = f (.ref (a + 2)) := by simp [c_sc, pgf]
theorem sc_g2 : pgf (some (c_sc a op hr)) 3 2 f = f (.ref (a + 3)) := by simp [c_sc, pgf]
theorem sc_g3 : pgf (some (c_sc a op hr)) 3 3 f = f (.int op) := by simp [c_sc, pgf]
theorem sc_g4 : pgf (some (c_sc a op hr)) 3 4 f = f (.int hr) := by simp [c_sc, pgf]
theorem sc_p3 : pput (some (c_sc a op hr)) 3 3 0 (.int x) h = h (c_sc a x hr) := by simp [c_sc, pput, ppf, pfit]
theorem sc_p4 : pput (some (c_sc a op hr)) 3 4 0 (.int x) h = h (c_sc a op x) := by simp [c_sc, pput, ppf, pfit]
theorem sc_o : pobj (some (c_sc a op hr)) 3 p = p := by simp [c_sc, pobj, ppf]
theorem ld_g0 : pgf (some (c_ld a oa pl di)) 1 0 f = f (.ref (a + 1)) := by simp [c_ld, pgf]
theorem ld_g1 : pgf (some (c_ld a oa pl di)) 1 1 f = f (.ref (a + 2)) := by simp [c_ld, pgf]
theorem ld_g2 : pgf (some (c_ld a oa pl di)) 1 2 f = f (.ref (a + 3)) := by simp [c_ld, pgf]
theorem ld_g3 : pgf (some (c_ld a oa pl di)) 1 3 f = f (.ref (a + 4)) := by simp [c_ld, pgf]
theorem ld_g4 : pgf (some (c_ld a oa pl di)) 1 4 f = f (.ref (a + 5)) := by simp [c_ld, pgf]
theorem ld_g5 : pgf (some (c_ld a oa pl di)) 1 5 f = f (.int oa) := by simp [c_ld, pgf]
theorem ld_g6 : pgf (some (c_ld a oa pl di)) 1 6 f = f (.int pl) := by simp [c_ld, pgf]
theorem ld_g7 : pgf (some (c_ld a oa pl di)) 1 7 f = f (.int di) := by simp [c_ld, pgf]
theorem ld_p5 : pput (some (c_ld a oa pl di)) 1 5 0 (.int x) h = h (c_ld a x pl di) := by simp [c_ld, pput, ppf, pfit]
theorem ld_p6 : pput (some (c_ld a oa pl di)) 1 6 0 (.int x) h = h (c_ld a oa x di) := by simp [c_ld, pput, ppf, pfit]
theorem ld_p7 : pput (some (c_ld a oa pl di)) 1 7 0 (.int x) h = h (c_ld a oa pl x) := by simp [c_ld, pput, ppf, pfit]
theorem ld_o : pobj (some (c_ld a oa pl di)) 1 p = p := by simp [c_ld, pobj, ppf]
theorem rd_g0 : pgf (some (c_rd s g k)) 2 0 f = f (.int s) := by simp [c_rd, pgf]
theorem rd_g1 : pgf (some (c_rd s g k)) 2 1 f = f (.int g) := by simp [c_rd, pgf]
theorem rd_g2 : pgf (some (c_rd s g k)) 2 2 f = f (.int k) := by simp [c_rd, pgf]
theorem rd_p0 : pput (some (c_rd s g k)) 2 0 0 (.int x) h = h (c_rd x g k) := by simp [c_rd, pput, ppf, pfit]
theorem rd_p1 : pput (some (c_rd s g k)) 2 1 0 (.int x) h = h (c_rd s x k) := by simp [c_rd, pput, ppf, pfit]
theorem rd_p2 : pput (some (c_rd s g k)) 2 2 0 (.int x) h = h (c_rd s g x) := by simp [c_rd, pput, ppf, pfit]
theorem rd_o : pobj (some (c_rd s g k)) 2 p = p := by simp [c_rd, pobj, ppf]
theorem sr_g0 : pgf (some (c_sr a)) 5 0 f = f (.ref (a + 1)) := by simp [c_sr, pgf]
theorem sr_o : pobj (some (c_sr a)) 5 p = p := by simp [c_sr, pobj, ppf]
theorem ac_g0 : pgf (some (c_ac a x)) 0 0 f = f (.ref (a + 1)) := by simp [c_ac, pgf]
theorem ac_g1 : pgf (some (c_ac a x)) 0 1 f = f (.int x) := by simp [c_ac, pgf]
theorem ac_p1 : pput (some (c_ac a k)) 0 1 0 (.int x) h = h (c_ac a x) := by simp [c_ac, pput, ppf, pfit]
theorem ac_o : pobj (some (c_ac a x)) 0 p = p := by simp [c_ac, pobj, ppf]
theorem sg_g0 : pgf (some (c_sg a x)) 4 0 f = f (.ref (a + 1)) := by simp [c_sg, pgf]
theorem sg_g1 : pgf (some (c_sg a x)) 4 1 f = f (.ref (a + 2)) := by simp [c_sg, pgf]
theorem sg_g2 : pgf (some (c_sg a x)) 4 2 f = f (.ref (a + 3)) := by simp [c_sg, pgf]
theorem sg_g3 : pgf (some (c_sg a x)) 4 3 f = f (.int x) := by simp [c_sg, pgf]
theorem sg_p3 : pput (some (c_sg a k)) 4 3 0 (.int x) h = h (c_sg a x) := by simp [c_sg, pput, ppf, pfit]
theorem sg_o : pobj (some (c_sg a x)) 4 p = p := by simp [c_sg, pobj, ppf]
theorem ia_l : plda (some (c_ia n w)) i q = (vp_in i n ∧ q (w i.toNatClampNeg)) := by simp [c_ia, plda, pia]
theorem ro_l : plda (some (c_ro n w)) i q = (vp_in i n ∧ q (w i.toNatClampNeg)) := by simp [c_ro, plda, pia]
theorem ia_s : psta (some (c_ia n w)) i x h = (vp_in i n ∧ h (c_ia n (upd w i.toNatClampNeg x))) := by simp [c_ia, psta, pia]
theorem za_l : pldz (some (c_za n w)) i q = (vp_in i n ∧ q (w i.toNatClampNeg)) := by simp [c_za, pldz, pia]
theorem za_s : pstz (some (c_za n w)) i x h = (vp_in i n ∧ h (c_za n (upd w i.toNatClampNeg (x &&& 1)))) := by simp [c_za, pstz, pia]
theorem ia_n : plen (some (c_ia n w)) q = q (Int32.ofNat n) := rfl
theorem ro_n : plen (some (c_ro n w)) q = q (Int32.ofNat n) := rfl
end CE
theorem ra_l {n : Nat} {g : Nat → Option Nat} {i : Int32} {q : Nat → Prop} {r : Nat} (h : g i.toNatClampNeg = some r) : pldr (some (c_ra n g)) i q = (vp_in i n ∧ q r) := by simp [c_ra, pldr, par, h]
theorem ra_s {n a v : Nat} {g : Nat → Option Nat} {i op hr : Int32} {h : px_E → Prop} : pstr (some (c_ra n g)) (some (c_sc a op hr)) i v h = (vp_in i n ∧ h (c_ra n (va_up g i.toNatClampNeg (some v)))) := by simp [c_ra, c_sc, pstr, par, ppf]
theorem vin {i : Int32} {n : Nat} : vp_in i n ↔ (0 ≤ i ∧ i.toNatClampNeg < n) := by
  unfold vp_in
  rw [not_or, Int32.not_lt, Nat.not_le]
theorem opl {v : Value} {r : List Value} : (some v).toList ++ r = v :: r := rfl
theorem onl {r : List Value} : (none : Option Value).toList ++ r = r := rfl
theorem len0 : ([] : List Value).length ≤ 4 := by decide
theorem ie_m9_0 : ((-9 : Int32) = 0) = False := by decide
theorem ie_m9_1 : ((-9 : Int32) = 1) = False := by decide
theorem ie_m9_2 : ((-9 : Int32) = 2) = False := by decide
theorem ie_m9_3 : ((-9 : Int32) = 3) = False := by decide
theorem ie_0_m9 : ((0 : Int32) = -9) = False := by decide
theorem ie_0_1 : ((0 : Int32) = 1) = False := by decide
theorem ie_0_2 : ((0 : Int32) = 2) = False := by decide
theorem ie_0_3 : ((0 : Int32) = 3) = False := by decide
theorem ie_1_m9 : ((1 : Int32) = -9) = False := by decide
theorem ie_1_0 : ((1 : Int32) = 0) = False := by decide
theorem ie_1_2 : ((1 : Int32) = 2) = False := by decide
theorem ie_1_3 : ((1 : Int32) = 3) = False := by decide
theorem ie_2_m9 : ((2 : Int32) = -9) = False := by decide
theorem ie_2_0 : ((2 : Int32) = 0) = False := by decide
theorem ie_2_1 : ((2 : Int32) = 1) = False := by decide
theorem ie_2_3 : ((2 : Int32) = 3) = False := by decide
theorem ie_3_m9 : ((3 : Int32) = -9) = False := by decide
theorem ie_3_0 : ((3 : Int32) = 0) = False := by decide
theorem ie_3_1 : ((3 : Int32) = 1) = False := by decide
theorem ie_3_2 : ((3 : Int32) = 2) = False := by decide
theorem ni6 {i : Nat} (h : i < 6) : (nI i).toNatClampNeg = i ∧ 0 ≤ nI i ∧ nI i < 6 := ⟨nI_clamp (by omega), nI_pos' (by omega), nI_lt (b := 6) h (by omega)⟩
theorem ni66 : ¬ nI 6 < 6 := by decide
theorem nisw {i : Nat} : nI i + 1 = nI (i + 1) := nI_1 i
