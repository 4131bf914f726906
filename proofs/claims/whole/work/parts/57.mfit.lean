/-! ===== the reference: what fits what was seen ===== -/
def mI (K : Ld) (t pp tm mn : Nat → Int32) (u : Int32) : Nat → Bool
  | 0 => true
  | k + 1 => mI K t pp tm mn u k && (!(hP K.n (pp k)) || decide (sT K t (tm k).toNatClampNeg u (pp k).toNatClampNeg = mn k))
theorem mI_f {K : Ld} {t pp tm mn : Nat → Int32} {u : Int32} {i : Nat} (h : mI K t pp tm mn u i = false) : ∀ j, mI K t pp tm mn u (i + j) = false
  | 0 => h
  | j + 1 => by rw [← Nat.add_assoc, mI, mI_f h j]; rfl
theorem mI_iff {K : Ld} {t pp tm mn : Nat → Int32} {u : Int32} : ∀ n, mI K t pp tm mn u n = true ↔ ∀ i, i < n → hP K.n (pp i) = true → sT K t (tm i).toNatClampNeg u (pp i).toNatClampNeg = mn i
  | 0 => ⟨fun _ i hi => by omega, fun _ => rfl⟩
  | n + 1 => by
    rw [mI, Bool.and_eq_true, mI_iff n, Bool.or_eq_true, Bool.not_eq_true', decide_eq_true_eq]
    constructor
    · rintro ⟨a, b⟩ i hi hp
      by_cases e : i = n
      · subst e
        rcases b with b | b
        · rw [b] at hp; exact absurd hp (by decide)
        · exact b
      · exact a i (by omega) hp
    · intro a
      refine ⟨fun i hi => a i (by omega), ?_⟩
      cases e : hP K.n (pp n) with
      | false => exact Or.inl rfl
      | true => exact Or.inr (a n (by omega) e)
theorem aAg_iff {N : Nat} {pp tm mn : Nat → Int32} {x : Int32} {s : Nat → Int32} : ∀ n, aAg N pp tm mn x s n = true ↔ ∀ i, i < n → tm i = x → hP N (pp i) = true → s (pp i).toNatClampNeg = mn i
  | 0 => ⟨fun _ i hi => by omega, fun _ => rfl⟩
  | n + 1 => by
    rw [aAg, Bool.and_eq_true, aAg_iff n]
    have e : ((!(decide (tm n = x) && hP N (pp n) && !(decide (s (pp n).toNatClampNeg = mn n)))) = true) ↔ (tm n = x → hP N (pp n) = true → s (pp n).toNatClampNeg = mn n) := by
      by_cases e1 : tm n = x <;> cases e2 : hP N (pp n) <;> by_cases e3 : s (pp n).toNatClampNeg = mn n <;> simp [e1, e3]
    rw [e]
    constructor
    · rintro ⟨a, b⟩ i hi
      by_cases e : i = n
      · rw [e]; exact b
      · exact a i (by omega)
    · intro a
      exact ⟨fun i hi => a i (by omega), a n (by omega)⟩
theorem iA_iff {K : Ld} {t pp tm mn : Nat → Int32} {u : Int32} {n : Nat} : ∀ j, iA K t n pp tm mn u j = true ↔ ∀ r, r < j → ∀ i, i < n → tm i = nI r → hP K.n (pp i) = true → sT K t r u (pp i).toNatClampNeg = mn i
  | 0 => ⟨fun _ i hi => by omega, fun _ => rfl⟩
  | j + 1 => by
    rw [iA, Bool.and_eq_true, iA_iff j, aAg_iff]
    constructor
    · rintro ⟨a, b⟩ r hr
      by_cases e : r = j
      · rw [e]; exact b
      · exact a r (by omega)
    · intro a
      exact ⟨fun r hr => a r (by omega), a j (by omega)⟩
/-- sight by sight and hour by hour it is the same -/
theorem mI_iA {K : Ld} {t pp tm mn : Nat → Int32} {u : Int32} {n L : Nat} (hL : L ≤ 12) (ht : ∀ i, i < n → ∃ r, r ≤ L ∧ tm i = nI r) : mI K t pp tm mn u n = iA K t n pp tm mn u (L + 1) := by
  have : mI K t pp tm mn u n = true ↔ iA K t n pp tm mn u (L + 1) = true := by
    rw [mI_iff, iA_iff]
    constructor
    · intro a r hr i hi e hp
      have := a i hi hp
      rw [e, nI_clamp (by omega)] at this
      exact this
    · intro a i hi hp
      obtain ⟨r, r1, r2⟩ := ht i hi
      have := a r (by omega) i hi r2 hp
      rw [r2, nI_clamp (by omega)]
      exact this
  cases e1 : mI K t pp tm mn u n <;> cases e2 : iA K t n pp tm mn u (L + 1)
  · rfl
  · rw [e1, e2] at this; exact absurd (this.mpr rfl) (by decide)
  · rw [e1, e2] at this; exact absurd (this.mp rfl) (by decide)
  · rfl
section MF
variable {d : Nat} {G : px_H} {q : Nat → Int32} {sd : Int64} {K : Ld} {t : Nat → Int32} {c o n : Nat} {Q : px_Q} {pp tm mn : Nat → Int32}
set_option maxRecDepth 100000 in
theorem sp_misSeen {u : Int32} {w : Nat → Int32} (hw : mW G q sd K w) (ht : sM K w 0 t) (hv : vK K) (hvf : vF K) (hok : okT K c t) (hV : mV G q n pp tm mn) (hT : ∀ i, i < n → ∃ r, r ≤ 12 ∧ tm i = nI r) (hQ : ∀ G' w', mW G' q sd K w' → sM K w' 0 t → fM G G' → Q (some (.int (zB (mI K t pp tm mn u n)))) G') : pcal (d + 6) 143 [.ref 124, .int u] G Q := by
  have hn6 := hv.1.1
  obtain ⟨h24, hn, v1, v2, v3⟩ := hV
  refine inX7_isSeen ?_
  have z01 : ∀ b : Bool, zB b = 0 ∨ zB b = 1 := fun b => by cases b <;> simp [zB]
  have key : ∀ j i H w', i + j = n → mW H q sd K w' → sM K w' 0 t → fM G H → pr (d + 5) 143 (G.1 + 0, G.2.1 + 0) Q 4 [some (.ref 124), some (.int u), some (.int (zB (mI K t pp tm mn u i))), some (.int (nI i))] [] H := by
    intro j
    induction j with
    | zero =>
      intro i H w' hi k1 k2 k3
      obtain rfl : i = n := by omega
      have y0 := k1.1.1
      simp only [eX7_isSeen_4, eX7_isSeen_5, eX7_isSeen_6, eX7_isSeen_9, eX7_isSeen_75, eX7_isSeen_76, pe_aload_0, pe_getf, pe_iclt, pe_iload_2, pe_iload_3, pe_zret, y0, m_g24, h24, niE, hget_hset, ia_l, ia_s, vin, opl, onl, Int32.reduceLT, Int32.reduceLE, Int32.reduceAdd, Int32.reduceSub, Nat.reduceLT, Nat.reduceAdd, Nat.reduceEqDiff, ↓reduceIte, true_and, and_true, List.length_nil, List.length_cons, Nat.reduceLeDiff, Nat.zero_le]
      exact ⟨z01 _, hQ H w' k1 k2 k3⟩
    | succ j ih =>
      intro i H w' hi k1 k2 k3
      have y0 := k1.1.1
      have x1 : hget H 139 = some (c_ia 6 pp) := (k3 _ (by omega) (by omega)).trans v1
      have x2 : hget H 140 = some (c_ia 6 tm) := (k3 _ (by omega) (by omega)).trans v2
      have x3 : hget H 141 = some (c_ia 6 mn) := (k3 _ (by omega) (by omega)).trans v3
      obtain ⟨c1, c2, c3, c4⟩ := niL (i := i) (n := n) (by omega) hn
      have st : mI K t pp tm mn u (i + 1) = (mI K t pp tm mn u i && (!(hP K.n (pp i)) || decide (sT K t (tm i).toNatClampNeg u (pp i).toNatClampNeg = mn i))) := rfl
      rw [eX7_isSeen_4]
      simp only [eX7_isSeen_5, eX7_isSeen_6, eX7_isSeen_9, eX7_isSeen_12, eX7_isSeen_13, pe_aload_0, pe_getf, pe_iclt, pe_ifeq, pe_iload_2, pe_iload_3, y0, m_g24, h24, c3, zB_0, hget_hset, ia_l, ia_s, vin, opl, onl, Int32.reduceLT, Int32.reduceLE, Int32.reduceAdd, Int32.reduceSub, Nat.reduceLT, Nat.reduceAdd, Nat.reduceEqDiff, ↓reduceIte, true_and, and_true, List.length_nil, List.length_cons, Nat.reduceLeDiff, Nat.zero_le]
      split
      · rename_i b0
        have := hQ H w' k1 k2 k3
        have e := mI_f b0 (n - i)
        rw [show i + (n - i) = n by omega] at e
        rw [e, ← b0] at this
        simp only [eX7_isSeen_75, eX7_isSeen_76, pe_iload_2, pe_zret, hget_hset, ia_l, ia_s, vin, opl, onl, Int32.reduceLT, Int32.reduceLE, Int32.reduceAdd, Int32.reduceSub, Nat.reduceLT, Nat.reduceAdd, Nat.reduceEqDiff, ↓reduceIte, true_and, and_true, List.length_nil, List.length_cons, Nat.reduceLeDiff, Nat.zero_le]
        exact ⟨z01 _, this⟩
      · rename_i b0
        rw [nt b0, Bool.true_and] at st
        simp only [eX7_isSeen_16, eX7_isSeen_17, eX7_isSeen_18, eX7_isSeen_21, eX7_isSeen_22, eX7_isSeen_23, pe_aload_0, pe_callV_1, pe_getf, pe_iald, pe_iload_3, y0, x1, m_g25, m_o, c1, c2, c4, hget_hset, ia_l, ia_s, vin, opl, onl, Int32.reduceLT, Int32.reduceLE, Int32.reduceAdd, Int32.reduceSub, Nat.reduceLT, Nat.reduceAdd, Nat.reduceEqDiff, ↓reduceIte, true_and, and_true, List.length_nil, List.length_cons, Nat.reduceLeDiff, Nat.zero_le]
        refine sp_isPlace k1.1 ?_
        simp only [eX7_isSeen_26, eX7_isSeen_29, eX7_isSeen_30, eX7_isSeen_31, eX7_isSeen_32, eX7_isSeen_35, eX7_isSeen_36, eX7_isSeen_37, pe_aload_0, pe_callV_2, pe_getf, pe_iald, pe_ifeq, pe_iload_1, pe_iload_3, y0, x2, m_g26, m_o, zB_0, c1, c2, c4, hget_hset, ia_l, ia_s, vin, opl, onl, Int32.reduceLT, Int32.reduceLE, Int32.reduceAdd, Int32.reduceSub, Nat.reduceLT, Nat.reduceAdd, Nat.reduceEqDiff, ↓reduceIte, true_and, and_true, List.length_nil, List.length_cons, Nat.reduceLeDiff, Nat.zero_le]
        split
        · rename_i p0
          rw [p0] at st
          have e : mI K t pp tm mn u (i + 1) = mI K t pp tm mn u i := st.trans (nt b0).symm
          simp only [eX7_isSeen_69, eX7_isSeen_72, pe_goto, pe_iinc_3, nisw, hget_hset, ia_l, ia_s, vin, opl, onl, Int32.reduceLT, Int32.reduceLE, Int32.reduceAdd, Int32.reduceSub, Nat.reduceLT, Nat.reduceAdd, Nat.reduceEqDiff, ↓reduceIte, true_and, and_true, List.length_nil, List.length_cons, Nat.reduceLeDiff, Nat.zero_le]
          rw [← e]
          exact ih (i + 1) H w' (by omega) k1 k2 k3
        · rename_i p0
          rw [nt p0] at st
          obtain ⟨r, r1, r2⟩ := hT i (by omega)
          obtain ⟨p, hp, ep⟩ := hP_nI hn6 (nt p0)
          have rc : (nI r).toNatClampNeg = r := nI_clamp (by omega)
          have pc : (nI p).toNatClampNeg = p := nI_clamp (by omega)
          rw [r2, ep, rc, pc] at st
          refine sp_mrun (k := r) r2 r1 k1 hv hvf k2 hok ?_
          intro G1 w1 e1 e2 e3 e4 e5
          have z0 := e1.1.1
          have z3 := e1.2.1
          have x1' : hget G1 139 = some (c_ia 6 pp) := (e5 _ (by omega) (by omega)).trans x1
          have x3' : hget G1 141 = some (c_ia 6 mn) := (e5 _ (by omega) (by omega)).trans x3
          have n20 : (20 : Int32) + nI p = nI (20 + p) := nI_add 20 p
          obtain ⟨a1, a2⟩ := ni160 (i := 20 + p) (by omega)
          have a5 : 20 + p < 160 := by omega
          have b1 : w1 (20 + p) = sT K t r u p := e3 p (by omega)
          simp only [eX7_isSeen_40, eX7_isSeen_41, eX7_isSeen_44, eX7_isSeen_46, eX7_isSeen_47, eX7_isSeen_50, eX7_isSeen_51, eX7_isSeen_52, eX7_isSeen_53, eX7_isSeen_54, eX7_isSeen_55, eX7_isSeen_58, eX7_isSeen_59, eX7_isSeen_60, eX7_isSeen_63, eX7_isSeen_64, eX7_isSeen_67, eX7_isSeen_68, eX7_isSeen_69, eX7_isSeen_72, pe_aload_0, pe_bin, pe_const, pe_getf, pe_goto, pe_iald, pe_iceq, pe_iinc_3, pe_iload_3, pe_istore_2, z0, z3, x1', x3', m_g15, m_g25, m_g27, c1, c2, c4, ep, n20, a1, a2, a5, b1, nisw, hget_hset, ia_l, ia_s, vin, opl, onl, Int32.reduceLT, Int32.reduceLE, Int32.reduceAdd, Int32.reduceSub, Nat.reduceLT, Nat.reduceAdd, Nat.reduceEqDiff, ↓reduceIte, true_and, and_true, List.length_nil, List.length_cons, Nat.reduceLeDiff, Nat.zero_le]
          split
          · rename_i e
            have := ih (i + 1) G1 w1 (by omega) e1 e2 (k3.tr e5)
            rw [st] at this
            simpa [e, zB] using this
          · rename_i e
            have := ih (i + 1) G1 w1 (by omega) e1 e2 (k3.tr e5)
            rw [st] at this
            simpa [e, zB] using this
  simp only [eX7_isSeen_0, eX7_isSeen_1, eX7_isSeen_2, eX7_isSeen_3, pe_const, pe_istore_2, pe_istore_3, hget_hset, ia_l, ia_s, vin, opl, onl, Int32.reduceLT, Int32.reduceLE, Int32.reduceAdd, Int32.reduceSub, Nat.reduceLT, Nat.reduceAdd, Nat.reduceEqDiff, ↓reduceIte, true_and, and_true, List.length_nil, List.length_cons, Nat.reduceLeDiff, Nat.zero_le]
  exact key n 0 G w (by omega) hw ht (fun _ _ _ => rfl)
end MF
theorem not_or32 (a s u : Int32) : a &&& (s ^^^ -1) &&& (u ^^^ -1) = a &&& ((s ||| u) ^^^ -1) := by
  apply Int32.toBitVec_inj.mp
  have e : (-1 : Int32).toBitVec = BitVec.allOnes 32 := by decide
  simp only [Int32.toBitVec_and, Int32.toBitVec_xor, Int32.toBitVec_or, e]
  ext i hi
  simp only [BitVec.getElem_and, BitVec.getElem_xor, BitVec.getElem_or, BitVec.getElem_allOnes]
  cases a.toBitVec[i] <;> cases s.toBitVec[i] <;> cases u.toBitVec[i] <;> rfl
