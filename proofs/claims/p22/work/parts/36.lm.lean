/-! the reference's acts -/
def LM (w : va_W) : Prop := ∀ a : Int32, In 1 200 a → (aF w 21 a.toNatClampNeg = 0 → In 0 24 (aF w 22 (5 * a + 4).toNatClampNeg)) ∧ (aF w 21 a.toNatClampNeg = 1 → In 0 9 (aF w 22 (5 * a).toNatClampNeg) ∧ In 0 24 (aF w 22 (5 * a + 1).toNatClampNeg))
theorem LM_cg {w w1 : va_W} (h1 : aF w1 21 = aF w 21) (h2 : aF w1 22 = aF w 22) (h : LM w) : LM w1 := by
  unfold LM
  rw [h1, h2]
  exact h
def okM (t x y v : Int32) : Prop := (t = 0 → In 0 24 v) ∧ (t = 1 → In 0 9 x ∧ In 0 24 y)
theorem m5a {a : Int32} (h : In 1 200 a) : (5 * a).toNatClampNeg = a.toInt.toNat * 5 := by
  have z5 : (5 : Int32).toInt = 5 := by decide
  have e1 : (5 * a).toInt = 5 * a.toInt := by
    unfold In at h
    rw [Int32.toInt_mul, z5, bm_id (by omega) (by omega)]
  show (5 * a).toInt.toNat = _
  unfold In at h
  rw [e1]
  omega
theorem m5 {a j : Int32} {n : Nat} (h : In 1 200 a) (hj : j.toInt = (n : Int)) (hn : n < 5) : (5 * a + j).toNatClampNeg = a.toInt.toNat * 5 + n := by
  have h1 : In 5 1000 (5 * a) := In_mull h (n := 5) (by decide) (by decide)
  have z5 : (5 : Int32).toInt = 5 := by decide
  have e1 : (5 * a).toInt = 5 * a.toInt := by
    unfold In at h
    rw [Int32.toInt_mul, z5, bm_id (by omega) (by omega)]
  have h2 : In 0 4 j := In_lit hj (by omega)
  have e2 := t_add h1 h2 (by decide)
  show (5 * a + j).toInt.toNat = _
  unfold In at h
  rw [e2, e1, hj]
  omega
theorem LM_add {w w1 : va_W} {a0 t x y z u v : Int32} (h0 : In 1 200 a0) (e1 : aF w1 21 = upd (aF w 21) a0.toNatClampNeg t) (e2 : aF w1 22 = upd (upd (upd (upd (upd (aF w 22) (5 * a0).toNatClampNeg x) (5 * a0 + 1).toNatClampNeg y) (5 * a0 + 2).toNatClampNeg z) (5 * a0 + 3).toNatClampNeg u) (5 * a0 + 4).toNatClampNeg v) (h : LM w) (ok : okM t x y v) : LM w1 := by
  intro a ha
  have k0 := m5a ha
  have k1 := m5 (j := 1) (n := 1) ha (by decide) (by decide)
  have k4 := m5 (j := 4) (n := 4) ha (by decide) (by decide)
  have q0 := m5a h0
  have q1 := m5 (j := 1) (n := 1) h0 (by decide) (by decide)
  have q2 := m5 (j := 2) (n := 2) h0 (by decide) (by decide)
  have q3 := m5 (j := 3) (n := 3) h0 (by decide) (by decide)
  have q4 := m5 (j := 4) (n := 4) h0 (by decide) (by decide)
  have a1 : a.toNatClampNeg = a.toInt.toNat := rfl
  have a2 : a0.toNatClampNeg = a0.toInt.toNat := rfl
  have hh := h a ha
  rw [k0, k1, k4, a1] at hh
  rw [e1, e2, k0, k1, k4, q0, q1, q2, q3, q4, a1, a2]
  by_cases q : a = a0
  · subst q
    have r0 : (upd (upd (upd (upd (upd (aF w 22) (a.toInt.toNat * 5) x) (a.toInt.toNat * 5 + 1) y) (a.toInt.toNat * 5 + 2) z) (a.toInt.toNat * 5 + 3) u) (a.toInt.toNat * 5 + 4) v) (a.toInt.toNat * 5) = x := by
      unfold upd
      rw [if_neg (by omega), if_neg (by omega), if_neg (by omega), if_neg (by omega), if_pos rfl]
    have r1 : (upd (upd (upd (upd (upd (aF w 22) (a.toInt.toNat * 5) x) (a.toInt.toNat * 5 + 1) y) (a.toInt.toNat * 5 + 2) z) (a.toInt.toNat * 5 + 3) u) (a.toInt.toNat * 5 + 4) v) (a.toInt.toNat * 5 + 1) = y := by
      unfold upd
      rw [if_neg (by omega), if_neg (by omega), if_neg (by omega), if_pos rfl]
    have r4 : (upd (upd (upd (upd (upd (aF w 22) (a.toInt.toNat * 5) x) (a.toInt.toNat * 5 + 1) y) (a.toInt.toNat * 5 + 2) z) (a.toInt.toNat * 5 + 3) u) (a.toInt.toNat * 5 + 4) v) (a.toInt.toNat * 5 + 4) = v := by
      unfold upd
      rw [if_pos rfl]
    have rt : (upd (aF w 21) a.toInt.toNat t) a.toInt.toNat = t := by
      unfold upd
      rw [if_pos rfl]
    rw [r0, r1, r4, rt]
    exact ok
  · have hn := ix_ne ha h0 q
    have rr : ∀ n : Nat, n < 5 → (upd (upd (upd (upd (upd (aF w 22) (a0.toInt.toNat * 5) x) (a0.toInt.toNat * 5 + 1) y) (a0.toInt.toNat * 5 + 2) z) (a0.toInt.toNat * 5 + 3) u) (a0.toInt.toNat * 5 + 4) v) (a.toInt.toNat * 5 + n) = aF w 22 (a.toInt.toNat * 5 + n) := by
      intro n h5
      unfold upd
      rw [if_neg (by omega), if_neg (by omega), if_neg (by omega), if_neg (by omega), if_neg (by omega)]
    have r0 := rr 0 (by decide)
    have r1 := rr 1 (by decide)
    have r4 := rr 4 (by decide)
    simp only [Nat.add_zero] at r0
    have rt : (upd (aF w 21) a0.toInt.toNat t) a.toInt.toNat = aF w 21 a.toInt.toNat := by
      unfold upd
      rw [if_neg hn]
    rw [r0, r1, r4, rt]
    exact hh
/-- one less of a kind -/
theorem cn_dn {f : Nat → Int32} {S v : Int32} {i : Nat} (h : f i = S) (hv : ¬ v = S) : ∀ n, cn (upd f i v) S n + (if i < n then 1 else 0) = cn f S n
  | 0 => rfl
  | n + 1 => by
    have hh := cn_dn h hv n
    unfold cn
    unfold upd at hh ⊢
    by_cases q : n = i
    · subst q
      rw [if_neg (Nat.lt_irrefl n)] at hh
      simp only [if_true, hv, if_false, h]
      have q3 : n < n + 1 := Nat.lt_succ_self n
      simp only [q3, if_true]
      omega
    · simp only [q, if_false]
      by_cases q2 : i < n
      · have q3 : i < n + 1 := by omega
        simp only [q2, q3, if_true] at hh ⊢
        omega
      · have q3 : ¬ i < n + 1 := by omega
        simp only [q2, q3, if_false] at hh ⊢
        omega
/-! a report's day is one of the days -/
def LY (w : va_W) : Prop := ∀ a : Int32, In 1 200 a → a.toInt ≤ (fI w 0 37).toInt → aF w 21 a.toNatClampNeg = 0 → 1 ≤ (aF w 22 (5 * a + 4).toNatClampNeg).toInt
theorem LY_cg {w w1 : va_W} (h1 : aF w1 21 = aF w 21) (h2 : aF w1 22 = aF w 22) (h3 : fI w1 0 37 = fI w 0 37) (h : LY w) : LY w1 := by
  unfold LY
  rw [h1, h2, h3]
  exact h
theorem LY_add {w w1 : va_W} {a0 t x y z u v : Int32} (h0 : In 1 200 a0) (e0 : a0.toInt = (fI w 0 37).toInt + 1) (f0 : fI w1 0 37 = a0) (e1 : aF w1 21 = upd (aF w 21) a0.toNatClampNeg t) (e2 : aF w1 22 = upd (upd (upd (upd (upd (aF w 22) (5 * a0).toNatClampNeg x) (5 * a0 + 1).toNatClampNeg y) (5 * a0 + 2).toNatClampNeg z) (5 * a0 + 3).toNatClampNeg u) (5 * a0 + 4).toNatClampNeg v) (h : LY w) (ok : t = 0 → 1 ≤ v.toInt) : LY w1 := by
  intro a ha hle hs
  have k4 := m5 (j := 4) (n := 4) ha (by decide) (by decide)
  have q0 := m5a h0
  have q1 := m5 (j := 1) (n := 1) h0 (by decide) (by decide)
  have q2 := m5 (j := 2) (n := 2) h0 (by decide) (by decide)
  have q3 := m5 (j := 3) (n := 3) h0 (by decide) (by decide)
  have q4 := m5 (j := 4) (n := 4) h0 (by decide) (by decide)
  have a1 : a.toNatClampNeg = a.toInt.toNat := rfl
  have a2 : a0.toNatClampNeg = a0.toInt.toNat := rfl
  rw [f0] at hle
  rw [e1, a1, a2] at hs
  rw [e2, k4, q0, q1, q2, q3, q4]
  by_cases q : a = a0
  · subst q
    have rt : (upd (aF w 21) a.toInt.toNat t) a.toInt.toNat = t := by
      unfold upd
      rw [if_pos rfl]
    rw [rt] at hs
    have r4 : (upd (upd (upd (upd (upd (aF w 22) (a.toInt.toNat * 5) x) (a.toInt.toNat * 5 + 1) y) (a.toInt.toNat * 5 + 2) z) (a.toInt.toNat * 5 + 3) u) (a.toInt.toNat * 5 + 4) v) (a.toInt.toNat * 5 + 4) = v := by
      unfold upd
      rw [if_pos rfl]
    rw [r4]
    exact ok hs
  · have hn := ix_ne ha h0 q
    have rr : (upd (upd (upd (upd (upd (aF w 22) (a0.toInt.toNat * 5) x) (a0.toInt.toNat * 5 + 1) y) (a0.toInt.toNat * 5 + 2) z) (a0.toInt.toNat * 5 + 3) u) (a0.toInt.toNat * 5 + 4) v) (a.toInt.toNat * 5 + 4) = aF w 22 (a.toInt.toNat * 5 + 4) := by
      unfold upd
      rw [if_neg (by omega), if_neg (by omega), if_neg (by omega), if_neg (by omega), if_neg (by omega)]
    have rt : (upd (aF w 21) a0.toInt.toNat t) a.toInt.toNat = aF w 21 a.toInt.toNat := by
      unfold upd
      rw [if_neg hn]
    rw [rt] at hs
    have hle2 : a.toInt ≤ (fI w 0 37).toInt := by
      have n2 : ¬ a.toInt = a0.toInt := fun y => q (by rw [q_eq]; exact y)
      omega
    have hh := h a ha hle2 hs
    rw [k4] at hh
    rw [rr]
    exact hh
/-- each child's day is one of the days -/
def DY (w : va_W) : Prop := ∀ i : Nat, (i : Int) < (fI w 0 45).toInt → 1 ≤ (aF w 32 i).toInt
theorem DY_cg {w w1 : va_W} (h1 : aF w1 32 = aF w 32) (h3 : fI w1 0 45 = fI w 0 45) (h : DY w) : DY w1 := by
  unfold DY
  rw [h1, h3]
  exact h
theorem DY_0 {w : va_W} (h : fI w 0 45 = 0) : DY w := by
  intro i hi
  have z : (0 : Int32).toInt = 0 := by decide
  rw [h] at hi
  omega
theorem DY_st {w w1 : va_W} {c v : Int32} (hc : In 0 39 c) (e : aF w1 32 = upd (aF w 32) c.toNatClampNeg v) (hv : 1 ≤ v.toInt) (f : (fI w1 0 45).toInt ≤ (fI w 0 45).toInt ∨ ((fI w1 0 45).toInt = (fI w 0 45).toInt + 1 ∧ c.toInt = (fI w 0 45).toInt)) (h : DY w) : DY w1 := by
  intro i hi
  rw [e]
  unfold upd
  by_cases q : i = c.toNatClampNeg
  · rw [if_pos q]
    exact hv
  · rw [if_neg q]
    refine h i ?_
    have q2 : ¬ i = c.toInt.toNat := q
    unfold In at hc
    omega
