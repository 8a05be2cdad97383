/-! the reference reads on -/
theorem mu_lk {E E2 A2 : Int} {s s2 f f2 : Int32} {N : Nat} (hmu : 2 * (1000 - E).toNat + (if s = 0 then 0 else 1) + (if f = 0 then 3000 else 0) < N + 1) (hs : ¬ s = 0) (hf : f = 0) (g : E ≤ A2 ∧ A2 ≤ E2 ∧ (¬ s2 = 0 → A2 < E2)) (hE : E2 ≤ 1000) : 2 * (1000 - E2).toNat + (if s2 = 0 then 0 else 1) + (if f2 = 0 then 3000 else 0) < N := by
  rw [if_neg hs, if_pos hf] at hmu
  have h3 : (if f2 = 0 then 3000 else 0) ≤ 3000 := by split <;> omega
  by_cases q : s2 = 0
  · rw [if_pos q]
    omega
  · rw [if_neg q]
    have := g.2.2 q
    omega
theorem mu_fl {E : Int} {s f f2 : Int32} {N : Nat} (hmu : 2 * (1000 - E).toNat + (if s = 0 then 0 else 1) + (if f = 0 then 3000 else 0) < N + 1) (hf : f = 0) (hf2 : 1 ≤ f2.toInt) : 2 * (1000 - E).toNat + (if s = 0 then 0 else 1) + (if f2 = 0 then 3000 else 0) < N := by
  rw [if_pos hf] at hmu
  have z : ¬ f2 = 0 := by
    intro q
    have z0 : (0 : Int32).toInt = 0 := by decide
    rw [q, z0] at hf2
    omega
  rw [if_neg z]
  omega
/-- read on: at least one sign further -/
abbrev Pg (w w1 : va_W) : Prop := (fI w 0 5).toInt ≤ (fI w1 0 4).toInt ∧ (fI w1 0 4).toInt ≤ (fI w1 0 5).toInt ∧ (¬ fI w1 0 3 = 0 → (fI w1 0 4).toInt < (fI w1 0 5).toInt)
/-- not back, and on unless there is a fault -/
def Pc (w w1 : va_W) : Prop := (fI w 0 5).toInt ≤ (fI w1 0 5).toInt ∧ (fI w1 0 8 = 0 → Pg w w1)
/-- where the reading stands is the same -/
def Ps (w w1 : va_W) : Prop := fI w1 0 3 = fI w 0 3 ∧ fI w1 0 4 = fI w 0 4 ∧ fI w1 0 5 = fI w 0 5
section PcRows
variable {w w0 w1 : va_W}
theorem Pc_of (h : Pg w w1) : Pc w w1 := ⟨Int.le_trans h.1 h.2.1, fun _ => h⟩
theorem Pc_flt (h : (fI w 0 5).toInt ≤ (fI w1 0 5).toInt) (hf : ¬ fI w1 0 8 = 0) : Pc w w1 := ⟨h, fun q => absurd q hf⟩
/-- first on, then not back -/
theorem Pc_tr (h : Pg w0 w) (g : Pc w w1) : Pc w0 w1 := ⟨Int.le_trans (Int.le_trans h.1 h.2.1) g.1, fun q => ⟨Int.le_trans (Int.le_trans h.1 h.2.1) (g.2 q).1, (g.2 q).2⟩⟩
/-- not back, then on (without a fault in between the first was on too) -/
theorem Pc_tl (h : (fI w0 0 5).toInt ≤ (fI w 0 5).toInt) (g : Pc w w1) : Pc w0 w1 := ⟨Int.le_trans h g.1, fun q => ⟨Int.le_trans h (g.2 q).1, (g.2 q).2⟩⟩
theorem Pc_cgr (e3 : fI w1 0 3 = fI w 0 3) (e4 : fI w1 0 4 = fI w 0 4) (e5 : fI w1 0 5 = fI w 0 5) (e8 : fI w1 0 8 = fI w 0 8) (h : Pc w0 w) : Pc w0 w1 := by
  unfold Pc Pg at h ⊢
  rw [e3, e4, e5, e8]
  exact h
theorem Pc_cgl (e5 : fI w1 0 5 = fI w 0 5) (h : Pc w1 w0) : Pc w w0 := by
  unfold Pc Pg at h ⊢
  rw [← e5]
  exact h
end PcRows
/-- where a rule stands -/
theorem rowv {b r : Int32} (hb : In 0 1 b) (hr : In 0 23 r) : ((168 * b) + (7 * r)).toInt = 168 * b.toInt + 7 * r.toInt := by
  have h1 : In 0 168 (168 * b) := In_mull hb (n := 168) (by decide) (by decide)
  have h2 : In 0 161 (7 * r) := In_mull hr (n := 7) (by decide) (by decide)
  have z1 : (168 : Int32).toInt = 168 := by decide
  have z2 : (7 : Int32).toInt = 7 := by decide
  have e1 : (168 * b).toInt = 168 * b.toInt := by
    unfold In at hb
    rw [Int32.toInt_mul, z1, bm_id (by omega) (by omega)]
  have e2 : (7 * r).toInt = 7 * r.toInt := by
    unfold In at hr
    rw [Int32.toInt_mul, z2, bm_id (by omega) (by omega)]
  rw [t_add h1 h2 (by decide), e1, e2]
