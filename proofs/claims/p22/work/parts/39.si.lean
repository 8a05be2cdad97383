/-! where the reading stands -/
theorem lc_eq {x y : Int64} {v : Int32} (h : v = lg_cmp x y) (c : v = 0) : x = y := by
  have z : (0 : Int32).toInt = 0 := by decide
  have e : v.toInt = 0 := by rw [c]; exact z
  have q := lc_all h
  apply Int64.toInt_inj.mp
  omega
theorem In_n0 {lo hi : Int} {x : Int32} (h : In lo hi x) (k : 1 ≤ lo) : ¬ x = 0 := by
  intro q
  have z : (0 : Int32).toInt = 0 := by decide
  unfold In at h
  rw [q, z] at h
  omega
/-- a sign has its letters -/
def SI (w : va_W) : Prop := (fI w 0 4).toInt ≤ (fI w 0 5).toInt ∧ (¬ fI w 0 3 = 0 → (fI w 0 4).toInt < (fI w 0 5).toInt) ∧ (fI w 0 3 = 1 → WB ((fI w 0 5).toInt - (fI w 0 4).toInt) (fL w 0 7))
theorem SI_lk {w w1 : va_W} (h : Pg w w1) (g : fI w1 0 3 = 1 → WB ((fI w1 0 5).toInt - (fI w1 0 4).toInt) (fL w1 0 7)) : SI w1 := ⟨h.2.1, h.2.2, g⟩
theorem SI_cg {w w1 : va_W} (e3 : fI w1 0 3 = fI w 0 3) (e4 : fI w1 0 4 = fI w 0 4) (e5 : fI w1 0 5 = fI w 0 5) (e7 : fL w1 0 7 = fL w 0 7) (h : SI w) : SI w1 := by
  unfold SI at *
  rw [e3, e4, e5, e7]
  exact h
/-- a not has three letters -/
theorem SI_no {w : va_W} (h : SI w) (e3 : fI w 0 3 = 1) (e7 : fL w 0 7 = 7237492) : (fI w 0 4).toInt + 3 ≤ (fI w 0 5).toInt := by
  have q := WB_3 (h.2.2 e3) (by rw [e7]; decide)
  omega
theorem ft_cg {a b : va_W} {x : Int32} (h : 1 ≤ (fI a 0 8).toInt → 1 ≤ (fI b 0 8).toInt) (e : fI a 0 8 = x) : 1 ≤ x.toInt → 1 ≤ (fI b 0 8).toInt := by
  rw [← e]
  exact h
theorem E_eq {a b : va_W} (h : fI b 0 5 = fI a 0 5) : (fI a 0 5).toInt ≤ (fI b 0 5).toInt := by rw [h]; exact Int.le_refl _
theorem E_pg {a b : va_W} (h : Pg a b) : (fI a 0 5).toInt ≤ (fI b 0 5).toInt := Int.le_trans h.1 h.2.1
theorem E_tr {w a b : va_W} (h : (fI w 0 5).toInt ≤ (fI a 0 5).toInt) (g : (fI a 0 5).toInt ≤ (fI b 0 5).toInt) : (fI w 0 5).toInt ≤ (fI b 0 5).toInt := Int.le_trans h g
