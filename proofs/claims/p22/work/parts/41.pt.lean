/-! the reference's codes in the world -/
theorem ix13 {b x : Int32} (hb : In 0 1 b) (hx : In 0 1099 x) : ((2200 * b) + (2 * x)).toNatClampNeg = 2200 * b.toInt.toNat + 2 * x.toInt.toNat := by
  have h1 : In 0 2200 (2200 * b) := In_mull hb (n := 2200) (by decide) (by decide)
  have h2 : In 0 2198 (2 * x) := In_mull hx (n := 2) (by decide) (by decide)
  have z1 : (2200 : Int32).toInt = 2200 := by decide
  have z2 : (2 : Int32).toInt = 2 := by decide
  have e1 : (2200 * b).toInt = 2200 * b.toInt := by
    unfold In at hb
    rw [Int32.toInt_mul, z1, bm_id (by omega) (by omega)]
  have e2 : (2 * x).toInt = 2 * x.toInt := by
    unfold In at hx
    rw [Int32.toInt_mul, z2, bm_id (by omega) (by omega)]
  have e3 := t_add h1 h2 (by decide)
  show ((2200 * b) + (2 * x)).toInt.toNat = _
  unfold In at hb hx
  rw [e3, e1, e2]
  omega
/-- the codes of a bank -/
def cfM (w : va_W) (b : Int32) : Nat → Int32 := fun i => aF w 13 (2200 * b.toInt.toNat + 2 * i)
/-- from x to y they can be worked -/
def HV (w : va_W) (b x y : Int32) : Prop := ¬ hsN (cfM w b) x.toInt.toNat (y.toInt.toNat - x.toInt.toNat) = none
theorem HV_cg {w w1 : va_W} {b x y : Int32} (e : aF w1 13 = aF w 13) (h : HV w b x y) : HV w1 b x y := by
  unfold HV cfM
  rw [e]
  exact h
/-- worked so far: i codes, x high -/
def WK (w : va_W) (b p i x : Int32) : Prop := p.toInt ≤ i.toInt ∧ 0 ≤ x.toInt ∧ hsN (cfM w b) p.toInt.toNat (i.toInt.toNat - p.toInt.toNat) = some x.toInt.toNat
section WKs
variable {w : va_W} {b p e i x v : Int32}
theorem WK_0 : WK w b p p 0 := by
  have z : (0 : Int32).toInt = 0 := by decide
  refine ⟨Int.le_refl _, by omega, ?_⟩
  rw [Nat.sub_self, z]
  rfl
theorem WK_in (h : WK w b p i x) (hi : In 0 1100 i) : In 0 1100 x := by
  have q := hsN_le _ _ h.2.2
  have q2 := h.2.1
  unfold In at *
  omega
theorem WK_nx (h : WK w b p i x) (hv : HV w b p e) (hp : In 0 1100 p) (he : i.toInt < e.toInt) (hb : In 0 1 b) (hi : In 0 1099 i) (ev : v = aF w 13 ((2200 * b) + (2 * i)).toNatClampNeg) : ¬ hs1 v x.toInt.toNat = none ∧ hsN (cfM w b) p.toInt.toNat ((i + 1).toInt.toNat - p.toInt.toNat) = hs1 v x.toInt.toNat := by
  obtain ⟨h1, h2, h3⟩ := h
  have t := t_add hi (In_lit (n := 1) (by decide) (by decide) : In 1 1 1) (by decide)
  have z : (1 : Int32).toInt = 1 := by decide
  rw [ix13 hb hi] at ev
  have ev2 : v = cfM w b i.toInt.toNat := ev
  have q := hsN_nx h3
  unfold In at *
  rw [show p.toInt.toNat + (i.toInt.toNat - p.toInt.toNat) = i.toInt.toNat by omega, ← ev2] at q
  have e1 : (i + 1).toInt.toNat - p.toInt.toNat = i.toInt.toNat - p.toInt.toNat + 1 := by omega
  refine ⟨?_, by rw [e1]; exact q⟩
  rw [← q]
  exact hsN_dn hv (by omega)
theorem WK_lf (h : WK w b p i x) (hv : HV w b p e) (hp : In 0 1100 p) (he : i.toInt < e.toInt) (hb : In 0 1 b) (hi : In 0 1099 i) (hx : In 0 1100 x) (ev : v = aF w 13 ((2200 * b) + (2 * i)).toNatClampNeg) (k : v.toInt ≤ 9) : WK w b p (i + 1) (x + 1) := by
  have q := (WK_nx h hv hp he hb hi ev).2
  have t := t_add hi (In_lit (n := 1) (by decide) (by decide) : In 1 1 1) (by decide)
  have u := t_add hx (In_lit (n := 1) (by decide) (by decide) : In 1 1 1) (by decide)
  have z : (1 : Int32).toInt = 1 := by decide
  have h1 := h.1
  have h2 := h.2.1
  refine ⟨by omega, by omega, ?_⟩
  rw [q, hs1_lf k, show (x + 1).toInt.toNat = x.toInt.toNat + 1 by omega]
theorem WK_n1 (h : WK w b p i x) (hv : HV w b p e) (hp : In 0 1100 p) (he : i.toInt < e.toInt) (hb : In 0 1 b) (hi : In 0 1099 i) (hx : In 0 1100 x) (ev : v = aF w 13 ((2200 * b) + (2 * i)).toNatClampNeg) (k : v = 18) : In 1 1100 x := by
  have q := (WK_nx h hv hp he hb hi ev).1
  rw [k] at q
  have g := hs1_no' q
  unfold In at *
  omega
theorem WK_no (h : WK w b p i x) (hv : HV w b p e) (hp : In 0 1100 p) (he : i.toInt < e.toInt) (hb : In 0 1 b) (hi : In 0 1099 i) (hx : In 1 1100 x) (ev : v = aF w 13 ((2200 * b) + (2 * i)).toNatClampNeg) (k : v = 18) : WK w b p (i + 1) x := by
  have q := (WK_nx h hv hp he hb hi ev).2
  have t := t_add hi (In_lit (n := 1) (by decide) (by decide) : In 1 1 1) (by decide)
  have z : (1 : Int32).toInt = 1 := by decide
  have h1 := h.1
  have h2 := h.2.1
  refine ⟨by omega, by omega, ?_⟩
  rw [q, k, hs1_no (by unfold In at hx; omega)]
theorem WK_t1 (h : WK w b p i x) (hv : HV w b p e) (hp : In 0 1100 p) (he : i.toInt < e.toInt) (hb : In 0 1 b) (hi : In 0 1099 i) (hx : In 0 1100 x) (ev : v = aF w 13 ((2200 * b) + (2 * i)).toNatClampNeg) (k : ¬ v.toInt ≤ 9) (n : ¬ v = 18) : In 2 1100 x := by
  have q := (WK_nx h hv hp he hb hi ev).1
  have g := hs1_two' k n q
  unfold In at *
  omega
theorem WK_two (h : WK w b p i x) (hv : HV w b p e) (hp : In 0 1100 p) (he : i.toInt < e.toInt) (hb : In 0 1 b) (hi : In 0 1099 i) (hx : In 2 1100 x) (ev : v = aF w 13 ((2200 * b) + (2 * i)).toNatClampNeg) (k : ¬ v.toInt ≤ 9) (n : ¬ v = 18) : WK w b p (i + 1) (x + (-1)) := by
  have q := (WK_nx h hv hp he hb hi ev).2
  have t := t_add hi (In_lit (n := 1) (by decide) (by decide) : In 1 1 1) (by decide)
  have u := t_dec (n := 1) (y := -1) hx (by decide) (by decide)
  have z : (1 : Int32).toInt = 1 := by decide
  have h1 := h.1
  unfold In at hx
  generalize x + (-1) = xx at u ⊢
  refine ⟨by omega, by omega, ?_⟩
  rw [q, hs1_two k n (by omega), show xx.toInt.toNat = x.toInt.toNat - 1 by omega]
end WKs
/-- every rule of the bank in use can be worked -/
def RV (w : va_W) : Prop := ∀ r : Nat, (r : Int) < (aF w 4 (fI w 0 12).toNatClampNeg).toInt → ∀ k : Nat, k < 5 → HV w (fI w 0 12) (aF w 12 (168 * (fI w 0 12).toInt.toNat + 7 * r + 1 + k)) (aF w 12 (168 * (fI w 0 12).toInt.toNat + 7 * r + 2 + k))
theorem RV_cg {w w1 : va_W} (h4 : aF w1 4 = aF w 4) (h12 : aF w1 12 = aF w 12) (h13 : aF w1 13 = aF w 13) (hb : fI w1 0 12 = fI w 0 12) (h : RV w) : RV w1 := by
  unfold RV
  rw [h4, h12, hb]
  intro r l k g
  exact HV_cg h13 (h r l k g)
/-- a rule's codes, as they are read -/
theorem RV_at {w : va_W} {r o x y i j : Int32} {k : Nat} (h : RV w) (hr : In 0 23 r) (hl : r.toInt < (aF w 4 (fI w 0 12).toNatClampNeg).toInt) (ho : o.toInt = 168 * (fI w 0 12).toInt + 7 * r.toInt) (hb : In 0 1 (fI w 0 12)) (hk : k < 5) (hi : i.toInt = o.toInt + 1 + k) (hj : j.toInt = o.toInt + 2 + k) (ex : x = aF w 12 i.toNatClampNeg) (ey : y = aF w 12 j.toNatClampNeg) : HV w (fI w 0 12) x y := by
  have q := h r.toInt.toNat (by unfold In at hr; omega) k hk
  have e1 : i.toNatClampNeg = 168 * (fI w 0 12).toInt.toNat + 7 * r.toInt.toNat + 1 + k := by
    show i.toInt.toNat = _
    unfold In at *
    omega
  have e2 : j.toNatClampNeg = 168 * (fI w 0 12).toInt.toNat + 7 * r.toInt.toNat + 2 + k := by
    show j.toInt.toNat = _
    unfold In at *
    omega
  rw [ex, ey, e1, e2]
  exact q
