/-! joins: what waits with at least a rank is written down -/
theorem AD_cg {w w2 w1 : va_W} {t : Int32} (e13 : aF w2 13 = aF w 13) (e14 : aF w2 14 = aF w 14) (f13 : fI w2 0 13 = fI w 0 13) (h : AD w2 w1 t) : AD w w1 t := by
  unfold AD cdN at *
  rw [e13, e14, f13] at h
  exact h
/-- the last that waits ranks below p -/
def JT (p : Int32) (w : va_W) : Prop := ∀ g, g + 1 = dpN w → ∀ i : Nat, (aF w 19 g).toNatClampNeg ≤ i → i + 1 = omN w → (rkO (aF w 20 i) : Int) < p.toInt
theorem JT_0 {w : va_W} {p v b : Int32} (hb : v = aF w 19 b.toNatClampNeg) (hi : b.toInt = (fI w 0 32).toInt - 1) (hd : In 1 20 (fI w 0 32)) (hv : In 0 400 v) (l : (fI w 0 35).toInt ≤ v.toInt) : JT p w := by
  intro g e i h1 h2
  exfalso
  have eg : g = b.toNatClampNeg := by
    show g = b.toInt.toNat
    unfold dpN at e
    unfold In at hd
    omega
  rw [eg, ← hb] at h1
  have h3 : v.toInt.toNat ≤ i := h1
  unfold omN at h2
  unfold In at hv
  omega
theorem JT_1 {w : va_W} {p v b : Int32} (hb : v = aF w 20 b.toNatClampNeg) (hi : b.toInt = (fI w 0 35).toInt - 1) (hm : In 1 400 (fI w 0 35)) (r : (rkO v : Int) < p.toInt) : JT p w := by
  intro g e i h1 h2
  have eg : i = b.toNatClampNeg := by
    show i = b.toInt.toNat
    unfold omN at h2
    unfold In at hm
    omega
  rw [eg, ← hb]
  exact r
theorem JT_b {w w1 : va_W} {v b : Int32} (hb : v = aF w 19 b.toNatClampNeg) (hi : b.toInt = (fI w 0 32).toInt - 1) (hd : In 1 20 (fI w 0 32)) (hv : In 0 400 v) (l : ¬ (fI w 0 35).toInt ≤ v.toInt) (em : omN w = omN w1 + 1) : ∀ g, g + 1 = dpN w → (aF w 19 g).toNatClampNeg ≤ omN w1 := by
  intro g e
  have eg : g = b.toNatClampNeg := by
    show g = b.toInt.toNat
    unfold dpN at e
    unfold In at hd
    omega
  rw [eg, ← hb]
  show v.toInt.toNat ≤ omN w1
  unfold omN at em ⊢
  unfold In at hv
  omega
theorem JT_cg {p : Int32} {w w1 : va_W} (e19 : aF w1 19 = aF w 19) (e20 : aF w1 20 = aF w 20) (f32 : fI w1 0 32 = fI w 0 32) (f35 : fI w1 0 35 = fI w 0 35) (h : JT p w) : JT p w1 := by
  unfold JT dpN omN at *
  rw [e19, e20, f32, f35]
  exact h
