/-! the reference reads an expression -/
/-- how many codes are written -/
def cdN (w : va_W) : Nat := (aF w 14 (fI w 0 13).toNatClampNeg).toInt.toNat
def omN (w : va_W) : Nat := (fI w 0 35).toInt.toNat
def dpN (w : va_W) : Nat := (fI w 0 32).toInt.toNat
/-- one code more -/
def AD (w w1 : va_W) (t : Int32) : Prop := aF w1 13 (2200 * (fI w 0 13).toInt.toNat + 2 * cdN w) = t ∧ (∀ b i : Nat, ¬ (b = (fI w 0 13).toInt.toNat ∧ i = cdN w) → b < 2 → i < 1100 → aF w1 13 (2200 * b + 2 * i) = aF w 13 (2200 * b + 2 * i)) ∧ aF w1 14 = upd (aF w 14) (fI w 0 13).toNatClampNeg (aF w 14 (fI w 0 13).toNatClampNeg + 1)
theorem AD_of {w w1 : va_W} {t v c : Int32} (hb : In 0 1 (fI w 0 13)) (hc : In 0 1099 c) (ec : c = aF w 14 (fI w 0 13).toNatClampNeg) (e13 : aF w1 13 = upd (upd (aF w 13) ((2200 * (fI w 0 13)) + (2 * c)).toNatClampNeg t) (((2200 * (fI w 0 13)) + (2 * c)) + 1).toNatClampNeg v) (e14 : aF w1 14 = upd (aF w 14) (fI w 0 13).toNatClampNeg (c + 1)) : AD w w1 t := by
  have i1 := ix13 hb hc
  have h1 : In 0 2200 (2200 * (fI w 0 13)) := In_mull hb (n := 2200) (by decide) (by decide)
  have h2 : In 0 2198 (2 * c) := In_mull hc (n := 2) (by decide) (by decide)
  have h3 : In 0 4398 ((2200 * (fI w 0 13)) + (2 * c)) := In_add h1 h2 (by decide)
  have z : (1 : Int32).toInt = 1 := by decide
  have t1 := t_add h3 (In_lit (n := 1) (by decide) (by decide) : In 1 1 1) (by decide)
  have i2 : (((2200 * (fI w 0 13)) + (2 * c)) + 1).toNatClampNeg = 2200 * (fI w 0 13).toInt.toNat + 2 * c.toInt.toNat + 1 := by
    have i3 : ((2200 * (fI w 0 13)) + (2 * c)).toInt.toNat = 2200 * (fI w 0 13).toInt.toNat + 2 * c.toInt.toNat := i1
    show (((2200 * (fI w 0 13)) + (2 * c)) + 1).toInt.toNat = _
    unfold In at h3
    omega
  have ecd : cdN w = c.toInt.toNat := by
    unfold cdN
    rw [← ec]
  refine ⟨?_, fun b i n hb2 hi => ?_, by rw [e14, ec]⟩
  · rw [e13, i1, i2, ecd]
    unfold upd
    rw [if_neg (by omega), if_pos rfl]
  · rw [e13, i1, i2]
    rw [ecd] at n
    unfold In at hb hc
    unfold upd
    rw [if_neg (by omega), if_neg (by
      intro q
      apply n
      omega)]
section ADs
variable {w w1 : va_W} {t : Int32}
theorem AD_cd (h : AD w w1 t) (hc : In 0 1099 (aF w 14 (fI w 0 13).toNatClampNeg)) (f13 : fI w1 0 13 = fI w 0 13) : cdN w1 = cdN w + 1 := by
  have z : (1 : Int32).toInt = 1 := by decide
  have t1 := t_add hc (In_lit (n := 1) (by decide) (by decide) : In 1 1 1) (by decide)
  have e : cdN w1 = (aF w 14 (fI w 0 13).toNatClampNeg + 1).toInt.toNat := by
    unfold cdN
    rw [f13, upd_at h.2.2]
  rw [e]
  unfold cdN
  unfold In at hc
  omega
theorem AD_lo (h : AD w w1 t) (hb : In 0 1 (fI w 0 13)) (hc : In 0 1099 (aF w 14 (fI w 0 13).toNatClampNeg)) (f13 : fI w1 0 13 = fI w 0 13) : ∀ i, i < cdN w → cfM w1 (fI w1 0 13) i = cfM w (fI w 0 13) i := by
  intro i l
  unfold cfM
  rw [f13]
  have l2 : cdN w ≤ 1099 := by
    unfold cdN
    unfold In at hc
    omega
  unfold In at hb
  exact h.2.1 _ i (by omega) (by omega) (by omega)
theorem AD_at (h : AD w w1 t) (f13 : fI w1 0 13 = fI w 0 13) : cfM w1 (fI w1 0 13) (cdN w) = t := by
  unfold cfM
  rw [f13]
  exact h.1
/-- the other bank's codes stay -/
theorem AD_ob {b : Int32} (h : AD w w1 t) (hb : In 0 1 b) (hn : ¬ b.toInt = (fI w 0 13).toInt) (hi : In 0 1 (fI w 0 13)) : ∀ i, i < 1100 → cfM w1 b i = cfM w b i := by
  intro i l
  unfold cfM
  unfold In at hb hi
  exact h.2.1 _ i (by omega) (by omega) l
end ADs
/-- what holds while an expression is read that begins at code a -/
def PW (T : Int) (a : Nat) (w : va_W) (o : Nat) : Prop :=
  PQ a (cfM w (fI w 0 13)) (aF w 20) (cdN w) (omN w) o ∧
  SG T (aF w 20) (aF w 19) (aF w 17) (aF w 18) (dpN w) (omN w) ∧
  (∀ i, i < omN w → ¬ (aF w 20 i).toInt ≤ 9) ∧ (aF w 16 0).toInt < 3 ∧ (fI w 0 32).toInt = (fI w 0 33).toInt + 1 ∧ (∀ j, j + 1 < dpN w + o → aF w 18 j = 0) ∧ (cdN w : Int) + (omN w : Int) ≤ T
section PWs
variable {T T' : Int} {a o : Nat} {w w1 w2 : va_W} {t : Int32}
theorem PW_mono (h : PW T a w o) (l : T ≤ T') : PW T' a w o := by
  obtain ⟨h1, h2, h3, h4, h5, h6, h7⟩ := h
  exact ⟨h1, SG_cg l _ _ (fun _ _ => rfl) (fun _ _ => rfl) (fun _ _ q => q) (fun _ _ q => q) h2, h3, h4, h5, h6, by omega⟩
theorem PW_cg (e13 : aF w1 13 = aF w 13) (e14 : aF w1 14 = aF w 14) (e16 : aF w1 16 = aF w 16) (e17 : aF w1 17 = aF w 17) (e18 : aF w1 18 = aF w 18) (e19 : aF w1 19 = aF w 19) (e20 : aF w1 20 = aF w 20) (f13 : fI w1 0 13 = fI w 0 13) (f32 : fI w1 0 32 = fI w 0 32) (f33 : fI w1 0 33 = fI w 0 33) (f35 : fI w1 0 35 = fI w 0 35) (h : PW T a w o) : PW T a w1 o := by
  unfold PW cdN omN dpN cfM at *
  rw [e13, e14, e16, e17, e18, e19, e20, f13, f32, f33, f35]
  exact h
/-- so many codes and so many that wait: there is room -/
theorem PW_cd (h : PW T a w o) (hT : T ≤ 1001) (hc : In 0 1100 (aF w 14 (fI w 0 13).toNatClampNeg)) : In 0 1099 (aF w 14 (fI w 0 13).toNatClampNeg) := by
  have h7 := h.2.2.2.2.2.2
  unfold cdN at h7
  unfold In at *
  omega
theorem PW_om (h : PW T a w o) (hT : T ≤ 1003) (ho : In 0 8 (fI w 0 33)) (hm : In 0 400 (fI w 0 35)) : In 0 370 (fI w 0 35) := by
  have q := SG_le _ _ h.2.1
  have h5 := h.2.2.2.2.1
  unfold dpN omN at q
  unfold In at *
  omega
/-- a leaf -/
theorem PW_lf (h : PW T a w 0) (hb : In 0 1 (fI w 0 13)) (hc : In 0 1099 (aF w 14 (fI w 0 13).toNatClampNeg)) (g : AD w w1 t) (k : t.toInt ≤ 9) (e16 : aF w1 16 = aF w 16) (e17 : ∀ j, j < dpN w → aF w1 17 j = 0 → aF w 17 j = 0) (e18 : aF w1 18 = aF w 18) (e19 : aF w1 19 = aF w 19) (e20 : aF w1 20 = aF w 20) (f13 : fI w1 0 13 = fI w 0 13) (f32 : fI w1 0 32 = fI w 0 32) (f33 : fI w1 0 33 = fI w 0 33) (f35 : fI w1 0 35 = fI w 0 35) (hz : ∀ j, j + 1 = dpN w → aF w 18 j = 0) : PW (T + 1) a w1 1 := by
  obtain ⟨h1, h2, h3, h4, h5, h6, h7⟩ := h
  have eo : omN w1 = omN w := by unfold omN; rw [f35]
  have ed : dpN w1 = dpN w := by unfold dpN; rw [f32]
  have ec := AD_cd g hc f13
  refine ⟨?_, ?_, ?_, by rw [e16]; exact h4, by rw [f32, f33]; exact h5, ?_, by rw [ec, eo]; omega⟩
  · rw [ec, eo, e20]
    exact PQ_lf h1 (AD_lo g hb hc f13) (by rw [AD_at g f13]; exact k)
  · rw [eo, ed]
    exact SG_cg (by omega) _ _ (fun i _ => by rw [e20]) (fun j _ => by rw [e19]) e17 (fun j _ => by rw [e18]; exact id) h2
  · rw [eo, e20]
    exact h3
  · rw [ed, e18]
    intro j l
    by_cases q : j + 1 = dpN w
    · exact hz j q
    · exact h6 j (by omega)
/-- what waits last is written down -/
theorem PW_pop (h : PW T a w 1) (hb : In 0 1 (fI w 0 13)) (hc : In 0 1099 (aF w 14 (fI w 0 13).toNatClampNeg)) (g : AD w w1 t) (em : omN w = omN w1 + 1) (k : t = aF w 20 (omN w1)) (hd : ∀ g, g + 1 = dpN w → (aF w 19 g).toNatClampNeg ≤ omN w1) (hd1 : 1 ≤ dpN w) (e16 : aF w1 16 = aF w 16) (e17 : aF w1 17 = aF w 17) (e18 : aF w1 18 = aF w 18) (e19 : aF w1 19 = aF w 19) (e20 : aF w1 20 = aF w 20) (f13 : fI w1 0 13 = fI w 0 13) (f32 : fI w1 0 32 = fI w 0 32) (f33 : fI w1 0 33 = fI w 0 33) : PW T a w1 1 := by
  obtain ⟨h1, h2, h3, h4, h5, h6, h7⟩ := h
  have ed : dpN w1 = dpN w := by unfold dpN; rw [f32]
  have ec := AD_cd g hc f13
  rw [em] at h1 h2
  refine ⟨?_, ?_, ?_, by rw [e16]; exact h4, by rw [f32, f33]; exact h5, by rw [ed, e18]; exact h6, by rw [ec]; omega⟩
  · rw [ec, e20]
    exact PQ_pop h1 (AD_lo g hb hc f13) (by rw [AD_at g f13]; exact k) (h3 _ (by omega))
  · rw [ed, e20, e19, e17, e18]
    obtain ⟨n, hn⟩ : ∃ n, dpN w = n + 1 := ⟨dpN w - 1, by omega⟩
    rw [hn] at h2 ⊢
    exact SG_pop h2 (hd n hn.symm) (h6 n (by omega))
  · rw [e20]
    exact fun i l => h3 i (by omega)
theorem wr_lt {x y : Int32} (h : rkO x < rkO y) (n : ¬ rkO y = 3) : wrO (rkO x) + 3 ≤ wrO (rkO y) := by
  have g := rkO_ge x
  have k := rkO_ge y
  exact wrO_lt h g.1 (by omega)
/-- everything in the last frame, by its last -/
theorem SG_all {ops base phase begins : Nat → Int32} {g m p : Nat} (h : SG T ops base phase begins (g + 1) m) (k : ∀ i, (base g).toNatClampNeg ≤ i → i + 1 = m → rkO (ops i) < p) : ∀ i, (base g).toNatClampNeg ≤ i → i < m → rkO (ops i) < p := by
  intro i a l
  have q := SF_top (m - (base g).toNatClampNeg - 1) m (by omega) h.2.2 i a l
  have r := k (m - 1) (by omega) (by omega)
  omega
/-- one with two sides waits -/
theorem PW_two (h : PW T a w 1) (hd1 : 1 ≤ dpN w) (e20 : aF w1 20 = upd (aF w 20) (omN w) t) (em : omN w1 = omN w + 1) (ht : ¬ t.toInt ≤ 9) (h18 : ¬ t = 18) (k0 : ¬ rkO t = 3)
    (k1 : ∀ g, g + 1 = dpN w → ∀ i, (aF w 19 g).toNatClampNeg ≤ i → i + 1 = omN w → rkO (aF w 20 i) < rkO t) (k2 : ∀ g, g + 1 = dpN w → aF w1 17 g = 0 → ¬ rkO t = 4 ∧ (aF w 17 g = 0 ∨ rkO t ≤ 2)) (k3 : ∀ g, g + 1 = dpN w → ¬ aF w1 18 g = 0 → rkO t ≤ 3)
    (e17 : ∀ j, j + 1 < dpN w → aF w1 17 j = aF w 17 j) (e18 : ∀ j, j + 1 < dpN w → aF w1 18 j = aF w 18 j) (e13 : aF w1 13 = aF w 13) (e14 : aF w1 14 = aF w 14) (e16 : aF w1 16 = aF w 16) (e19 : aF w1 19 = aF w 19) (f13 : fI w1 0 13 = fI w 0 13) (f32 : fI w1 0 32 = fI w 0 32) (f33 : fI w1 0 33 = fI w 0 33) : PW (T + 1) a w1 0 := by
  obtain ⟨h1, h2, h3, h4, h5, h6, h7⟩ := h
  have ed : dpN w1 = dpN w := by unfold dpN; rw [f32]
  have ec : cdN w1 = cdN w := by unfold cdN; rw [e14, f13]
  have ef : cfM w1 (fI w1 0 13) = cfM w (fI w 0 13) := by unfold cfM; rw [e13, f13]
  have el : ∀ i, i < omN w → aF w1 20 i = aF w 20 i := fun i l => by rw [e20]; unfold upd; rw [if_neg (by omega)]
  have et : aF w1 20 (omN w) = t := by rw [e20]; unfold upd; rw [if_pos rfl]
  obtain ⟨n, hn⟩ : ∃ n, dpN w = n + 1 := ⟨dpN w - 1, by omega⟩
  refine ⟨?_, ?_, ?_, by rw [e16]; exact h4, by rw [f32, f33]; exact h5, ?_, by rw [ec, em]; omega⟩
  · rw [ec, em, ef]
    exact PQ_two h1 el (by rw [et]; exact h18)
  · rw [ed, em, e19, hn]
    rw [hn] at h2
    refine SG_put (t := t) (by omega) h2 el et (fun j l => by rw [e17 j (by omega)]; exact id) (fun j l => by rw [e18 j (by omega)]; exact id) (fun i b l e => ?_) (fun q => ?_) (k3 n hn.symm)
    · have r := k1 n hn.symm i b e
      have s := wr_lt r k0
      exact ⟨by omega, by omega⟩
    · have r := k2 n hn.symm q
      refine ⟨r.1, fun i b l => ?_⟩
      rcases r.2 with y | y
      · exact h2.2.2.2.1 i b l y
      · have s := SG_all h2 (fun i b e => k1 n hn.symm i b e) i b l
        omega
  · rw [em]
    intro i l
    by_cases q : i < omN w
    · rw [el i q]
      exact h3 i q
    · rw [show i = omN w by omega, et]
      exact ht
  · rw [ed]
    intro j l
    rw [e18 j (by omega)]
    exact h6 j (by omega)
/-- a no waits -/
theorem PW_no (h : PW T a w 0) (hd1 : 1 ≤ dpN w) (e20 : aF w1 20 = upd (aF w 20) (omN w) 18) (em : omN w1 = omN w + 1) (hbg : ∀ g, g + 1 = dpN w → ¬ aF w 18 g = 0) (e17 : aF w1 17 = aF w 17) (e18 : aF w1 18 = aF w 18) (e13 : aF w1 13 = aF w 13) (e14 : aF w1 14 = aF w 14) (e16 : aF w1 16 = aF w 16) (e19 : aF w1 19 = aF w 19) (f13 : fI w1 0 13 = fI w 0 13) (f32 : fI w1 0 32 = fI w 0 32) (f33 : fI w1 0 33 = fI w 0 33) : PW (T + 3) a w1 0 := by
  obtain ⟨h1, h2, h3, h4, h5, h6, h7⟩ := h
  have ed : dpN w1 = dpN w := by unfold dpN; rw [f32]
  have ec : cdN w1 = cdN w := by unfold cdN; rw [e14, f13]
  have ef : cfM w1 (fI w1 0 13) = cfM w (fI w 0 13) := by unfold cfM; rw [e13, f13]
  have el : ∀ i, i < omN w → aF w1 20 i = aF w 20 i := fun i l => by rw [e20]; unfold upd; rw [if_neg (by omega)]
  have et : aF w1 20 (omN w) = 18 := by rw [e20]; unfold upd; rw [if_pos rfl]
  have r18 : rkO 18 = 3 := by decide
  have w3 : wrO 3 = 6 := by decide
  obtain ⟨n, hn⟩ : ∃ n, dpN w = n + 1 := ⟨dpN w - 1, by omega⟩
  refine ⟨?_, ?_, ?_, by rw [e16]; exact h4, by rw [f32, f33]; exact h5, by rw [ed, e18]; exact h6, by rw [ec, em]; omega⟩
  · rw [ec, em, ef]
    exact PQ_no h1 el et
  · rw [ed, em, e19, hn]
    rw [hn] at h2
    refine SG_put (t := 18) (by omega) h2 el et (fun j l => by rw [e17]; exact id) (fun j l => by rw [e18]; exact id) (fun i b l e => ?_) (fun q => ?_) (fun _ => by rw [r18]; exact Nat.le_refl _)
    · have r := h2.2.2.2.2.2 (hbg n hn.symm) i b e
      have s : wrO (rkO (aF w 20 i)) ≤ 6 := by
        unfold wrO
        by_cases q : rkO (aF w 20 i) ≤ 1
        · rw [if_pos q]
          decide
        · rw [if_neg q, if_pos r]
          decide
      rw [r18, w3]
      exact ⟨by omega, r⟩
    · rw [e17] at q
      exact ⟨by rw [r18]; decide, fun i b l => h2.2.2.2.1 i b l q⟩
  · rw [em]
    intro i l
    by_cases q : i < omN w
    · rw [el i q]
      exact h3 i q
    · rw [show i = omN w by omega, et]
      decide
/-- a frame opens -/
theorem PW_new {k b1 : Int32} (h : PW T a w 0) (hd1 : 1 ≤ dpN w) (hz : ∀ j, j + 1 = dpN w → aF w 18 j = 0) (e16 : aF w1 16 = upd (aF w 16) (dpN w) k) (e17 : aF w1 17 = upd (aF w 17) (dpN w) 0) (e18 : aF w1 18 = upd (aF w 18) (dpN w) b1) (e19 : aF w1 19 = upd (aF w 19) (dpN w) (fI w 0 35)) (e20 : aF w1 20 = aF w 20) (e13 : aF w1 13 = aF w 13) (e14 : aF w1 14 = aF w 14) (f13 : fI w1 0 13 = fI w 0 13) (ed : dpN w1 = dpN w + 1) (f32 : (fI w1 0 32).toInt = (fI w1 0 33).toInt + 1) (f35 : fI w1 0 35 = fI w 0 35) : PW T a w1 0 := by
  obtain ⟨h1, h2, h3, h4, h5, h6, h7⟩ := h
  have eo : omN w1 = omN w := by unfold omN; rw [f35]
  have ec : cdN w1 = cdN w := by unfold cdN; rw [e14, f13]
  have ef : cfM w1 (fI w1 0 13) = cfM w (fI w 0 13) := by unfold cfM; rw [e13, f13]
  have ul : ∀ (f g : Nat → Int32) (v : Int32), g = upd f (dpN w) v → ∀ j, j < dpN w → g j = f j := fun f g v e j l => by rw [e]; unfold upd; rw [if_neg (by omega)]
  refine ⟨by rw [ec, eo, ef, e20]; exact h1, ?_, by rw [eo, e20]; exact h3, ?_, f32, ?_, by rw [ec, eo]; exact h7⟩
  · rw [ed, eo, e20]
    exact SG_new h2 (fun j l => ul _ _ _ e19 j l) (by rw [upd_at e19]; rfl) (fun j l => by rw [ul _ _ _ e17 j l]; exact id) (fun j l => by rw [ul _ _ _ e18 j l]; exact id) (Int.le_refl _)
  · rw [ul _ _ _ e16 0 (by omega)]
    exact h4
  · rw [ed]
    intro j l
    rw [ul _ _ _ e18 j (by omega)]
    by_cases q : j + 1 = dpN w
    · exact hz j q
    · exact h6 j (by omega)
/-- a frame closes -/
theorem PW_end (h : PW T a w 1) (hd : 2 ≤ dpN w) (hm : ∀ g, g + 1 = dpN w → omN w ≤ (aF w 19 g).toNatClampNeg) (e17 : ∀ j, j + 1 < dpN w → aF w1 17 j = 0 → aF w 17 j = 0) (ed : dpN w1 + 1 = dpN w) (f32 : (fI w1 0 32).toInt = (fI w1 0 33).toInt + 1) (e13 : aF w1 13 = aF w 13) (e14 : aF w1 14 = aF w 14) (e16 : aF w1 16 = aF w 16) (e18 : aF w1 18 = aF w 18) (e19 : aF w1 19 = aF w 19) (e20 : aF w1 20 = aF w 20) (f13 : fI w1 0 13 = fI w 0 13) (f35 : fI w1 0 35 = fI w 0 35) : PW T a w1 1 := by
  obtain ⟨h1, h2, h3, h4, h5, h6, h7⟩ := h
  have eo : omN w1 = omN w := by unfold omN; rw [f35]
  have ec : cdN w1 = cdN w := by unfold cdN; rw [e14, f13]
  have ef : cfM w1 (fI w1 0 13) = cfM w (fI w 0 13) := by unfold cfM; rw [e13, f13]
  refine ⟨by rw [ec, eo, ef, e20]; exact h1, ?_, by rw [eo, e20]; exact h3, by rw [e16]; exact h4, f32, ?_, by rw [ec, eo]; exact h7⟩
  · rw [← ed] at h2
    have m1 := hm _ ed
    have m2 := h2.2.1
    have m3 : omN w = (aF w 19 (dpN w1)).toNatClampNeg := by omega
    rw [eo, e20, e19, e18, m3]
    exact SG_cg (Int.le_refl _) _ _ (fun _ _ => rfl) (fun _ _ => rfl) (fun j l => e17 j (by omega)) (fun _ _ => id) h2.1
  · rw [e18]
    intro j l
    exact h6 j (by omega)
/-- the phase of the last frame is told, and that it has begun -/
theorem PW_ph (h : PW T a w o) (hd1 : 1 ≤ dpN w) (e17 : ∀ j, j < dpN w → aF w1 17 j = 0 → aF w 17 j = 0) (e18 : ∀ j, j < dpN w → aF w1 18 j = aF w 18 j ∨ aF w1 18 j = 0) (e13 : aF w1 13 = aF w 13) (e14 : aF w1 14 = aF w 14) (e16 : aF w1 16 = aF w 16) (e19 : aF w1 19 = aF w 19) (e20 : aF w1 20 = aF w 20) (f13 : fI w1 0 13 = fI w 0 13) (f32 : fI w1 0 32 = fI w 0 32) (f33 : fI w1 0 33 = fI w 0 33) (f35 : fI w1 0 35 = fI w 0 35) (ho : o ≤ 1) : PW T a w1 o := by
  obtain ⟨h1, h2, h3, h4, h5, h6, h7⟩ := h
  have eo : omN w1 = omN w := by unfold omN; rw [f35]
  have ed : dpN w1 = dpN w := by unfold dpN; rw [f32]
  have ec : cdN w1 = cdN w := by unfold cdN; rw [e14, f13]
  have ef : cfM w1 (fI w1 0 13) = cfM w (fI w 0 13) := by unfold cfM; rw [e13, f13]
  refine ⟨by rw [ec, eo, ef, e20]; exact h1, ?_, by rw [eo, e20]; exact h3, by rw [e16]; exact h4, by rw [f32, f33]; exact h5, ?_, by rw [ec, eo]; exact h7⟩
  · rw [ed, eo, e20, e19]
    refine SG_cg (Int.le_refl _) _ _ (fun _ _ => rfl) (fun _ _ => rfl) e17 (fun j l q => ?_) h2
    rcases e18 j l with y | y
    · rw [← y]
      exact q
    · exact absurd y q
  · rw [ed]
    intro j l
    rcases e18 j (by omega) with y | y
    · rw [y]
      exact h6 j l
    · exact y
/-- it begins -/
theorem PW_start (hT : (cdN w : Int) ≤ T) (ho : omN w = 0) (hd : dpN w = 1) (h16 : (aF w 16 0).toInt < 3) (h19 : (aF w 19 0).toNatClampNeg = 0) (f32 : (fI w 0 32).toInt = (fI w 0 33).toInt + 1) : PW T (cdN w) w 0 := by
  refine ⟨?_, ?_, ?_, h16, f32, ?_, by omega⟩
  · rw [ho]
    exact PQ_0
  · rw [hd, ho]
    refine ⟨?_, Nat.le_of_eq h19, fun i b l => absurd l (Nat.not_lt_zero i), fun i b l => absurd l (Nat.not_lt_zero i), fun i b l => absurd l (Nat.not_lt_zero (i + 1)), fun q i b l => absurd l (Nat.succ_ne_zero i)⟩
    show 3 * (((aF w 19 0).toNatClampNeg : Nat) : Int) ≤ T
    omega
  · rw [ho]
    exact fun i l => absurd l (by omega)
  · rw [hd]
    exact fun j l => absurd l (by omega)
end PWs
