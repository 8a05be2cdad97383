/-! the reference's expressions, step by step -/
/-- codes are only added -/
def KC (w w1 : va_W) : Prop := cdN w ≤ cdN w1 ∧ fI w1 0 13 = fI w 0 13 ∧ ∀ b i : Nat, b < 2 → i < 1100 → ¬ (b = (fI w 0 13).toInt.toNat ∧ cdN w ≤ i) → aF w1 13 (2200 * b + 2 * i) = aF w 13 (2200 * b + 2 * i)
section KCs
variable {w w1 w2 : va_W} {t : Int32}
theorem KC_cg (e13 : aF w1 13 = aF w 13) (e14 : aF w1 14 = aF w 14) (f13 : fI w1 0 13 = fI w 0 13) : KC w w1 := by
  refine ⟨?_, f13, fun b i _ _ _ => by rw [e13]⟩
  unfold cdN
  rw [e14, f13]
  exact Nat.le_refl _
theorem KC_tr (h : KC w w1) (g : KC w1 w2) : KC w w2 := by
  refine ⟨Nat.le_trans h.1 g.1, g.2.1.trans h.2.1, fun b i hb hi n => ?_⟩
  have k1 := h.1
  rw [g.2.2 b i hb hi (by rw [h.2.1]; intro q; exact n ⟨q.1, by omega⟩)]
  exact h.2.2 b i hb hi n
theorem KC_ad (h : AD w w1 t) (hc : In 0 1099 (aF w 14 (fI w 0 13).toNatClampNeg)) (f13 : fI w1 0 13 = fI w 0 13) : KC w w1 := by
  have e := AD_cd h hc f13
  refine ⟨by omega, f13, fun b i hb hi n => h.2.1 b i (by intro q; exact n ⟨q.1, by omega⟩) hb hi⟩
/-- what could be worked still can -/
theorem KC_HV {x y b : Int32} (h : KC w w1) (hb : In 0 1 b) (hy : y.toInt.toNat ≤ cdN w) (hc : cdN w ≤ 1100) (g : HV w b x y) : HV w1 b x y := by
  unfold HV at *
  intro q
  apply g
  rw [← q]
  refine (hsN_cg _ (fun i h1 h2 => ?_)).symm
  unfold cfM
  unfold In at hb
  exact h.2.2 _ i (by omega) (by omega) (by omega)
/-- and of the other bank everything -/
theorem KC_HV2 {x y b : Int32} (h : KC w w1) (hb : In 0 1 b) (hn : ¬ b.toInt = (fI w 0 13).toInt) (hi : In 0 1 (fI w 0 13)) (hy : y.toInt.toNat ≤ 1100) (g : HV w b x y) : HV w1 b x y := by
  unfold HV at *
  intro q
  apply g
  rw [← q]
  refine (hsN_cg _ (fun i h1 h2 => ?_)).symm
  unfold cfM
  unfold In at hb hi
  exact h.2.2 _ i (by omega) (by omega) (by omega)
theorem AD_cgr (e13 : aF w2 13 = aF w1 13) (e14 : aF w2 14 = aF w1 14) (h : AD w w1 t) : AD w w2 t := by
  unfold AD at *
  rw [e13, e14]
  exact h
end KCs
section BZs
variable {T T' : Int} {a o : Nat} {w w1 w2 : va_W} {t : Int32}
/-- ahead of an operand that is no sign of a beginning -/
def BZ (T : Int) (a : Nat) (w : va_W) : Prop := PW T a w 0 ∧ ∀ j, j + 1 = dpN w → aF w 18 j = 0
theorem ix_1 {x : Int32} (h : In 1 20 x) : (x - 1).toNatClampNeg + 1 = x.toInt.toNat := by
  have t := t_sub h (In_lit (n := 1) (by decide) (by decide) : In 1 1 1) (by decide)
  have z : (1 : Int32).toInt = 1 := by decide
  show (x - 1).toInt.toNat + 1 = _
  unfold In at h
  omega
theorem nb_0 : vp_nar .boolean 0 = 0 := by decide
theorem nb_1 : ¬ vp_nar .boolean 1 = 0 := by decide
theorem BZ_of (h : PW T a w 0) (hd : In 1 20 (fI w 0 32)) (e18 : aF w1 18 = upd (aF w 18) ((fI w 0 32) - 1).toNatClampNeg (vp_nar .boolean 0)) (e17 : aF w1 17 = aF w 17) (e13 : aF w1 13 = aF w 13) (e14 : aF w1 14 = aF w 14) (e16 : aF w1 16 = aF w 16) (e19 : aF w1 19 = aF w 19) (e20 : aF w1 20 = aF w 20) (f13 : fI w1 0 13 = fI w 0 13) (f32 : fI w1 0 32 = fI w 0 32) (f33 : fI w1 0 33 = fI w 0 33) (f35 : fI w1 0 35 = fI w 0 35) : BZ T a w1 := by
  have ix := ix_1 hd
  rw [nb_0] at e18
  refine ⟨PW_ph h (by unfold dpN; omega) (fun j _ => by rw [e17]; exact id) (fun j _ => ?_) e13 e14 e16 e19 e20 f13 f32 f33 f35 (by omega), fun j e => ?_⟩
  · rw [e18]
    unfold upd
    split
    · exact Or.inr rfl
    · exact Or.inl rfl
  · rw [e18]
    unfold upd
    rw [if_pos (by unfold dpN at e; rw [f32] at e; omega)]
theorem BZ_cg (e13 : aF w1 13 = aF w 13) (e14 : aF w1 14 = aF w 14) (e16 : aF w1 16 = aF w 16) (e17 : aF w1 17 = aF w 17) (e18 : aF w1 18 = aF w 18) (e19 : aF w1 19 = aF w 19) (e20 : aF w1 20 = aF w 20) (f13 : fI w1 0 13 = fI w 0 13) (f32 : fI w1 0 32 = fI w 0 32) (f33 : fI w1 0 33 = fI w 0 33) (f35 : fI w1 0 35 = fI w 0 35) (h : BZ T a w) : BZ T a w1 := by
  refine ⟨PW_cg e13 e14 e16 e17 e18 e19 e20 f13 f32 f33 f35 h.1, ?_⟩
  unfold dpN
  rw [f32, e18]
  exact h.2
/-- a phase that is told: no new nought -/
theorem ph_2 {f g : Nat → Int32} {i : Nat} {v : Int32} (e : g = upd f i v) (h : ¬ v = 0) : ∀ j, g j = 0 → f j = 0 := by
  intro j q
  rw [e] at q
  unfold upd at q
  split at q
  · exact absurd q h
  · exact q
theorem JT_two (h : JT 5 w) (ht : rkO t = 5) : ∀ g, g + 1 = dpN w → ∀ i, (aF w 19 g).toNatClampNeg ≤ i → i + 1 = omN w → rkO (aF w 20 i) < rkO t := by
  intro g e i h1 h2
  have q := h g e i h1 h2
  have z : (5 : Int32).toInt = 5 := by decide
  omega
theorem JT_cmp (h : JT 5 w) (hP : PW T a w o) (hp : ∀ g, g + 1 = dpN w → aF w 17 g = 0) (ht : rkO t = 4) : ∀ g, g + 1 = dpN w → ∀ i, (aF w 19 g).toNatClampNeg ≤ i → i + 1 = omN w → rkO (aF w 20 i) < rkO t := by
  intro g e i h1 h2
  have q := h g e i h1 h2
  have z : (5 : Int32).toInt = 5 := by decide
  have s := hP.2.1
  rw [← e] at s
  have r := s.2.2.2.1 i h1 (by omega) (hp g e)
  omega
theorem JT_and (h : JT 2 w) (ht : rkO t = 2) : ∀ g, g + 1 = dpN w → ∀ i, (aF w 19 g).toNatClampNeg ≤ i → i + 1 = omN w → rkO (aF w 20 i) < rkO t := by
  intro g e i h1 h2
  have q := h g e i h1 h2
  have z : (2 : Int32).toInt = 2 := by decide
  omega
theorem JT_or (h : JT 1 w) (ht : rkO t = 1) : ∀ g, g + 1 = dpN w → ∀ i, (aF w 19 g).toNatClampNeg ≤ i → i + 1 = omN w → rkO (aF w 20 i) < rkO t := by
  intro g e i h1 h2
  have q := h g e i h1 h2
  have z : (1 : Int32).toInt = 1 := by decide
  omega
theorem JT_end (h : JT 1 w) : ∀ g, g + 1 = dpN w → omN w ≤ (aF w 19 g).toNatClampNeg := by
  intro g e
  by_cases k : omN w ≤ (aF w 19 g).toNatClampNeg
  · exact k
  · have q := h g e (omN w - 1) (by omega) (by omega)
    have z : (1 : Int32).toInt = 1 := by decide
    have r := rkO_ge (aF w 20 (omN w - 1))
    omega
/-- begins of the last frame, behind an operand -/
theorem PW_b1 (h : PW T a w 1) : ∀ g, g + 1 = dpN w → aF w 18 g = 0 := fun g e => h.2.2.2.2.2.1 g (by omega)
/-- a frame that closes is not the first -/
theorem PW_d2 {k : Int32} (h : PW T a w o) (hd : In 1 9 (fI w 0 32)) (ek : k = aF w 16 ((fI w 0 32) - 1).toNatClampNeg) (hk : 3 ≤ k.toInt) : In 2 9 (fI w 0 32) := by
  have h4 := h.2.2.2.1
  have ix := ix_1 (In_w hd (by decide) : In 1 20 (fI w 0 32))
  by_cases q : (fI w 0 32).toInt = 1
  · rw [show ((fI w 0 32) - 1).toNatClampNeg = 0 by omega] at ek
    rw [ek] at hk
    omega
  · unfold In at *
    omega
theorem PW_dp (h : PW T a w o) (ho : In 0 8 (fI w 0 33)) : In 1 9 (fI w 0 32) := by
  have h5 := h.2.2.2.2.1
  unfold In at *
  omega
theorem PW_op (h : PW T a w o) (hd : In 2 9 (fI w 0 32)) : In 1 8 (fI w 0 33) := by
  have h5 := h.2.2.2.2.1
  unfold In at *
  omega
/-- the phase that was read -/
theorem ph_rd {v : Int32} (hd : In 1 20 (fI w 0 32)) (e : v = aF w 17 ((fI w 0 32) - 1).toNatClampNeg) (c : v = 0) : ∀ g, g + 1 = dpN w → aF w 17 g = 0 := by
  intro g q
  have ix := ix_1 hd
  unfold dpN at q
  rw [show g = ((fI w 0 32) - 1).toNatClampNeg by omega, ← e, c]
theorem bg_rd {v : Int32} (hd : In 1 20 (fI w 0 32)) (e : v = aF w 18 ((fI w 0 32) - 1).toNatClampNeg) (c : ¬ v = 0) : ∀ g, g + 1 = dpN w → ¬ aF w 18 g = 0 := by
  intro g q
  have ix := ix_1 hd
  unfold dpN at q
  rw [show g = ((fI w 0 32) - 1).toNatClampNeg by omega, ← e]
  exact c
theorem up_lo {f g : Nat → Int32} {x v : Int32} (hd : In 1 20 x) (e : g = upd f (x - 1).toNatClampNeg v) : ∀ j, j + 1 < x.toInt.toNat → g j = f j := by
  intro j l
  have ix := ix_1 hd
  rw [e]
  unfold upd
  rw [if_neg (by omega)]
theorem up_at {f g : Nat → Int32} {x v : Int32} (hd : In 1 20 x) (e : g = upd f (x - 1).toNatClampNeg v) : ∀ j, j + 1 = x.toInt.toNat → g j = v := by
  intro j l
  have ix := ix_1 hd
  rw [e]
  unfold upd
  rw [if_pos (by omega)]
theorem rk_5 (h : In 10 12 t) : rkO t = 5 := by
  unfold rkO
  unfold In at h
  have e : ∀ y : Int32, 13 ≤ y.toInt → ¬ t = y := by
    intro y g q
    rw [q] at h
    omega
  rw [if_neg (e 17 (by decide)), if_neg (e 16 (by decide)), if_neg (e 18 (by decide)), if_neg (fun q => q.elim (e 13 (by decide)) (fun q => q.elim (e 14 (by decide)) (e 15 (by decide))))]
end BZs
