/-! the floor, while its rows are laid -/
def FM (r0 : Int) (w : va_W) : Prop :=
  (∀ s r : Nat, s < (fI w 64 2).toInt.toNat → (aF w 66 s).toInt ≤ (r : Int) → (r : Int) < (aF w 66 (s + 1)).toInt → (aF w 65 r).toNatClampNeg = s) ∧
  (∀ r : Nat, (r : Int) < r0 → (aF w 65 r).toInt < (fI w 64 2).toInt) ∧
  (∀ s : Nat, s < (fI w 64 2).toInt.toNat → (aF w 66 (s + 1)).toInt ≤ r0) ∧
  (∀ c : Nat, c < 40 → (aF w 67 c).toInt < (fI w 64 1).toInt) ∧
  (aF w 66 (fI w 64 2).toInt.toNat).toInt = r0 ∧ r0 ≤ (fI w 64 1).toInt ∧
  ∀ r : Nat, r0 ≤ (r : Int) → (r : Int) < (fI w 64 1).toInt → (aF w 65 r).toInt = (fI w 64 2).toInt
abbrev FB (w : va_W) : Prop := FM (fI w 64 1).toInt w
section FMRows
variable {w w1 : va_W} {r0 : Int}
theorem FB_FL (h : FB w) : FL w := ⟨h.1, h.2.1, h.2.2.1, h.2.2.2.1⟩
theorem FM_cg (h1 : fI w1 64 2 = fI w 64 2) (h0 : fI w1 64 1 = fI w 64 1) (h2 : aF w1 66 = aF w 66) (h3 : aF w1 65 = aF w 65) (h4 : aF w1 67 = aF w 67) (h : FM r0 w) : FM r0 w1 := by
  unfold FM
  rw [h1, h0, h2, h3, h4]
  exact h
theorem FM_row {i : Int32} (hs : In 0 23 (fI w 64 2)) (hr : In 0 39 (fI w 64 1)) (e65 : aF w1 65 = upd (aF w 65) (fI w 64 1).toNatClampNeg (fI w 64 2)) (e67 : aF w1 67 = upd (aF w 67) i.toNatClampNeg (fI w 64 1)) (e66 : aF w1 66 = aF w 66) (e2 : fI w1 64 2 = fI w 64 2) (e1 : fI w1 64 1 = fI w 64 1 + 1) (h : FM r0 w) : FM r0 w1 := by
  obtain ⟨hA, hB, hC, hD, hE, hF, hG⟩ := h
  have t := t_add hr (In_lit (n := 1) (by decide) (by decide) : In 1 1 1) (by decide)
  have z : (1 : Int32).toInt = 1 := by decide
  have a1 : (fI w 64 1).toNatClampNeg = (fI w 64 1).toInt.toNat := rfl
  have e1i : (fI w1 64 1).toInt = (fI w 64 1).toInt + 1 := by rw [e1, t, z]
  unfold In at hr
  refine ⟨?_, ?_, by rw [e66, e2]; exact hC, ?_, by rw [e66, e2]; exact hE, by omega, ?_⟩
  · intro s r h1 h2 h3
    rw [e66] at h2 h3
    rw [e2] at h1
    have hc := hC s h1
    rw [e65]
    unfold upd
    rw [if_neg (by omega)]
    exact hA s r h1 h2 h3
  · intro r h1
    rw [e65, e2]
    unfold upd
    rw [if_neg (by omega)]
    exact hB r h1
  · intro c hc
    rw [e67, e1i]
    unfold upd
    split
    · omega
    · have := hD c hc
      omega
  · intro r h1 h2
    rw [e1i] at h2
    rw [e65, e2]
    unfold upd
    by_cases q : r = (fI w 64 1).toNatClampNeg
    · rw [if_pos q]
    · rw [if_neg q]
      exact hG r h1 (by omega)
theorem FM_day (hs : In 0 23 (fI w 64 2)) (hr : In 0 40 (fI w 64 1)) (e65 : aF w1 65 = aF w 65) (e67 : aF w1 67 = aF w 67) (e66 : aF w1 66 = upd (aF w 66) (fI w 64 2 + 1).toNatClampNeg (fI w 64 1)) (e2 : fI w1 64 2 = fI w 64 2 + 1) (e1 : fI w1 64 1 = fI w 64 1) (h : FM r0 w) : FB w1 := by
  obtain ⟨hA, hB, hC, hD, hE, hF, hG⟩ := h
  have t := t_add hs (In_lit (n := 1) (by decide) (by decide) : In 1 1 1) (by decide)
  have z : (1 : Int32).toInt = 1 := by decide
  have e2i : (fI w1 64 2).toInt = (fI w 64 2).toInt + 1 := by rw [e2, t, z]
  have a1 : (fI w 64 2 + 1).toNatClampNeg = (fI w 64 2).toInt.toNat + 1 := by
    have a2 : (fI w 64 2 + 1).toNatClampNeg = (fI w 64 2 + 1).toInt.toNat := rfl
    unfold In at hs
    omega
  have b65 : ∀ r : Nat, (aF w 65 r).toNatClampNeg = (aF w 65 r).toInt.toNat := fun _ => rfl
  rw [a1] at e66
  unfold In at hs
  unfold FB FM
  rw [e65, e67, e66, e1]
  have hn : (fI w1 64 2).toInt.toNat = (fI w 64 2).toInt.toNat + 1 := by omega
  rw [hn]
  refine ⟨?_, ?_, ?_, hD, ?_, Int.le_refl _, fun r h1 h2 => by omega⟩
  · intro s r h1 h2 h3
    unfold upd at h2 h3
    rw [if_neg (by omega)] at h2
    by_cases q : s = (fI w 64 2).toInt.toNat
    · rw [if_pos (by omega)] at h3
      rw [q, hE] at h2
      have g := hG r h2 h3
      rw [b65, g, q]
    · rw [if_neg (by omega)] at h3
      exact hA s r (by omega) h2 h3
  · intro r h1
    rw [e2i]
    by_cases q : (r : Int) < r0
    · have := hB r q
      omega
    · have := hG r (by omega) h1
      omega
  · intro s h1
    unfold upd
    by_cases q : s = (fI w 64 2).toInt.toNat
    · rw [if_pos (by omega)]
      exact Int.le_refl _
    · rw [if_neg (by omega)]
      have := hC s (by omega)
      omega
  · unfold upd
    rw [if_pos rfl]
theorem FB_new (h67 : ∀ c : Nat, c < 40 → aF w 67 c = -1) (h1 : fI w 64 1 = 0) (h2 : fI w 64 2 = 0) (h66 : aF w 66 (0 : Int32).toNatClampNeg = 0) : FB w := by
  have z : (0 : Int32).toInt = 0 := by decide
  have z1 : (-1 : Int32).toInt = -1 := by decide
  have zn : (0 : Int32).toNatClampNeg = 0 := by decide
  rw [zn] at h66
  unfold FB FM
  rw [h1, h2, z]
  refine ⟨fun s r q => absurd q (Nat.not_lt_zero s), fun r q => by omega, fun s q => absurd q (Nat.not_lt_zero s), fun c hc => ?_, ?_, Int.le_refl _, fun r q1 q2 => by omega⟩
  · rw [h67 c hc, z1]
    decide
  · show (aF w 66 0).toInt = 0
    rw [h66, z]
end FMRows
