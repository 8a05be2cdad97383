/-! the word of a sign: how many letters it has -/
theorem wb_st {x v v2 u : Int64} {b : Int32} (hb : In 0 255 b) (e9 : v = x <<< ((8 : Int32).toInt64 &&& 63)) (e11 : u = b.toInt64) (e12 : v2 = v ||| u) : v2.toUInt64.toNat = (x.toUInt64.toNat * 256 % 18446744073709551616) ||| b.toInt.toNat := by
  have a8 : ((8 : Int32).toInt64 &&& 63) = 8 := by decide
  have n1 : v.toUInt64.toNat = x.toUInt64.toNat * 256 % 18446744073709551616 := by
    rw [e9, a8]
    show (x.toBitVec <<< ((8 : Int64).toBitVec.smod 64)).toNat = _
    rw [show (8 : Int64).toBitVec.smod 64 = 8#64 by decide]
    show (x.toBitVec <<< (8#64).toNat).toNat = _
    rw [BitVec.toNat_shiftLeft, Nat.shiftLeft_eq]
    rfl
  have n2 : u.toUInt64.toNat = b.toInt.toNat := by
    rw [e11]
    have s : b.toInt64.toBitVec.toInt = b.toInt := Int32.toInt_toInt64 b
    have l := b.toInt64.toBitVec.isLt
    show b.toInt64.toBitVec.toNat = _
    rw [BitVec.toInt_eq_toNat_cond] at s
    unfold In at hb
    split at s <;> omega
  rw [e12]
  show (v.toBitVec ||| u.toBitVec).toNat = _
  rw [BitVec.toNat_or, ← n1, ← n2]
  rfl
/-- of a word of d letters -/
def WB (d : Int) (x : Int64) : Prop := 0 ≤ d ∧ (d ≤ 0 → x.toUInt64.toNat = 0) ∧ (d ≤ 1 → x.toUInt64.toNat < 256) ∧ (d ≤ 2 → x.toUInt64.toNat < 65536)
theorem WB_0 : WB 0 0 := ⟨Int.le_refl _, fun _ => by decide, fun _ => by decide, fun _ => by decide⟩
theorem WB_sk {d : Int} {x : Int64} (h : WB d x) : WB (d + 1) x := by
  obtain ⟨h0, h1, h2, h3⟩ := h
  refine ⟨by omega, fun q => h1 (by omega), fun q => ?_, fun q => ?_⟩
  · have := h1 (by omega)
    omega
  · have := h2 (by omega)
    omega
theorem WB_st {d : Int} {x v v2 u : Int64} {b : Int32} (h : WB d x) (hb : In 0 255 b) (e9 : v = x <<< ((8 : Int32).toInt64 &&& 63)) (e11 : u = b.toInt64) (e12 : v2 = v ||| u) : WB (d + 1) v2 := by
  obtain ⟨h0, h1, h2, h3⟩ := h
  have e := wb_st hb e9 e11 e12
  have hb2 : b.toInt.toNat < 256 := by
    unfold In at hb
    omega
  refine ⟨by omega, fun q => absurd q (by omega), fun q => ?_, fun q => ?_⟩
  · rw [e, h1 (by omega)]
    show (0 : Nat) ||| b.toInt.toNat < 256
    rw [Nat.zero_or]
    exact hb2
  · have k := h2 (by omega)
    rw [e, Nat.mod_eq_of_lt (by omega)]
    exact Nat.or_lt_two_pow (n := 16) (show x.toUInt64.toNat * 256 < 65536 by omega) (show b.toInt.toNat < 65536 by omega)
/-- a word as great as that has three letters or more -/
theorem WB_3 {d : Int} {x : Int64} (h : WB d x) (k : 65536 ≤ x.toUInt64.toNat) : 3 ≤ d := by
  by_cases q : d ≤ 2
  · have := h.2.2.2 q
    omega
  · omega
theorem wb_e {d d2 : Int} {x : Int64} (h : WB d x) (e : d2 = d) : WB d2 x := by
  rw [e]
  exact h
