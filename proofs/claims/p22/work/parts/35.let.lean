/-! the letters of a word -/
theorem let_0 (x : Int64) : x.toUInt64.toNat * 256 ^ (0 : Int32).toInt.toNat < 18446744073709551616 := by
  have z : (0 : Int32).toInt.toNat = 0 := by decide
  rw [z, Nat.pow_zero, Nat.mul_one]
  exact x.toUInt64.toNat_lt
theorem let_ne {x : Int64} (h : ¬ x = 0) : 1 ≤ x.toUInt64.toNat := by
  rcases Nat.eq_zero_or_pos x.toUInt64.toNat with q | q
  · exfalso
    apply h
    have e : x.toUInt64 = (0 : Int64).toUInt64 := UInt64.toNat_inj.mp q
    have e2 := congrArg UInt64.toInt64 e
    rw [Int64.toInt64_toUInt64, Int64.toInt64_toUInt64] at e2
    exact e2
  · exact q
theorem let_lt {b : Int} {x : Int64} {n v : Int32} (hn : In 0 b n) (ev : v = lg_cmp x 0) (hv : ¬ v = 0) (h : x.toUInt64.toNat * 256 ^ n.toInt.toNat < 18446744073709551616) : In 0 7 n := by
  have hx : ¬ x = 0 := by
    intro q
    apply hv
    rw [ev, q]
    decide
  have h1 := let_ne hx
  have h2 : 256 ^ n.toInt.toNat < 256 ^ 8 := by
    have h3 : 1 * 256 ^ n.toInt.toNat ≤ x.toUInt64.toNat * 256 ^ n.toInt.toNat := Nat.mul_le_mul_right _ h1
    have h4 : (256 : Nat) ^ 8 = 18446744073709551616 := by decide
    omega
  have h5 : n.toInt.toNat < 8 := (Nat.pow_lt_pow_iff_right (by decide)).mp h2
  unfold In at hn ⊢
  omega
theorem let_st {x v : Int64} {n : Int32} (hn : In 0 7 n) (e : v = (x.toUInt64 >>> ((8 : Int32).toInt64.toUInt64 &&& Int64.toUInt64 63)).toInt64) (h : x.toUInt64.toNat * 256 ^ n.toInt.toNat < 18446744073709551616) : v.toUInt64.toNat * 256 ^ (n + 1).toInt.toNat < 18446744073709551616 := by
  have t := t_add hn (In_lit (n := 1) (by decide) (by decide) : In 1 1 1) (by decide)
  have z : (1 : Int32).toInt = 1 := by decide
  have e1 : (n + 1).toInt.toNat = n.toInt.toNat + 1 := by
    unfold In at hn
    omega
  have e2 : v.toUInt64.toNat = x.toUInt64.toNat / 256 := by
    rw [e]
    have e3 : ((8 : Int32).toInt64.toUInt64 &&& Int64.toUInt64 63) = 8 := by decide
    rw [e3, UInt64.toUInt64_toInt64, UInt64.toNat_shiftRight]
    show x.toUInt64.toNat >>> 8 = _
    rw [Nat.shiftRight_eq_div_pow]
  rw [e1, e2, Nat.pow_succ, Nat.mul_comm (256 ^ n.toInt.toNat) 256, ← Nat.mul_assoc]
  exact Nat.lt_of_le_of_lt (Nat.mul_le_mul_right _ (Nat.div_mul_le_self _ _)) h
