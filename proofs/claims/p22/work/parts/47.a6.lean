/-! bits of small sets -/
def tb (v : Int) (k : Nat) : Bool := decide (¬ iAnd (iShr v (k : Int)) 1 = 0)
theorem bit_and1 (y : BitVec 32) : (y &&& 1#32).toInt = if y.getLsbD 0 = true then 1 else 0 := by
  rw [BitVec.and_one_eq_setWidth_ofBool_getLsbD]
  cases y.getLsbD 0 <;> decide
theorem sh_k : ∀ k : Fin 32, (Int32.ofInt (k.val : Int) &&& 31).toBitVec.smod 32 = BitVec.ofNat 32 k.val := by decide
theorem tb_get (v : Int) {k : Nat} (hk : k < 32) : tb v k = (Int32.ofInt v).toBitVec.getLsbD k := by
  have e1 : iShr v (k : Int) = (Int32.ofInt v >>> (Int32.ofInt (k : Int) &&& 31)).toInt := rfl
  have e2 : iAnd (iShr v (k : Int)) 1 = ((Int32.ofInt v >>> (Int32.ofInt (k : Int) &&& 31)) &&& 1).toInt := by
    rw [e1]
    exact (z_and rfl (show (1 : Int32).toInt = 1 from by decide)).symm
  have hs := sh_k ⟨k, hk⟩
  have e3 : ((Int32.ofInt v >>> (Int32.ofInt (k : Int) &&& 31)) &&& 1).toInt = ((Int32.ofInt v).toBitVec.sshiftRight k &&& 1#32).toInt := by
    show (((Int32.ofInt v).toBitVec.sshiftRight ((Int32.ofInt (k : Int) &&& 31).toBitVec.smod 32).toNat) &&& 1#32).toInt = _
    rw [hs, BitVec.toNat_ofNat, Nat.mod_eq_of_lt (by omega)]
  unfold tb
  rw [e2, e3, bit_and1, BitVec.getLsbD_sshiftRight]
  have d : (!decide (32 ≤ 0)) = true := rfl
  rw [d, Bool.true_and, Nat.add_zero, if_pos hk]
  cases (Int32.ofInt v).toBitVec.getLsbD k <;> decide
theorem tb_zero {k : Nat} (hk : k < 32) : tb 0 k = false := by
  rw [tb_get 0 hk]
  have e : (Int32.ofInt 0).toBitVec = 0#32 := by decide
  rw [e, BitVec.getLsbD_zero]
theorem shl_one : ∀ k : Fin 32, (Int32.ofInt 1 <<< (Int32.ofInt (k.val : Int) &&& 31)).toBitVec = BitVec.twoPow 32 k.val := by decide
theorem tb_or {v : Int} {k j : Nat} (hk : k < 32) (hj : j < 32) : tb (iOr v (iShl 1 (k : Int))) j = (tb v j || decide (k = j)) := by
  rw [tb_get _ hj, tb_get _ hj]
  have e : Int32.ofInt (iOr v (iShl 1 (k : Int))) = Int32.ofInt v ||| (Int32.ofInt 1 <<< (Int32.ofInt (k : Int) &&& 31)) := by
    have e1 : iShl 1 (k : Int) = (Int32.ofInt 1 <<< (Int32.ofInt (k : Int) &&& 31)).toInt := rfl
    have e2 : iOr v (iShl 1 (k : Int)) = (Int32.ofInt v ||| Int32.ofInt (iShl 1 (k : Int))).toInt := rfl
    rw [e2, Int32.ofInt_toInt, e1, Int32.ofInt_toInt]
  rw [e]
  show ((Int32.ofInt v).toBitVec ||| (Int32.ofInt 1 <<< (Int32.ofInt (k : Int) &&& 31)).toBitVec).getLsbD j = _
  rw [shl_one ⟨k, hk⟩, BitVec.getLsbD_or, BitVec.getLsbD_twoPow]
  congr 1
  show (decide (k < 32) && decide (k = j)) = _
  rw [decide_eq_true hk, Bool.true_and]
