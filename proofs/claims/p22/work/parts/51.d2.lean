/-! the class's value is what its codes come to -/
theorem and15 {n k : Nat} (h : n < 134217728) (hk : k < 16) : iAnd ((16 * n + k : Nat) : Int) 15 = (k : Int) := by
  unfold iAnd
  have e1 : (Int32.ofInt ((16 * n + k : Nat) : Int)).toBitVec.toNat = 16 * n + k := by
    show (BitVec.ofInt 32 ((16 * n + k : Nat) : Int)).toNat = _
    rw [BitVec.toNat_ofInt]
    show (16 * n + k) % 2 ^ 32 = 16 * n + k
    exact Nat.mod_eq_of_lt (by omega)
  have e2 : (Int32.ofInt 15).toBitVec.toNat = 15 := by decide
  have e3 : (Int32.ofInt ((16 * n + k : Nat) : Int) &&& Int32.ofInt 15).toBitVec.toNat = k := by
    show ((Int32.ofInt ((16 * n + k : Nat) : Int)).toBitVec &&& (Int32.ofInt 15).toBitVec).toNat = _
    rw [BitVec.toNat_and, e1, e2]
    have z : (16 * n + k) &&& 15 = (16 * n + k) % 2 ^ 4 := Nat.and_two_pow_sub_one_eq_mod (16 * n + k) 4
    rw [z]
    omega
  show (Int32.ofInt ((16 * n + k : Nat) : Int) &&& Int32.ofInt 15).toBitVec.toInt = _
  rw [BitVec.toInt_eq_toNat_of_lt (by rw [e3]; omega), e3]
theorem shr4 {n k : Nat} (h : n < 134217728) (hk : k < 16) : iShr ((16 * n + k : Nat) : Int) 4 = (n : Int) := by
  unfold iShr
  have e0 : (Int32.ofInt 4 &&& 31).toBitVec.smod 32 = 4#32 := by decide
  have e1 : (Int32.ofInt ((16 * n + k : Nat) : Int)).toBitVec.toNat = 16 * n + k := by
    show (BitVec.ofInt 32 ((16 * n + k : Nat) : Int)).toNat = _
    rw [BitVec.toNat_ofInt]
    show (16 * n + k) % 2 ^ 32 = 16 * n + k
    exact Nat.mod_eq_of_lt (by omega)
  have m1 : (Int32.ofInt ((16 * n + k : Nat) : Int)).toBitVec.toInt = ((16 * n + k : Nat) : Int) := by
    rw [BitVec.toInt_eq_toNat_of_lt (by rw [e1]; omega), e1]
  have e2 : (Int32.ofInt ((16 * n + k : Nat) : Int) >>> (Int32.ofInt 4 &&& 31)).toBitVec.toInt = (n : Int) := by
    show ((Int32.ofInt ((16 * n + k : Nat) : Int)).toBitVec.sshiftRight ((Int32.ofInt 4 &&& 31).toBitVec.smod 32).toNat).toInt = _
    rw [e0]
    show ((Int32.ofInt ((16 * n + k : Nat) : Int)).toBitVec.sshiftRight 4).toInt = _
    rw [BitVec.toInt_sshiftRight, m1, Int.shiftRight_eq_div_pow]
    show ((16 * n + k : Nat) : Int) / 2 ^ 4 = _
    omega
  exact e2
/-- the numbers that wait, top first -/
def SkX : List Int → PS → Prop
  | [], _ => True
  | v :: st, s => s 63 st.length = v ∧ SkX st s
/-- the numbers that wait in the reference -/
def SkM : List Int → PS → Prop
  | [], _ => True
  | v :: st, s => s 37 st.length = v ∧ SkM st s
section SkL
variable {s t : PS}
theorem SkX.cg : ∀ {st : List Int}, SkX st s → (∀ i, i < st.length → t 63 i = s 63 i) → SkX st t
  | [], _, _ => True.intro
  | v :: st, h, e => by
    rw [List.length_cons] at e
    exact ⟨(e _ (by omega)).trans h.1, SkX.cg h.2 (fun i hi => e i (by omega))⟩
theorem SkM.cg : ∀ {st : List Int}, SkM st s → (∀ i, i < st.length → t 37 i = s 37 i) → SkM st t
  | [], _, _ => True.intro
  | v :: st, h, e => by
    rw [List.length_cons] at e
    exact ⟨(e _ (by omega)).trans h.1, SkM.cg h.2 (fun i hi => e i (by omega))⟩
end SkL
