abbrev bs_own : List Int32 := [107, 105, 110, 100, 32, 119, 111, 114, 116, 104, 32, 112, 114, 105, 99, 101, 32, 97, 116, 32, 105, 115, 32, 110, 101, 118, 101, 114, 32, 102, 111, 114, 32, 108, 105, 107, 101, 115, 32, 111, 102, 32, 103, 105, 102, 116, 115, 32, 101, 118, 101, 110, 32, 111, 114, 32, 97, 110, 100, 32, 110, 111, 116, 32, 97, 110, 121, 32, 97, 108, 108, 32, 119, 105, 115, 104, 32, 97, 103, 101, 32, 97, 103, 101, 115, 32, 115, 99, 104, 111, 111, 108, 32, 104, 111, 117, 115, 101, 32, 119, 105, 115, 104, 101, 115, 32]
/-! the class's own words, as Tape's constructor writes them -/
def obf (j : Nat) : Int32 := bs_own.getD j 0
def oCh (j : Nat) : Int32 := ((obf (nI j).toNatClampNeg &&& 255).toUInt32 % 65536).toInt32
def oSt : Nat → Nat × Int32 × (Nat → Int64)
  | 0 => (0, 0, fun _ => 0)
  | j + 1 => if oCh j = 32 then ((oSt j).1 + 1, 0, (oSt j).2.2) else ((oSt j).1, (oSt j).2.1 + 1, vp_updL (oSt j).2.2 (nI (oSt j).1).toNatClampNeg ((oSt j).2.2 (nI (oSt j).1).toNatClampNeg ||| ((oCh j - 96).toInt64 <<< ((35 - 5 * (oSt j).2.1).toInt64 &&& 63))))
set_option maxRecDepth 100000 in
theorem oSt_lt : ∀ j : Fin 106, (oSt j.val).1 < 22 := by decide +kernel
/-- the row holds the own words' codes -/
def OWf (f : Nat → Int64) : Prop := ∀ i : Nat, (h : i < 22) → (f i).toInt = ((e5 (ownW[i]'(by show i < 22; exact h)) : Nat) : Int)
set_option maxRecDepth 100000 in
theorem oSt_ow : ∀ i : Fin 22, ((oSt 106).2.2 i.val).toInt = ((e5 (ownW[i.val]'(by have := i.isLt; show _ < 22; omega)) : Nat) : Int) := by decide +kernel
theorem OWf_own : OWf (oSt 106).2.2 := fun i h => oSt_ow ⟨i, h⟩
