/-! a which: the class's set of kinds, the reference's answer for one kind -/
theorem tb_and2 {a b : Int} {j : Nat} (hj : j < 32) : tb (iAnd a b) j = (tb a j && tb b j) := by
  rw [tb_get _ hj, tb_get _ hj, tb_get _ hj]
  have e : Int32.ofInt (iAnd a b) = Int32.ofInt a &&& Int32.ofInt b := by
    unfold iAnd
    exact Int32.ofInt_toInt _
  rw [e]
  show ((Int32.ofInt a).toBitVec &&& (Int32.ofInt b).toBitVec).getLsbD j = _
  rw [BitVec.getLsbD_and]
theorem tb_or2 {a b : Int} {j : Nat} (hj : j < 32) : tb (iOr a b) j = (tb a j || tb b j) := by
  rw [tb_get _ hj, tb_get _ hj, tb_get _ hj]
  have e : Int32.ofInt (iOr a b) = Int32.ofInt a ||| Int32.ofInt b := by
    unfold iOr
    exact Int32.ofInt_toInt _
  rw [e]
  show ((Int32.ofInt a).toBitVec ||| (Int32.ofInt b).toBitVec).getLsbD j = _
  rw [BitVec.getLsbD_or]
theorem tb_xor2 {a b : Int} {j : Nat} (hj : j < 32) : tb (iXor a b) j = (tb a j ^^ tb b j) := by
  rw [tb_get _ hj, tb_get _ hj, tb_get _ hj]
  have e : Int32.ofInt (iXor a b) = Int32.ofInt a ^^^ Int32.ofInt b := by
    unfold iXor
    exact Int32.ofInt_toInt _
  rw [e]
  show ((Int32.ofInt a).toBitVec ^^^ (Int32.ofInt b).toBitVec).getLsbD j = _
  rw [BitVec.getLsbD_xor]
def b01 (b : Bool) : Int := if b = true then 1 else 0
/-- v: a set among n kinds; u: whether kd is in it -/
def RelW (kd : Nat) (v u : Int) : Prop := u = b01 (tb v kd)
section Wh
variable {kd : Nat} {full : Int}
theorem RelW.u01 {v u : Int} (h : RelW kd v u) : u = 0 ∨ u = 1 := by
  unfold RelW at h
  rw [h]
  cases tb v kd
  · exact Or.inl rfl
  · exact Or.inr rfl
theorem RelW.nt (hk : kd < 32) (hf : tb full kd = true) (v u : Int) (h : RelW kd v u) : RelW kd (iXor v full) (1 - u) := by
  unfold RelW at h ⊢
  rw [h, tb_xor2 hk, hf]
  cases tb v kd <;> rfl
theorem RelW.an (hk : kd < 32) (a a' b b' : Int) (h1 : RelW kd a a') (h2 : RelW kd b b') : RelW kd (jnX 16 a b) (jnR 16 a' b') := by
  unfold RelW at h1 h2 ⊢
  rw [jnX_16, jnR_16, tb_and2 hk, h1, h2]
  cases tb a kd <;> cases tb b kd <;> decide
theorem RelW.orr (hk : kd < 32) (a a' b b' : Int) (h1 : RelW kd a a') (h2 : RelW kd b b') : RelW kd (jnX 17 a b) (jnR 17 a' b') := by
  unfold RelW at h1 h2 ⊢
  rw [jnX_17, jnR_17, tb_or2 hk, h1, h2]
  cases tb a kd <;> cases tb b kd <;> decide
/-- tests -/
theorem RelB.u01 {v u : Int} (h : RelB v u) : u = 0 ∨ u = 1 := by
  obtain ⟨rfl, h⟩ := h
  exact h
theorem RelB.nt (v u : Int) (h : RelB v u) : RelB (iXor v 1) (1 - u) := by
  obtain ⟨rfl, rfl | rfl⟩ := h
  · exact ⟨by decide, Or.inr (by decide)⟩
  · exact ⟨by decide, Or.inl (by decide)⟩
theorem RelB.an (a a' b b' : Int) (h1 : RelB a a') (h2 : RelB b b') : RelB (jnX 16 a b) (jnR 16 a' b') := by
  rw [jnX_16, jnR_16]
  obtain ⟨rfl, rfl | rfl⟩ := h1 <;> obtain ⟨rfl, rfl | rfl⟩ := h2
  · exact ⟨by decide, Or.inl (by decide)⟩
  · exact ⟨by decide, Or.inl (by decide)⟩
  · exact ⟨by decide, Or.inl (by decide)⟩
  · exact ⟨by decide, Or.inr (by decide)⟩
theorem RelB.orr (a a' b b' : Int) (h1 : RelB a a') (h2 : RelB b b') : RelB (jnX 17 a b) (jnR 17 a' b') := by
  rw [jnX_17, jnR_17]
  obtain ⟨rfl, rfl | rfl⟩ := h1 <;> obtain ⟨rfl, rfl | rfl⟩ := h2
  · exact ⟨by decide, Or.inl (by decide)⟩
  · exact ⟨by decide, Or.inr (by decide)⟩
  · exact ⟨by decide, Or.inr (by decide)⟩
  · exact ⟨by decide, Or.inr (by decide)⟩
end Wh
