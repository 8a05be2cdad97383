/-! a word's letters, as the class packs them -/
theorem shl_n {v1 v2 y : Int64} {c : Nat} (hy : y.toBitVec.smod 64 = BitVec.ofNat 64 c) (hc : c < 64) (e : v2 = v1 <<< y) : v2.toUInt64.toNat = v1.toUInt64.toNat * 2 ^ c % 18446744073709551616 := by
  rw [e]
  show (v1.toBitVec <<< (y.toBitVec.smod 64)).toNat = _
  rw [hy]
  show (v1.toBitVec <<< (BitVec.ofNat 64 c).toNat).toNat = _
  rw [BitVec.toNat_ofNat, Nat.mod_eq_of_lt (by omega : c < 2 ^ 64), BitVec.toNat_shiftLeft, Nat.shiftLeft_eq]
  rfl
theorem i2l_n {b : Int32} {u : Int64} (hb : 0 ≤ b.toInt) (e : u = b.toInt64) : u.toUInt64.toNat = b.toInt.toNat := by
  rw [e]
  have s : b.toInt64.toBitVec.toInt = b.toInt := Int32.toInt_toInt64 b
  have l := b.toInt64.toBitVec.isLt
  have b2 := Int32.toInt_lt b
  show b.toInt64.toBitVec.toNat = _
  rw [BitVec.toInt_eq_toNat_cond] at s
  split at s <;> omega
theorem lor_n {x y v : Int64} {A c : Nat} (e : v = x ||| y) (hx : x.toUInt64.toNat = 2 ^ c * A) (hy : y.toUInt64.toNat < 2 ^ c) : v.toUInt64.toNat = x.toUInt64.toNat + y.toUInt64.toNat := by
  rw [e]
  show (x.toBitVec ||| y.toBitVec).toNat = _
  rw [BitVec.toNat_or]
  have h1 : x.toBitVec.toNat = 2 ^ c * A := hx
  have h2 : y.toBitVec.toNat < 2 ^ c := hy
  have h3 : x.toUInt64.toNat + y.toUInt64.toNat = x.toBitVec.toNat + y.toBitVec.toNat := rfl
  rw [h3, h1, ← Nat.two_pow_add_eq_or_of_lt h2 A]
set_option maxRecDepth 100000 in
theorem sh_c {sh : Int32} {k : Nat} (hk : k < 8) (h : sh.toInt = 35 - 5 * (k : Int)) : (sh.toInt64 &&& 63).toBitVec.smod 64 = BitVec.ofNat 64 (35 - 5 * k) := by
  have e : sh = Int32.ofInt (35 - 5 * (k : Int)) := by rw [← h, Int32.ofInt_toInt]
  have h8 : ∀ k : Fin 8, ((Int32.ofInt (35 - 5 * (k.val : Int))).toInt64 &&& 63).toBitVec.smod 64 = BitVec.ofNat 64 (35 - 5 * k.val) := by decide
  rw [e]
  exact h8 ⟨k, hk⟩
theorem ws_st {x v1 v2 v3 : Int64} {b d sh : Int32} {k A : Nat} (hb : 97 ≤ b.toInt ∧ b.toInt ≤ 122) (hk : k < 8) (hsh : sh.toInt = 35 - 5 * (k : Int)) (ed : d.toInt = b.toInt - 96) (e1 : v1 = d.toInt64) (e2 : v2 = v1 <<< (sh.toInt64 &&& 63)) (e3 : v3 = x ||| v2) (hx : x.toUInt64.toNat = 2 ^ (40 - 5 * k) * A) : v3.toUInt64.toNat = x.toUInt64.toNat + (b.toInt.toNat - 96) * 2 ^ (35 - 5 * k) := by
  have n1 := i2l_n (b := d) (by omega) e1
  have n2 := shl_n (sh_c hk hsh) (by omega) e2
  have hd : d.toInt.toNat = b.toInt.toNat - 96 := by omega
  have hp : 2 ^ (40 - 5 * k) = 2 ^ (35 - 5 * k) * 32 := by
    have : 40 - 5 * k = (35 - 5 * k) + 5 := by omega
    rw [this, Nat.pow_add]
  have le : 2 ^ (35 - 5 * k) ≤ 2 ^ 35 := Nat.pow_le_pow_right (by decide) (by omega)
  have l35 : (2 : Nat) ^ 35 = 34359738368 := by decide
  have lt1 : (b.toInt.toNat - 96) * 2 ^ (35 - 5 * k) < 32 * 2 ^ (35 - 5 * k) := Nat.mul_lt_mul_of_pos_right (by omega) (Nat.two_pow_pos _)
  have n3 : v2.toUInt64.toNat = (b.toInt.toNat - 96) * 2 ^ (35 - 5 * k) := by
    rw [n2, n1, hd, Nat.mod_eq_of_lt (by omega)]
  rw [lor_n e3 hx (by rw [n3, hp]; omega), n3]
theorem w5F_mul (g : Nat → Nat) (s : Nat) : ∀ k, k ≤ 8 → ∃ A, w5F g s k = 2 ^ (40 - 5 * k) * A
  | 0, _ => ⟨0, rfl⟩
  | k + 1, h => by
    obtain ⟨A, hA⟩ := w5F_mul g s k (by omega)
    refine ⟨32 * A + (g (s + k) - 96), ?_⟩
    show w5F g s k + (g (s + k) - 96) * 2 ^ (35 - 5 * k) = _
    have e1 : 40 - 5 * k = (35 - 5 * k) + 5 := by omega
    have e2 : 40 - 5 * (k + 1) = 35 - 5 * k := by omega
    rw [hA, e1, e2, Nat.pow_add, Nat.mul_add, Nat.mul_assoc, Nat.mul_comm (g (s + k) - 96)]
theorem dg5_lts (g : Nat → Nat) (s k i : Nat) : dg5 (lts g s k) i = if i < k then g (s + i) - 96 else 0 := by
  unfold dg5
  rw [List.getD_eq_getElem?_getD]
  by_cases h : i < k
  · rw [if_pos h, lts_get g s k i h]
    rfl
  · rw [if_neg h, List.getElem?_eq_none (by rw [lts_len]; omega)]
    rfl
theorem e5_st (g : Nat → Nat) (s k : Nat) (hk : k < 8) : e5 (lts g s (k + 1)) = e5 (lts g s k) + (g (s + k) - 96) * 2 ^ (35 - 5 * k) := by
  unfold e5
  rw [dg5_lts g s (k + 1) 0, dg5_lts g s (k + 1) 1, dg5_lts g s (k + 1) 2, dg5_lts g s (k + 1) 3, dg5_lts g s (k + 1) 4, dg5_lts g s (k + 1) 5, dg5_lts g s (k + 1) 6, dg5_lts g s (k + 1) 7, dg5_lts g s k 0, dg5_lts g s k 1, dg5_lts g s k 2, dg5_lts g s k 3, dg5_lts g s k 4, dg5_lts g s k 5, dg5_lts g s k 6, dg5_lts g s k 7]
  have c : k = 0 ∨ k = 1 ∨ k = 2 ∨ k = 3 ∨ k = 4 ∨ k = 5 ∨ k = 6 ∨ k = 7 := by omega
  rcases c with c | c | c | c | c | c | c | c <;> subst c <;> simp only [Nat.reduceLT, Nat.reduceAdd, ↓reduceIte, Nat.reduceMul, Nat.reduceSub, Nat.reducePow] <;> omega
theorem w5F_e5 (g : Nat → Nat) (s : Nat) : ∀ {k : Nat}, k ≤ 8 → w5F g s k = e5 (lts g s k)
  | 0, _ => by
    have z : ∀ i, dg5 (lts g s 0) i = 0 := fun i => dg5_out (by rw [lts_len]; omega)
    show 0 = e5 (lts g s 0)
    unfold e5
    rw [z, z, z, z, z, z, z, z]
  | k + 1, hk => by
    show w5F g s k + (g (s + k) - 96) * 2 ^ (35 - 5 * k) = _
    rw [e5_st g s k (by omega), w5F_e5 g s (by omega)]
