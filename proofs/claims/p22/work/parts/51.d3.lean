/-! the class's value: a code at a time -/
def LfX (mk : Nat) (full : Int) (A : List (List Nat)) (lf : OPc → Int) (s : PS) : Prop := ∀ o : OPc, (o.1 = 0 → lf o = o.2.1) ∧ (1 ≤ o.1 → o.1 ≤ 5 → lf o = s 61 (o.1 - 1)) ∧ (o.1 = 6 → lf o = full) ∧ (o.1 = 7 → ∀ j : Nat, A[j]? = some o.2.2 → s 62 j = lf o) ∧ (o.1 = 8 → ∀ n : Nat, o.2.1 = (n : Int) → lf o = iShl 1 (n : Int)) ∧ (o.1 = 9 → ∀ n : Nat, o.2.1 = (n : Int) → lf o = s mk n)
theorem boundX {s t : PS} {r v : Int} (h : M_X5_bounded s v r t) : r = bnd v ∧ t = s := by
  unfold M_X5_bounded T_X5_bounded_e at h
  obtain ⟨_, hr, ht⟩ := h
  have b := bnd_in v
  refine ⟨?_, ht⟩
  rw [hr]
  exact wi_id (by unfold bnd at b; omega) (by unfold bnd at b; omega)
theorem joinX {s t : PS} {r a b : Int} {A : List (List Nat)} {o : OPc} {n k : Nat} (h : M_X5_joined s (k : Int) a b r t) (hk : KdX A o n k) (h9 : ¬ o.1 ≤ 9) (h18 : ¬ o.1 = 18) : r = jnX o.1 a b ∧ t = s := by
  unfold M_X5_joined T_X5_joined_e at h
  obtain ⟨_, _, h⟩ := h
  have k8 : (o.1 = 16 ∧ k = 8) ∨ (o.1 = 17 ∧ k = 9) ∨ (o.1 = 13 ∧ k = 10) ∨ (o.1 = 14 ∧ k = 11) ∨ (o.1 = 15 ∧ k = 12) ∨ (o.1 = 10 ∧ k = 13) ∨ (o.1 = 11 ∧ k = 14) ∨ (o.1 = 12 ∧ k = 15) := by
    clear h
    rcases hk with ⟨k1, _⟩ | ⟨_, k1, _⟩ | ⟨k1, _⟩ | ⟨k1, _⟩ | ⟨k1, _⟩ | ⟨k1, _⟩ | hk
    · omega
    · omega
    · omega
    · omega
    · omega
    · omega
    · omega
  rcases h with ⟨c, hr, ht⟩ | ⟨c, ⟨c2, hr, ht⟩ | ⟨c2, ⟨c3, h⟩ | ⟨c3, ⟨c4, h⟩ | ⟨c4, ⟨c5, h⟩ | ⟨c5, ⟨c6, r2, s2, hm, _, _, hr, ht⟩ | ⟨c6, ⟨c7, r2, s2, hm, _, _, hr, ht⟩ | ⟨c7, r2, s2, hm, _, _, hr, ht⟩⟩⟩⟩⟩⟩⟩
  · have e : o.1 = 16 := by omega
    rw [e, jnX_16]
    exact ⟨hr, ht⟩
  · have e : o.1 = 17 := by omega
    rw [e, jnX_17]
    exact ⟨hr, ht⟩
  · have e : o.1 = 13 := by
      clear h
      omega
    rw [e, jnX_13]
    rcases h with ⟨d, hr, ht⟩ | ⟨d, hr, ht⟩
    · rw [if_pos d]
      exact ⟨hr, ht⟩
    · rw [if_neg d]
      exact ⟨hr, ht⟩
  · have e : o.1 = 14 := by
      clear h
      omega
    rw [e, jnX_14]
    rcases h with ⟨d, hr, ht⟩ | ⟨d, hr, ht⟩
    · rw [if_pos d]
      exact ⟨hr, ht⟩
    · rw [if_neg d]
      exact ⟨hr, ht⟩
  · have e : o.1 = 15 := by
      clear h
      omega
    rw [e, jnX_15]
    rcases h with ⟨d, hr, ht⟩ | ⟨d, hr, ht⟩
    · rw [if_pos d]
      exact ⟨hr, ht⟩
    · rw [if_neg d]
      exact ⟨hr, ht⟩
  · have e : o.1 = 10 := by omega
    obtain ⟨g1, g2⟩ := boundX hm
    rw [e, hr, ht, jnX_10]
    exact ⟨g1, g2⟩
  · have e : o.1 = 11 := by omega
    obtain ⟨g1, g2⟩ := boundX hm
    rw [e, hr, ht, jnX_11]
    exact ⟨g1, g2⟩
  · have e : o.1 = 12 := by omega
    obtain ⟨g1, g2⟩ := boundX hm
    rw [e, hr, ht, jnX_12]
    exact ⟨g1, g2⟩

section Val1
variable {s t : PS} {r : Int} {A : List (List Nat)} {o : OPc} {n k : Nat} {full : Int} {lf : OPc → Int}
theorem leafX1 (h : M_X5_leaf_1 s (k : Int) (n : Int) full r t) (hk : KdX A o n k) (h6 : o.1 ≤ 9) (hL : LfX 7 full A lf s) : r = lf o ∧ t = s := by
  unfold M_X5_leaf_1 T_X5_leaf_1_e at h
  obtain ⟨_, b, _, h⟩ := h
  rw [Int.toNat_natCast] at h
  obtain ⟨l0, l1, l6, l7, l8, l9⟩ := hL o
  rcases hk with ⟨k1, k2, k3⟩ | ⟨k1, k2, k3, k4⟩ | ⟨k1, k2⟩ | ⟨k1, k2, k3⟩ | ⟨k1, k2, k3⟩ | ⟨k1, k2, k3⟩ | hk
  · rcases h with ⟨c, _⟩ | ⟨_, ⟨c, _⟩ | ⟨_, ⟨c, _⟩ | ⟨_, ⟨c, _⟩ | ⟨_, ⟨c, _⟩ | ⟨_, hr, ht⟩⟩⟩⟩⟩
    · omega
    · omega
    · omega
    · omega
    · omega
    · exact ⟨by rw [hr, l0 k1, k3], ht⟩
  · rcases h with ⟨c, hr, ht⟩ | ⟨c, _⟩
    · have e : n = o.1 - 1 := by omega
      exact ⟨by rw [hr, l1 k1 k2, e], ht⟩
    · omega
  · rcases h with ⟨c, _⟩ | ⟨_, ⟨c, hr, ht⟩ | ⟨c, _⟩⟩
    · omega
    · exact ⟨by rw [hr, l6 k1], ht⟩
    · omega
  · rcases h with ⟨c, _⟩ | ⟨_, ⟨c, _⟩ | ⟨_, ⟨c, hr, ht⟩ | ⟨c, _⟩⟩⟩
    · omega
    · omega
    · exact ⟨by rw [hr]; exact l7 k1 n k3, ht⟩
    · omega
  · rcases h with ⟨c, _⟩ | ⟨_, ⟨c, _⟩ | ⟨_, ⟨c, _⟩ | ⟨_, ⟨c, hr, ht⟩ | ⟨c, _⟩⟩⟩⟩
    · omega
    · omega
    · omega
    · exact ⟨by rw [hr, l8 k1 n k3], ht⟩
    · omega
  · rcases h with ⟨c, _⟩ | ⟨_, ⟨c, _⟩ | ⟨_, ⟨c, _⟩ | ⟨_, ⟨c, _⟩ | ⟨_, ⟨c, hr, ht⟩ | ⟨c, _⟩⟩⟩⟩⟩
    · omega
    · omega
    · omega
    · omega
    · exact ⟨by rw [hr, l9 k1 n k3], ht⟩
    · omega
  · omega
end Val1

section Val16
variable {s t : PS} {r : Int} {A : List (List Nat)} {o : OPc} {n k : Nat} {full : Int} {lf : OPc → Int}
theorem leafX16 (h : M_X5_leaf_16 s (k : Int) (n : Int) full r t) (hk : KdX A o n k) (h6 : o.1 ≤ 9) (hL : LfX 22 full A lf s) : r = lf o ∧ t = s := by
  unfold M_X5_leaf_16 T_X5_leaf_16_e at h
  obtain ⟨_, b, h⟩ := h
  rw [Int.toNat_natCast] at h
  obtain ⟨l0, l1, l6, l7, l8, l9⟩ := hL o
  rcases hk with ⟨k1, k2, k3⟩ | ⟨k1, k2, k3, k4⟩ | ⟨k1, k2⟩ | ⟨k1, k2, k3⟩ | ⟨k1, k2, k3⟩ | ⟨k1, k2, k3⟩ | hk
  · rcases h with ⟨c, _⟩ | ⟨_, ⟨c, _⟩ | ⟨_, ⟨c, _⟩ | ⟨_, ⟨c, _⟩ | ⟨_, ⟨c, _⟩ | ⟨_, hr, ht⟩⟩⟩⟩⟩
    · omega
    · omega
    · omega
    · omega
    · omega
    · exact ⟨by rw [hr, l0 k1, k3], ht⟩
  · rcases h with ⟨c, hr, ht⟩ | ⟨c, _⟩
    · have e : n = o.1 - 1 := by omega
      exact ⟨by rw [hr, l1 k1 k2, e], ht⟩
    · omega
  · rcases h with ⟨c, _⟩ | ⟨_, ⟨c, hr, ht⟩ | ⟨c, _⟩⟩
    · omega
    · exact ⟨by rw [hr, l6 k1], ht⟩
    · omega
  · rcases h with ⟨c, _⟩ | ⟨_, ⟨c, _⟩ | ⟨_, ⟨c, hr, ht⟩ | ⟨c, _⟩⟩⟩
    · omega
    · omega
    · exact ⟨by rw [hr]; exact l7 k1 n k3, ht⟩
    · omega
  · rcases h with ⟨c, _⟩ | ⟨_, ⟨c, _⟩ | ⟨_, ⟨c, _⟩ | ⟨_, ⟨c, hr, ht⟩ | ⟨c, _⟩⟩⟩⟩
    · omega
    · omega
    · omega
    · exact ⟨by rw [hr, l8 k1 n k3], ht⟩
    · omega
  · rcases h with ⟨c, _⟩ | ⟨_, ⟨c, _⟩ | ⟨_, ⟨c, _⟩ | ⟨_, ⟨c, _⟩ | ⟨_, ⟨c, hr, ht⟩ | ⟨c, _⟩⟩⟩⟩⟩
    · omega
    · omega
    · omega
    · omega
    · exact ⟨by rw [hr, l9 k1 n k3], ht⟩
    · omega
  · omega
end Val16
