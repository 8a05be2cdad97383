/-! the reference's lexer, in numbers -/
def TpM (g : Nat → Nat) (N : Nat) (s : PS) : Prop := (∀ i, s 1 i = (g i : Int)) ∧ s 0 2 = (N : Int)
theorem TpM.cg {g : Nat → Nat} {N : Nat} {s t : PS} (h : TpM g N s) (e1 : t 1 = s 1) (e2 : t 0 2 = s 0 2) : TpM g N t := ⟨fun i => by rw [e1]; exact h.1 i, by rw [e2]; exact h.2⟩
theorem w8F_lt {g : Nat → Nat} {s : Nat} : ∀ k : Nat, (∀ i, i < k + 1 → g (s + i) ≤ 122) → w8F g s (k + 1) < 123 * 256 ^ k
  | 0, h => by
    have a := h 0 (by omega)
    show 256 * w8F g s 0 + g (s + 0) < 123 * 256 ^ 0
    have z : w8F g s 0 = 0 := rfl
    rw [z]
    omega
  | k + 1, h => by
    have ih := w8F_lt (g := g) (s := s) k (fun i hi => h i (by omega))
    have a := h (k + 1) (by omega)
    show 256 * w8F g s (k + 1) + g (s + (k + 1)) < 123 * 256 ^ (k + 1)
    rw [Nat.pow_succ]
    omega
theorem wsM {W c : Nat} (hW : W < 36028797018963968) (hc : c ≤ 255) : lOr (lShl (W : Int) 8) (c : Int) = ((256 * W + c : Nat) : Int) := by
  have hx : (Int64.ofInt (W : Int)).toInt = (W : Int) := Int64.toInt_ofInt_of_le (by omega) (by omega)
  have hb : (Int64.ofInt (c : Int)).toInt = (c : Int) := Int64.toInt_ofInt_of_le (by omega) (by omega)
  have h8 : (Int32.ofInt 8).toInt = 8 := by decide
  have h1 := z_lshl hx h8
  have h2 := z_lor h1 hb
  rw [← h2]
  have n1 : (Int64.ofInt (W : Int) <<< ((Int32.ofInt 8).toInt64 &&& 63)).toUInt64.toNat = W * 2 ^ 8 % 18446744073709551616 := by
    have k := shl_n (v1 := Int64.ofInt (W : Int)) (y := (Int32.ofInt 8).toInt64 &&& 63) (c := 8) (by decide) (by decide) rfl
    rw [k, il_n hx]
  rw [Nat.mod_eq_of_lt (by omega)] at n1
  have n2 := lor_n (x := Int64.ofInt (W : Int) <<< ((Int32.ofInt 8).toInt64 &&& 63)) (y := Int64.ofInt (c : Int)) (A := W) (c := 8) rfl (by rw [n1, Nat.mul_comm]) (by rw [il_n hb]; omega)
  refine ln_i (n := 256 * W + c) ?_ (by omega)
  rw [n2, n1, il_n hb]
  omega
section LookM
variable {g : Nat → Nat} {N q a p : Nat} {s t : PS} {r x1 x2 x3 x4 x5 : Int}
theorem blameM {k b : Int} (h : M_X12_blame s k b r t) : (s 0 8 ≤ 0 ∧ 1 ≤ k ∧ t = us (us s 0 8 k) 0 9 b) ∨ (¬ s 0 8 ≤ 0 ∧ t = s) := by
  unfold M_X12_blame T_X12_blame_e at h
  obtain ⟨_, h1, _, ⟨c, s2, e2, s3, e3, _, e4⟩ | ⟨c, _, e4⟩⟩ := h
  · exact Or.inl ⟨c, h1.1, by rw [e4, e3, e2]⟩
  · exact Or.inr ⟨c, e4⟩
/-- blamed: there is a fault, and nothing else is changed -/
theorem blameF {k b : Int} (h : M_X12_blame s k b r t) (h0 : 0 ≤ s 0 8) : ¬ t 0 8 = 0 ∧ (∀ j, ¬ j = 8 → ¬ j = 9 → t 0 j = s 0 j) ∧ ∀ k2, ¬ k2 = 0 → t k2 = s k2 := by
  rcases blameM h with ⟨c, k1, e⟩ | ⟨c, e⟩
  · refine ⟨?_, fun j j1 j2 => ?_, fun k2 hk => ?_⟩
    · rw [e, us_j (by decide), us_at]
      omega
    · rw [e, us_j j2, us_j j1]
    · rw [e, us_k hk, us_k hk]
  · rw [e]
    exact ⟨by omega, fun _ _ _ => rfl, fun _ _ => rfl⟩
theorem letM {b : Int} (h : M_X12_isLetter s b r t) : t = s ∧ ((r = 0 ∧ ¬ (97 ≤ b ∧ b ≤ 122)) ∨ (r = 1 ∧ 97 ≤ b ∧ b ≤ 122)) := by
  unfold M_X12_isLetter T_X12_isLetter_e at h
  obtain ⟨_, _, ⟨c, hr, hs⟩ | ⟨c, ⟨c2, hr, hs⟩ | ⟨c2, hr, hs⟩⟩⟩ := h
  · exact ⟨hs, Or.inl ⟨hr, by omega⟩⟩
  · exact ⟨hs, Or.inl ⟨hr, by omega⟩⟩
  · exact ⟨hs, Or.inr ⟨hr, by omega, by omega⟩⟩
theorem digM {b : Int} (h : M_X12_isDigit s b r t) : t = s ∧ ((r = 0 ∧ ¬ (48 ≤ b ∧ b ≤ 57)) ∨ (r = 1 ∧ 48 ≤ b ∧ b ≤ 57)) := by
  unfold M_X12_isDigit T_X12_isDigit_e at h
  obtain ⟨_, _, ⟨c, hr, hs⟩ | ⟨c, ⟨c2, hr, hs⟩ | ⟨c2, hr, hs⟩⟩⟩ := h
  · exact ⟨hs, Or.inl ⟨hr, by omega⟩⟩
  · exact ⟨hs, Or.inl ⟨hr, by omega⟩⟩
  · exact ⟨hs, Or.inr ⟨hr, by omega, by omega⟩⟩
theorem tyM_flt (h : TyM s) : 0 ≤ s 0 8 ∧ s 0 8 ≤ 5 := h.1 (0, 8, 0, 5) (by decide)
theorem tyM_byt (h : TyM s) (i : Nat) : 0 ≤ s 1 i ∧ s 1 i ≤ 255 := h.2 (1, 0, 255) (by decide) i
/-- one letter or digit more -/
theorem lk239 {n : Nat} (h : It_X12_looks n 239 x1 x2 x3 x4 x5 s r t) : ∃ m s2, m < n ∧ It_X12_looks m 200 (x1 + 1) x2 x3 x4 (wi (x5 + 1)) s2 r t ∧ s2 1 = s 1 ∧ s2 0 2 = s 0 2 ∧ s2 0 3 = s 0 3 ∧ s2 0 4 = s 0 4 ∧ (x5 = x4 → ¬ s2 0 8 = 0) ∧ (¬ x5 = x4 → s2 0 8 = s 0 8) ∧ (¬ s 0 8 = 0 → ¬ s2 0 8 = 0) ∧ (x5 < x4 → ¬ x2 = 0 → s2 0 7 = lOr (lShl (s 0 7) 8) (s 1 x1.toNat)) ∧ (x5 < x4 → ¬ x3 = 0 → s2 0 6 = wi (wi (wi (10 * s 0 6) + s 1 x1.toNat) - 48)) := by
  have k314 : ∀ (n : Nat) (s : PS), It_X12_looks n 314 x1 x2 x3 x4 x5 s r t → ∃ m, m < n ∧ It_X12_looks m 200 (x1 + 1) x2 x3 x4 (wi (x5 + 1)) s r t := by
    intro n s h
    cases n with
    | zero => exact False.elim h
    | succ n =>
      have h := ul_X12_looks_314 h
      unfold T_X12_looks_314 at h
      obtain ⟨_, _, _, _, _, h⟩ := h
      exact ⟨n, by omega, h⟩
  have k282 : ∀ (n : Nat) (s : PS), It_X12_looks n 282 x1 x2 x3 x4 x5 s r t → ∃ m s2, m < n ∧ It_X12_looks m 314 x1 x2 x3 x4 x5 s2 r t ∧ (s2 = s ∨ (x5 < x4 ∧ s2 = us s 0 6 (wi (wi (wi (10 * s 0 6) + s 1 x1.toNat) - 48)))) ∧ (x5 < x4 → ¬ x3 = 0 → s2 0 6 = wi (wi (wi (10 * s 0 6) + s 1 x1.toNat) - 48)) := by
    intro n s h
    cases n with
    | zero => exact False.elim h
    | succ n =>
      have h := ul_X12_looks_282 h
      unfold T_X12_looks_282 at h
      obtain ⟨_, _, _, _, _, ⟨c, h⟩ | ⟨c, ⟨c2, h⟩ | ⟨c2, s2, e2, h⟩⟩⟩ := h
      · exact ⟨n, s, by omega, h, Or.inl rfl, fun z => absurd z (by omega)⟩
      · exact ⟨n, s, by omega, h, Or.inl rfl, fun _ z => absurd c2 z⟩
      · exact ⟨n, s2, by omega, h, Or.inr ⟨by omega, e2⟩, fun _ _ => by rw [e2, us_at]⟩
  have k252 : ∀ (n : Nat) (s : PS), It_X12_looks n 252 x1 x2 x3 x4 x5 s r t → ∃ m s2, m < n ∧ It_X12_looks m 282 x1 x2 x3 x4 x5 s2 r t ∧ (s2 = s ∨ (x5 < x4 ∧ s2 = us s 0 7 (lOr (lShl (s 0 7) 8) (s 1 x1.toNat)))) ∧ (x5 < x4 → ¬ x2 = 0 → s2 0 7 = lOr (lShl (s 0 7) 8) (s 1 x1.toNat)) := by
    intro n s h
    cases n with
    | zero => exact False.elim h
    | succ n =>
      have h := ul_X12_looks_252 h
      unfold T_X12_looks_252 at h
      obtain ⟨_, _, _, _, _, ⟨c, h⟩ | ⟨c, ⟨c2, h⟩ | ⟨c2, s2, e2, h⟩⟩⟩ := h
      · exact ⟨n, s, by omega, h, Or.inl rfl, fun z => absurd z (by omega)⟩
      · exact ⟨n, s, by omega, h, Or.inl rfl, fun _ z => absurd c2 z⟩
      · exact ⟨n, s2, by omega, h, Or.inr ⟨by omega, e2⟩, fun _ _ => by rw [e2, us_at]⟩
  -- from 252 on
  have all : ∀ (n : Nat) (s : PS), It_X12_looks n 252 x1 x2 x3 x4 x5 s r t → ∃ m s2, m < n ∧ It_X12_looks m 200 (x1 + 1) x2 x3 x4 (wi (x5 + 1)) s2 r t ∧ s2 1 = s 1 ∧ s2 0 2 = s 0 2 ∧ s2 0 3 = s 0 3 ∧ s2 0 4 = s 0 4 ∧ s2 0 8 = s 0 8 ∧ (x5 < x4 → ¬ x2 = 0 → s2 0 7 = lOr (lShl (s 0 7) 8) (s 1 x1.toNat)) ∧ (x5 < x4 → ¬ x3 = 0 → s2 0 6 = wi (wi (wi (10 * s 0 6) + s 1 x1.toNat) - 48)) := by
    intro n s h
    obtain ⟨m, s2, hm, h, e, f⟩ := k252 n s h
    obtain ⟨m2, s3, hm2, h, e2, f2⟩ := k282 m s2 h
    obtain ⟨m3, hm3, h⟩ := k314 m2 s3 h
    have g1 : s2 1 = s 1 ∧ s2 0 2 = s 0 2 ∧ s2 0 3 = s 0 3 ∧ s2 0 4 = s 0 4 ∧ s2 0 8 = s 0 8 ∧ s2 0 6 = s 0 6 := by
      rcases e with e | ⟨_, e⟩
      · rw [e]
        exact ⟨rfl, rfl, rfl, rfl, rfl, rfl⟩
      · rw [e]
        exact ⟨us_k (by decide), us_j (by decide) _, us_j (by decide) _, us_j (by decide) _, us_j (by decide) _, us_j (by decide) _⟩
    have g2 : s3 1 = s2 1 ∧ s3 0 2 = s2 0 2 ∧ s3 0 3 = s2 0 3 ∧ s3 0 4 = s2 0 4 ∧ s3 0 8 = s2 0 8 ∧ s3 0 7 = s2 0 7 := by
      rcases e2 with e | ⟨_, e⟩
      · rw [e]
        exact ⟨rfl, rfl, rfl, rfl, rfl, rfl⟩
      · rw [e]
        exact ⟨us_k (by decide), us_j (by decide) _, us_j (by decide) _, us_j (by decide) _, us_j (by decide) _, us_j (by decide) _⟩
    refine ⟨m3, s3, by omega, h, g2.1.trans g1.1, g2.2.1.trans g1.2.1, g2.2.2.1.trans g1.2.2.1, g2.2.2.2.1.trans g1.2.2.2.1, g2.2.2.2.2.1.trans g1.2.2.2.2.1, fun z1 z2 => g2.2.2.2.2.2.trans (f z1 z2), fun z1 z2 => ?_⟩
    rw [f2 z1 z2, g1.2.2.2.2.2, g1.1]
  cases n with
  | zero => exact False.elim h
  | succ n =>
    have h := ul_X12_looks_239 h
    unfold T_X12_looks_239 at h
    obtain ⟨ty, _, _, _, _, ⟨c, s2, hm, hf, _, h⟩ | ⟨c, h⟩⟩ := h
    · obtain ⟨b1, b2, b3⟩ := blameF hm (tyM_flt ty).1
      obtain ⟨m, s3, hm, h, e1, e2, e3, e4, e8, e7, e6⟩ := all n s2 h
      refine ⟨m, s3, by omega, h, ?_, ?_, ?_, ?_, fun _ => by rw [e8]; exact b1, fun z => absurd c z, fun _ => by rw [e8]; exact b1, fun z1 z2 => ?_, fun z1 z2 => ?_⟩
      · rw [e1, b3 1 (by decide)]
      · rw [e2, b2 2 (by decide) (by decide)]
      · rw [e3, b2 3 (by decide) (by decide)]
      · rw [e4, b2 4 (by decide) (by decide)]
      · rw [e7 z1 z2, b2 7 (by decide) (by decide), b3 1 (by decide)]
      · rw [e6 z1 z2, b2 6 (by decide) (by decide), b3 1 (by decide)]
    · obtain ⟨m, s3, hm, h, e1, e2, e3, e4, e8, e7, e6⟩ := all n s h
      exact ⟨m, s3, by omega, h, e1, e2, e3, e4, fun z => absurd z c, fun _ => e8, fun z => by rw [e8]; exact z, e7, e6⟩
/-- letters -/
theorem lkL (hN : N ≤ 1000) (hg : ∀ i, g i ≤ 255) {φ : Int} : ∀ (n p : Nat) (s : PS) (x2 x3 x5 : Int), It_X12_looks n 200 (p : Int) x2 x3 8 x5 s r t → ¬ x2 = 0 → x3 = 0 → x5 = (p : Int) - (a : Int) → TpM g N s → a ≤ p → p ≤ N → (∀ i, a ≤ i → i < p → i < N ∧ bL (g i) = true) → (¬ s 0 8 = 0 ↔ (¬ φ = 0 ∨ 8 < p - a)) → (p - a ≤ 8 → s 0 7 = (w8F g a (p - a) : Int)) → t 0 3 = s 0 3 ∧ t 0 4 = s 0 4 ∧ t 0 5 = (rn bL g N a : Int) ∧ (¬ t 0 8 = 0 ↔ (¬ φ = 0 ∨ 8 < rn bL g N a - a)) ∧ (rn bL g N a - a ≤ 8 → t 0 7 = (w8F g a (rn bL g N a - a) : Int)) := by
  intro n
  induction n using Nat.strongRecOn with
  | ind n ih =>
  intro p s x2 x3 x5 h h2 h3 h5 hT hap hpN hall hf hw
  cases n with
  | zero => exact False.elim h
  | succ n =>
    have h := ul_X12_looks_200 h
    unfold T_X12_looks_200 at h
    obtain ⟨_, _, _, _, _, h⟩ := h
    rw [Int.toNat_natCast, hT.1 p, hT.2] at h
    have fin : ∀ s2 : PS, ¬ (p < N ∧ bL (g p) = true) → s2 = s → t = us s2 0 5 (p : Int) → t 0 3 = s 0 3 ∧ t 0 4 = s 0 4 ∧ t 0 5 = (rn bL g N a : Int) ∧ (¬ t 0 8 = 0 ↔ (¬ φ = 0 ∨ 8 < rn bL g N a - a)) ∧ (rn bL g N a - a ≤ 8 → t 0 7 = (w8F g a (rn bL g N a - a) : Int)) := by
      intro s2 hno e2 et
      have er : rn bL g N a = p := rn_eq hap hall hno
      rw [er, et, e2]
      refine ⟨us_j (by decide) _, us_j (by decide) _, us_at, ?_, fun z => ?_⟩
      · rw [us_j (by decide)]
        exact hf
      · rw [us_j (by decide)]
        exact hw z
    rcases h with ⟨c1, s2, e2, _, es⟩ | ⟨c1, ⟨c2, _⟩ | ⟨c2, r2, s2, hm, _, _, _, h⟩⟩
    · exact fin s (by omega) rfl (by rw [es, e2])
    · exact absurd c2 h2
    · obtain ⟨e2, k⟩ := letM hm
      rcases h with ⟨c3, s3, e3, _, es⟩ | ⟨c3, h⟩
      · refine fin s2 ?_ e2 (by rw [es, e3])
        rw [bL_iff]
        rcases k with k | k <;> omega
      · have hd : 97 ≤ g p ∧ g p ≤ 122 := by rcases k with k | k <;> omega
        rw [e2] at h
        obtain ⟨m, s4, hm4, h, e1, e2', e3, e4, f1, f2, f3, f7, f6⟩ := lk239 h
        have hs : p + 1 - a = (p - a) + 1 := by omega
        have hp : a + (p - a) = p := by omega
        have hh : It_X12_looks m 200 ((p + 1 : Nat) : Int) x2 x3 8 (wi (x5 + 1)) s4 r t := h
        rw [wi_id (by omega) (by omega)] at hh
        have k := ih m (by omega) (p + 1) s4 x2 x3 (x5 + 1) hh h2 h3 (by omega) (hT.cg e1 e2') (by omega) (by omega) (fun i i1 i2 => ?_) ?_ (fun z => ?_)
        · rw [e3, e4] at k
          exact k
        · by_cases e : i = p
          · rw [e]
            exact ⟨by omega, bL_iff.mpr hd⟩
          · exact hall i i1 (by omega)
        · by_cases e : x5 = 8
          · exact ⟨fun _ => Or.inr (by omega), fun _ => f1 e⟩
          · rw [f2 e, hf]
            omega
        · rw [f7 (by omega) h2, hw (by omega), Int.toNat_natCast, hT.1 p, hs]
          have bd : w8F g a (p - a) < 36028797018963968 := by
            by_cases e : p - a = 0
            · rw [e]
              show (0 : Nat) < 36028797018963968
              omega
            · obtain ⟨k, hk⟩ : ∃ k, p - a = k + 1 := ⟨p - a - 1, by omega⟩
              rw [hk]
              have w := w8F_lt (g := g) (s := a) k (fun i hi => (bL_iff.mp (hall (a + i) (by omega) (by omega)).2).2)
              have le : 256 ^ k ≤ 256 ^ 6 := Nat.pow_le_pow_right (by decide) (by omega)
              have e6 : (256 : Nat) ^ 6 = 281474976710656 := by decide
              omega
          rw [wsM bd (by omega)]
          show _ = ((256 * w8F g a (p - a) + g (a + (p - a)) : Nat) : Int)
          rw [hp]
/-- digits -/
theorem lkD (hN : N ≤ 1000) (hg : ∀ i, g i ≤ 255) {φ : Int} : ∀ (n p : Nat) (s : PS) (x2 x3 x5 : Int), It_X12_looks n 200 (p : Int) x2 x3 5 x5 s r t → x2 = 0 → ¬ x3 = 0 → x5 = (p : Int) - (a : Int) → TpM g N s → a ≤ p → p ≤ N → (∀ i, a ≤ i → i < p → i < N ∧ bD (g i) = true) → (¬ s 0 8 = 0 ↔ (¬ φ = 0 ∨ 5 < p - a)) → (p - a ≤ 5 → s 0 6 = (dgF g a (p - a) : Int)) → t 0 3 = s 0 3 ∧ t 0 4 = s 0 4 ∧ t 0 5 = (rn bD g N a : Int) ∧ (¬ t 0 8 = 0 ↔ (¬ φ = 0 ∨ 5 < rn bD g N a - a)) ∧ (rn bD g N a - a ≤ 5 → t 0 6 = (dgF g a (rn bD g N a - a) : Int)) := by
  intro n
  induction n using Nat.strongRecOn with
  | ind n ih =>
  intro p s x2 x3 x5 h h2 h3 h5 hT hap hpN hall hf hw
  cases n with
  | zero => exact False.elim h
  | succ n =>
    have h := ul_X12_looks_200 h
    unfold T_X12_looks_200 at h
    obtain ⟨_, _, _, _, _, h⟩ := h
    rw [Int.toNat_natCast, hT.1 p, hT.2] at h
    have fin : ∀ s2 : PS, ¬ (p < N ∧ bD (g p) = true) → s2 = s → t = us s2 0 5 (p : Int) → t 0 3 = s 0 3 ∧ t 0 4 = s 0 4 ∧ t 0 5 = (rn bD g N a : Int) ∧ (¬ t 0 8 = 0 ↔ (¬ φ = 0 ∨ 5 < rn bD g N a - a)) ∧ (rn bD g N a - a ≤ 5 → t 0 6 = (dgF g a (rn bD g N a - a) : Int)) := by
      intro s2 hno e2 et
      have er : rn bD g N a = p := rn_eq hap hall hno
      rw [er, et, e2]
      refine ⟨us_j (by decide) _, us_j (by decide) _, us_at, ?_, fun z => ?_⟩
      · rw [us_j (by decide)]
        exact hf
      · rw [us_j (by decide)]
        exact hw z
    rcases h with ⟨c1, s2, e2, _, es⟩ | ⟨c1, ⟨c2, r2, s2, hm, _, _, _, h⟩ | ⟨c2, _⟩⟩
    · exact fin s (by omega) rfl (by rw [es, e2])
    · obtain ⟨e2, k⟩ := digM hm
      rcases h with ⟨c3, s3, e3, _, es⟩ | ⟨c3, h⟩
      · refine fin s2 ?_ e2 (by rw [es, e3])
        rw [bD_iff]
        rcases k with k | k <;> omega
      · have hd : 48 ≤ g p ∧ g p ≤ 57 := by rcases k with k | k <;> omega
        rw [e2] at h
        obtain ⟨m, s4, hm4, h, e1, e2', e3, e4, f1, f2, f3, f7, f6⟩ := lk239 h
        have hs : p + 1 - a = (p - a) + 1 := by omega
        have hp : a + (p - a) = p := by omega
        have hh : It_X12_looks m 200 ((p + 1 : Nat) : Int) x2 x3 5 (wi (x5 + 1)) s4 r t := h
        rw [wi_id (by omega) (by omega)] at hh
        have k := ih m (by omega) (p + 1) s4 x2 x3 (x5 + 1) hh h2 h3 (by omega) (hT.cg e1 e2') (by omega) (by omega) (fun i i1 i2 => ?_) ?_ (fun z => ?_)
        · rw [e3, e4] at k
          exact k
        · by_cases e : i = p
          · rw [e]
            exact ⟨by omega, bD_iff.mpr hd⟩
          · exact hall i i1 (by omega)
        · by_cases e : x5 = 5
          · exact ⟨fun _ => Or.inr (by omega), fun _ => f1 e⟩
          · rw [f2 e, hf]
            omega
        · rw [f6 (by omega) h3, hw (by omega), Int.toNat_natCast, hT.1 p, hs]
          have b5 := dgF_5 (s := a) (k := p - a) hg (by omega)
          have gp := hg p
          rw [wi_id (z := 10 * (dgF g a (p - a) : Int)) (by omega) (by omega), wi_id (z := 10 * (dgF g a (p - a) : Int) + (g p : Int)) (by omega) (by omega), wi_id (by omega) (by omega)]
          show _ = ((10 * dgF g a (p - a) + (g (a + (p - a)) - 48) : Nat) : Int)
          rw [hp]
          omega
    · exact absurd h2 c2
end LookM
