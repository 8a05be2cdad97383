/-! the reference's search for cheapest ways -/
abbrev frS (s : PS) (l : Nat) : Nat := (s 38 l).toNat
abbrev toS (s : PS) (l : Nat) : Nat := (s 39 l).toNat
abbrev rmS (s : PS) (l : Nat) : Prop := ¬ s 40 l = 0
abbrev prS (s : PS) (l : Nat) : Int := s 41 l
abbrev byS (s : PS) (v : Nat) : Nat := (s 43 v).toNat
/-- a net with a price at each post -/
def NetOk (n : Nat) (pi : Nat → Int) (s : PS) : Prop := s 0 62 = (n : Int) ∧ n ≤ 2200 ∧ FE n (frS s) (toS s) (rmS s) (prS s) pi ∧ (∀ v, v < 290 → -2147483648 ≤ pi v ∧ pi v ≤ 1101659111424) ∧ ∀ l, l < n → -2147483648 ≤ prS s l ∧ prS s l ≤ 2147483648
/-- a search that has ended -/
def FdR (n : Nat) (pi : Nat → Int) (a b : Nat) (s0 : PS) (r : Int) (t : PS) : Prop := (∃ (tt : Nat → Nat) (c : Nat), BS n (frS s0) (toS s0) (rmS s0) (prS s0) pi a (t 42) (byS t) tt c) ∧ (∀ l, l < n → NR (frS s0) (toS s0) (rmS s0) (prS s0) (t 42) l) ∧ (∀ k, ¬ k = 42 → ¬ k = 43 → t k = s0 k) ∧ ((r = 0 ∧ 1152921504606846976 ≤ t 42 b) ∨ (r = 1 ∧ ¬ 1152921504606846976 ≤ t 42 b))
section FindsM
variable {n a b : Nat} {pi : Nat → Int} {s0 s t : PS} {r : Int}
theorem tyM_fr (h : TyM s) (l : Nat) : frS s l < 290 := by
  have z := h.2 (38, 0, 289) (by decide) l
  have z2 : 0 ≤ s 38 l ∧ s 38 l ≤ 289 := z
  unfold frS
  omega
theorem tyM_to (h : TyM s) (l : Nat) : toS s l < 290 := by
  have z := h.2 (39, 0, 289) (by decide) l
  have z2 : 0 ≤ s 39 l ∧ s 39 l ≤ 289 := z
  unfold toS
  omega
theorem finds33 (hN : NetOk n pi s0) (hf : ∀ l, frS s0 l < 290) (ht : ∀ l, toS s0 l < 290) (ha : a < 290) : ∀ fu : Nat, (∀ (x : Int) (s : PS) (r : Int) (t : PS), It_X12_finds fu 33 (a : Int) (b : Int) x 0 s r t → (∀ k, ¬ k = 42 → ¬ k = 43 → s k = s0 k) → (∃ (tt : Nat → Nat) (c : Nat), BS n (frS s0) (toS s0) (rmS s0) (prS s0) pi a (s 42) (byS s) tt c) → (x = 0 → ∀ l, l < n → NR (frS s0) (toS s0) (rmS s0) (prS s0) (s 42) l) → FdR n pi a b s0 r t) ∧ ∀ (x : Int) (i : Nat) (s : PS) (r : Int) (t : PS), It_X12_finds fu 42 (a : Int) (b : Int) x (i : Int) s r t → (∀ k, ¬ k = 42 → ¬ k = 43 → s k = s0 k) → (∃ (tt : Nat → Nat) (c : Nat), BS n (frS s0) (toS s0) (rmS s0) (prS s0) pi a (s 42) (byS s) tt c) → i ≤ n → (x = 0 → ∀ l, l < i → NR (frS s0) (toS s0) (rmS s0) (prS s0) (s 42) l) → FdR n pi a b s0 r t
  | 0 => ⟨fun x s r t h => False.elim h, fun x i s r t h => False.elim h⟩
  | fu + 1 => by
    have ih := finds33 hN hf ht ha fu
    obtain ⟨n1, n2, n3, n4, n5⟩ := hN
    refine ⟨fun x s r t h hk hB hx => ?_, fun x i s r t h hk hB hi hx => ?_⟩
    · replace h := ul_X12_finds_33 h
      unfold T_X12_finds_33 at h
      obtain ⟨_, _, _, _, h⟩ := h
      rw [Int.toNat_natCast] at h
      rcases h with ⟨c, ⟨c2, hr, es⟩ | ⟨c2, hr, es⟩⟩ | ⟨c, h⟩
      · rw [es]
        exact ⟨hB, hx c, hk, Or.inl ⟨hr, c2⟩⟩
      · rw [es]
        exact ⟨hB, hx c, hk, Or.inr ⟨hr, c2⟩⟩
      · exact ih.2 0 0 s r t h hk hB (Nat.zero_le _) (fun _ l hl => absurd hl (Nat.not_lt_zero _))
    · replace h := ul_X12_finds_42 h
      unfold T_X12_finds_42 at h
      obtain ⟨_, _, _, hx1, _, h⟩ := h
      rw [hk 0 (by decide) (by decide), hk 38 (by decide) (by decide), hk 39 (by decide) (by decide), hk 40 (by decide) (by decide), hk 41 (by decide) (by decide), n1, Int.toNat_natCast] at h
      rcases h with ⟨c, h⟩ | ⟨c, h⟩
      · have e : i = n := by omega
        rw [e] at hx
        exact ih.1 x s r t h hk hB hx
      · have hi2 : i < n := by
          clear h
          omega
        have next : ∀ s1 : PS, It_X12_finds fu 42 (a : Int) (b : Int) x ((i : Int) + 1) s1 r t → s1 = s → NR (frS s0) (toS s0) (rmS s0) (prS s0) (s 42) i → FdR n pi a b s0 r t := by
          intro s1 h e q
          rw [e] at h
          refine ih.2 x (i + 1) s r t h hk hB (by omega) (fun hx0 l hl => ?_)
          by_cases c : l = i
          · rw [c]
            exact q
          · exact hx hx0 l (by omega)
        rcases h with ⟨c1, h⟩ | ⟨c1, h⟩
        · exact next s h rfl (fun z => absurd c1 z)
        · rcases h with ⟨c2, h⟩ | ⟨c2, h⟩
          · exact next s h rfl (fun _ z => absurd c2 z)
          · obtain ⟨tt, c0, hBs⟩ := hB
            have ub := BS_ub hBs (hf i) c2
            have pa := n4 a ha
            have pf := n4 (frS s0 i) (hf i)
            have pp := n5 i hi2
            have ub1 : pi (frS s0 i) - pi a ≤ s 42 (s0 38 i).toNat ∧ s 42 (s0 38 i).toNat ≤ 622770257920 := ub
            have pp1 : -2147483648 ≤ s0 41 i ∧ s0 41 i ≤ 2147483648 := pp
            have ew : wl (s 42 (s0 38 i).toNat + s0 41 i) = s 42 (s0 38 i).toNat + s0 41 i := wl_id (by clear h; omega) (by clear h; omega)
            rw [ew] at h
            rcases h with ⟨c3, s15, e15, s16, e16, h⟩ | ⟨c3, h⟩
            · have st := (BS_st n3 (fun l hl => (n5 l hl).2) hf ht hBs hi2 c1 c2 c3).1
              refine ih.2 1 (i + 1) s16 r t h (fun k k1 k2 => ?_) ⟨updZ tt (toS s0 i) c0, c0 + 1, ?_⟩ (by omega) (fun z => absurd z (by decide))
              · rw [e16, us_k k2, e15, us_k k1]
                exact hk k k1 k2
              · have q42 : s16 42 = updZ (s 42) (toS s0 i) (s 42 (frS s0 i) + prS s0 i) := by
                  rw [e16, us_k (by decide), e15, us_f]
                  rfl
                have q43 : byS s16 = updZ (byS s) (toS s0 i) i := by
                  funext v
                  show (s16 43 v).toNat = updZ (byS s) (toS s0 i) i v
                  rw [e16, us_if, e15, us_k (by decide)]
                  unfold updZ
                  by_cases q : v = (s0 39 i).toNat
                  · rw [if_pos q, if_pos q]
                    rfl
                  · rw [if_neg q, if_neg q]
                rw [q42, q43]
                exact st
            · refine next s h rfl (fun _ _ => ?_)
              show s 42 (s0 39 i).toNat ≤ s 42 (s0 38 i).toNat + s0 41 i
              clear h
              omega
theorem finds2 (hN : NetOk n pi s0) (hf : ∀ l, frS s0 l < 290) (ht : ∀ l, toS s0 l < 290) (ha : a < 290) : ∀ (fu i : Nat) (s : PS) (r : Int) (t : PS), It_X12_finds fu 2 (a : Int) (b : Int) (i : Int) 0 s r t → (∀ k, ¬ k = 42 → ¬ k = 43 → s k = s0 k) → i ≤ 290 → (∀ v, v < i → s 42 v = 1152921504606846976) → FdR n pi a b s0 r t
  | 0, i, s, r, t, h, _, _, _ => False.elim h
  | fu + 1, i, s, r, t, h, hk, hi, hv => by
    replace h := ul_X12_finds_2 h
    unfold T_X12_finds_2 at h
    obtain ⟨_, _, _, _, h⟩ := h
    rw [Int.toNat_natCast, Int.toNat_natCast] at h
    rcases h with ⟨c, s22, e22, h⟩ | ⟨c, s23, e23, h⟩
    · have e : i = 290 := by omega
      rw [e] at hv
      refine (finds33 hN hf ht ha fu).1 1 s22 r t h (fun k k1 k2 => ?_) ⟨fun _ => 0, 1, BS_0 (fun v v1 v2 => ?_) ha ?_⟩ (fun z => absurd z (by decide))
      · rw [e22, us_k k1]
        exact hk k k1 k2
      · rw [e22, us_j v2]
        exact hv v v1
      · rw [e22, us_at]
    · refine finds2 hN hf ht ha fu (i + 1) s23 r t h (fun k k1 k2 => ?_) (by omega) (fun v hv2 => ?_)
      · rw [e23, us_k k1]
        exact hk k k1 k2
      · by_cases e : v = i
        · rw [e23, e, us_at]
        · rw [e23, us_j e]
          exact hv v (by omega)
theorem findsM (hN : NetOk n pi s) (ha : a < 290) (h : M_X12_finds s (a : Int) (b : Int) r t) : FdR n pi a b s r t := by
  obtain ⟨fu, h⟩ := h
  unfold T_X12_finds_e at h
  obtain ⟨ty, _, _, h⟩ := h
  exact finds2 hN (tyM_fr ty) (tyM_to ty) ha fu 0 s r t h (fun _ _ _ => rfl) (by decide) (fun v hv => absurd hv (Nat.not_lt_zero _))
end FindsM
