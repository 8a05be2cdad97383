/-! the reference's look at a place -/
def SgM (g : Nat → Nat) (N q : Nat) (s : PS) : Prop := s 0 4 = (stq g N q : Int) ∧ s 0 5 = (nxq g N q : Int) ∧ ¬ tkq g N q = 257 ∧ ((tkq g N q = 256 ∧ s 0 3 = 0) ∨ (258 ≤ tkq g N q ∧ ¬ tkq g N q = 259 ∧ s 0 3 = 1 ∧ s 0 7 = (w8F g (stq g N q) (lnq g N q bL) : Int)) ∨ (tkq g N q = 259 ∧ s 0 3 = 2 ∧ s 0 6 = (nvq g N q : Int)) ∨ (tkq g N q < 256 ∧ s 0 3 = 3 ∧ s 0 6 = (tkq g N q : Int)))
def LkM (g : Nat → Nat) (N q : Nat) (t : PS) : Prop := (tkq g N q = 257 ∧ ¬ t 0 8 = 0) ∨ (t 0 8 = 0 ∧ SgM g N q t)
section LookM2
variable {g : Nat → Nat} {N q a p : Nat} {s t b : PS} {r x1 x2 x3 x4 x5 : Int}
theorem cw_st (hq : q ≤ N) : cwq g (stq g N q) = true ↔ (stq g N q = q ∧ cwq g q = true) := by
  have ge : q ≤ stq g N q := rn_ge
  constructor
  · intro h
    by_cases e : stq g N q = q
    · exact ⟨e, by rw [e] at h; exact h⟩
    · have al := (rn_all (P := bB) (g := g) (n := N) (p := q) (i := stq g N q - 1) (by omega) (by show _ < stq g N q; omega)).2
      rw [bB_iff] at al
      unfold cwq at h
      rw [Bool.and_eq_true, Bool.or_eq_true, bL_iff, bD_iff] at h
      omega
  · rintro ⟨e, h⟩
    rw [e]
    exact h
theorem dgTail (hN : N ≤ 1000) (hg : ∀ i, g i ≤ 255) {n : Nat} {v : Int} (ha : stq g N q = a) (haN : a < N) (hd : bD (g a) = true) (hT : TpM g N b) (h4 : b 0 4 = (a : Int)) (h8 : ¬ b 0 8 = 0 ↔ (stq g N q = q ∧ cwq g q = true)) (h2 : x2 = 0) (h3 : ¬ x3 = 0) (h : It_X12_looks n 200 (a : Int) x2 x3 5 0 (us (us (us (us (us b 0 6 0) 0 7 0) 0 3 3) 0 5 v) 0 3 2) r t) : LkM g N q t := by
  have k := lkD (a := a) (φ := b 0 8) hN hg n a _ x2 x3 0 h h2 h3 (by omega) (hT.cg ?_ ?_) (Nat.le_refl a) (by omega) (fun i i1 i2 => absurd i2 (by omega)) ?_ (fun _ => ?_)
  · obtain ⟨k3, k4, k5, k8, k6⟩ := k
    rw [us_at] at k3
    rw [us_j (by decide), us_j (by decide), us_j (by decide), us_j (by decide), us_j (by decide), h4] at k4
    by_cases z : (stq g N q = q ∧ cwq g q = true) ∨ 5 < rn bD g N a - a
    · refine Or.inl ⟨tk_numb ha (by omega) hd z, k8.mpr ?_⟩
      rcases z with z | z
      · exact Or.inl (h8.mpr z)
      · exact Or.inr z
    · have w := tk_num ha (by omega) hd (fun y => z (Or.inl y)) (fun y => z (Or.inr y))
      have z8 : t 0 8 = 0 := by
        by_cases e : t 0 8 = 0
        · exact e
        · rcases k8.mp e with y | y
          · exact absurd (Or.inl (h8.mp y)) z
          · exact absurd (Or.inr y) z
      refine Or.inr ⟨z8, by rw [k4, ha], by rw [k5, w.2.1], by rw [w.1]; decide, Or.inr (Or.inr (Or.inl ⟨w.1, k3, ?_⟩))⟩
      rw [k6 (by omega), w.2.2]
  · rw [us_k (by decide), us_k (by decide), us_k (by decide), us_k (by decide), us_k (by decide)]
  · rw [us_j (by decide), us_j (by decide), us_j (by decide), us_j (by decide), us_j (by decide)]
  · rw [us_j (by decide), us_j (by decide), us_j (by decide), us_j (by decide), us_j (by decide)]
    exact ⟨fun z => Or.inl z, fun z => by rcases z with z | z; exact z; omega⟩
  · rw [us_j (by decide), us_j (by decide), us_j (by decide), us_j (by decide), us_at, Nat.sub_self]
    rfl
theorem ltTail (hN : N ≤ 1000) (hg : ∀ i, g i ≤ 255) {n : Nat} {v : Int} (ha : stq g N q = a) (haN : a < N) (hd : bL (g a) = true) (hT : TpM g N b) (h4 : b 0 4 = (a : Int)) (h8 : ¬ b 0 8 = 0 ↔ (stq g N q = q ∧ cwq g q = true)) (h2 : ¬ x2 = 0) (h3 : x3 = 0) (h : It_X12_looks n 200 (a : Int) x2 x3 8 0 (us (us (us (us (us b 0 6 0) 0 7 0) 0 3 3) 0 5 v) 0 3 1) r t) : LkM g N q t := by
  have k := lkL (a := a) (φ := b 0 8) hN hg n a _ x2 x3 0 h h2 h3 (by omega) (hT.cg ?_ ?_) (Nat.le_refl a) (by omega) (fun i i1 i2 => absurd i2 (by omega)) ?_ (fun _ => ?_)
  · obtain ⟨k3, k4, k5, k8, k7⟩ := k
    rw [us_at] at k3
    rw [us_j (by decide), us_j (by decide), us_j (by decide), us_j (by decide), us_j (by decide), h4] at k4
    by_cases z : (stq g N q = q ∧ cwq g q = true) ∨ 8 < rn bL g N a - a
    · refine Or.inl ⟨tk_wordb ha (by omega) hd z, k8.mpr ?_⟩
      rcases z with z | z
      · exact Or.inl (h8.mpr z)
      · exact Or.inr z
    · have w := tk_word ha (by omega) hd (fun y => z (Or.inl y)) (fun y => z (Or.inr y))
      have wg := wtl_ge (lts g a (rn bL g N a - a))
      have z8 : t 0 8 = 0 := by
        by_cases e : t 0 8 = 0
        · exact e
        · rcases k8.mp e with y | y
          · exact absurd (Or.inl (h8.mp y)) z
          · exact absurd (Or.inr y) z
      have el : lnq g N q bL = rn bL g N a - a := by unfold lnq; rw [ha]
      refine Or.inr ⟨z8, by rw [k4, ha], by rw [k5, w.2.1], by rw [w.1]; omega, Or.inr (Or.inl ⟨by rw [w.1]; exact wg.1, by rw [w.1]; exact wg.2.1, k3, ?_⟩)⟩
      rw [k7 (by omega), ha, el]
  · rw [us_k (by decide), us_k (by decide), us_k (by decide), us_k (by decide), us_k (by decide)]
  · rw [us_j (by decide), us_j (by decide), us_j (by decide), us_j (by decide), us_j (by decide)]
  · rw [us_j (by decide), us_j (by decide), us_j (by decide), us_j (by decide), us_j (by decide)]
    exact ⟨fun z => Or.inl z, fun z => by rcases z with z | z; exact z; omega⟩
  · rw [us_j (by decide), us_j (by decide), us_j (by decide), us_at, Nat.sub_self]
    rfl
theorem cwq_iff (h : ¬ a = 0) : cwq g a = true ↔ ((97 ≤ g (a - 1) ∧ g (a - 1) ≤ 122) ∨ (48 ≤ g (a - 1) ∧ g (a - 1) ≤ 57)) := by
  unfold cwq
  have e : Nat.ble 1 a = true := by rw [Nat.ble_eq]; omega
  rw [e, Bool.true_and, Bool.or_eq_true, bL_iff, bD_iff]
theorem cwq_0 : ¬ cwq g 0 = true := by
  unfold cwq
  have e : Nat.ble 1 0 = false := rfl
  rw [e, Bool.false_and]
  decide
theorem lk41 (hN : N ≤ 1000) (hg : ∀ i, g i ≤ 255) {n : Nat} (hq : q ≤ N) (h : It_X12_looks n 41 (a : Int) x2 x3 x4 x5 s r t) (hT : TpM g N s) (haN : a ≤ N) (ha : stq g N q = a) (h8 : s 0 8 = 0) : LkM g N q t := by
  cases n with
  | zero => exact False.elim h
  | succ n =>
    have h := ul_X12_looks_41 h
    unfold T_X12_looks_41 at h
    obtain ⟨_, _, s1, e1, s2, e2, s3, e3, h⟩ := h
    rw [hT.2, Int.toNat_natCast, hT.1 a] at h
    have es : s3 = us (us (us s 0 4 (a : Int)) 0 5 (a : Int)) 0 3 0 := by rw [e3, e2, e1]
    have T3 : TpM g N s3 := hT.cg (by rw [es, us_k (by decide), us_k (by decide), us_k (by decide)]) (by rw [es, us_j (by decide), us_j (by decide), us_j (by decide)])
    have f4 : s3 0 4 = (a : Int) := by rw [es, us_j (by decide), us_j (by decide), us_at]
    have f5 : s3 0 5 = (a : Int) := by rw [es, us_j (by decide), us_at]
    have f3 : s3 0 3 = 0 := by rw [es, us_at]
    have f8 : s3 0 8 = 0 := by rw [es, us_j (by decide), us_j (by decide), us_j (by decide), h8]
    have cs := cw_st (g := g) hq
    rw [ha] at cs
    rcases h with ⟨c1, r1, s4, hm, _, _, _, r2, s5, hm2, _, _, _, h⟩ | ⟨c1, _, et⟩
    · obtain ⟨e4, k1⟩ := letM hm
      obtain ⟨e5, k2⟩ := digM hm2
      rw [e4] at e5
      rw [e5] at h
      have haN2 : a < N := by omega
      -- the byte ahead
      have prev : ¬ (a : Int) ≤ 0 → s 1 ((a : Int) - 1).toNat = (g (a - 1) : Int) := by
        intro z
        have e : ((a : Int) - 1).toNat = a - 1 := by omega
        rw [e]
        exact hT.1 _
      have nb : (a : Int) ≤ 0 → (¬ s3 0 8 = 0 ↔ (stq g N q = q ∧ cwq g q = true)) := by
        intro z
        rw [f8, ha, ← cs]
        have e : a = 0 := by omega
        rw [e]
        exact ⟨fun y => absurd rfl y, fun y => absurd y cwq_0⟩
      have nc : ¬ (a : Int) ≤ 0 → ¬ ((97 ≤ g (a - 1) ∧ g (a - 1) ≤ 122) ∨ (48 ≤ g (a - 1) ∧ g (a - 1) ≤ 57)) → (¬ s3 0 8 = 0 ↔ (stq g N q = q ∧ cwq g q = true)) := by
        intro z y
        rw [f8, ha, ← cs, cwq_iff (by omega)]
        exact ⟨fun x => absurd rfl x, fun x => absurd x y⟩
      have yc : ∀ (b : PS) (k2 : Int), M_X12_blame s3 1 k2 0 b → ¬ (a : Int) ≤ 0 → ((97 ≤ g (a - 1) ∧ g (a - 1) ≤ 122) ∨ (48 ≤ g (a - 1) ∧ g (a - 1) ≤ 57)) → TpM g N b ∧ b 0 4 = (a : Int) ∧ (¬ b 0 8 = 0 ↔ (stq g N q = q ∧ cwq g q = true)) := by
        intro b k2 hb z y
        obtain ⟨b1, b2, b3⟩ := blameF hb (by omega)
        refine ⟨T3.cg (b3 1 (by decide)) (b2 2 (by decide) (by decide)), by rw [b2 4 (by decide) (by decide), f4], ?_⟩
        rw [ha, ← cs, cwq_iff (by omega)]
        exact ⟨fun _ => y, fun _ => b1⟩
      rcases h with ⟨c2, h⟩ | ⟨c2, h⟩
      · rcases h with ⟨c3, _, rfl, _, rfl, _, rfl, _, rfl, _, _, _, rfl, _, et⟩ | ⟨c3, h⟩
        · have nl : ¬ bL (g a) = true := by
            rw [bL_iff]
            rcases k1 with k | k <;> omega
          have nd : ¬ bD (g a) = true := by
            rw [bD_iff]
            rcases k2 with k | k <;> omega
          have w := tk_sign ha (by omega) nl nd
          have ga := hg a
          rw [et]
          refine Or.inr ⟨?_, ?_, ?_, by omega, Or.inr (Or.inr (Or.inr ⟨by omega, ?_, ?_⟩))⟩
          · rw [us_j (by decide), us_j (by decide), us_j (by decide), us_j (by decide), us_j (by decide), f8]
          · rw [us_j (by decide), us_j (by decide), us_j (by decide), us_j (by decide), us_j (by decide), f4, ha]
          · rw [us_j (by decide), us_at, w.2]
            omega
          · rw [us_j (by decide), us_j (by decide), us_at]
          · rw [us_at, w.1]
        · have hd : bD (g a) = true := by
            clear h
            rw [bD_iff]
            rcases k2 with k | k <;> omega
          rcases h with ⟨c4, _, rfl, _, rfl, _, rfl, _, rfl, _, _, _, _, rfl, _, h⟩ | ⟨c4, r6, s6, hm6, _, _, _, h⟩
          · exact dgTail hN hg ha haN2 hd T3 f4 (nb c4) c2 c3 h
          · obtain ⟨e6, k6⟩ := letM hm6
            rw [prev c4] at k6
            rw [e6] at h
            rcases h with ⟨c5, r7, s7, hm7, _, _, _, h⟩ | ⟨c5, s7, hm7, _, _, _, rfl, _, rfl, _, rfl, _, rfl, _, _, _, _, rfl, _, h⟩
            · obtain ⟨e7, k7⟩ := digM hm7
              rw [prev c4] at k7
              rw [e7] at h
              rcases h with ⟨c6, _, rfl, _, rfl, _, rfl, _, rfl, _, _, _, _, rfl, _, h⟩ | ⟨c6, s8, hm8, _, _, _, rfl, _, rfl, _, rfl, _, rfl, _, _, _, _, rfl, _, h⟩
              · exact dgTail hN hg ha haN2 hd T3 f4 (nc c4 (by rcases k6 with k | k <;> rcases k7 with j | j <;> omega)) c2 c3 h
              · obtain ⟨b1, b2, b3⟩ := yc s8 _ hm8 c4 (by rcases k7 with j | j <;> omega)
                exact dgTail hN hg ha haN2 hd b1 b2 b3 c2 c3 h
            · obtain ⟨b1, b2, b3⟩ := yc s7 _ hm7 c4 (by rcases k6 with k | k <;> omega)
              exact dgTail hN hg ha haN2 hd b1 b2 b3 c2 c3 h
      · have hl : bL (g a) = true := by
          clear h
          rw [bL_iff]
          rcases k1 with k | k <;> omega
        have c3 : r2 = 0 := by
          rcases k2 with k | k
          · exact k.1
          · rcases k1 with j | j <;> omega
        rcases h with ⟨c4, _, rfl, _, rfl, _, rfl, _, rfl, _, _, _, rfl, _, h⟩ | ⟨c4, r6, s6, hm6, _, _, _, h⟩
        · exact ltTail hN hg ha haN2 hl T3 f4 (nb c4) c2 c3 h
        · obtain ⟨e6, k6⟩ := letM hm6
          rw [prev c4] at k6
          rw [e6] at h
          rcases h with ⟨c5, r7, s7, hm7, _, _, _, h⟩ | ⟨c5, s7, hm7, _, _, _, rfl, _, rfl, _, rfl, _, rfl, _, _, _, rfl, _, h⟩
          · obtain ⟨e7, k7⟩ := digM hm7
            rw [prev c4] at k7
            rw [e7] at h
            rcases h with ⟨c6, _, rfl, _, rfl, _, rfl, _, rfl, _, _, _, rfl, _, h⟩ | ⟨c6, s8, hm8, _, _, _, rfl, _, rfl, _, rfl, _, rfl, _, _, _, rfl, _, h⟩
            · exact ltTail hN hg ha haN2 hl T3 f4 (nc c4 (by rcases k6 with k | k <;> rcases k7 with j | j <;> omega)) c2 c3 h
            · obtain ⟨b1, b2, b3⟩ := yc s8 _ hm8 c4 (by rcases k7 with j | j <;> omega)
              exact ltTail hN hg ha haN2 hl b1 b2 b3 c2 c3 h
          · obtain ⟨b1, b2, b3⟩ := yc s7 _ hm7 c4 (by rcases k6 with k | k <;> omega)
            exact ltTail hN hg ha haN2 hl b1 b2 b3 c2 c3 h
    · have w := tk_end (g := g) ha (by omega)
      rw [et]
      refine Or.inr ⟨f8, by rw [f4, ha], ?_, by rw [w.1]; decide, Or.inl ⟨w.1, f3⟩⟩
      rw [f5, w.2]
      omega
theorem lk5 (hN : N ≤ 1000) (hg : ∀ i, g i ≤ 255) (hq : q ≤ N) (hT : TpM g N s) (h8 : s 0 8 = 0) : ∀ n : Nat, (∀ (p : Nat) (x2 x3 x4 x5 : Int), It_X12_looks n 5 (p : Int) x2 x3 x4 x5 s r t → q ≤ p → p ≤ N → (∀ i, q ≤ i → i < p → i < N ∧ bB (g i) = true) → LkM g N q t) ∧ (∀ (p : Nat) (x2 x3 x4 x5 : Int), It_X12_looks n 35 (p : Int) x2 x3 x4 x5 s r t → q ≤ p → p < N → bB (g p) = true → (∀ i, q ≤ i → i < p → i < N ∧ bB (g i) = true) → LkM g N q t)
  | 0 => ⟨fun _ _ _ _ _ h => False.elim h, fun _ _ _ _ _ h => False.elim h⟩
  | n + 1 => by
    have ih := lk5 hN hg hq hT h8 n
    refine ⟨fun p x2 x3 x4 x5 h hqp hpN hall => ?_, fun p x2 x3 x4 x5 h hqp hpN hb hall => ?_⟩
    · have h := ul_X12_looks_5 h
      unfold T_X12_looks_5 at h
      obtain ⟨_, _, h⟩ := h
      rw [hT.2, Int.toNat_natCast, hT.1 p] at h
      have fin : ¬ (p < N ∧ bB (g p) = true) → It_X12_looks n 41 (p : Int) 0 0 0 0 s r t → LkM g N q t := fun hno h => lk41 hN hg hq h hT hpN (rn_eq hqp hall hno) h8
      rcases h with ⟨c1, h⟩ | ⟨c1, ⟨c2, h⟩ | ⟨c2, ⟨c3, h⟩ | ⟨c3, h⟩⟩⟩
      · exact fin (by omega) h
      · exact ih.2 p _ _ _ _ h hqp (by omega) (by rw [bB_iff]; omega) hall
      · exact ih.2 p _ _ _ _ h hqp (by omega) (by rw [bB_iff]; omega) hall
      · exact fin (by rw [bB_iff]; omega) h
    · have h := ul_X12_looks_35 h
      unfold T_X12_looks_35 at h
      obtain ⟨_, _, h⟩ := h
      have h2 : It_X12_looks n 5 ((p + 1 : Nat) : Int) 0 0 0 0 s r t := h
      refine ih.1 (p + 1) _ _ _ _ h2 (by omega) (by omega) (fun i i1 i2 => ?_)
      by_cases e : i = p
      · rw [e]
        exact ⟨by omega, hb⟩
      · exact hall i i1 (by omega)
/-- a look, from the place q -/
theorem looksM (hN : N ≤ 1000) (hg : ∀ i, g i ≤ 255) (h : M_X12_looks s r t) (hT : TpM g N s) (h5 : s 0 5 = (q : Int)) (hq : q ≤ N) (h8 : s 0 8 = 0) : LkM g N q t := by
  obtain ⟨n, h⟩ := h
  unfold T_X12_looks_e at h
  obtain ⟨_, h⟩ := h
  rw [h5] at h
  exact (lk5 hN hg hq hT h8 n).1 q _ _ _ _ h (Nat.le_refl q) hq (fun i i1 i2 => absurd i2 (by omega))
end LookM2
