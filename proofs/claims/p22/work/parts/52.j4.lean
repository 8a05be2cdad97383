/-! the class keeps what was given: how many -/
def bcB (A : Int) : Int := (iAnd A 858993459) + (iAnd (iUsr A 2) 858993459)
def bcC (B : Int) : Int := iAnd (wi (B + (iUsr B 4))) 252645135
def bcD (C : Int) : Int := wi (C + (iUsr C 8))
def bcG (A : Int) : Int := iAnd (wi (bcD (bcC (bcB A)) + (iUsr (bcD (bcC (bcB A))) 16))) 63
def bcA (v : Int) : Int := wi (v - (iAnd (iUsr v 1) 1431655765))
section Kee
variable {n K R : Nat} {p : Nat → Int} {v w : Int} {Xc : Nat → Nat → Int} {s t u : PS} {rr : Int}
theorem bitF (m : M_J6_bitCount_0f7a4 s v rr t) : t = s ∧ rr = bcG (bcA v) := by
  unfold M_J6_bitCount_0f7a4 T_J6_bitCount_0f7a4_e at m
  obtain ⟨_, er, et⟩ := m
  exact ⟨et, er⟩
set_option maxRecDepth 100000 in
theorem bc_all : ∀ x : Fin 1024, bcG (bcA (x.val : Int)) = sgN (fun k => if tb (x.val : Int) k = true then 1 else 0) 10 := by decide +kernel
theorem tb_ext (h : ∀ j, j < 32 → tb v j = tb w j) : Int32.ofInt v = Int32.ofInt w := by
  have e : (Int32.ofInt v).toBitVec = (Int32.ofInt w).toBitVec := BitVec.eq_of_getLsbD_eq (fun j hj => by
    rw [← tb_get _ hj, ← tb_get _ hj]
    exact h j hj)
  exact Int32.toBitVec_inj.mp e
theorem bc_cg (h : Int32.ofInt v = Int32.ofInt w) : bcA v = bcA w := by
  have e1 : wi v = wi w := by
    have z := congrArg Int32.toInt h
    rw [Int32.toInt_ofInt, Int32.toInt_ofInt] at z
    exact z
  have e2 : iUsr v 1 = iUsr w 1 := by
    unfold iUsr
    rw [h]
  unfold bcA
  rw [e2, Int.sub_eq_add_neg, Int.sub_eq_add_neg, ← wi_wi v, ← wi_wi w, e1]
theorem tb_stN : ∀ K : Nat, K ≤ 10 → ∀ j, j < 32 → tb (stN p K) j = decide (j < K ∧ p j = 1)
  | 0, _, j, hj => by
    show tb 0 j = _
    rw [tb_zero hj, decide_eq_false (fun q => absurd q.1 (Nat.not_lt_zero j))]
  | K + 1, hK, j, hj => by
    have ih := tb_stN K (by omega) j hj
    by_cases c : p K = 1
    · have e : stN p (K + 1) = iOr (stN p K) (iShl 1 (K : Int)) := by
        rw [orS (show K < 10 by omega)]
        show stN p K + (if p K = 1 then ((2 ^ K : Nat) : Int) else 0) = _
        rw [if_pos c]
      rw [e, tb_or (by omega) hj, ih]
      by_cases y : K = j
      · rw [decide_eq_true y, Bool.or_true, decide_eq_true ⟨by omega, by rw [← y]; exact c⟩]
      · rw [decide_eq_false y, Bool.or_false]
        by_cases y2 : j < K ∧ p j = 1
        · rw [decide_eq_true y2, decide_eq_true ⟨by omega, y2.2⟩]
        · rw [decide_eq_false y2, decide_eq_false (fun q => y2 ⟨by omega, q.2⟩)]
    · have e : stN p (K + 1) = stN p K := by
        show stN p K + (if p K = 1 then ((2 ^ K : Nat) : Int) else 0) = _
        rw [if_neg c, Int.add_zero]
      rw [e, ih]
      by_cases y2 : j < K ∧ p j = 1
      · rw [decide_eq_true y2, decide_eq_true ⟨by omega, y2.2⟩]
      · rw [decide_eq_false y2, decide_eq_false (fun q => y2 ⟨by
          have z : ¬ j = K := fun z => c (by rw [← z]; exact q.2)
          omega, q.2⟩)]
/-- a set of kinds, as the class has it -/
def SetX (K : Nat) (p : Nat → Int) (v : Int) : Prop := (∀ k, k < K → (tb v k = true ↔ p k = 1)) ∧ ∀ k, K ≤ k → k < 32 → tb v k = false
theorem SetX.st (h : SetX K p v) (hK : K ≤ 10) : Int32.ofInt v = Int32.ofInt (stN p K) := tb_ext (fun j hj => by
  rw [tb_stN K hK j hj]
  by_cases c : j < K
  · have z := h.1 j c
    by_cases y : p j = 1
    · rw [z.mpr y, decide_eq_true ⟨c, y⟩]
    · rw [decide_eq_false (fun q => y q.2)]
      cases e : tb v j with
      | false => rfl
      | true => exact absurd (z.mp e) y
  · rw [h.2 j (by omega) hj, decide_eq_false (fun q => c q.1)])
theorem SetX.count (h : SetX K p v) (hK : K ≤ 10) (hp : ∀ k, k < K → p k = 0 ∨ p k = 1) : bcG (bcA v) = sgN p K := by
  rw [bc_cg (h.st hK)]
  have z := stN_in (p := p) K
  have z2 : (2 : Nat) ^ K ≤ 1024 := pow10 hK
  obtain ⟨m, em⟩ : ∃ m : Nat, stN p K = (m : Int) := ⟨(stN p K).toNat, by omega⟩
  have y := bc_all ⟨m, by omega⟩
  have y2 : bcG (bcA (m : Int)) = sgN (fun k => if tb (m : Int) k = true then 1 else 0) 10 := y
  rw [em, y2, ← em]
  have e10 : K + (10 - K) = 10 := by omega
  rw [← e10, sgN_spl K (10 - K), sgN_0 (10 - K) (fun i hi => by
    show (if tb (stN p K) (K + i) = true then (1 : Int) else 0) = 0
    rw [tb_stN K hK (K + i) (by omega), decide_eq_false (fun q => absurd q.1 (by omega))]
    rfl), Int.add_zero]
  refine sgN_cg K (fun k hk => ?_)
  show (if tb (stN p K) k = true then (1 : Int) else 0) = p k
  rw [tb_stN K hK k (by omega)]
  rcases hp k hk with c | c
  · rw [decide_eq_false (fun q => by
      have := q.2
      omega), c]
    rfl
  · rw [decide_eq_true ⟨hk, c⟩, c]
    rfl
theorem bc_0 : bcG (bcA 0) = 0 := by decide +kernel
/-- the bags of the children -/
def BagX (n K : Nat) (Xc : Nat → Nat → Int) (s : PS) : Prop := ∀ c, c < n → (s 67 c = -1 ∧ ∀ k, k < K → Xc c k = 0) ∨ ∃ r : Nat, s 67 c = (r : Int) ∧ SetX K (Xc c) (s 70 r)
theorem keep57 (hn : n ≤ 40) (hK : K ≤ 10) (hX : ∀ c k, c < n → k < K → Xc c k = 0 ∨ Xc c k = 1) : ∀ fu : Nat, (∀ (c : Nat) (s : PS) (rr : Int) (t : PS) (y2 y3 y4 : Int), It_X4_keep_1_42_56_64_109 fu 57 (sgN (fun i => sgN (Xc i) K) c) (c : Int) y2 y3 y4 s rr t → s 88 1 = (n : Int) → BagX n K Xc s → c ≤ n → (0 ≤ sgN (fun i => sgN (Xc i) K) c ∧ sgN (fun i => sgN (Xc i) K) c ≤ 10 * (c : Int)) → rr = sgN (fun i => sgN (Xc i) K) n) ∧ ∀ (c : Nat) (s : PS) (rr : Int) (t : PS) (x8 v : Int), It_X4_keep_1_42_56_64_109 fu 170 (sgN (fun i => sgN (Xc i) K) c) (c : Int) x8 v (c : Int) s rr t → s 88 1 = (n : Int) → BagX n K Xc s → c < n → (0 ≤ sgN (fun i => sgN (Xc i) K) c ∧ sgN (fun i => sgN (Xc i) K) c ≤ 10 * (c : Int)) → bcG (bcA v) = sgN (Xc c) K → rr = sgN (fun i => sgN (Xc i) K) n
  | 0 => ⟨fun c s rr t y2 y3 y4 m => False.elim m, fun c s rr t x8 v m => False.elim m⟩
  | fu + 1 => by
    have ih := keep57 hn hK hX fu
    refine ⟨fun c s rr t y2 y3 y4 m h88 hB hc hb => ?_, fun c s rr t x8 v m h88 hB hc hb hv => ?_⟩
    · replace m := ul_X4_keep_1_42_56_64_109_57 m
      unfold T_X4_keep_1_42_56_64_109_57 at m
      obtain ⟨_, _, m⟩ := m
      rw [h88] at m
      rcases m with ⟨q, er, _⟩ | ⟨q, s12, e12, s14, e14, s16, e16, s18, e18, s20, e20, m⟩
      · have e : c = n := by omega
        rw [er, e]
      · have hcn : c < n := by
          clear m
          omega
        have k20 : ∀ x, ¬ (89 ≤ x ∧ x ≤ 93) → s20 x = s x := fun x hx => by rw [e20, us_k (by omega), e18, us_k (by omega), e16, us_k (by omega), e14, us_k (by omega), e12, us_k (by omega)]
        have B20 : BagX n K Xc s20 := by
          unfold BagX
          rw [k20 67 (by omega), k20 70 (by omega)]
          exact hB
        have h20 : s20 88 1 = (n : Int) := by rw [k20 88 (by omega)]; exact h88
        rw [Int.toNat_natCast] at m
        rcases hB c hcn with ⟨b1, b2⟩ | ⟨r, b1, b2⟩
        · rw [b1] at m
          rcases m with ⟨_, m⟩ | ⟨y, _⟩
          · refine ih.2 c s20 rr t _ 0 m h20 B20 hcn hb ?_
            rw [bc_0, sgN_0 K b2]
          · exact absurd rfl y
        · rw [b1] at m
          rcases m with ⟨y, _⟩ | ⟨_, m⟩
          · omega
          · rw [Int.toNat_natCast] at m
            exact ih.2 c s20 rr t _ _ m h20 B20 hcn hb (b2.count hK (fun k hk => hX c k hcn hk))
    · replace m := ul_X4_keep_1_42_56_64_109_170 m
      unfold T_X4_keep_1_42_56_64_109_170 at m
      obtain ⟨_, _, _, _, s1, e1, r3, s2, m2, _, _, _, s5, e5, s7, m7, f7, _, m⟩ := m
      obtain ⟨q2, q3⟩ := bitF m2
      rw [hv] at q3
      have p10 : 0 ≤ r3 ∧ r3 ≤ 10 := by
        rw [q3]
        have a := sgN_nn K (f := Xc c) (fun k hk => by
          have z := hX c k hc hk
          omega)
        have b := sgN_le K (f := Xc c) (g := fun _ => 1) (fun k hk => by
          have z := hX c k hc hk
          show Xc c k ≤ 1
          omega)
        have e : ∀ n : Nat, sgN (fun _ => (1 : Int)) n = (n : Int) := fun n => by
          induction n with
          | zero => rfl
          | succ n ih =>
            show sgN (fun _ => (1 : Int)) n + 1 = _
            rw [ih]
            omega
        rw [e] at b
        omega
      have k5 : ∀ x, ¬ x = 94 → ¬ x = 95 → s5 x = s x := fun x x1 x2 => by rw [e5, us_k x1, q2, e1, us_k x2]
      have k7 : ∀ x, ¬ x = 88 → ¬ x = 94 → ¬ x = 95 → ¬ x = 96 → s7 x = s x := fun x x1 x2 x3 x4 => (f7.1 x (by simp only [List.mem_cons, List.not_mem_nil, or_false]; omega)).trans (k5 x x2 x3)
      have h7 : s7 88 1 = (n : Int) := by
        have z := f7.2 88 1 (by decide) (by decide) (by decide)
        rw [z, k5 88 (by decide) (by decide)]
        exact h88
      have B7 : BagX n K Xc s7 := by
        unfold BagX
        rw [k7 67 (by decide) (by decide) (by decide) (by decide), k7 70 (by decide) (by decide) (by decide) (by decide)]
        exact hB
      have e8 : wi (sgN (fun i => sgN (Xc i) K) c + r3) = sgN (fun i => sgN (Xc i) K) (c + 1) := by
        rw [wi_id (by omega) (by omega), q3]
        rfl
      have ec : (c : Int) + 1 = ((c + 1 : Nat) : Int) := rfl
      rw [e8, ec] at m
      refine ih.1 (c + 1) s7 rr t _ _ _ m h7 B7 hc ?_
      have z : sgN (fun i => sgN (Xc i) K) (c + 1) = sgN (fun i => sgN (Xc i) K) c + r3 := by
        rw [q3]
        rfl
      rw [z]
      omega
theorem keep26 (hn : n ≤ 40) (hK : K ≤ 10) (hX : ∀ c k, c < n → k < K → Xc c k = 0 ∨ Xc c k = 1) : ∀ (fu x : Nat) (s : PS) (rr : Int) (t : PS), It_X4_keep_1_42_56_64_109 fu 26 (x : Int) 0 0 0 0 s rr t → s 88 1 = (n : Int) → BagX n K Xc s → rr = sgN (fun i => sgN (Xc i) K) n
  | 0, x, s, rr, t, m, _, _ => False.elim m
  | fu + 1, x, s, rr, t, m, h88, hB => by
    replace m := ul_X4_keep_1_42_56_64_109_26 m
    unfold T_X4_keep_1_42_56_64_109_26 at m
    obtain ⟨_, _, m⟩ := m
    rcases m with ⟨_, m⟩ | ⟨_, s26, e26, m⟩
    · exact (keep57 hn hK hX fu).1 0 s rr t 0 0 0 m h88 hB (Nat.zero_le _) ⟨by show (0 : Int) ≤ 0; decide, by show (0 : Int) ≤ 10 * ((0 : Nat) : Int); decide⟩
    · have e1 : (x : Int) + 1 = ((x + 1 : Nat) : Int) := rfl
      rw [e1] at m
      have k : ∀ y, ¬ y = 96 → s26 y = s y := fun y hy => by rw [e26, us_k hy]
      refine keep26 hn hK hX fu (x + 1) s26 rr t m (by rw [k 88 (by decide)]; exact h88) ?_
      unfold BagX
      rw [k 67 (by decide), k 70 (by decide)]
      exact hB
theorem keepF (hn : n ≤ 40) (hK : K ≤ 10) (hX : ∀ c k, c < n → k < K → Xc c k = 0 ∨ Xc c k = 1) (h42 : s 42 2 = (n : Int)) (hB : BagX n K Xc s) (m : M_X4_keep_1_42_56_64_109 s rr t) : rr = dSize n K Xc := by
  obtain ⟨fu, m⟩ := m
  unfold T_X4_keep_1_42_56_64_109_e at m
  obtain ⟨_, s27, e27, s28, e28, s29, e29, s30, e30, m⟩ := m
  have k : ∀ y, ¬ y = 88 → s30 y = s y := fun y hy => by rw [e30, us_k hy, e29, us_k hy, e28, us_k hy, e27, us_k hy]
  have h88 : s30 88 1 = (n : Int) := by rw [e30, us_j (by decide), e29, us_at]; exact h42
  exact keep26 hn hK hX fu 0 s30 rr t m h88 (by
    unfold BagX
    rw [k 67 (by decide), k 70 (by decide)]
    exact hB)
end Kee
