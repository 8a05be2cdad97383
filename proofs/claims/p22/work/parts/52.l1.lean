/-! what is told of a giving, in both -/
/-- a giving: children, their ages, houses, days, what is due; what each may have; what each got; what is left; points -/
def GvD (K n : Nat) (ag du : Nat → Int) (Al : Nat → Nat → Bool) (X : Nat → Nat → Int) (re : Nat → Int) (pts : Int) : Prop := (n ≤ 40 ∧ K ≤ 10) ∧ (∀ c k, c < n → k < K → X c k = 0 ∨ X c k = 1) ∧ (∀ c, c < n → (0 ≤ du c ∧ du c ≤ 3) ∧ sgN (X c) K ≤ du c ∧ 0 ≤ ag c ∧ ag c ≤ 17) ∧ (∀ c k, c < n → k < K → X c k = 1 → Al c k = true) ∧ (∀ k, k < K → -1000 ≤ re k ∧ re k ≤ 500000) ∧ wi pts = pts
def GvC (K n : Nat) (ag ho dy du : Nat → Int) (Al : Nat → Nat → Bool) (X : Nat → Nat → Int) (re : Nat → Int) (pts : Int) (s : PS) : Prop := (s 88 0 = 1 ∧ s 88 1 = (n : Int) ∧ s 88 10 = pts) ∧ (∀ c, c < n → s 89 c = ag c ∧ s 90 c = ho c ∧ s 91 c = dy c ∧ s 92 c = du c ∧ (∀ k, k < K → tb (s 93 c) k = Al c k) ∧ s 94 c = sgN (X c) K) ∧ (∀ k, k < K → s 96 k = re k) ∧ ∀ k, K ≤ k → k < 10 → s 96 k = 0
def GvR (K n : Nat) (ag ho dy du : Nat → Int) (Al : Nat → Nat → Bool) (X : Nat → Nat → Int) (re : Nat → Int) (pts : Int) (u : PS) : Prop := (u 0 68 = 1 ∧ u 0 69 = (n : Int) ∧ u 0 79 = pts) ∧ (∀ c, c < n → u 50 c = ag c ∧ u 48 c = ho c ∧ u 49 c = dy c ∧ u 47 c = du c ∧ (∀ k, k < K → u 51 (10 * c + k) = if Al c k = true then 1 else 0) ∧ u 52 c = stN (X c) K) ∧ ∀ k, k < K → u 54 k = re k
/-- both have the same giving, or none -/
def GV (K : Nat) (s u : PS) : Prop := (s 88 0 = 0 ∧ u 0 68 = 0) ∨ ∃ (n : Nat) (ag ho dy du : Nat → Int) (Al : Nat → Nat → Bool) (X : Nat → Nat → Int) (re : Nat → Int) (pts : Int), GvD K n ag du Al X re pts ∧ GvC K n ag ho dy du Al X re pts s ∧ GvR K n ag ho dy du Al X re pts u
section Gv1
variable {K n : Nat} {ag ho dy du : Nat → Int} {Al : Nat → Nat → Bool} {X : Nat → Nat → Int} {re re0 : Nat → Int} {pts P : Int} {s t u v : PS} {r r2 : Int}
theorem GV.cg (h : GV K s u) (e0 : t 88 0 = s 88 0) (e1 : t 88 1 = s 88 1) (e10 : t 88 10 = s 88 10) (ex : ∀ x, x = 89 ∨ x = 90 ∨ x = 91 ∨ x = 92 ∨ x = 93 ∨ x = 94 ∨ x = 96 → t x = s x) (f68 : v 0 68 = u 0 68) (f69 : v 0 69 = u 0 69) (f79 : v 0 79 = u 0 79) (fx : ∀ x, x = 47 ∨ x = 48 ∨ x = 49 ∨ x = 50 ∨ x = 51 ∨ x = 52 ∨ x = 54 → v x = u x) : GV K t v := by
  rcases h with ⟨a, b⟩ | ⟨n, ag, ho, dy, du, Al, X, re, pts, h1, h2, h3⟩
  · exact Or.inl ⟨e0.trans a, f68.trans b⟩
  · refine Or.inr ⟨n, ag, ho, dy, du, Al, X, re, pts, h1, ?_, ?_⟩
    · unfold GvC at h2 ⊢
      rw [e0, e1, e10, ex 89 (by omega), ex 90 (by omega), ex 91 (by omega), ex 92 (by omega), ex 93 (by omega), ex 94 (by omega), ex 96 (by omega)]
      exact h2
    · unfold GvR at h3 ⊢
      rw [f68, f69, f79, fx 47 (by omega), fx 48 (by omega), fx 49 (by omega), fx 50 (by omega), fx 51 (by omega), fx 52 (by omega), fx 54 (by omega)]
      exact h3
theorem tally3 {c : Nat} {Pt : Nat → Int} (hK : K ≤ 10) (hX : ∀ k, k < K → X c k = 0 ∨ X c k = 1) (hre : ∀ k, k < K → -1000 ≤ re k ∧ re k ≤ 1000000) : ∀ (fu k : Nat) (s : PS) (rr : Int) (t : PS), It_X4_tally_1_56 fu 3 (c : Int) (k : Int) s rr t → s 1 0 = (K : Int) → (∀ j, j < K → (tb (s 95 c) j = true ↔ X c j = 1)) → (∀ j, j < K → s 59 (10 * c + j) = Pt j) → (∀ j, j < K → s 96 j = re j - (if j < k then X c j else 0)) → s 88 10 = wi (P + sgN (fun j => Pt j * X c j) k) → k ≤ K → (∀ j, j < K → t 96 j = re j - X c j) ∧ t 88 10 = wi (P + sgN (fun j => Pt j * X c j) K) ∧ (∀ j, K ≤ j → t 96 j = s 96 j) ∧ (∀ j, ¬ j = 10 → t 88 j = s 88 j) ∧ ∀ x, ¬ x = 88 → ¬ x = 96 → t x = s x
  | 0, k, s, rr, t, m, _, _, _, _, _, _ => False.elim m
  | fu + 1, k, s, rr, t, m, h1, hb, h59, h96, h88, hk => by
    replace m := ul_X4_tally_1_56_3 m
    unfold T_X4_tally_1_56_3 at m
    obtain ⟨_, _, _, m⟩ := m
    rw [h1, Int.toNat_natCast, Int.toNat_natCast] at m
    rcases m with ⟨q, _, et⟩ | ⟨q, m⟩
    · have e : k = K := by omega
      rw [e] at h88
      rw [et]
      refine ⟨fun j hj => ?_, h88, fun _ _ => rfl, fun _ _ => rfl, fun _ _ _ => rfl⟩
      rw [h96 j hj, if_pos (by omega)]
    · have hkK : k < K := by
        clear m
        omega
      -- the rest of the kinds
      have go : ∀ s' : PS, It_X4_tally_1_56 fu 58 (c : Int) (k : Int) s' rr t → (∀ j, j < K → s' 96 j = re j - (if j < k + 1 then X c j else 0)) → s' 88 10 = wi (P + sgN (fun j => Pt j * X c j) (k + 1)) → (∀ j, K ≤ j → s' 96 j = s 96 j) → (∀ j, ¬ j = 10 → s' 88 j = s 88 j) → (∀ x, ¬ x = 88 → ¬ x = 96 → s' x = s x) → (∀ j, j < K → t 96 j = re j - X c j) ∧ t 88 10 = wi (P + sgN (fun j => Pt j * X c j) K) ∧ (∀ j, K ≤ j → t 96 j = s 96 j) ∧ (∀ j, ¬ j = 10 → t 88 j = s 88 j) ∧ ∀ x, ¬ x = 88 → ¬ x = 96 → t x = s x := by
        intro s' m2 g1 g2 g3 g4 g5
        cases fu with
        | zero => exact False.elim m2
        | succ fu =>
          replace m2 := ul_X4_tally_1_56_58 m2
          unfold T_X4_tally_1_56_58 at m2
          obtain ⟨_, _, _, m2⟩ := m2
          have e1 : (k : Int) + 1 = ((k + 1 : Nat) : Int) := rfl
          rw [e1] at m2
          obtain ⟨w1, w2, w3, w4, w5⟩ := tally3 hK hX hre fu (k + 1) s' rr t m2 (by rw [g5 1 (by decide) (by decide)]; exact h1) (by rw [g5 95 (by decide) (by decide)]; exact hb) (by rw [g5 59 (by decide) (by decide)]; exact h59) g1 g2 hkK
          exact ⟨w1, w2, fun j hj => (w3 j hj).trans (g3 j hj), fun j hj => (w4 j hj).trans (g4 j hj), fun x x1 x2 => (w5 x x1 x2).trans (g5 x x1 x2)⟩
      have ei : (((c : Int) * 10) + (k : Int)).toNat = 10 * c + k := by
        clear m
        omega
      rcases m with ⟨q2, m⟩ | ⟨q2, s6, e6, s9, e9, m⟩
      · have x0 : X c k = 0 := by
          rcases hX k hkK with y | y
          · exact y
          · have z := (hb k hkK).mpr y
            unfold tb at z
            exact absurd q2 (of_decide_eq_true z)
        refine go s m (fun j hj => ?_) ?_ (fun _ _ => rfl) (fun _ _ => rfl) (fun _ _ _ => rfl)
        · rw [h96 j hj]
          by_cases y : j = k
          · rw [y, if_neg (by omega), if_pos (by omega), x0]
          · by_cases y2 : j < k
            · rw [if_pos y2, if_pos (by omega)]
            · rw [if_neg y2, if_neg (by omega)]
        · rw [h88]
          show wi (P + sgN (fun j => Pt j * X c j) k) = wi (P + (sgN (fun j => Pt j * X c j) k + Pt k * X c k))
          rw [x0, Int.mul_zero, Int.add_zero]
      · have x1 : X c k = 1 := by
          have z : tb (s 95 c) k = true := by
            unfold tb
            exact decide_eq_true q2
          exact (hb k hkK).mp z
        rw [ei, h59 k hkK] at e9
        have z96 := h96 k hkK
        rw [if_neg (Nat.lt_irrefl k), Int.sub_zero] at z96
        have rk := hre k hkK
        rw [z96, wi_id (by omega) (by omega)] at e6
        refine go s9 m (fun j hj => ?_) ?_ (fun j hj => ?_) (fun j hj => ?_) (fun x y1 y2 => ?_)
        · rw [e9, us_k (by decide), e6, us_if]
          by_cases y : j = k
          · rw [if_pos y, y, if_pos (by omega), x1]
          · rw [if_neg y, h96 j hj]
            by_cases y2 : j < k
            · rw [if_pos y2, if_pos (by omega)]
            · rw [if_neg y2, if_neg (by omega)]
        · rw [e9, us_at, h88, wi_wi]
          show wi (P + sgN (fun j => Pt j * X c j) k + Pt k) = wi (P + (sgN (fun j => Pt j * X c j) k + Pt k * X c k))
          rw [x1, Int.mul_one, Int.add_assoc]
        · rw [e9, us_k (by decide), e6, us_if, if_neg (by omega)]
        · rw [e9, us_j hj, e6, us_k (by decide)]
        · rw [e9, us_k y1, e6, us_k y2]
/-- what stands while it is kept: children up to c -/
def KpI (K n : Nat) (ag ho dy du : Nat → Int) (Al : Nat → Nat → Bool) (Pt : Nat → Nat → Int) (X : Nat → Nat → Int) (re0 : Nat → Int) (c : Nat) (s : PS) : Prop := (s 1 0 = (K : Int) ∧ s 88 0 = 1 ∧ s 88 1 = (n : Int) ∧ s 88 11 = -1 ∧ s 88 10 = wi (sgN (fun i => sgN (fun j => Pt i j * X i j) K) c)) ∧ (∀ i, i < n → s 44 i = ag i ∧ s 48 i = ho i ∧ s 49 i = dy i ∧ s 57 i = du i ∧ (∀ k, k < K → tb (s 58 i) k = Al i k) ∧ ∀ k, k < K → s 59 (10 * i + k) = Pt i k) ∧ BagX n K X s ∧ (∀ i, i < c → s 89 i = ag i ∧ s 90 i = ho i ∧ s 91 i = dy i ∧ s 92 i = du i ∧ (∀ k, k < K → tb (s 93 i) k = Al i k) ∧ s 94 i = sgN (X i) K ∧ SetX K (X i) (s 95 i)) ∧ (∀ k, k < K → s 96 k = re0 k - sgN (fun i => X i k) c) ∧ ∀ k, K ≤ k → k < 10 → s 96 k = 0
theorem sg_in {f : Nat → Int} : ∀ m : Nat, (∀ i, i < m → 0 ≤ f i ∧ f i ≤ 1) → 0 ≤ sgN f m ∧ sgN f m ≤ (m : Int)
  | 0, _ => ⟨Int.le_refl 0, Int.le_refl 0⟩
  | m + 1, h => by
    have z := sg_in m (fun i hi => h i (by omega))
    have y := h m (Nat.lt_succ_self m)
    show 0 ≤ sgN f m + f m ∧ sgN f m + f m ≤ ((m + 1 : Nat) : Int)
    omega
theorem keepG57 {Pt : Nat → Nat → Int} (hn : n ≤ 40) (hK : K ≤ 10) (hX : ∀ c k, c < n → k < K → X c k = 0 ∨ X c k = 1) (hre : ∀ k, k < K → 0 ≤ re0 k ∧ re0 k ≤ 500000) : ∀ fu : Nat, (∀ (c : Nat) (s : PS) (rr : Int) (t : PS) (y1 y2 y3 y4 : Int), It_X4_keep_1_42_56_64_109 fu 57 y1 (c : Int) y2 y3 y4 s rr t → KpI K n ag ho dy du Al Pt X re0 c s → c ≤ n → KpI K n ag ho dy du Al Pt X re0 n t) ∧ ∀ (c : Nat) (s : PS) (rr : Int) (t : PS) (y1 x8 v : Int), It_X4_keep_1_42_56_64_109 fu 170 y1 (c : Int) x8 v (c : Int) s rr t → KpI K n ag ho dy du Al Pt X re0 c s → c < n → (s 89 c = ag c ∧ s 90 c = ho c ∧ s 91 c = dy c ∧ s 92 c = du c ∧ ∀ k, k < K → tb (s 93 c) k = Al c k) → SetX K (X c) v → KpI K n ag ho dy du Al Pt X re0 n t
  | 0 => ⟨fun c s rr t y1 y2 y3 y4 m => False.elim m, fun c s rr t y1 x8 v m => False.elim m⟩
  | fu + 1 => by
    have ih := keepG57 (Pt := Pt) hn hK hX hre fu
    refine ⟨fun c s rr t y1 y2 y3 y4 m hI hc => ?_, fun c s rr t y1 x8 v m hI hc h9 hv => ?_⟩
    · have hI0 := hI
      obtain ⟨⟨i1, i2, i3, i4, i5⟩, j1, j2, j3, j4, j5⟩ := hI
      replace m := ul_X4_keep_1_42_56_64_109_57 m
      unfold T_X4_keep_1_42_56_64_109_57 at m
      obtain ⟨_, _, m⟩ := m
      rw [i3] at m
      rcases m with ⟨q, _, et⟩ | ⟨q, s12, e12, s14, e14, s16, e16, s18, e18, s20, e20, m⟩
      · have e : c = n := by omega
        rw [e] at hI0
        rw [et]
        exact hI0
      · have hcn : c < n := by
          clear m
          omega
        rw [Int.toNat_natCast] at e12 e14 e16 e18 e20 m
        obtain ⟨d1, d2, d3, d4, d5, d6⟩ := j1 c hcn
        rw [d1] at e12
        rw [d2] at e14
        rw [d3] at e16
        rw [d4] at e18
        have k20 : ∀ x, ¬ (89 ≤ x ∧ x ≤ 93) → s20 x = s x := fun x hx => by rw [e20, us_k (by omega), e18, us_k (by omega), e16, us_k (by omega), e14, us_k (by omega), e12, us_k (by omega)]
        have v89 : ∀ i, s20 89 i = if i = c then ag c else s 89 i := fun i => by rw [e20, us_k (by decide), e18, us_k (by decide), e16, us_k (by decide), e14, us_k (by decide), e12, us_if]
        have v90 : ∀ i, s20 90 i = if i = c then ho c else s 90 i := fun i => by rw [e20, us_k (by decide), e18, us_k (by decide), e16, us_k (by decide), e14, us_if, e12, us_k (by decide)]
        have v91 : ∀ i, s20 91 i = if i = c then dy c else s 91 i := fun i => by rw [e20, us_k (by decide), e18, us_k (by decide), e16, us_if, e14, us_k (by decide), e12, us_k (by decide)]
        have v92 : ∀ i, s20 92 i = if i = c then du c else s 92 i := fun i => by rw [e20, us_k (by decide), e18, us_if, e16, us_k (by decide), e14, us_k (by decide), e12, us_k (by decide)]
        have v93 : ∀ i, s20 93 i = if i = c then s 58 c else s 93 i := fun i => by rw [e20, us_if, e18, us_k (by decide), e16, us_k (by decide), e14, us_k (by decide), e12, us_k (by decide)]
        have I20 : KpI K n ag ho dy du Al Pt X re0 c s20 := by
          refine ⟨by rw [k20 1 (by omega), k20 88 (by omega)]; exact ⟨i1, i2, i3, i4, i5⟩, by rw [k20 44 (by omega), k20 48 (by omega), k20 49 (by omega), k20 57 (by omega), k20 58 (by omega), k20 59 (by omega)]; exact j1, ?_, fun i hi => ?_, by rw [k20 96 (by omega)]; exact j4, by rw [k20 96 (by omega)]; exact j5⟩
          · unfold BagX
            rw [k20 67 (by omega), k20 70 (by omega)]
            exact j2
          · rw [v89, v90, v91, v92, v93, if_neg (by omega), if_neg (by omega), if_neg (by omega), if_neg (by omega), if_neg (by omega), k20 94 (by omega), k20 95 (by omega)]
            exact j3 i hi
        have n9 : s20 89 c = ag c ∧ s20 90 c = ho c ∧ s20 91 c = dy c ∧ s20 92 c = du c ∧ ∀ k, k < K → tb (s20 93 c) k = Al c k := by
          rw [v89, v90, v91, v92, v93, if_pos rfl, if_pos rfl, if_pos rfl, if_pos rfl, if_pos rfl]
          exact ⟨rfl, rfl, rfl, rfl, d5⟩
        rcases j2 c hcn with ⟨b1, b2⟩ | ⟨r, b1, b2⟩
        · rw [b1] at m
          rcases m with ⟨_, m⟩ | ⟨y, _⟩
          · refine ih.2 c s20 rr t _ _ 0 m I20 hcn n9 ⟨fun k hk => ?_, fun k _ hk => tb_zero hk⟩
            rw [tb_zero (by omega), b2 k hk]
            exact ⟨fun z => absurd z (by decide), fun z => absurd z (by decide)⟩
          · exact absurd rfl y
        · rw [b1] at m
          rcases m with ⟨y, _⟩ | ⟨_, m⟩
          · omega
          · rw [Int.toNat_natCast] at m
            exact ih.2 c s20 rr t _ _ _ m I20 hcn n9 b2
    · obtain ⟨⟨i1, i2, i3, i4, i5⟩, j1, j2, j3, j4, j5⟩ := hI
      replace m := ul_X4_keep_1_42_56_64_109_170 m
      unfold T_X4_keep_1_42_56_64_109_170 at m
      obtain ⟨_, _, _, _, s1, e1, r3, s2, m2, _, _, _, s5, e5, s7, m7, _, _, m⟩ := m
      rw [Int.toNat_natCast] at e1 e5
      obtain ⟨q2, q3⟩ := bitF m2
      rw [q2] at e5
      rw [hv.count hK (fun k hk => hX c k hc hk)] at q3
      have k5 : ∀ x, ¬ x = 94 → ¬ x = 95 → s5 x = s x := fun x x1 x2 => by rw [e5, us_k x1, e1, us_k x2]
      have v94 : ∀ i, s5 94 i = if i = c then sgN (X c) K else s 94 i := fun i => by rw [e5, us_if, e1, us_k (by decide), q3]
      have v95 : ∀ i, s5 95 i = if i = c then v else s 95 i := fun i => by rw [e5, us_k (by decide), e1, us_if]
      have x01 : ∀ k, k < K → 0 ≤ sgN (fun i => X i k) c ∧ sgN (fun i => X i k) c ≤ (c : Int) := fun k hk => sg_in c (fun i hi => by
        have z := hX i k (by omega) hk
        omega)
      obtain ⟨f7, m7⟩ := m7
      unfold T_X4_tally_1_56_e at m7
      obtain ⟨_, _, m7⟩ := m7
      obtain ⟨w1, w2, w3, w4, w5⟩ := tally3 (Pt := Pt c) (re := fun k => re0 k - sgN (fun i => X i k) c) (P := sgN (fun i => sgN (fun j => Pt i j * X i j) K) c) hK (fun k hk => hX c k hc hk) (fun k hk => by
        have a := hre k hk
        have b := x01 k hk
        show -1000 ≤ re0 k - sgN (fun i => X i k) c ∧ re0 k - sgN (fun i => X i k) c ≤ 1000000
        omega) f7 0 s5 0 s7 m7 (by rw [k5 1 (by decide) (by decide)]; exact i1) (fun j hj => by
        rw [v95, if_pos rfl]
        exact hv.1 j hj) (by
        rw [k5 59 (by decide) (by decide)]
        exact (j1 c hc).2.2.2.2.2) (fun j hj => by
        rw [k5 96 (by decide) (by decide), j4 j hj, if_neg (Nat.not_lt_zero j), Int.sub_zero]) (by
        rw [k5 88 (by decide) (by decide), i5]
        show wi _ = wi (_ + 0)
        rw [Int.add_zero]) (Nat.zero_le _)
      have k7 : ∀ x, ¬ x = 88 → ¬ x = 94 → ¬ x = 95 → ¬ x = 96 → s7 x = s x := fun x x1 x2 x3 x4 => (w5 x x1 x4).trans (k5 x x2 x3)
      have ec : (c : Int) + 1 = ((c + 1 : Nat) : Int) := rfl
      rw [ec] at m
      refine ih.1 (c + 1) s7 rr t _ _ _ _ m ⟨⟨by rw [k7 1 (by decide) (by decide) (by decide) (by decide)]; exact i1, by rw [w4 0 (by decide), k5 88 (by decide) (by decide)]; exact i2, by rw [w4 1 (by decide), k5 88 (by decide) (by decide)]; exact i3, by rw [w4 11 (by decide), k5 88 (by decide) (by decide)]; exact i4, w2⟩, ?_, ?_, fun i hi => ?_, fun k hk => ?_, fun k hk hk2 => ?_⟩ hc
      · rw [k7 44 (by decide) (by decide) (by decide) (by decide), k7 48 (by decide) (by decide) (by decide) (by decide), k7 49 (by decide) (by decide) (by decide) (by decide), k7 57 (by decide) (by decide) (by decide) (by decide), k7 58 (by decide) (by decide) (by decide) (by decide), k7 59 (by decide) (by decide) (by decide) (by decide)]
        exact j1
      · unfold BagX
        rw [k7 67 (by decide) (by decide) (by decide) (by decide), k7 70 (by decide) (by decide) (by decide) (by decide)]
        exact j2
      · rw [w5 94 (by decide) (by decide), w5 95 (by decide) (by decide), v94, v95, k7 89 (by decide) (by decide) (by decide) (by decide), k7 90 (by decide) (by decide) (by decide) (by decide), k7 91 (by decide) (by decide) (by decide) (by decide), k7 92 (by decide) (by decide) (by decide) (by decide), k7 93 (by decide) (by decide) (by decide) (by decide)]
        by_cases y : i = c
        · rw [if_pos y, if_pos y, y]
          exact ⟨h9.1, h9.2.1, h9.2.2.1, h9.2.2.2.1, h9.2.2.2.2, rfl, hv⟩
        · rw [if_neg y, if_neg y]
          exact j3 i (by omega)
      · rw [w1 k hk]
        show re0 k - sgN (fun i => X i k) c - X c k = re0 k - (sgN (fun i => X i k) c + X c k)
        omega
      · rw [w3 k hk, k5 96 (by decide) (by decide)]
        exact j5 k hk hk2
theorem keepG26 : ∀ (fu x : Nat) (s : PS) (rr : Int) (t : PS), It_X4_keep_1_42_56_64_109 fu 26 (x : Int) 0 0 0 0 s rr t → (∀ k, k < x → s 96 k = s 109 k) → x ≤ 10 → ∃ fu2 s2, It_X4_keep_1_42_56_64_109 fu2 57 0 0 0 0 0 s2 rr t ∧ (∀ k, k < 10 → s2 96 k = s 109 k) ∧ ∀ y, ¬ y = 96 → s2 y = s y
  | 0, x, s, rr, t, m, _, _ => False.elim m
  | fu + 1, x, s, rr, t, m, h, hx => by
    replace m := ul_X4_keep_1_42_56_64_109_26 m
    unfold T_X4_keep_1_42_56_64_109_26 at m
    obtain ⟨_, _, m⟩ := m
    rcases m with ⟨q, m⟩ | ⟨q, s26, e26, m⟩
    · exact ⟨fu, s, m, fun k hk => h k (by omega), fun _ _ => rfl⟩
    · rw [Int.toNat_natCast] at e26
      have e1 : (x : Int) + 1 = ((x + 1 : Nat) : Int) := rfl
      rw [e1] at m
      have k : ∀ y, ¬ y = 96 → s26 y = s y := fun y hy => by rw [e26, us_k hy]
      obtain ⟨fu2, s2, w1, w2, w3⟩ := keepG26 fu (x + 1) s26 rr t m (fun j hj => by
        rw [k 109 (by decide), e26, us_if]
        by_cases y : j = x
        · rw [if_pos y, y]
        · rw [if_neg y]
          exact h j (by omega)) (by omega)
      rw [k 109 (by decide)] at w2
      exact ⟨fu2, s2, w1, w2, fun y hy => (w3 y hy).trans (k y hy)⟩
/-- all that the class keeps -/
theorem keepG {Pt : Nat → Nat → Int} (hn : n ≤ 40) (hK : K ≤ 10) (hX : ∀ c k, c < n → k < K → X c k = 0 ∨ X c k = 1) (hre : ∀ k, k < K → 0 ≤ re0 k ∧ re0 k ≤ 500000) (h1 : s 1 0 = (K : Int)) (h42 : s 42 2 = (n : Int)) (hd : ∀ i, i < n → s 44 i = ag i ∧ s 48 i = ho i ∧ s 49 i = dy i ∧ s 57 i = du i ∧ (∀ k, k < K → tb (s 58 i) k = Al i k) ∧ ∀ k, k < K → s 59 (10 * i + k) = Pt i k) (hB : BagX n K X s) (h9 : ∀ k, k < K → s 109 k = re0 k) (hz : ∀ k, K ≤ k → k < 10 → s 109 k = 0) (m : M_X4_keep_1_42_56_64_109 s r t) : KpI K n ag ho dy du Al Pt X re0 n t := by
  obtain ⟨fu, m⟩ := m
  unfold T_X4_keep_1_42_56_64_109_e at m
  obtain ⟨_, s27, e27, s28, e28, s29, e29, s30, e30, m⟩ := m
  have k : ∀ y, ¬ y = 88 → s30 y = s y := fun y hy => by rw [e30, us_k hy, e29, us_k hy, e28, us_k hy, e27, us_k hy]
  have k88 : ∀ j, s30 88 j = if j = 10 then 0 else if j = 1 then (n : Int) else if j = 11 then -1 else if j = 0 then 1 else s 88 j := fun j => by rw [e30, us_if, e29, us_if, e28, us_if, e27, us_if, h42]
  obtain ⟨fu2, s2, w1, w2, w3⟩ := keepG26 fu 0 s30 r t m (fun k hk => absurd hk (Nat.not_lt_zero k)) (by decide)
  rw [k 109 (by decide)] at w2
  have kk : ∀ y, ¬ y = 88 → ¬ y = 96 → s2 y = s y := fun y y1 y2 => (w3 y y2).trans (k y y1)
  have w : ∀ j, s2 88 j = s30 88 j := fun j => by rw [w3 88 (by decide)]
  refine (keepG57 hn hK hX hre fu2).1 0 s2 r t 0 0 0 0 w1 ⟨⟨by rw [kk 1 (by decide) (by decide)]; exact h1, by rw [w, k88]; rfl, by rw [w, k88]; rfl, by rw [w, k88]; rfl, by rw [w, k88]; rfl⟩, ?_, ?_, fun i hi => absurd hi (Nat.not_lt_zero i), fun j hj => ?_, fun j hj hj2 => ?_⟩ (Nat.zero_le _)
  · rw [kk 44 (by decide) (by decide), kk 48 (by decide) (by decide), kk 49 (by decide) (by decide), kk 57 (by decide) (by decide), kk 58 (by decide) (by decide), kk 59 (by decide) (by decide)]
    exact hd
  · unfold BagX
    rw [kk 67 (by decide) (by decide), kk 70 (by decide) (by decide)]
    exact hB
  · rw [w2 j (by omega), h9 j hj]
    show re0 j = re0 j - 0
    rw [Int.sub_zero]
  · rw [w2 j hj2]
    exact hz j hj hj2
end Gv1
