/-! levels: how they begin, what they are at last -/
section Lv3
variable {R K S : Nat} {sl fr : Nat → Nat} {D : Nat → Int} {al : Nat → Nat → Prop} {pt cu X : Nat → Nat → Int} {rho : Nat → Int} {kap : Nat → Nat → Int} {del lam : Int} {s t u : PS} {rr : Int}
/-- rows up to x have got their first cost and wait -/
def IvI (R K S : Nat) (sl fr : Nat → Nat) (D : Nat → Int) (al : Nat → Nat → Prop) (pt cu X : Nat → Nat → Int) (x : Nat) (s : PS) : Prop := FlS R K S sl fr D al pt cu X s ∧ (∀ r, r < R → s 75 r ≤ 0 ∧ -2147483648 ≤ s 75 r) ∧ (∀ r k, r < x → r < R → k < K → X r k = 1 → s 75 r ≤ pt r k) ∧ (∀ r, x ≤ r → r < R → s 80 r = 0) ∧ (∀ r, r < x → r < R → ¬ s 80 r = 0) ∧ (∃ Tl, QuI R (fun r => [(r, 0)]) 0 0 Tl s) ∧ (∀ q, q < 240 → s 77 q = 0) ∧ s 74 5 = 0 ∧ s 74 6 = 0
theorem lev45 : ∀ fu : Nat, (∀ (x : Nat) (s : PS) (rr : Int) (t : PS), It_X2_level fu 32 (x : Int) 0 s rr t → IvI R K S sl fr D al pt cu X x s → x ≤ R → ∃ fu2 b, It_X2_level fu2 116 0 0 b rr t ∧ IvI R K S sl fr D al pt cu X R b ∧ ∀ y, ¬ (74 ≤ y ∧ y ≤ 80) → b y = s y) ∧ (∀ (x kx : Nat) (s : PS) (rr : Int) (t : PS), It_X2_level fu 45 (x : Int) (kx : Int) s rr t → IvI R K S sl fr D al pt cu X x s → x < R → kx ≤ K → (∀ k, k < kx → X x k = 1 → s 75 x ≤ pt x k) → ∃ fu2 b, It_X2_level fu2 116 0 0 b rr t ∧ IvI R K S sl fr D al pt cu X R b ∧ ∀ y, ¬ (74 ≤ y ∧ y ≤ 80) → b y = s y) ∧ ∀ (x kx : Nat) (s : PS) (rr : Int) (t : PS), It_X2_level fu 97 (x : Int) (kx : Int) s rr t → IvI R K S sl fr D al pt cu X x s → x < R → kx < K → (∀ k, k < kx + 1 → X x k = 1 → s 75 x ≤ pt x k) → ∃ fu2 b, It_X2_level fu2 116 0 0 b rr t ∧ IvI R K S sl fr D al pt cu X R b ∧ ∀ y, ¬ (74 ≤ y ∧ y ≤ 80) → b y = s y
  | 0 => ⟨fun x s rr t m => False.elim m, fun x kx s rr t m => False.elim m, fun x kx s rr t m => False.elim m⟩
  | fu + 1 => by
    have ih := lev45 fu
    refine ⟨fun x s rr t m hI hx => ?_, fun x kx s rr t m hI hx hkx hk => ?_, fun x kx s rr t m hI hx hkx hk => ?_⟩
    · replace m := ul_X2_level_32 m
      unfold T_X2_level_32 at m
      obtain ⟨_, _, m⟩ := m
      rw [hI.1.1.2.1] at m
      rcases m with ⟨c, m⟩ | ⟨c, m⟩
      · have e : x = R := by omega
        rw [e] at hI
        exact ⟨fu, s, m, hI, fun _ _ => rfl⟩
      · exact ih.2.1 x 0 s rr t m hI (by clear m; omega) (Nat.zero_le _) (fun k hk => absurd hk (Nat.not_lt_zero _))
    · have hI0 := hI
      obtain ⟨hF, i1, i2, i3, i4, ⟨Tl, i5⟩, i6, i7, i8⟩ := hI
      obtain ⟨hs, ⟨hR, hK, hS⟩, hpt, hX01⟩ := hF.st
      replace m := ul_X2_level_45 m
      unfold T_X2_level_45 at m
      obtain ⟨_, _, _, m⟩ := m
      rw [hF.1.1, Int.toNat_natCast] at m
      rcases m with ⟨c, s14, m14, _, _, m⟩ | ⟨c, m⟩
      · have e : kx = K := by omega
        obtain ⟨⟨Tl2, q, _⟩, n1, n2, n3, n4⟩ := enq (h2 := fun r => [(r, 0)]) i5 hR hx (by omega) m14 (fun v _ _ => Nat.le_refl _) (by
          show 0 + 40 < 0 + 41 * ([((x, 0) : Nat × Int)]).length
          rw [List.length_singleton]
          omega)
        obtain ⟨fu2, b, w1, w2, w3⟩ := ih.1 (x + 1) s14 rr t m ⟨hF.cg (fun y y1 y2 => n1 y (by omega) (by omega) (by omega)), by rw [n1 75 (by decide) (by decide) (by decide)]; exact i1, fun r k a1 a2 a3 a4 => by
          rw [n1 75 (by decide) (by decide) (by decide)]
          by_cases y : r = x
          · rw [y] at a4 ⊢
            exact hk k (by omega) a4
          · exact i2 r k (by omega) a2 a3 a4, fun r a1 a2 => by
          rw [n3 r a2 (by omega)]
          exact i3 r (by omega) a2, fun r a1 a2 => by
          by_cases y : r = x
          · rw [y]
            exact n4
          · rw [n3 r a2 y]
            exact i4 r (by omega) a2, ⟨Tl2, q⟩, by rw [n1 77 (by decide) (by decide) (by decide)]; exact i6, by rw [n2 5 (by decide)]; exact i7, by rw [n2 6 (by decide)]; exact i8⟩ (by omega)
        exact ⟨fu2, b, w1, w2, fun y hy => (w3 y hy).trans (n1 y (by omega) (by omega) (by omega))⟩
      · have hkx2 : kx < K := by
          clear m
          omega
        obtain ⟨g1, g2, g3, g4, g5⟩ := hF.2.2.2.1 x kx hx hkx2
        rcases m with ⟨c1, m⟩ | ⟨c1, r23, s22, m22, _, _, s27, e27, m⟩
        · refine ih.2.2 x kx s rr t m hI0 hx hkx2 (fun k a1 a2 => ?_)
          by_cases y : k = kx
          · have z := g2.mpr (by rw [← y]; exact a2)
            unfold tb at z
            exact absurd c1 (of_decide_eq_true z)
          · exact hk k (by omega) a2
        · unfold M_X3_pointsOf T_X3_pointsOf_e at m22
          obtain ⟨_, _, _, er, es⟩ := m22
          have ei : (((x : Int) * 10) + (kx : Int)).toNat = 10 * x + kx := by
            clear m
            omega
          rw [ei, g3] at er
          rw [er, es] at e27
          have k27 : ∀ y, ¬ y = 75 → s27 y = s y := fun y hy => by rw [e27, us_k hy]
          have e75 : ∀ r, s27 75 r = if r = x then min (s 75 x) (pt x kx) else s 75 r := fun r => by rw [e27, us_if]
          have i1x := i1 x hx
          obtain ⟨fu2, b, w1, w2, w3⟩ := ih.2.2 x kx s27 rr t m ⟨hF.cg (fun y y1 y2 => k27 y (by omega)), fun r hr => by
            rw [e75]
            by_cases y : r = x
            · rw [if_pos y]
              omega
            · rw [if_neg y]
              exact i1 r hr, fun r k a1 a2 a3 a4 => by
            rw [e75, if_neg (by omega)]
            exact i2 r k a1 a2 a3 a4, by rw [k27 80 (by decide)]; exact i3, by rw [k27 80 (by decide)]; exact i4, ⟨Tl, i5.cg ⟨by rw [k27 74 (by decide)], by rw [k27 74 (by decide)]⟩ (k27 79 (by decide)) (k27 80 (by decide))⟩, by rw [k27 77 (by decide)]; exact i6, by rw [k27 74 (by decide)]; exact i7, by rw [k27 74 (by decide)]; exact i8⟩ hx hkx2 (fun k a1 a2 => by
            rw [e75, if_pos rfl]
            by_cases y : k = kx
            · rw [y]
              omega
            · have z := hk k (by omega) a2
              omega)
          exact ⟨fu2, b, w1, w2, fun y hy => (w3 y hy).trans (k27 y (by omega))⟩
    · replace m := ul_X2_level_97 m
      unfold T_X2_level_97 at m
      obtain ⟨_, _, _, m⟩ := m
      exact ih.2.1 x (kx + 1) s rr t m hI hx (by omega) hk
/-- the class's labels at last -/
def kcX (S : Nat) (s : PS) (k u : Nat) : Int := if u < S then s 77 (24 * k + u) else s 74 6
theorem levelF (hS : 0 < S) (hF : FlS R K S sl fr D al pt cu X s) (hL : Lab4 (fun _ _ => False) R K S sl al pt cu X rho kap lam) (hD : LabD R K D X rho del) (m : M_X2_level s rr t) : FlS R K S sl fr D al pt cu X t ∧ Lab4 (fun _ _ => False) R K S sl al pt cu X (t 75) (kcX S t) (t 74 6) ∧ LabD R K D X (t 75) (t 74 5) ∧ (∀ r, r < R → -2199023255552 ≤ t 75 r ∧ t 75 r ≤ 2199023255552) ∧ (∀ k u, k < K → u < S → -2199023255552 ≤ t 77 (24 * k + u) ∧ t 77 (24 * k + u) ≤ 2199023255552) ∧ ∀ y, ¬ (74 ≤ y ∧ y ≤ 80) → t y = s y := by
  obtain ⟨hs, ⟨hR, hK, hS24⟩, hpt, hX01⟩ := hF.st
  have far : FARz = 1152921504606846976 := rfl
  obtain ⟨fu, m⟩ := m
  unfold T_X2_level_e at m
  obtain ⟨_, s29, m29, _, _, s33, m33, _, _, s37, e37, s38, e38, s39, m39, _, _, m⟩ := m
  obtain ⟨a1, a2⟩ := fill75X m29
  obtain ⟨b1, b2⟩ := fill77X m33
  obtain ⟨c1, c2, c3, c4, c5⟩ := startQF m39
  have k39 : ∀ y, ¬ (74 ≤ y ∧ y ≤ 80) → s39 y = s y := fun y hy => by rw [c4 y (by omega) (by omega), e38, us_k (by omega), e37, us_k (by omega), b2 y (by omega), a2 y (by omega)]
  have v75 : ∀ r, r < 40 → s39 75 r = 0 := fun r hr => by rw [c4 75 (by decide) (by decide), e38, us_k (by decide), e37, us_k (by decide), b2 75 (by decide), a1 r hr]
  have v77 : ∀ q, q < 240 → s39 77 q = 0 := fun q hq => by rw [c4 77 (by decide) (by decide), e38, us_k (by decide), e37, us_k (by decide), b1 q hq]
  have v5 : s39 74 5 = 0 := by rw [c5 5 (by decide) (by decide), e38, us_j (by decide), e37, us_at]
  have v6 : s39 74 6 = 0 := by rw [c5 6 (by decide) (by decide), e38, us_at]
  have q0 : QuI R (fun r => [((r, 0) : Nat × Int)]) 0 0 0 s39 := ⟨⟨c1, c2, Nat.le_refl _, Nat.zero_le _⟩, fun p _ p2 => absurd p2 (Nat.not_lt_zero _), fun p _ _ p2 => absurd p2 (Nat.not_lt_zero _), fun r hr => Or.inl (c3 r (by omega))⟩
  obtain ⟨fu2, b, w1, ⟨F1, i1, i2, i3, i4, ⟨Tl, i5⟩, i6, i7, i8⟩, w3⟩ := (lev45 (R := R) (K := K) (S := S) (sl := sl) (fr := fr) (D := D) (al := al) (pt := pt) (cu := cu) (X := X) fu).1 0 s39 rr t m ⟨hF.cg (fun y y1 y2 => k39 y (by omega)), fun r hr => by rw [v75 r (by omega)]; exact ⟨by decide, by decide⟩, fun r k q => absurd q (Nat.not_lt_zero _), fun r _ hr => c3 r (by omega), fun r q => absurd q (Nat.not_lt_zero _), ⟨0, q0⟩, v77, v5, v6⟩ (Nat.zero_le _)
  have z77 : ∀ k u, k < K → u < S → b 77 (24 * k + u) = 0 := fun k u p q => i6 _ (by omega)
  have G : FiH False R K S sl al pt cu X 0 (ndP rho del lam) kap 0 0 (fun r => [(r, b 75 r)]) (fun _ _ => []) b := by
    refine ⟨⟨fun r hr => by have := i1 r hr; omega, fun k u p q => by rw [z77 k u p q]; omega⟩, fun r hr _ => ⟨⟨[], rfl⟩, Hist.one (by omega) (by rw [ndD_r hR hr]; exact Int.le_refl _), ?_⟩, fun k u p q _ => ⟨⟨trivial, fun x hx => absurd hx List.not_mem_nil, fun x hx => absurd hx List.not_mem_nil⟩, ?_⟩, ⟨fun k u p q => by rw [z77 k u p (by omega), z77 k (u + 1) p q]; exact Int.le_refl _, fun k u p q _ => by rw [z77 k u p (by omega), z77 k (u + 1) p q]; exact Int.le_refl _, fun r k p q x _ => by rw [z77 k (sl r) q (hs r p), Int.zero_add]; exact i2 r k p p q x⟩, ⟨fun _ _ _ _ => Nat.zero_le _, fun _ _ _ _ => Nat.zero_le _, fun r hr _ => ⟨by have := i1 r hr; omega, Nat.zero_le _⟩⟩, fun q => q.elim⟩
    · have y := i1 r hr
      show - (8589934592 * (([((r, b 75 r) : Nat × Int)]).length : Int)) ≤ b 75 r ∧ b 75 r ≤ 8589934592 * (([((r, b 75 r) : Nat × Int)]).length : Int)
      rw [List.length_singleton]
      omega
    · rw [z77 k u p q]
      show - (8589934592 * ((0 : Nat) : Int) + 2147483648) ≤ 0 ∧ 0 ≤ 8589934592 * ((0 : Nat) : Int) + 2147483648
      omega
  have I : LvI R K S sl fr D al pt cu X (ndP rho del lam) kap 0 0 (fun r => [(r, b 75 r)]) (fun _ _ => []) b := by
    refine ⟨⟨F1, G, fun r k p _ q => absurd q (i4 r p p), ⟨Tl, i5.hle (fun _ _ => Nat.le_refl _)⟩, fun k p _ => by rw [z77 k (S - 1) p (by omega), i8]; exact Int.le_refl _⟩, fun k p => by rw [z77 k (S - 1) p (by omega), i8]; exact Int.le_refl _, fun r hr _ => by rw [i7]; exact (i1 r hr).1, fun r hr _ q => absurd q (i4 r hr hr), fun r hr => (i1 r hr).1, fun k u p q => by rw [z77 k u p q]; exact Int.le_refl _, [], ⟨trivial, fun x hx => absurd hx List.not_mem_nil, fun x hx => absurd hx List.not_mem_nil⟩, ?_⟩
    rw [i8]
    show - (8589934592 * ((0 : Nat) : Int) + 2147483648) ≤ 0 ∧ 0 ≤ 8589934592 * ((0 : Nat) : Int) + 2147483648
    omega
  obtain ⟨⟨h2, hk2, j2, Hd2, ⟨⟨F2, G2, A2, _, l7⟩, l8, l6, l5, lr, lp, _⟩⟩, z80, o1⟩ := level116 hS hL hD fu2 0 b rr t _ _ 0 w1 I (Nat.zero_le _) (by omega)
  obtain ⟨⟨a1', a2'⟩, b2', cc, ⟨d1, d2, d3⟩, _, _⟩ := G2
  have kc1 : ∀ k u, u < S → kcX S t k u = t 77 (24 * k + u) := fun k u q => if_pos q
  have kcS : ∀ k, kcX S t k S = t 74 6 := fun k => if_neg (Nat.lt_irrefl S)
  refine ⟨F2, ⟨fun r k p q _ ha hx => ?_, fun r k p q _ hx => ?_, fun k u p q => ?_, fun k u p q hp => ?_, fun k p => kcS k⟩, ⟨fun r p q => l5 r p q (z80 r p), l6⟩, fun r p => ?_, fun k u p q => ?_, fun y hy => ?_⟩
  · rw [kc1 k (sl r) (hs r p)]
    exact A2 r k p q (z80 r p) (by have := lr r p; omega) (fun w => w) ha hx
  · rw [kc1 k (sl r) (hs r p)]
    exact d3 r k p q hx (by have := lp k (sl r) q (hs r p); omega)
  · rw [kc1 k u q]
    by_cases y : u + 1 < S
    · rw [kc1 k (u + 1) y]
      exact d1 k u p y
    · have e : u + 1 = S := by omega
      have e2 : u = S - 1 := by omega
      rw [e, kcS, e2]
      exact l8 k p
  · rw [kc1 k u q]
    by_cases y : u + 1 < S
    · rw [kc1 k (u + 1) y]
      exact d2 k u p y hp
    · have e : u + 1 = S := by omega
      have e2 : u = S - 1 := by omega
      rw [e2] at hp
      rw [e, kcS, e2]
      exact l7 k p hp
  · obtain ⟨_, y1, y2⟩ := b2' r p (by have := lr r p; omega)
    have y3 := y1.len
    omega
  · obtain ⟨y1, y2⟩ := cc k u p q (by have := lp k u p q; omega)
    have y3 := y1.len
    omega
  · rw [o1 y hy, w3 y hy, k39 y hy]
end Lv3
