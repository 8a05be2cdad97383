/-! the ranker: row by row, kind by kind, the first that can be -/
/-- of the best ones none is ahead of it up to place n (children in their order, co: a row's child) -/
def LexP (R K S : Nat) (sl : Nat → Nat) (D : Nat → Int) (al : Nat → Nat → Prop) (pt cu : Nat → Nat → Int) (co : Nat → Nat) (n : Nat) (X : Nat → Nat → Int) : Prop := ∀ Y, RowOk R K S sl D al cu Y → dSize R K Y = dSize R K X → dPts R K pt Y = dPts R K pt X → (∀ r k, r < R → k < K → 10 * co r + k < n → Y r k = X r k) ∨ ∃ r0 k0, r0 < R ∧ k0 < K ∧ 10 * co r0 + k0 < n ∧ (∀ r k, r < R → k < K → 10 * co r + k < 10 * co r0 + k0 → Y r k = X r k) ∧ X r0 k0 = 1 ∧ Y r0 k0 = 0
def RkB (R K S : Nat) (sl fr : Nat → Nat) (D : Nat → Int) (al : Nat → Nat → Prop) (pt cu X : Nat → Nat → Int) (s : PS) : Prop := FlS R K S sl fr D al pt cu X s ∧ RowOk R K S sl D al cu X ∧ Lab4 (fun _ _ => False) R K S sl al pt cu X (s 75) (kcX S s) (s 74 6) ∧ LabD R K D X (s 75) (s 74 5) ∧ RgS R K S s
def FixI (R K : Nat) (co : Nat → Nat) (n : Nat) (s : PS) : Prop := ∀ r k, r < R → k < K → (tb (s 82 r) k = true ↔ 10 * co r + k < n)
def StA (b : Int) (s : PS) : Prop := (-2147483648 ≤ s 81 4 ∧ s 81 4 ≤ b) ∧ (∀ x, x < 40 → s 83 x ≤ s 81 4) ∧ ∀ x, x < 240 → s 85 x ≤ s 81 4
section Rk1
variable {R K S g k0 n n2 : Nat} {sl fr co : Nat → Nat} {D : Nat → Int} {al : Nat → Nat → Prop} {pt cu X X2 Y : Nat → Nat → Int} {s t u : PS} {rr b b2 : Int}
theorem LexP.ch (h : LexP R K S sl D al pt cu co n X) (hsz : dSize R K X2 = dSize R K X) (hps : dPts R K pt X2 = dPts R K pt X) (e : ∀ r k, r < R → k < K → 10 * co r + k < n → X2 r k = X r k) : LexP R K S sl D al pt cu co n X2 := by
  intro Y y1 y2 y3
  rcases h Y y1 (y2.trans hsz) (y3.trans hps) with w | ⟨r0, k0, a, b, c, d, e1, f⟩
  · exact Or.inl (fun r k p q v => by rw [e r k p q v]; exact w r k p q v)
  · exact Or.inr ⟨r0, k0, a, b, c, fun r k p q v => by rw [e r k p q (by omega)]; exact d r k p q v, by rw [e r0 k0 a b c]; exact e1, f⟩
theorem LexP.to (h : LexP R K S sl D al pt cu co n X) (hn : n ≤ n2) (hh : ∀ Y, RowOk R K S sl D al cu Y → (∀ r k, r < R → k < K → 10 * co r + k < n → Y r k = X r k) → ∀ r k, r < R → k < K → 10 * co r + k < n2 → Y r k = X r k) : LexP R K S sl D al pt cu co n2 X := by
  intro Y y1 y2 y3
  rcases h Y y1 y2 y3 with w | ⟨r0, k0, a, b, c, d⟩
  · exact Or.inl (hh Y y1 w)
  · exact Or.inr ⟨r0, k0, a, b, by omega, d⟩
theorem LexP.st (h : LexP R K S sl D al pt cu co n X) (hco : ∀ r r', r < R → r' < R → co r = co r' → r = r') (hg : g < R) (hk : k0 < K) (hK : K ≤ 10) (hn : n = 10 * co g + k0) (hh : ∀ Y, RowOk R K S sl D al cu Y → dSize R K Y = dSize R K X → dPts R K pt Y = dPts R K pt X → (∀ r k, r < R → k < K → 10 * co r + k < n → Y r k = X r k) → Y g k0 = X g k0 ∨ (X g k0 = 1 ∧ Y g k0 = 0)) : LexP R K S sl D al pt cu co (n + 1) X := by
  intro Y y1 y2 y3
  rcases h Y y1 y2 y3 with w | ⟨r0, k1, a, b, c, d⟩
  · rcases hh Y y1 y2 y3 w with z | ⟨z1, z2⟩
    · refine Or.inl (fun r k p q v => ?_)
      by_cases c : 10 * co r + k < n
      · exact w r k p q c
      · have e1 : co r = co g := by omega
        have e2 : k = k0 := by omega
        rw [hco r g p hg e1, e2]
        exact z
    · exact Or.inr ⟨g, k0, hg, hk, by omega, fun r k p q v => w r k p q (by omega), z1, z2⟩
  · exact Or.inr ⟨r0, k1, a, b, by omega, d⟩
theorem RkB.cg (h : RkB R K S sl fr D al pt cu X s) (e : ∀ x, 64 ≤ x → x ≤ 77 → t x = s x) : RkB R K S sl fr D al pt cu X t := by
  obtain ⟨h1, h2, h3, h4, h5⟩ := h
  have kc : kcX S t = kcX S s := by
    funext k u
    unfold kcX
    rw [e 77 (by decide) (by decide), e 74 (by decide) (by decide)]
  refine ⟨h1.cg (fun x x1 x2 => e x x1 (by omega)), h2, ?_, ?_, ?_⟩
  · rw [kc, e 75 (by decide) (by decide), e 74 (by decide) (by decide)]
    exact h3
  · rw [e 75 (by decide) (by decide), e 74 (by decide) (by decide)]
    exact h4
  · unfold RgS
    rw [e 75 (by decide) (by decide), e 77 (by decide) (by decide)]
    exact h5
theorem StA.mo (h : StA b s) (m : StpM s t) : StA b t := by
  obtain ⟨h1, h2, h3⟩ := h
  obtain ⟨m1, m2, m3⟩ := m
  refine ⟨by rw [m1]; exact h1, fun x hx => ?_, fun x hx => ?_⟩
  · have z := h2 x hx
    rcases m2 x with y | y <;> omega
  · have z := h3 x hx
    rcases m3 x with y | y <;> omega
theorem StA.cg (h : StA b s) (e4 : t 81 4 = s 81 4) (e83 : t 83 = s 83) (e85 : t 85 = s 85) : StA b t := by
  unfold StA at h ⊢
  rw [e4, e83, e85]
  exact h
theorem StA.le (h : StA b s) (hb : b ≤ b2) : StA b2 s := by
  obtain ⟨h1, h2⟩ := h
  exact ⟨⟨h1.1, by omega⟩, h2⟩
/-- a new search: nothing is seen -/
theorem freshF (hR : R ≤ 40) (hK : K ≤ 10) (hS : S ≤ 24) (hg : g < R) (hst : StA b s) (hb : b < 2147483647) (m : M_X9_freshSearch s rr t) : ClS R K S sl D al pt cu X g t ∧ StA (b + 1) t ∧ (∀ x, ¬ x = 81 → t x = s x) ∧ t 81 2 = s 81 2 := by
  obtain ⟨⟨a0, a1⟩, a2, a3⟩ := hst
  unfold M_X9_freshSearch T_X9_freshSearch_e at m
  obtain ⟨_, s1, e1, s2, e2, s3, e3, s4, e4, s5, e5, s6, e6, s7, e7, _, et⟩ := m
  have w : wi (s 81 4 + 1) = s 81 4 + 1 := wi_id (by omega) (by omega)
  have k : ∀ x, ¬ x = 81 → t x = s x := fun x hx => by rw [et, e7, us_k hx, e6, us_k hx, e5, us_k hx, e4, us_k hx, e3, us_k hx, e2, us_k hx, e1, us_k hx]
  have k81 : ∀ j, t 81 j = if j = 15 then 0 else if j = 14 then 0 else if j = 13 then -1 else if j = 12 then -1 else if j = 11 then 0 else if j = 10 then 0 else if j = 4 then s 81 4 + 1 else s 81 j := fun j => by rw [et, e7, us_if, e6, us_if, e5, us_if, e4, us_if, e3, us_if, e2, us_if, e1, us_if, w]
  have v15 : t 81 15 = 0 := by rw [k81]; rfl
  have v14 : t 81 14 = 0 := by rw [k81]; rfl
  have v13 : t 81 13 = -1 := by rw [k81]; rfl
  have v12 : t 81 12 = -1 := by rw [k81]; rfl
  have v11 : t 81 11 = 0 := by rw [k81]; rfl
  have v10 : t 81 10 = 0 := by rw [k81]; rfl
  have v4 : t 81 4 = s 81 4 + 1 := by rw [k81]; rfl
  have v2 : t 81 2 = s 81 2 := by rw [k81]; rfl
  have nV : ∀ r, r < R → ¬ Vs t r := fun r hr q => by
    unfold Vs at q
    rw [k 83 (by decide), v4] at q
    have z := a2 r (by omega)
    omega
  have nW : ∀ k' u, k' < K → u < S → ¬ Ws t k' u := fun k' u p p2 q => by
    unfold Ws at q
    rw [k 85 (by decide), v4] at q
    have z := a3 (24 * k' + u) (by omega)
    omega
  refine ⟨⟨⟨⟨⟨0, v11, fun i hi => absurd hi (Nat.not_lt_zero i), fun i j hi => absurd hi (Nat.not_lt_zero i), fun r hr q => absurd q (nV r hr)⟩, fun j r hr _ hj => absurd hj (by rw [v11]; omega), fun k' u p q z => absurd z (nW k' u p q), Or.inl v12, Or.inl v13, ⟨fun z => absurd z (by rw [v14]; decide), fun z => absurd z (by rw [v15]; decide)⟩, fun r hr q => absurd q (nV r hr)⟩, ⟨0, v10, by rw [v10, v11]; exact Int.le_refl _, fun i _ hi => absurd hi (Nat.not_lt_zero i)⟩, Or.inl v14, Or.inl v15⟩, by rw [v10, v11]; exact Int.le_refl _, Or.inl v12, Or.inl v13, nV g hg⟩, ⟨by rw [v4]; omega, fun x hx => ?_, fun x hx => ?_⟩, k, v2⟩
  · rw [k 83 (by decide), v4]
    have z := a2 x hx
    omega
  · rw [k 85 (by decide), v4]
    have z := a3 x hx
    omega
/-- one kind more is settled for the goal -/
theorem ClS.fx {v : Int} (h : ClS R K S sl D al pt cu X g s) (e : t = us s 82 g v) (hv : ∀ k, k < K → tb v k = false → tb (s 82 g) k = false) : ClS R K S sl D al pt cu X g t := by
  obtain ⟨⟨⟨iL, iR, iP, i12, i13, i14, iC⟩, ⟨H, h10, h11, hArc⟩, hdu, hle⟩, hend, he12, he13, hng⟩ := h
  have k : ∀ x, ¬ x = 82 → t x = s x := fun x hx => by rw [e, us_k hx]
  have k82 : ∀ r, ¬ r = g → t 82 r = s 82 r := fun r hr => by rw [e, us_if, if_neg hr]
  have kg : t 82 g = v := by rw [e, us_at]
  have mono : ∀ r k', k' < K → tb (t 82 r) k' = false → tb (s 82 r) k' = false := fun r k' hk' q => by
    by_cases c : r = g
    · rw [c, kg] at q
      rw [c]
      exact hv k' hk' q
    · rw [k82 r c] at q
      exact q
  have k81 := k 81 (by decide)
  have eV : ∀ r, Vs t r ↔ Vs s r := fun r => by
    unfold Vs
    rw [k 83 (by decide), k81]
  have eW : ∀ k' u, Ws t k' u ↔ Ws s k' u := fun k' u => by
    unfold Ws
    rw [k 85 (by decide), k81]
  have eA : ∀ j b, Ahd s g j b → Ahd t g j b := fun j b q => by
    unfold Ahd at q ⊢
    rw [k 87 (by decide)]
    exact q
  refine ⟨⟨⟨?_, fun j r hr ej hj => ?_, fun k2 u q1 q2 q => ?_, ?_, ?_, ?_, fun r hr q p z => ?_⟩, ⟨H, by rw [k81]; exact h10, by rw [k81]; exact h11, fun i b hi eb k' k1 k2 a1 a2 a3 a4 => ?_⟩, ?_, ?_⟩, by rw [k81]; exact hend, by rw [k81]; exact he12, by rw [k81]; exact he13, fun q => hng ((eV g).mp q)⟩
  · unfold LiI at iL ⊢
    rw [k81, k 87 (by decide), k 83 (by decide)]
    exact iL
  · rw [k 87 (by decide)] at ej
    rw [k81] at hj
    have vr := (iL.vs hj ej).2
    have ng : ¬ r = g := fun q => hng (by rw [← q]; exact vr)
    rcases iR j r hr ej hj with ⟨z1, z2, z3, z4, lo', i, z5, z6, z7, z8⟩ | ⟨k', z1, z2, z3, z4, z5, z6, z7⟩
    · exact Or.inl ⟨by rw [k 84 (by decide)]; exact z1, by rw [k81]; exact z2, z3, by rw [k 75 (by decide), k 74 (by decide)]; exact z4, lo', i, z5, by rw [k81]; exact z6, z7, by rw [k 87 (by decide)]; exact z8⟩
    · refine Or.inr ⟨k', z1, by rw [k 84 (by decide)]; exact z2, z3, by rw [k82 r ng]; exact z4, (eW k' (sl r)).mpr z5, by rw [k 75 (by decide), k 77 (by decide)]; exact z6, ?_⟩
      rw [k 86 (by decide), k81]
      rcases z7 with ⟨b, b1, b2, b3⟩ | ⟨b1, lk, b, b2, b3, b4, b5, b6⟩
      · exact Or.inl ⟨b, b1, b2, eA j b b3⟩
      · exact Or.inr ⟨b1, lk, b, b2, b3, b4, b5, eA j b b6⟩
  · obtain ⟨z1, c1, c2, c3, c4⟩ := iP k2 u q1 q2 ((eW k2 u).mp q)
    refine ⟨?_, fun a ha a1 a2 a3 a4 => (eV a).mpr (c1 a ha a1 a2 (mono a k2 q1 a3) (by rw [← k 75 (by decide), ← k 77 (by decide)]; exact a4)), fun a1 a2 => (eW k2 (u - 1)).mpr (c2 a1 (by rw [← k 77 (by decide)]; exact a2)), fun a1 a2 a3 => (eW k2 (u + 1)).mpr (c3 a1 a2 (by rw [← k 77 (by decide)]; exact a3)), fun a1 a2 a3 => by rw [k81]; exact c4 a1 a2 (by rw [← k 77 (by decide), ← k 74 (by decide)]; exact a3)⟩
    rcases z1 with ⟨b, b1, b2, b3, b4, b5, b6, b7, b8, b9⟩ | ⟨b1, b2, b3, b4⟩
    · refine Or.inl ⟨b, b1, by rw [k 86 (by decide)]; exact b2, b3.imp id (eV b).mpr, b4, b5, fun z => by rw [k82 b z]; exact b6 z, by rw [k 77 (by decide), k 75 (by decide)]; exact b7, fun x x1 x2 => ?_, b9⟩
      obtain ⟨y1, y2, y3⟩ := b8 x x1 x2
      exact ⟨by rw [k 77 (by decide)]; exact y1, (eW k2 x).mpr y2, by rw [k 86 (by decide)]; exact y3⟩
    · refine Or.inr ⟨by rw [k 86 (by decide)]; exact b1, by rw [k81]; exact b2, by rw [k 77 (by decide), k 74 (by decide)]; exact b3, fun x x1 x2 => ?_⟩
      obtain ⟨y1, y2, y3⟩ := b4 x x1 x2
      exact ⟨by rw [k 77 (by decide), k 74 (by decide)]; exact y1, (eW k2 x).mpr y2, by rw [k 86 (by decide)]; exact y3⟩
  · rw [k81, k 84 (by decide), k 75 (by decide), k 74 (by decide)]
    rcases i12 with z | ⟨lo', z1, z2, z3, z4⟩
    · exact Or.inl z
    · exact Or.inr ⟨lo', z1, z2, (eV lo').mpr z3, z4⟩
  · rw [k81, k 77 (by decide), k 74 (by decide), k 86 (by decide)]
    rcases i13 with z | ⟨lk, b, z1, z2, z3, z4⟩
    · exact Or.inl z
    · exact Or.inr ⟨lk, b, z1, z2, (eW lk (S - 1)).mpr z3, z4⟩
  · rw [k81]
    exact i14
  · rw [k81]
    exact iC r hr ((eV r).mp q) p (by rw [← k 75 (by decide), ← k 74 (by decide)]; exact z)
  · rw [k 87 (by decide)] at eb
    rw [k 77 (by decide), k 75 (by decide)] at a4
    exact (eW k' (sl b)).mpr (hArc i b hi eb k' k1 k2 a1 a2 (mono b k' k2 a3) a4)
  · rw [k81, k 75 (by decide), k 74 (by decide)]
    rcases hdu with y | ⟨y1, y2⟩
    · exact Or.inl y
    · exact Or.inr ⟨y1, fun r hr a b => (eV r).mpr (y2 r hr a b)⟩
  · rw [k81, k 77 (by decide), k 74 (by decide)]
    rcases hle with y | ⟨y1, y2⟩
    · exact Or.inl y
    · exact Or.inr ⟨y1, fun k' hk a => (eW k' (S - 1)).mpr (y2 k' hk a)⟩
theorem canF (hF : FlS R K S sl fr D al pt cu X s) (hg : g < R) (m : M_X9_canChange s (g : Int) rr t) : t = s ∧ (rr = 0 → D g ≤ sgN (X g) K ∧ ∀ k, k < K → X g k = 1 → tb (s 82 g) k = true) := by
  unfold M_X9_canChange T_X9_canChange_e at m
  obtain ⟨_, _, m⟩ := m
  rw [Int.toNat_natCast, (hF.2.2.1 g hg).2.2.1, (hF.2.2.1 g hg).2.2.2] at m
  rcases m with ⟨c, er, et⟩ | ⟨c, m⟩
  · exact ⟨et, fun q => absurd q (by omega)⟩
  · rcases m with ⟨c2, er, et⟩ | ⟨c2, er, et⟩
    · refine ⟨et, fun _ => ⟨by omega, fun k hk hx => ?_⟩⟩
      have k32 : k < 32 := by
        have := hF.2.1
        omega
      have z : tb (iAnd (s 70 g) (iXor (s 82 g) (-1))) k = false := by
        rw [c2]
        exact tb_zero k32
      rw [tb_and2 k32, tb_xor2 k32, tb_m32 ⟨k, k32⟩, (hF.2.2.2.1 g k hg hk).2.1.mpr hx] at z
      cases h2 : tb (s 82 g) k with
      | true => rfl
      | false =>
        rw [h2] at z
        exact absurd z (by decide)
    · exact ⟨et, fun q => absurd q (by omega)⟩
theorem tb_all1 : ∀ (K : Fin 11) (k : Fin 10), k.val < K.val → tb (wi (iShl 1 (K.val : Int) - 1)) k.val = true := by decide +kernel
/-- the row's end: all its kinds are settled -/
theorem rank89 {kx : Nat} {f : Nat → Int → Int → PS → Int → PS → Prop} (hco : ∀ r r', r < R → r' < R → co r = co r' → r = r') (hg : g < R) (hB : RkB R K S sl fr D al pt cu X s) (hfx : FixI R K co (10 * co g + kx) s) (hkx : kx ≤ K) (m : T_X9_rankRow_89 f (g : Int) (kx : Int) s rr t) : RkB R K S sl fr D al pt cu X t ∧ FixI R K co (10 * co g + K) t ∧ ∀ x, ¬ x = 82 → t x = s x := by
  unfold T_X9_rankRow_89 at m
  obtain ⟨_, _, _, s2, e2, _, et⟩ := m
  rw [hB.1.1.1, Int.toNat_natCast] at e2
  have k : ∀ x, ¬ x = 82 → t x = s x := fun x hx => by rw [et, e2, us_k hx]
  have hK := hB.1.2.1.2.1
  refine ⟨hB.cg (fun x x1 x2 => k x (by omega)), fun r k' hr hk' => ?_, k⟩
  rw [et, e2, us_if]
  by_cases c : r = g
  · rw [if_pos c, c]
    exact ⟨fun _ => by omega, fun _ => tb_all1 ⟨K, by omega⟩ ⟨k', by omega⟩ hk'⟩
  · rw [if_neg c, hfx r k' hr hk']
    have nc : ¬ co r = co g := fun q => c (hco r g hr hg q)
    omega
/-- a row that can't change any more: who agrees so far agrees in all its kinds -/
theorem stop_no {kx : Nat} (hF : FlS R K S sl fr D al pt cu X s) (hco : ∀ r r', r < R → r' < R → co r = co r' → r = r') (hg : g < R) (hfx : FixI R K co (10 * co g + kx) s) (hD : D g ≤ sgN (X g) K) (hall : ∀ k, k < K → X g k = 1 → tb (s 82 g) k = true) (hY : RowOk R K S sl D al cu Y) (hag : ∀ r k, r < R → k < K → 10 * co r + k < 10 * co g + kx → Y r k = X r k) : ∀ r k, r < R → k < K → 10 * co r + k < 10 * co g + K → Y r k = X r k := by
  have hX01 := hF.st.2.2.2
  have hK := hF.2.1.2.1
  have z0 : ∀ k, k < K → kx ≤ k → X g k = 0 := fun k hk hk2 => by
    rcases hX01 g k hg hk with y | y
    · exact y
    · have w := (hfx g k hg hk).mp (hall k hk y)
      omega
  have le : ∀ k, k < K → 0 ≤ Y g k - X g k := fun k hk => by
    by_cases c : k < kx
    · rw [hag g k hg hk (by omega)]
      omega
    · have a := z0 k hk (by omega)
      have b := (hY.1 g k hg hk).1
      omega
  intro r k hr hk hlt
  by_cases c : 10 * co r + k < 10 * co g + kx
  · exact hag r k hr hk c
  · have e : co r = co g := by omega
    have er := hco r g hr hg e
    rw [er]
    have a := z0 k hk (by rw [er] at c; omega)
    rcases (hY.1 g k hg hk).1 with y | y
    · rw [y, a]
    · have p := sgN_gt (f := fun k => Y g k - X g k) hk le (by
        show 0 < Y g k - X g k
        omega)
      rw [sgN_sub (f := Y g) (g := X g) K] at p
      have q := hY.2.1 g hg
      omega
end Rk1
