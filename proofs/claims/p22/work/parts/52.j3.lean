/-! from rows to children -/
section Rtc
variable {n K R S : Nat} {D : Nat → Int} {dy : Nat → Nat} {Al : Nat → Nat → Prop} {Pt cu X Y : Nat → Nat → Int} {ch sl dd : Nat → Nat} {f : Nat → Int}
/-- a sum over children is one over rows -/
theorem sgN_ix : ∀ (R : Nat) (f : Nat → Int), (∀ r, r < R → ch r < n) → (∀ r r', r < R → r' < R → ch r = ch r' → r = r') → (∀ c, c < n → (∀ r, r < R → ¬ ch r = c) → f c = 0) → sgN f n = sgN (fun r => f (ch r)) R
  | 0, f, _, _, h => sgN_0 n (fun c hc => h c hc (fun r hr => absurd hr (Nat.not_lt_zero r)))
  | R + 1, f, h1, h2, h3 => by
    have u := sgN_up (f := fun c => if c = ch R then 0 else f c) (g := f) n (ch R) (h1 R (Nat.lt_succ_self R)) (fun i _ hi => by
      show f i = if i = ch R then 0 else f i
      rw [if_neg hi])
    rw [if_pos rfl] at u
    have z := sgN_ix R (fun c => if c = ch R then 0 else f c) (fun r hr => h1 r (by omega)) (fun r r' hr hr' e => h2 r r' (by omega) (by omega) e) (fun c hc hne => by
      show (if c = ch R then 0 else f c) = 0
      by_cases y : c = ch R
      · rw [if_pos y]
      · rw [if_neg y]
        refine h3 c hc (fun r hr e => ?_)
        by_cases y2 : r = R
        · rw [y2] at e
          exact y e.symm
        · exact hne r (by omega) e)
    have w : sgN (fun r => if ch r = ch R then 0 else f (ch r)) R = sgN (fun r => f (ch r)) R := sgN_cg R (fun r hr => by
      show (if ch r = ch R then 0 else f (ch r)) = f (ch r)
      rw [if_neg (fun e => by
        have y := h2 r R (by omega) (by omega) e
        omega)])
    show sgN f n = sgN (fun r => f (ch r)) R + f (ch R)
    rw [u, z]
    show sgN (fun r => if ch r = ch R then 0 else f (ch r)) R + (f (ch R) - 0) = _
    rw [w]
    omega
/-- what a child has, by its row -/
def xRow (R : Nat) (ch : Nat → Nat) (X : Nat → Nat → Int) (c k : Nat) : Int := sgN (fun r => if ch r = c then X r k else 0) R
theorem xRow_at (h2 : ∀ r r', r < R → r' < R → ch r = ch r' → r = r') {r k : Nat} (hr : r < R) : xRow R ch X (ch r) k = X r k := by
  unfold xRow
  rw [sgN_one R r hr (fun i hi hne => if_neg (fun e => hne (h2 i r hi hr e))), if_pos rfl]
theorem xRow_0 {c k : Nat} (h : ∀ r, r < R → ¬ ch r = c) : xRow R ch X c k = 0 := sgN_0 R (fun r hr => if_neg (h r hr))
/-- rows and children belong together -/
def RcI (n K R S : Nat) (D : Nat → Int) (dy : Nat → Nat) (cu : Nat → Nat → Int) (ch sl dd : Nat → Nat) : Prop := ((∀ r, r < R → ch r < n ∧ 0 < D (ch r)) ∧ (∀ r r', r < R → r' < R → ch r = ch r' → r = r') ∧ ∀ c, c < n → 0 < D c → ∃ r, r < R ∧ ch r = c) ∧ (∀ r, r < R → sl r < S ∧ dy (ch r) = dd (sl r)) ∧ (∀ t u, t < u → u < S → dd t < dd u) ∧ (∀ t, t < S → 1 ≤ dd t ∧ dd t ≤ 24) ∧ (∀ c, c < n → 0 ≤ D c) ∧ (∀ k d, k < K → d ≤ 24 → 0 ≤ cu k d) ∧ ∀ k d d', k < K → d ≤ d' → d' ≤ 24 → cu k d ≤ cu k d'
theorem RcI.le (h : RcI n K R S D dy cu ch sl dd) {r u : Nat} (hr : r < R) (hu : u < S) : dd (sl r) ≤ dd u ↔ sl r ≤ u := by
  have m := h.2.2.1
  have s1 := (h.2.1 r hr).1
  constructor
  · intro q
    by_cases y : sl r ≤ u
    · exact y
    · have z := m u (sl r) (by omega) s1
      omega
  · intro q
    by_cases y : sl r = u
    · rw [y]
      exact Nat.le_refl _
    · have z := m (sl r) u (by omega) hu
      omega
/-- whom nothing is due has nothing -/
theorem RcI.no (h : RcI n K R S D dy cu ch sl dd) (hY : DealOk n K D dy Al cu Y) {c k : Nat} (hc : c < n) (hk : k < K) (hne : ∀ r, r < R → ¬ ch r = c) : Y c k = 0 := by
  have d0 : D c ≤ 0 := by
    by_cases y : 0 < D c
    · obtain ⟨r, r1, r2⟩ := h.1.2.2 c hc y
      exact absurd r2 (hne r r1)
    · omega
  have z := hY.2.1 c hc
  have w := sgN_ge (f := Y c) K k hk (fun i hi => by
    have v := (hY.1 c i hc hi).1
    omega)
  have v := (hY.1 c k hc hk).1
  omega
theorem RcI.rows (h : RcI n K R S D dy cu ch sl dd) (hY : DealOk n K D dy Al cu Y) : RowOk R K S sl (fun r => D (ch r)) (fun r k => Al (ch r) k) (fun k u => cu k (dd u)) (fun r k => Y (ch r) k) ∧ dSize R K (fun r k => Y (ch r) k) = dSize n K Y ∧ dPts R K (fun r k => Pt (ch r) k) (fun r k => Y (ch r) k) = dPts n K Pt Y := by
  obtain ⟨⟨h1, h2, h3⟩, h4, h5, h6, h7⟩ := id h
  refine ⟨⟨fun r k hr hk => hY.1 (ch r) k (h1 r hr).1 hk, fun r hr => hY.2.1 (ch r) (h1 r hr).1, fun k u hk hu => ?_⟩, ?_, ?_⟩
  · have z := hY.2.2 k (dd u) hk (h6 u hu).2
    rw [sgN_ix (ch := ch) R (fun c => if dy c ≤ dd u then Y c k else 0) (fun r hr => (h1 r hr).1) h2 (fun c hc hne => by
      show (if dy c ≤ dd u then Y c k else 0) = 0
      rw [h.no hY hc hk hne]
      split <;> rfl)] at z
    have w : sgN (fun r => if dy (ch r) ≤ dd u then Y (ch r) k else 0) R = sgN (fun r => if sl r ≤ u then Y (ch r) k else 0) R := sgN_cg R (fun r hr => by
      show (if dy (ch r) ≤ dd u then Y (ch r) k else 0) = if sl r ≤ u then Y (ch r) k else 0
      rw [(h4 r hr).2]
      by_cases y : sl r ≤ u
      · rw [if_pos y, if_pos ((h.le hr hu).mpr y)]
      · rw [if_neg y, if_neg (fun q => y ((h.le hr hu).mp q))])
    unfold rStk
    show 0 ≤ cu k (dd u) - sgN (fun r => if sl r ≤ u then Y (ch r) k else 0) R
    rw [← w]
    omega
  · unfold dSize
    rw [sgN_ix (ch := ch) R (fun c => sgN (fun i => Y c i) K) (fun r hr => (h1 r hr).1) h2 (fun c hc hne => sgN_0 K (fun i hi => h.no hY hc hi hne))]
  · unfold dPts
    rw [sgN_ix (ch := ch) R (fun c => sgN (fun i => Pt c i * Y c i) K) (fun r hr => (h1 r hr).1) h2 (fun c hc hne => sgN_0 K (fun i hi => by
      show Pt c i * Y c i = 0
      rw [h.no hY hc hi hne, Int.mul_zero]))]
theorem RcI.deal (h : RcI n K R S D dy cu ch sl dd) (hX : RowOk R K S sl (fun r => D (ch r)) (fun r k => Al (ch r) k) (fun k u => cu k (dd u)) X) : DealOk n K D dy Al cu (xRow R ch X) := by
  obtain ⟨⟨h1, h2, h3⟩, h4, h5, h6, h7, h8, h9⟩ := id h
  have dec : ∀ c, (∃ r, r < R ∧ ch r = c) ∨ ∀ r, r < R → ¬ ch r = c := fun c => by
    by_cases y : ∃ r, r < R ∧ ch r = c
    · exact Or.inl y
    · exact Or.inr (fun r hr e => y ⟨r, hr, e⟩)
  refine ⟨fun c k hc hk => ?_, fun c hc => ?_, fun k d hk hd => ?_⟩
  · rcases dec c with ⟨r, r1, r2⟩ | y
    · rw [← r2, xRow_at h2 r1]
      exact hX.1 r k r1 hk
    · rw [xRow_0 y]
      exact ⟨Or.inl rfl, fun q => absurd q (by decide)⟩
  · rcases dec c with ⟨r, r1, r2⟩ | y
    · rw [← r2]
      have z := hX.2.1 r r1
      rw [← sgN_cg (f := xRow R ch X (ch r)) (g := X r) K (fun k hk => xRow_at h2 r1)] at z
      exact z
    · rw [sgN_0 K (fun k hk => xRow_0 y)]
      exact h7 c hc
  · have x01 : ∀ r, r < R → 0 ≤ X r k := fun r hr => by
      have z := (hX.1 r k hr hk).1
      omega
    rw [sgN_ix (ch := ch) R (fun c => if dy c ≤ d then xRow R ch X c k else 0) (fun r hr => (h1 r hr).1) h2 (fun c hc hne => by
      show (if dy c ≤ d then xRow R ch X c k else 0) = 0
      rw [xRow_0 hne]
      split <;> rfl)]
    have w : sgN (fun r => if dy (ch r) ≤ d then xRow R ch X (ch r) k else 0) R = sgN (fun r => if dd (sl r) ≤ d then X r k else 0) R := sgN_cg R (fun r hr => by
      show (if dy (ch r) ≤ d then xRow R ch X (ch r) k else 0) = if dd (sl r) ≤ d then X r k else 0
      rw [(h4 r hr).2, xRow_at h2 hr])
    rw [w]
    have up : ∀ m : Nat, m ≤ S → (∀ r, r < R → dd (sl r) ≤ d → sl r < m) → sgN (fun r => if dd (sl r) ≤ d then X r k else 0) R ≤ cu k d := by
      intro m
      induction m with
      | zero =>
        intro _ hm
        rw [sgN_0 R (fun r hr => if_neg (fun q => absurd (hm r hr q) (Nat.not_lt_zero _)))]
        exact h8 k d hk hd
      | succ m ih =>
        intro hmS hm
        by_cases y : dd m ≤ d
        · have z := hX.2.2 k m hk (by omega)
          have e : sgN (fun r => if dd (sl r) ≤ d then X r k else 0) R = sgN (fun r => if sl r ≤ m then X r k else 0) R := sgN_cg R (fun r hr => by
            show (if dd (sl r) ≤ d then X r k else 0) = if sl r ≤ m then X r k else 0
            by_cases y2 : sl r ≤ m
            · have v := (h.le hr (show m < S by omega)).mpr y2
              rw [if_pos y2, if_pos (by omega)]
            · rw [if_neg y2, if_neg (fun q => by
                have v := hm r hr q
                omega)])
          have v := h9 k (dd m) d hk y hd
          rw [e]
          unfold rStk at z
          have z2 : 0 ≤ cu k (dd m) - sgN (fun r => if sl r ≤ m then X r k else 0) R := z
          omega
        · refine ih (by omega) (fun r hr q => ?_)
          have v := hm r hr q
          by_cases y2 : sl r = m
          · rw [y2] at q
            exact absurd q y
          · omega
    exact up S (Nat.le_refl S) (fun r hr _ => (h4 r hr).1)
/-- the best of rows is the best of children -/
theorem RcI.best (h : RcI n K R S D dy cu ch sl dd) (hn : n ≤ 40) (hK : K ≤ 10) (hX : RowOk R K S sl (fun r => D (ch r)) (fun r k => Al (ch r) k) (fun k u => cu k (dd u)) X) (hb : ∀ Y, RowOk R K S sl (fun r => D (ch r)) (fun r k => Al (ch r) k) (fun k u => cu k (dd u)) Y → dSize R K Y ≤ dSize R K X ∧ (dSize R K Y = dSize R K X → dPts R K (fun r k => Pt (ch r) k) Y ≤ dPts R K (fun r k => Pt (ch r) k) X)) (hl : LexP R K S sl (fun r => D (ch r)) (fun r k => Al (ch r) k) (fun r k => Pt (ch r) k) (fun k u => cu k (dd u)) ch 400 X) : BestD n K D dy Al cu Pt (xRow R ch X) := by
  obtain ⟨⟨h1, h2, h3⟩, h4, h5, h6, h7, h8, h9⟩ := id h
  have hd := h.deal hX
  have ex : ∀ r k, r < R → xRow R ch X (ch r) k = X r k := fun r k hr => xRow_at h2 hr
  obtain ⟨_, sz, ps⟩ := h.rows (Pt := Pt) hd
  have sz2 : dSize n K (xRow R ch X) = dSize R K X := by
    rw [← sz]
    exact sgN_cg R (fun r hr => sgN_cg K (fun i _ => ex r i hr))
  have ps2 : dPts n K Pt (xRow R ch X) = dPts R K (fun r k => Pt (ch r) k) X := by
    rw [← ps]
    exact sgN_cg R (fun r hr => sgN_cg K (fun i _ => by
      show Pt (ch r) i * xRow R ch X (ch r) i = Pt (ch r) i * X r i
      rw [ex r i hr]))
  refine ⟨hd, fun Y hY => ?_⟩
  obtain ⟨y1, y2, y3⟩ := h.rows (Pt := Pt) hY
  obtain ⟨b1, b2⟩ := hb _ y1
  rw [y2] at b1 b2
  rw [y3] at b2
  rw [sz2, ps2]
  refine ⟨b1, fun e => ⟨b2 e, fun e2 => ?_⟩⟩
  rcases hl _ y1 (y2.trans e) (y3.trans e2) with w | ⟨r0, k0, c1, c2, c3, c4, c5, c6⟩
  · refine Or.inl (fun q hq => ?_)
    unfold flatD
    by_cases c : q / 10 < n ∧ q % 10 < K
    · rw [if_pos c, if_pos c]
      by_cases y : ∃ r, r < R ∧ ch r = q / 10
      · obtain ⟨r, r1, r2⟩ := y
        have z := w r (q % 10) r1 c.2 (by omega)
        rw [← r2, ex r (q % 10) r1]
        exact z.symm
      · have no : ∀ r, r < R → ¬ ch r = q / 10 := fun r hr e => y ⟨r, hr, e⟩
        rw [xRow_0 no, h.no hY c.1 c.2 no]
    · rw [if_neg c, if_neg c]
  · have hc := (h1 r0 c1).1
    have d10 : (10 * ch r0 + k0) / 10 = ch r0 := by omega
    have m10 : (10 * ch r0 + k0) % 10 = k0 := by omega
    refine Or.inr ⟨10 * ch r0 + k0, by omega, fun q hq => ?_, ?_⟩
    · unfold flatD
      by_cases c : q / 10 < n ∧ q % 10 < K
      · rw [if_pos c, if_pos c]
        by_cases y : ∃ r, r < R ∧ ch r = q / 10
        · obtain ⟨r, r1, r2⟩ := y
          have z := c4 r (q % 10) r1 c.2 (by omega)
          rw [← r2, ex r (q % 10) r1]
          exact z.symm
        · have no : ∀ r, r < R → ¬ ch r = q / 10 := fun r hr e => y ⟨r, hr, e⟩
          rw [xRow_0 no, h.no hY c.1 c.2 no]
      · rw [if_neg c, if_neg c]
    · unfold flatD
      rw [d10, m10, if_pos ⟨hc, c2⟩, if_pos ⟨hc, c2⟩, ex r0 k0 c1, c5]
      have z : Y (ch r0) k0 = 0 := c6
      rw [z]
      decide
end Rtc
