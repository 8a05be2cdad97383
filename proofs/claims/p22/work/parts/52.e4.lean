/-! the filler: a place gets a cost, rows that have the kind there get it too -/
/-- what is done to places I of kind k, and to the rows that have the kind there -/
def hitW (sl : Nat → Nat) (pt X : Nat → Nat → Int) (k : Nat) (I : Nat → Prop) (cost : Int) (s : PS) (r : Nat) : Prop := X r k = 1 ∧ I (sl r) ∧ cost + pt r k < s 75 r
def WEf (R K S : Nat) (sl : Nat → Nat) (pt X : Nat → Nat → Int) (k : Nat) (I : Nat → Prop) (cost rw_ : Int) (s t : PS) : Prop := (∀ k2 u, k2 < K → u < S → ((k2 = k ∧ I u) → t 77 (24 * k2 + u) = cost ∧ t 78 (24 * k2 + u) = rw_) ∧ (¬ (k2 = k ∧ I u) → t 77 (24 * k2 + u) = s 77 (24 * k2 + u) ∧ t 78 (24 * k2 + u) = s 78 (24 * k2 + u))) ∧ (∀ r, r < R → (hitW sl pt X k I cost s r → t 75 r = cost + pt r k ∧ t 76 r = (k : Int) ∧ ¬ t 80 r = 0) ∧ (¬ hitW sl pt X k I cost s r → t 75 r = s 75 r ∧ t 76 r = s 76 r ∧ t 80 r = s 80 r)) ∧ (∀ x, ¬ (74 ≤ x ∧ x ≤ 80) → t x = s x) ∧ ∀ j, ¬ j = 10 → t 74 j = s 74 j
def WQf (R K S : Nat) (sl : Nat → Nat) (pt X : Nat → Nat → Int) (P0 Hd k : Nat) (I : Nat → Prop) (cost rw_ : Int) (hu : List (Nat × Int)) (h : Nat → List (Nat × Int)) (s : PS) (h2 : Nat → List (Nat × Int)) (t : PS) : Prop := WEf R K S sl pt X k I cost rw_ s t ∧ (∃ Tl, QuI R h2 P0 Hd Tl t) ∧ ∀ r, r < R → (hitW sl pt X k I cost s r → h2 r = (r, cost + pt r k) :: hu) ∧ (¬ hitW sl pt X k I cost s r → h2 r = h r)
section Sett
variable {R K S : Nat} {sl fr : Nat → Nat} {D : Nat → Int} {al : Nat → Nat → Prop} {pt cu X : Nat → Nat → Int} {P0 Hd : Nat} {k : Nat} {I I2 : Nat → Prop} {cost rw_ : Int} {hu : List (Nat × Int)} {h h2 h3 : Nat → List (Nat × Int)} {s t u : PS}
theorem WQf.comp (a : WQf R K S sl pt X P0 Hd k I cost rw_ hu h s h2 u) (b : WQf R K S sl pt X P0 Hd k I2 cost rw_ hu h2 u h3 t) : WQf R K S sl pt X P0 Hd k (fun x => I x ∨ I2 x) cost rw_ hu h s h3 t := by
  obtain ⟨⟨a1, a2, a3, a4⟩, _, a6⟩ := a
  obtain ⟨⟨b1, b2, b3, b4⟩, b5, b6⟩ := b
  refine ⟨⟨fun k2 v hk hv => ?_, fun r hr => ?_, fun x hx => (b3 x hx).trans (a3 x hx), fun j hj => (b4 j hj).trans (a4 j hj)⟩, b5, fun r hr => ?_⟩
  · obtain ⟨p1, p2⟩ := a1 k2 v hk hv
    obtain ⟨q1, q2⟩ := b1 k2 v hk hv
    refine ⟨fun z => ?_, fun z => ?_⟩
    · by_cases y : k2 = k ∧ I2 v
      · exact q1 y
      · obtain ⟨w1, w2⟩ := q2 y
        rw [w1, w2]
        refine p1 ⟨z.1, ?_⟩
        rcases z.2 with c | c
        · exact c
        · exact absurd ⟨z.1, c⟩ y
    · obtain ⟨w1, w2⟩ := q2 (fun c => z ⟨c.1, Or.inr c.2⟩)
      rw [w1, w2]
      exact p2 (fun c => z ⟨c.1, Or.inl c.2⟩)
  · obtain ⟨p1, p2⟩ := a2 r hr
    obtain ⟨q1, q2⟩ := b2 r hr
    refine ⟨fun z => ?_, fun z => ?_⟩
    · by_cases y : hitW sl pt X k I cost s r
      · obtain ⟨w1, w2, w3⟩ := p1 y
        have ny : ¬ hitW sl pt X k I2 cost u r := fun c => by
          have c3 := c.2.2
          omega
        obtain ⟨v1, v2, v3⟩ := q2 ny
        rw [v1, v2, v3]
        exact ⟨w1, w2, w3⟩
      · obtain ⟨w1, w2, w3⟩ := p2 y
        refine q1 ⟨z.1, ?_, by rw [w1]; exact z.2.2⟩
        rcases z.2.1 with c | c
        · exact absurd ⟨z.1, c, z.2.2⟩ y
        · exact c
    · obtain ⟨w1, w2, w3⟩ := p2 (fun c => z ⟨c.1, Or.inl c.2.1, c.2.2⟩)
      obtain ⟨v1, v2, v3⟩ := q2 (fun c => z ⟨c.1, Or.inr c.2.1, by rw [← w1]; exact c.2.2⟩)
      exact ⟨v1.trans w1, v2.trans w2, v3.trans w3⟩
  · obtain ⟨p1, p2⟩ := a2 r hr
    obtain ⟨p3, p4⟩ := a6 r hr
    obtain ⟨q3, q4⟩ := b6 r hr
    refine ⟨fun z => ?_, fun z => ?_⟩
    · by_cases y : hitW sl pt X k I cost s r
      · have w1 := (p1 y).1
        have ny : ¬ hitW sl pt X k I2 cost u r := fun c => by
          have c3 := c.2.2
          omega
        rw [q4 ny]
        exact p3 y
      · have w1 := (p2 y).1
        refine q3 ⟨z.1, ?_, by rw [w1]; exact z.2.2⟩
        rcases z.2.1 with c | c
        · exact absurd ⟨z.1, c, z.2.2⟩ y
        · exact c
    · have w := p2 (fun c => z ⟨c.1, Or.inl c.2.1, c.2.2⟩)
      rw [q4 (fun c => z ⟨c.1, Or.inr c.2.1, by rw [← w.1]; exact c.2.2⟩)]
      exact p4 (fun c => z ⟨c.1, Or.inl c.2.1, c.2.2⟩)
theorem WQf.no (hI : ∀ x, ¬ I x) {Tl : Nat} (q : QuI R h P0 Hd Tl s) : WQf R K S sl pt X P0 Hd k I cost rw_ hu h s h s :=
  ⟨⟨fun k2 v _ _ => ⟨fun z => absurd z.2 (hI v), fun _ => ⟨rfl, rfl⟩⟩, fun r _ => ⟨fun z => absurd z.2.1 (hI _), fun _ => ⟨rfl, rfl, rfl⟩⟩, fun _ _ => rfl, fun _ _ => rfl⟩, ⟨Tl, q⟩, fun r _ => ⟨fun z => absurd z.2.1 (hI _), fun _ => rfl⟩⟩
theorem WQf.ci (a : WQf R K S sl pt X P0 Hd k I cost rw_ hu h s h2 t) (hI : ∀ x, x < S → (I x ↔ I2 x)) (hs : ∀ r, r < R → sl r < S) : WQf R K S sl pt X P0 Hd k I2 cost rw_ hu h s h2 t := by
  obtain ⟨⟨a1, a2, a3, a4⟩, a5, a6⟩ := a
  have hh : ∀ r, r < R → (hitW sl pt X k I2 cost s r ↔ hitW sl pt X k I cost s r) := fun r hr => ⟨fun z => ⟨z.1, (hI _ (hs r hr)).mpr z.2.1, z.2.2⟩, fun z => ⟨z.1, (hI _ (hs r hr)).mp z.2.1, z.2.2⟩⟩
  refine ⟨⟨fun k2 v hk hv => ?_, fun r hr => ?_, a3, a4⟩, a5, fun r hr => ?_⟩
  · obtain ⟨p1, p2⟩ := a1 k2 v hk hv
    exact ⟨fun z => p1 ⟨z.1, (hI v hv).mpr z.2⟩, fun z => p2 (fun c => z ⟨c.1, (hI v hv).mp c.2⟩)⟩
  · obtain ⟨p1, p2⟩ := a2 r hr
    exact ⟨fun z => p1 ((hh r hr).mp z), fun z => p2 (fun c => z ((hh r hr).mpr c))⟩
  · obtain ⟨p1, p2⟩ := a6 r hr
    exact ⟨fun z => p1 ((hh r hr).mp z), fun z => p2 (fun c => z ((hh r hr).mpr c))⟩
/-- the rows of one slot, from x on -/
def hitR (slot x : Nat) (sl : Nat → Nat) (pt X : Nat → Nat → Int) (k : Nat) (cost : Int) (s : PS) (r : Nat) : Prop := X r k = 1 ∧ (sl r = slot ∧ x ≤ r) ∧ cost + pt r k < s 75 r
theorem settle36 {slot : Nat} (hk : k < K) (hslot : slot < S) (hc : -2199023255552 ≤ cost ∧ cost ≤ 2199023255552) (hHd : Hd < 900000) (hP : Hd ≤ P0 + 41 * hu.length) : ∀ (fu x : Nat) (s : PS) (rr : Int) (t : PS) (h : Nat → List (Nat × Int)) (Tl : Nat), It_X2_settle fu 36 rw_ (k : Int) (slot : Int) cost (x : Int) s rr t → FlS R K S sl fr D al pt cu X s → QuI R h P0 Hd Tl s → fr slot ≤ x → x ≤ fr (slot + 1) → (∀ x, ¬ x = 74 → ¬ x = 75 → ¬ x = 76 → ¬ x = 79 → ¬ x = 80 → t x = s x) ∧ (∀ j, ¬ j = 10 → t 74 j = s 74 j) ∧ ∃ h2, (∃ Tl2, QuI R h2 P0 Hd Tl2 t) ∧ ∀ r, r < R → (hitR slot x sl pt X k cost s r → (t 75 r = cost + pt r k ∧ t 76 r = (k : Int) ∧ ¬ t 80 r = 0) ∧ h2 r = (r, cost + pt r k) :: hu) ∧ (¬ hitR slot x sl pt X k cost s r → (t 75 r = s 75 r ∧ t 76 r = s 76 r ∧ t 80 r = s 80 r) ∧ h2 r = h r)
  | 0, x, s, rr, t, h, Tl, m, _, _, _, _ => False.elim m
  | 1, x, s, rr, t, h, Tl, m, hF, hQ, hx0, hx => by
    have hF0 := hF
    obtain ⟨f1, f2, f3, f4, f5, f6, f7, f8⟩ := hF
    replace m := ul_X2_settle_36 m
    unfold T_X2_settle_36 at m
    obtain ⟨_, _, _, _, _, m⟩ := m
    have e66 : ((slot : Int) + 1).toNat = slot + 1 := by
      clear m
      omega
    rw [e66, (f6 (slot + 1) (by omega)).1] at m
    rcases m with ⟨c, _, e⟩ | ⟨c, m⟩
    · have hno : ∀ r, r < R → ¬ hitR slot x sl pt X k cost s r := fun r hr z => by
        have y := (f7 r slot hr hslot).mpr z.2.1.1
        have y2 := z.2.1.2
        omega
      rw [e]
      exact ⟨fun _ _ _ _ _ _ => rfl, fun _ _ => rfl, h, ⟨Tl, hQ⟩, fun r hr => ⟨fun z => absurd z (hno r hr), fun _ => ⟨⟨rfl, rfl, rfl⟩, rfl⟩⟩⟩
    · rcases m with ⟨_, m⟩ | ⟨_, r7, s6, _, _, _, m⟩
      · exact False.elim m
      · rcases m with ⟨_, m⟩ | ⟨_, s14, _, s15, _, s16, _, _, _, m⟩
        · exact False.elim m
        · exact False.elim m
  | fu + 2, x, s, rr, t, h, Tl, m, hF, hQ, hx0, hx => by
    have hF0 := hF
    obtain ⟨f1, f2, f3, f4, f5, f6, f7, f8⟩ := hF
    replace m := ul_X2_settle_36 m
    unfold T_X2_settle_36 at m
    obtain ⟨_, _, _, _, _, m⟩ := m
    have e66 : ((slot : Int) + 1).toNat = slot + 1 := by
      clear m
      omega
    rw [e66, (f6 (slot + 1) (by omega)).1, Int.toNat_natCast] at m
    rcases m with ⟨c, _, e⟩ | ⟨c, m⟩
    · have hno : ∀ r, r < R → ¬ hitR slot x sl pt X k cost s r := fun r hr z => by
        have y := (f7 r slot hr hslot).mpr z.2.1.1
        have y2 := z.2.1.2
        omega
      rw [e]
      exact ⟨fun _ _ _ _ _ _ => rfl, fun _ _ => rfl, h, ⟨Tl, hQ⟩, fun r hr => ⟨fun z => absurd z (hno r hr), fun _ => ⟨⟨rfl, rfl, rfl⟩, rfl⟩⟩⟩
    · have hxf : x < fr (slot + 1) := by
        clear m
        omega
      have hxR : x < R := by
        have z := (f6 (slot + 1) (by omega)).2
        clear m
        omega
      have hsx : sl x = slot := (f7 x slot hxR hslot).mp ⟨hx0, hxf⟩
      obtain ⟨g1, g2, g3, g4, g5⟩ := f4 x k hxR hk
      -- behind row x, the rest
      have rest : ∀ (s1 : PS) (h1 : Nat → List (Nat × Int)) (Tl1 : Nat), It_X2_settle (fu + 1) 121 rw_ (k : Int) (slot : Int) cost (x : Int) s1 rr t → (∀ y, ¬ y = 74 → ¬ y = 75 → ¬ y = 76 → ¬ y = 79 → ¬ y = 80 → s1 y = s y) → (∀ j, ¬ j = 10 → s1 74 j = s 74 j) → QuI R h1 P0 Hd Tl1 s1 → (∀ r, r < R → ¬ r = x → (s1 75 r = s 75 r ∧ s1 76 r = s 76 r ∧ s1 80 r = s 80 r) ∧ h1 r = h r) → (hitR slot x sl pt X k cost s x → (s1 75 x = cost + pt x k ∧ s1 76 x = (k : Int) ∧ ¬ s1 80 x = 0) ∧ h1 x = (x, cost + pt x k) :: hu) → (¬ hitR slot x sl pt X k cost s x → (s1 75 x = s 75 x ∧ s1 76 x = s 76 x ∧ s1 80 x = s 80 x) ∧ h1 x = h x) → (∀ x, ¬ x = 74 → ¬ x = 75 → ¬ x = 76 → ¬ x = 79 → ¬ x = 80 → t x = s x) ∧ (∀ j, ¬ j = 10 → t 74 j = s 74 j) ∧ ∃ h2, (∃ Tl2, QuI R h2 P0 Hd Tl2 t) ∧ ∀ r, r < R → (hitR slot x sl pt X k cost s r → (t 75 r = cost + pt r k ∧ t 76 r = (k : Int) ∧ ¬ t 80 r = 0) ∧ h2 r = (r, cost + pt r k) :: hu) ∧ (¬ hitR slot x sl pt X k cost s r → (t 75 r = s 75 r ∧ t 76 r = s 76 r ∧ t 80 r = s 80 r) ∧ h2 r = h r) := by
        intro s1 h1 Tl1 m1 k1 k74 q1 o1 o2 o3
        replace m1 := ul_X2_settle_121 m1
        unfold T_X2_settle_121 at m1
        obtain ⟨_, _, _, _, _, m1⟩ := m1
        obtain ⟨w1, w2, h2, w3, w4⟩ := settle36 hk hslot hc hHd hP fu (x + 1) s1 rr t h1 Tl1 m1 (hF0.cg (fun y y1 y2 => k1 y (by omega) (by omega) (by omega) (by omega) (by omega))) q1 (by omega) (by omega)
        refine ⟨fun y y1 y2 y3 y4 y5 => (w1 y y1 y2 y3 y4 y5).trans (k1 y y1 y2 y3 y4 y5), fun j hj => (w2 j hj).trans (k74 j hj), h2, w3, fun r hr => ?_⟩
        obtain ⟨v1, v2⟩ := w4 r hr
        by_cases cx : r = x
        · have n1 : ¬ hitR slot (x + 1) sl pt X k cost s1 r := fun z => by
            have := z.2.1.2
            omega
          obtain ⟨⟨v3, v4, v5⟩, v6⟩ := v2 n1
          rw [v3, v4, v5, v6, cx]
          exact ⟨o2, o3⟩
        · obtain ⟨⟨u1, u2, u3⟩, u4⟩ := o1 r hr cx
          refine ⟨fun z => v1 ⟨z.1, ⟨z.2.1.1, ?_⟩, by rw [u1]; exact z.2.2⟩, fun z => ?_⟩
          · have := z.2.1.2
            omega
          · obtain ⟨⟨v3, v4, v5⟩, v6⟩ := v2 (fun y => z ⟨y.1, ⟨y.2.1.1, by have := y.2.1.2; omega⟩, by rw [← u1]; exact y.2.2⟩)
            exact ⟨⟨v3.trans u1, v4.trans u2, v5.trans u3⟩, v6.trans u4⟩
      rcases m with ⟨c1, m⟩ | ⟨c1, r7, s6, m7, _, _, m⟩
      · have hX : ¬ X x k = 1 := fun z => by
          have y := g2.mpr z
          unfold tb at y
          exact absurd c1 (of_decide_eq_true y)
        exact rest s h Tl m (fun _ _ _ _ _ _ => rfl) (fun _ _ => rfl) hQ (fun _ _ _ => ⟨⟨rfl, rfl, rfl⟩, rfl⟩) (fun z => absurd z.1 hX) (fun _ => ⟨⟨rfl, rfl, rfl⟩, rfl⟩)
      · have hX : X x k = 1 := g2.mp (by
          unfold tb
          exact decide_eq_true c1)
        unfold M_X3_pointsOf T_X3_pointsOf_e at m7
        obtain ⟨_, _, _, er7, es6⟩ := m7
        have ei : (((x : Int) * 10) + (k : Int)).toNat = 10 * x + k := by
          clear m
          omega
        rw [ei, g3] at er7
        rw [er7, es6, wl_id (by clear m; omega) (by clear m; omega)] at m
        rcases m with ⟨c2, m⟩ | ⟨c2, s14, e14, s15, e15, s16, m16, _, _, m⟩
        · exact rest s h Tl m (fun _ _ _ _ _ _ => rfl) (fun _ _ => rfl) hQ (fun _ _ _ => ⟨⟨rfl, rfl, rfl⟩, rfl⟩) (fun z => absurd z.2.2 (by clear m; omega)) (fun _ => ⟨⟨rfl, rfl, rfl⟩, rfl⟩)
        · have k15 : ∀ y, ¬ y = 75 → ¬ y = 76 → s15 y = s y := fun y y1 y2 => by rw [e15, us_k y2, e14, us_k y1]
          have q15 : QuI R h P0 Hd Tl s15 := hQ.cg ⟨by rw [k15 74 (by decide) (by decide)], by rw [k15 74 (by decide) (by decide)]⟩ (k15 79 (by decide) (by decide)) (k15 80 (by decide) (by decide))
          have hl1 : ∀ v, v < R → ¬ v = x → (h v).length ≤ ((fun v => if v = x then (x, cost + pt x k) :: hu else h v) v).length := fun v _ hv => by
            show (h v).length ≤ (if v = x then (x, cost + pt x k) :: hu else h v).length
            rw [if_neg hv]
            exact Nat.le_refl _
          have hl2 : Hd + 40 < P0 + 41 * ((fun v => if v = x then (x, cost + pt x k) :: hu else h v) x).length := by
            show Hd + 40 < P0 + 41 * (if x = x then (x, cost + pt x k) :: hu else h x).length
            rw [if_pos rfl, List.length_cons]
            omega
          obtain ⟨⟨Tl2, q16, _⟩, n1, n2, n3, n4⟩ := enq (h2 := fun v => if v = x then (x, cost + pt x k) :: hu else h v) q15 f2.1 hxR hHd m16 hl1 hl2
          refine rest s16 _ Tl2 m (fun y y1 y2 y3 y4 y5 => (n1 y y1 y4 y5).trans (k15 y y2 y3)) (fun j hj => (n2 j hj).trans (by rw [k15 74 (by decide) (by decide)])) q16 (fun r hr hrx => ⟨⟨?_, ?_, ?_⟩, if_neg hrx⟩) (fun _ => ⟨⟨?_, ?_, n4⟩, if_pos rfl⟩) (fun z => absurd ⟨hX, ⟨hsx, Nat.le_refl x⟩, by clear m; omega⟩ z)
          · rw [n1 75 (by decide) (by decide) (by decide), e15, us_k (by decide), e14, us_if, if_neg hrx]
          · rw [n1 76 (by decide) (by decide) (by decide), e15, us_if, if_neg hrx, e14, us_k (by decide)]
          · rw [n3 r hr hrx, k15 80 (by decide) (by decide)]
          · rw [n1 75 (by decide) (by decide) (by decide), e15, us_k (by decide), e14, us_at]
          · rw [n1 76 (by decide) (by decide) (by decide), e15, us_at]
theorem settleF {slot : Nat} {rr : Int} {Tl : Nat} (hF : FlS R K S sl fr D al pt cu X s) (hk : k < K) (hslot : slot < S) (hc : -2199023255552 ≤ cost ∧ cost ≤ 2199023255552) (hHd : Hd < 900000) (hP : Hd ≤ P0 + 41 * hu.length) (hQ : QuI R h P0 Hd Tl s) (m : M_X2_settle s rw_ (k : Int) (slot : Int) cost rr t) : ∃ h2, WQf R K S sl pt X P0 Hd k (fun x => x = slot) cost rw_ hu h s h2 t := by
  have hF0 := hF
  obtain ⟨f1, f2, f3, f4, f5, f6, f7, f8⟩ := hF
  obtain ⟨fu, m⟩ := m
  unfold T_X2_settle_e at m
  obtain ⟨_, _, _, _, s20, e20, s21, e21, m⟩ := m
  have ei : (((k : Int) * 24) + (slot : Int)).toNat = 24 * k + slot := by
    clear m
    omega
  rw [ei] at e20 e21
  rw [Int.toNat_natCast, (f6 slot (by omega)).1] at m
  have k21 : ∀ y, ¬ y = 77 → ¬ y = 78 → s21 y = s y := fun y y1 y2 => by rw [e21, us_k y2, e20, us_k y1]
  have mono : fr slot ≤ fr (slot + 1) ∨ ∀ r, r < R → ¬ sl r = slot := by
    by_cases z : fr slot ≤ fr (slot + 1)
    · exact Or.inl z
    · exact Or.inr (fun r hr e => by
        have y := (f7 r slot hr hslot).mpr e
        omega)
  have q21 : QuI R h P0 Hd Tl s21 := hQ.cg ⟨by rw [k21 74 (by decide) (by decide)], by rw [k21 74 (by decide) (by decide)]⟩ (k21 79 (by decide) (by decide)) (k21 80 (by decide) (by decide))
  have F21 : FlS R K S sl fr D al pt cu X s21 := hF0.cg (fun y y1 y2 => k21 y (by omega) (by omega))
  have main : (∀ x, ¬ x = 74 → ¬ x = 75 → ¬ x = 76 → ¬ x = 79 → ¬ x = 80 → t x = s21 x) ∧ (∀ j, ¬ j = 10 → t 74 j = s21 74 j) ∧ ∃ h2, (∃ Tl2, QuI R h2 P0 Hd Tl2 t) ∧ ∀ r, r < R → (hitR slot (fr slot) sl pt X k cost s21 r → (t 75 r = cost + pt r k ∧ t 76 r = (k : Int) ∧ ¬ t 80 r = 0) ∧ h2 r = (r, cost + pt r k) :: hu) ∧ (¬ hitR slot (fr slot) sl pt X k cost s21 r → (t 75 r = s21 75 r ∧ t 76 r = s21 76 r ∧ t 80 r = s21 80 r) ∧ h2 r = h r) := by
    rcases mono with z | z
    · exact settle36 hk hslot hc hHd hP fu (fr slot) s21 rr t h Tl m F21 q21 (Nat.le_refl _) z
    · cases fu with
      | zero => exact False.elim m
      | succ fu =>
        by_cases y : fr slot ≤ fr (slot + 1)
        · exact settle36 hk hslot hc hHd hP (fu + 1) (fr slot) s21 rr t h Tl m F21 q21 (Nat.le_refl _) y
        · replace m := ul_X2_settle_36 m
          unfold T_X2_settle_36 at m
          obtain ⟨_, _, _, _, _, m⟩ := m
          have e66 : ((slot : Int) + 1).toNat = slot + 1 := by
            clear m
            omega
          rw [e66, (F21.2.2.2.2.2.1 (slot + 1) (by omega)).1] at m
          rcases m with ⟨c, _, e⟩ | ⟨c, m⟩
          · rw [e]
            exact ⟨fun _ _ _ _ _ _ => rfl, fun _ _ => rfl, h, ⟨Tl, q21⟩, fun r hr => ⟨fun w => absurd w.2.1.1 (z r hr), fun _ => ⟨⟨rfl, rfl, rfl⟩, rfl⟩⟩⟩
          · exact absurd c (by clear m; omega)
  obtain ⟨w1, w2, h2, w3, w4⟩ := main
  have t77 : ∀ i, t 77 i = if i = 24 * k + slot then cost else s 77 i := fun i => by
    rw [w1 77 (by decide) (by decide) (by decide) (by decide) (by decide), e21, us_k (by decide), e20, us_if]
  have t78 : ∀ i, t 78 i = if i = 24 * k + slot then rw_ else s 78 i := fun i => by
    rw [w1 78 (by decide) (by decide) (by decide) (by decide) (by decide), e21, us_if, e20, us_k (by decide)]
  have hh : ∀ r, r < R → (hitW sl pt X k (fun x => x = slot) cost s r ↔ hitR slot (fr slot) sl pt X k cost s21 r) := fun r hr => ⟨fun z => ⟨z.1, ⟨z.2.1, ((f7 r slot hr hslot).mpr z.2.1).1⟩, by rw [k21 75 (by decide) (by decide)]; exact z.2.2⟩, fun z => ⟨z.1, z.2.1.1, by have y := z.2.2; rw [k21 75 (by decide) (by decide)] at y; exact y⟩⟩
  refine ⟨h2, ⟨fun k2 v hk2 hv => ⟨fun z => ?_, fun z => ?_⟩, fun r hr => ⟨fun z => ((w4 r hr).1 ((hh r hr).mp z)).1, fun z => ?_⟩, fun x hx => ?_, fun j hj => ?_⟩, w3, fun r hr => ⟨fun z => ((w4 r hr).1 ((hh r hr).mp z)).2, fun z => ((w4 r hr).2 (fun y => z ((hh r hr).mpr y))).2⟩⟩
  · have e1 : v = slot := z.2
    rw [t77, t78, if_pos (by omega), if_pos (by omega)]
    exact ⟨rfl, rfl⟩
  · have ne : ¬ 24 * k2 + v = 24 * k + slot := fun e => z ⟨by omega, by show v = slot; omega⟩
    rw [t77, t78, if_neg ne, if_neg ne]
    exact ⟨rfl, rfl⟩
  · obtain ⟨⟨a1, a2, a3⟩, _⟩ := (w4 r hr).2 (fun y => z ((hh r hr).mpr y))
    rw [a1, a2, a3, k21 75 (by decide) (by decide), k21 76 (by decide) (by decide), k21 80 (by decide) (by decide)]
    exact ⟨rfl, rfl, rfl⟩
  · rw [w1 x (by omega) (by omega) (by omega) (by omega) (by omega)]
    exact k21 x (by omega) (by omega)
  · rw [w2 j hj, k21 74 (by decide) (by decide)]
end Sett
