/-! the ranker: finds -/
def FdI (R K S : Nat) (sl : Nat → Nat) (D : Nat → Int) (al : Nat → Nat → Prop) (pt cu X : Nat → Nat → Int) (g : Nat) (s : PS) : Prop := SrI R K S sl D al pt cu X g s ∧ (∃ H : Nat, s 81 10 = (H : Int) ∧ s 81 10 ≤ s 81 11 ∧ ∀ i b : Nat, i < H → s 87 i = (b : Int) → ArcS K sl al pt X 0 b s) ∧ (s 81 14 = 0 ∨ (s 81 14 = 1 ∧ ∀ r, r < R → sgN (X r) K < D r → s 75 r = s 74 5 → Vs s r)) ∧ (s 81 15 = 0 ∨ (s 81 15 = 1 ∧ ∀ k, k < K → s 77 (24 * k + (S - 1)) = s 74 6 → Ws s k (S - 1)))
/-- nothing leads out of what was seen, and the goal was not -/
def ClS (R K S : Nat) (sl : Nat → Nat) (D : Nat → Int) (al : Nat → Nat → Prop) (pt cu X : Nat → Nat → Int) (g : Nat) (s : PS) : Prop := FdI R K S sl D al pt cu X g s ∧ s 81 11 ≤ s 81 10 ∧ (s 81 12 = -1 ∨ s 81 14 = 1) ∧ (s 81 13 = -1 ∨ s 81 15 = 1) ∧ ¬ Vs s g
section Fd6
variable {R K S k g gg : Nat} {sl fr : Nat → Nat} {D : Nat → Int} {al : Nat → Nat → Prop} {pt cu X : Nat → Nat → Int} {rw_ cost : Int} {s t u : PS} {rr : Int}
theorem SrI.cg (h : SrI R K S sl D al pt cu X g s) (e : ∀ x, ¬ x = 81 → t x = s x) (e4 : t 81 4 = s 81 4) (e11 : t 81 11 = s 81 11) (e12 : t 81 12 = s 81 12) (e13 : t 81 13 = s 81 13) (a14 : s 81 14 = 1 → t 81 14 = 1) (b14 : t 81 14 = 1 → ¬ s 81 12 = -1) (a15 : s 81 15 = 1 → t 81 15 = 1) (b15 : t 81 15 = 1 → ¬ s 81 13 = -1) : SrI R K S sl D al pt cu X g t := by
  obtain ⟨iL, iR, iP, i12, i13, ⟨i14, i15⟩, iC⟩ := h
  have eV : ∀ r, Vs t r ↔ Vs s r := fun r => by
    unfold Vs
    rw [e 83 (by decide), e4]
  have eW : ∀ k u, Ws t k u ↔ Ws s k u := fun k u => by
    unfold Ws
    rw [e 85 (by decide), e4]
  have eA : ∀ j b, Ahd s g j b → Ahd t g j b := fun j b q => by
    unfold Ahd at q ⊢
    rw [e 87 (by decide)]
    exact q
  refine ⟨?_, fun j r hr ej hj => ?_, fun k2 u q1 q2 q => ?_, ?_, ?_, ⟨fun z => by rw [e12]; exact b14 z, fun z => by rw [e13]; exact b15 z⟩, fun r hr q p z => ?_⟩
  · unfold LiI at iL ⊢
    rw [e11, e4, e 87 (by decide), e 83 (by decide)]
    exact iL
  · rw [e 87 (by decide)] at ej
    rw [e11] at hj
    rcases iR j r hr ej hj with ⟨z1, z2, z3, z4, lo', i, z5, z6, z7, z8⟩ | ⟨k', z1, z2, z3, z4, z5, z6, z7⟩
    · exact Or.inl ⟨by rw [e 84 (by decide)]; exact z1, a14 z2, z3, by rw [e 75 (by decide), e 74 (by decide)]; exact z4, lo', i, z5, by rw [e12]; exact z6, z7, by rw [e 87 (by decide)]; exact z8⟩
    · refine Or.inr ⟨k', z1, by rw [e 84 (by decide)]; exact z2, z3, by rw [e 82 (by decide)]; exact z4, (eW k' (sl r)).mpr z5, by rw [e 75 (by decide), e 77 (by decide)]; exact z6, ?_⟩
      rw [e 86 (by decide), e13]
      rcases z7 with ⟨b, b1, b2, b3⟩ | ⟨b1, lk, b, b2, b3, b4, b5, b6⟩
      · exact Or.inl ⟨b, b1, b2, eA j b b3⟩
      · exact Or.inr ⟨b1, lk, b, b2, b3, b4, b5, eA j b b6⟩
  · obtain ⟨z1, c1, c2, c3, c4⟩ := iP k2 u q1 q2 ((eW k2 u).mp q)
    refine ⟨?_, fun a ha a1 a2 a3 a4 => (eV a).mpr (c1 a ha a1 a2 (by rw [← e 82 (by decide)]; exact a3) (by rw [← e 75 (by decide), ← e 77 (by decide)]; exact a4)), fun a1 a2 => (eW k2 (u - 1)).mpr (c2 a1 (by rw [← e 77 (by decide)]; exact a2)), fun a1 a2 a3 => (eW k2 (u + 1)).mpr (c3 a1 a2 (by rw [← e 77 (by decide)]; exact a3)), fun a1 a2 a3 => by rw [e13]; exact c4 a1 a2 (by rw [← e 77 (by decide), ← e 74 (by decide)]; exact a3)⟩
    rcases z1 with ⟨b, b1, b2, b3, b4, b5, b6, b7, b8, b9⟩ | ⟨b1, b2, b3, b4⟩
    · refine Or.inl ⟨b, b1, by rw [e 86 (by decide)]; exact b2, b3.imp id (eV b).mpr, b4, b5, fun z => by rw [e 82 (by decide)]; exact b6 z, by rw [e 77 (by decide), e 75 (by decide)]; exact b7, fun x x1 x2 => ?_, b9⟩
      obtain ⟨y1, y2, y3⟩ := b8 x x1 x2
      exact ⟨by rw [e 77 (by decide)]; exact y1, (eW k2 x).mpr y2, by rw [e 86 (by decide)]; exact y3⟩
    · refine Or.inr ⟨by rw [e 86 (by decide)]; exact b1, a15 b2, by rw [e 77 (by decide), e 74 (by decide)]; exact b3, fun x x1 x2 => ?_⟩
      obtain ⟨y1, y2, y3⟩ := b4 x x1 x2
      exact ⟨by rw [e 77 (by decide), e 74 (by decide)]; exact y1, (eW k2 x).mpr y2, by rw [e 86 (by decide)]; exact y3⟩
  · rw [e12, e 84 (by decide), e 75 (by decide), e 74 (by decide)]
    rcases i12 with z | ⟨lo', z1, z2, z3, z4⟩
    · exact Or.inl z
    · exact Or.inr ⟨lo', z1, z2, (eV lo').mpr z3, z4⟩
  · rw [e13, e 77 (by decide), e 74 (by decide), e 86 (by decide)]
    rcases i13 with z | ⟨lk, b, z1, z2, z3, z4⟩
    · exact Or.inl z
    · exact Or.inr ⟨lk, b, z1, z2, (eW lk (S - 1)).mpr z3, z4⟩
  · rw [e12]
    exact iC r hr ((eV r).mp q) p (by rw [← e 75 (by decide), ← e 74 (by decide)]; exact z)
theorem ArcS.mo {b : Nat} (h : ArcS K sl al pt X 0 b s) (hb : b < R) (hs : ∀ r, r < R → sl r < S) (m : MoS R K S gg s t) : ArcS K sl al pt X 0 b t := fun k k1 k2 a1 a2 a3 a4 => by
  rw [m.2.2.2.2.2.1] at a3
  rw [m.2.2.2.2.1 77 (by decide), m.2.2.2.2.1 75 (by decide)] at a4
  exact m.2.1 k (sl b) k2 (hs b hb) (h k k1 k2 a1 a2 a3 a4)
theorem FdI.mo (h : FdI R K S sl D al pt cu X g s) (hs : ∀ r, r < R → sl r < S) (hS : 0 < S) (hI : SrI R K S sl D al pt cu X g t) (m : MoS R K S gg s t) (e10 : t 81 10 = s 81 10) (e14 : t 81 14 = s 81 14) (e15 : t 81 15 = s 81 15) : FdI R K S sl D al pt cu X g t := by
  obtain ⟨h1, ⟨H, h2, h3, h4⟩, h5, h6⟩ := h
  have t75 := m.2.2.2.2.1 75 (by decide)
  have t77 := m.2.2.2.2.1 77 (by decide)
  have t74 := m.2.2.2.2.1 74 (by decide)
  have t11 := m.2.2.2.2.2.2.2.2.1
  refine ⟨hI, ⟨H, e10.trans h2, by omega, fun i b hi eb => ?_⟩, ?_, ?_⟩
  · have hi2 : (i : Int) < s 81 11 := by omega
    rw [m.2.2.2.2.2.2.2.1 i hi2] at eb
    exact (h4 i b hi eb).mo (h1.1.vs hi2 eb).1 hs m
  · rw [e14, t75, t74]
    rcases h5 with y | ⟨y1, y2⟩
    · exact Or.inl y
    · exact Or.inr ⟨y1, fun r hr a b => m.1 r hr (y2 r hr a b)⟩
  · rw [e15, t77, t74]
    rcases h6 with y | ⟨y1, y2⟩
    · exact Or.inl y
    · exact Or.inr ⟨y1, fun k hk a => m.2.1 k (S - 1) hk (by omega) (y2 k hk a)⟩
theorem us81_mo {j : Nat} {v : Int} (hj : j = 10 ∨ j = 14 ∨ j = 15) (e : t = us s 81 j v) : MoS R K S gg s t := by
  have k : ∀ x, ¬ x = 81 → t x = s x := fun x hx => by rw [e, us_k hx]
  have k81 : ∀ i, ¬ i = j → t 81 i = s 81 i := fun i hi => by rw [e, us_j hi]
  refine ⟨fun r _ q => ?_, fun k2 u _ _ q => ?_, fun _ => k81 12 (by omega), fun _ => k81 13 (by omega), fun x hx => k x (by omega), k 82 (by decide), fun i i1 _ _ _ i2 i3 => k81 i (by omega), fun i _ => by rw [k 87 (by decide)], Int.le_of_eq (k81 11 (by omega)).symm, fun k2 u _ _ _ => by rw [k 86 (by decide)], fun k2 u _ _ q p => absurd (by
    unfold Ws at q ⊢
    rw [k 85 (by decide), k81 4 (by omega)] at q
    exact q) p⟩
  · unfold Vs at q ⊢
    rw [k 83 (by decide), k81 4 (by omega)]
    exact q
  · unfold Ws at q ⊢
    rw [k 85 (by decide), k81 4 (by omega)]
    exact q
/-- what finds leaves -/
def FdE (R K S gg : Nat) (sl : Nat → Nat) (D : Nat → Int) (al : Nat → Nat → Prop) (pt cu X : Nat → Nat → Int) (g : Nat) (s t : PS) (rr : Int) : Prop := MoS R K S gg s t ∧ ((rr = 1 ∧ Vs t g ∧ SrI R K S sl D al pt cu X g t) ∨ (rr = 0 ∧ ClS R K S sl D al pt cu X g t))
theorem finds23 (hS : 0 < S) {p1 : Int} : ∀ fu : Nat, (∀ (x : Nat) (s : PS) (rr : Int) (t : PS), It_X9_finds fu 23 p1 (x : Int) s rr t → FlS R K S sl fr D al pt cu X s → RgS R K S s → FdI R K S sl D al pt cu X g s → s 81 2 = (g : Int) → (x : Int) ≤ s 81 10 + s 81 14 + s 81 15 → FdE R K S g sl D al pt cu X g s t rr) ∧ (∀ (x : Nat) (s : PS) (rr : Int) (t : PS), It_X9_finds fu 109 p1 (x : Int) s rr t → FlS R K S sl fr D al pt cu X s → RgS R K S s → FdI R K S sl D al pt cu X g s → s 81 2 = (g : Int) → (x : Int) ≤ s 81 10 + s 81 14 + s 81 15 → ¬ Vs s g → s 81 11 ≤ s 81 10 → (s 81 12 = -1 ∨ s 81 14 = 1) → FdE R K S g sl D al pt cu X g s t rr) ∧ (∀ (x : Nat) (s : PS) (rr : Int) (t : PS), It_X9_finds fu 138 p1 (x : Int) s rr t → FlS R K S sl fr D al pt cu X s → RgS R K S s → FdI R K S sl D al pt cu X g s → s 81 2 = (g : Int) → (x : Int) + 1 ≤ s 81 10 + s 81 14 + s 81 15 → FdE R K S g sl D al pt cu X g s t rr) ∧ ∀ (x : Nat) (s : PS) (rr : Int) (t : PS), It_X9_finds fu 144 p1 (x : Int) s rr t → SrI R K S sl D al pt cu X g s → s 81 2 = (g : Int) → Vs s g → FdE R K S g sl D al pt cu X g s t rr
  | 0 => ⟨fun x s rr t m => False.elim m, fun x s rr t m => False.elim m, fun x s rr t m => False.elim m, fun x s rr t m => False.elim m⟩
  | fu + 1 => by
    have ih := finds23 hS (p1 := p1) fu
    refine ⟨fun x s rr t m hF hg hI h2 hx => ?_, fun x s rr t m hF hg hI h2 hx hn he hd => ?_, fun x s rr t m hF hg hI h2 hx => ?_, fun x s rr t m hI h2 hv => ?_⟩
    · have hI0 := hI
      obtain ⟨i1, ⟨H, i2, i3, i4⟩, i5, i6⟩ := hI
      have hs := hF.st.1
      have hR40 := hF.2.1.1
      obtain ⟨T, t1, t2, t3, t4⟩ := i1.1
      have hT : T ≤ R := php R T (fun i => (s 87 i).toNat) (fun i hi => by
        obtain ⟨a, a1, a2, _⟩ := t2 i hi
        show (s 87 i).toNat < R
        rw [a2]
        omega) (fun i j hi hj e => by
        obtain ⟨a, a1, a2, _⟩ := t2 i hi
        obtain ⟨b, b1, b2, _⟩ := t2 j hj
        have e2 : (s 87 i).toNat = (s 87 j).toNat := e
        rw [a2, b2] at e2
        exact t3 i j hi hj (by rw [a2, b2]; omega))
      have f14 : s 81 14 ≤ 1 := by rcases i5 with y | y <;> omega
      have f15 : s 81 15 ≤ 1 := by rcases i6 with y | y <;> omega
      replace m := ul_X9_finds_23 m
      unfold T_X9_finds_23 at m
      obtain ⟨_, _, _, m⟩ := m
      rw [h2, Int.toNat_natCast] at m
      rcases m with ⟨c, _⟩ | ⟨_, m⟩
      · exact absurd c (by omega)
      · rcases m with ⟨c, m⟩ | ⟨c, m⟩
        · exact ih.2.2.2 x s rr t m i1 h2 c
        · rcases m with ⟨c1, m⟩ | ⟨c1, s22, m22, _, _, s26, e26, m⟩
          · rcases m with ⟨c2, m⟩ | ⟨c2, m⟩
            · exact ih.2.1 x s rr t m hF hg hI0 h2 hx c c1 (Or.inl c2)
            · rcases m with ⟨c3, s16, e16, s17, m17, _, _, m⟩ | ⟨c3, m⟩
              · have mo1 : MoS R K S g s s16 := us81_mo (Or.inr (Or.inl rfl)) e16
                have v14 : s16 81 14 = 1 := by rw [e16, us_at]
                have k81 : ∀ i, ¬ i = 14 → s16 81 i = s 81 i := fun i hi => by rw [e16, us_j hi]
                have S16 : SrI R K S sl D al pt cu X g s16 := i1.cg (fun y hy => by rw [e16, us_k hy]) (k81 4 (by decide)) (k81 11 (by decide)) (k81 12 (by decide)) (k81 13 (by decide)) (fun _ => v14) (fun _ => c2) (fun z => by rw [k81 15 (by decide)]; exact z) (fun z => i1.2.2.2.2.2.1.2 (by rw [← k81 15 (by decide)]; exact z))
                obtain ⟨fd, m17⟩ := m17
                unfold T_X9_spreadDue_e at m17
                obtain ⟨_, m17⟩ := m17
                obtain ⟨w1, w2, w3, w4, w5, w6⟩ := (spreadDue2 fd).1 0 s16 0 s17 m17 (hF.mo mo1) S16 v14 (Nat.zero_le _)
                have mo2 := mo1.tr w2
                have I17 : FdI R K S sl D al pt cu X g s17 := by
                  have t11 := mo2.2.2.2.2.2.2.2.2.1
                  refine ⟨w1, ⟨H, by rw [w4, k81 10 (by decide)]; exact i2, by rw [w4, k81 10 (by decide)]; omega, fun i b hi eb => ?_⟩, Or.inr ⟨by rw [w5, v14], fun r hr a b => w3 r (Nat.zero_le _) hr a b⟩, ?_⟩
                  · have hi2 : (i : Int) < s 81 11 := by omega
                    rw [mo2.2.2.2.2.2.2.2.1 i hi2] at eb
                    exact (i4 i b hi eb).mo (i1.1.vs hi2 eb).1 hs mo2
                  · rw [w6, k81 15 (by decide), mo2.2.2.2.2.1 77 (by decide), mo2.2.2.2.2.1 74 (by decide)]
                    rcases i6 with y | ⟨y1, y2⟩
                    · exact Or.inl y
                    · exact Or.inr ⟨y1, fun k hk a => mo2.2.1 k (S - 1) hk (by omega) (y2 k hk a)⟩
                obtain ⟨z1, z2⟩ := ih.2.2.1 x s17 rr t m (hF.mo mo2) (hg.mo mo2) I17 (by rw [mo2.2.2.2.2.2.2.1 2 (by decide) (by decide) (by decide) (by decide) (by decide) (by decide)]; exact h2) (by rw [w4, w5, w6, v14, k81 10 (by decide), k81 15 (by decide)]; omega)
                exact ⟨mo2.tr z1, z2⟩
              · have f1 : s 81 14 = 1 := by
                  rcases i5 with y | y
                  · exact absurd y c3
                  · exact y.1
                exact ih.2.1 x s rr t m hF hg hI0 h2 hx c c1 (Or.inr f1)
          · have lH : H < T := by
              clear m m22
              omega
            obtain ⟨b, b1, b2, b3⟩ := t2 H lH
            rw [i2, Int.toNat_natCast, b2] at m22
            obtain ⟨w1, w2, w3, w4, w5, w6⟩ := widenF (gg := g) hF hg i1 b1 (fun e => c (by rw [← e]; exact b3)) b3 m22
            rw [i2] at e26
            have mo3 : MoS R K S g s22 s26 := us81_mo (Or.inl rfl) e26
            have k81 : ∀ i, ¬ i = 10 → s26 81 i = s22 81 i := fun i hi => by rw [e26, us_j hi]
            have kx : ∀ y, ¬ y = 81 → s26 y = s22 y := fun y hy => by rw [e26, us_k hy]
            have v10 : s26 81 10 = ((H + 1 : Nat) : Int) := by
              rw [e26, us_at]
              rfl
            have S26 : SrI R K S sl D al pt cu X g s26 := w1.cg kx (k81 4 (by decide)) (k81 11 (by decide)) (k81 12 (by decide)) (k81 13 (by decide)) (fun z => by rw [k81 14 (by decide)]; exact z) (fun z => w1.2.2.2.2.2.1.1 (by rw [← k81 14 (by decide)]; exact z)) (fun z => by rw [k81 15 (by decide)]; exact z) (fun z => w1.2.2.2.2.2.1.2 (by rw [← k81 15 (by decide)]; exact z))
            have mo2 := w2.tr mo3
            have t11 := mo2.2.2.2.2.2.2.2.2.1
            have I26 : FdI R K S sl D al pt cu X g s26 := by
              refine ⟨S26, ⟨H + 1, v10, by rw [v10]; omega, fun i b' hi eb => ?_⟩, ?_, ?_⟩
              · have hi2 : (i : Int) < s 81 11 := by omega
                rw [mo2.2.2.2.2.2.2.2.1 i hi2] at eb
                by_cases q : i = H
                · rw [q, b2] at eb
                  have e : b' = b := by omega
                  rw [e]
                  exact w3.mo b1 hs mo3
                · exact (i4 i b' (by omega) eb).mo (i1.1.vs hi2 eb).1 hs mo2
              · rw [k81 14 (by decide), w5, mo2.2.2.2.2.1 75 (by decide), mo2.2.2.2.2.1 74 (by decide)]
                rcases i5 with y | ⟨y1, y2⟩
                · exact Or.inl y
                · exact Or.inr ⟨y1, fun r hr a b => mo2.1 r hr (y2 r hr a b)⟩
              · rw [k81 15 (by decide), w6, mo2.2.2.2.2.1 77 (by decide), mo2.2.2.2.2.1 74 (by decide)]
                rcases i6 with y | ⟨y1, y2⟩
                · exact Or.inl y
                · exact Or.inr ⟨y1, fun k hk a => mo2.2.1 k (S - 1) hk (by omega) (y2 k hk a)⟩
            obtain ⟨z1, z2⟩ := ih.2.2.1 x s26 rr t m (hF.mo mo2) (hg.mo mo2) I26 (by rw [mo2.2.2.2.2.2.2.1 2 (by decide) (by decide) (by decide) (by decide) (by decide) (by decide)]; exact h2) (by rw [v10, k81 14 (by decide), k81 15 (by decide), w5, w6]; omega)
            exact ⟨mo2.tr z1, z2⟩
    · have hI0 := hI
      obtain ⟨i1, ⟨H, i2, i3, i4⟩, i5, i6⟩ := hI
      have hs := hF.st.1
      replace m := ul_X9_finds_109 m
      unfold T_X9_finds_109 at m
      obtain ⟨_, _, _, m⟩ := m
      rcases m with ⟨c, er, et⟩ | ⟨c, m⟩
      · rw [et]
        exact ⟨MoS.rf, Or.inr ⟨er, hI0, he, hd, Or.inl c, hn⟩⟩
      · rcases m with ⟨c2, s5, e5, s6, m6, _, _, m⟩ | ⟨c2, er, et⟩
        · have mo1 : MoS R K S g s s5 := us81_mo (Or.inr (Or.inr rfl)) e5
          have v15 : s5 81 15 = 1 := by rw [e5, us_at]
          have k81 : ∀ i, ¬ i = 15 → s5 81 i = s 81 i := fun i hi => by rw [e5, us_j hi]
          have S5 : SrI R K S sl D al pt cu X g s5 := i1.cg (fun y hy => by rw [e5, us_k hy]) (k81 4 (by decide)) (k81 11 (by decide)) (k81 12 (by decide)) (k81 13 (by decide)) (fun z => by rw [k81 14 (by decide)]; exact z) (fun z => i1.2.2.2.2.2.1.1 (by rw [← k81 14 (by decide)]; exact z)) (fun _ => v15) (fun _ => c)
          obtain ⟨fd, m6⟩ := m6
          unfold T_X9_spreadLeft_e at m6
          obtain ⟨_, m6⟩ := m6
          rw [(hF.mo mo1).1.2.2] at m6
          obtain ⟨w1, w2, w3, w4, w5, w6⟩ := (spreadLeft12 hS fd).1 0 s5 0 s6 m6 (hF.mo mo1) (hg.mo mo1) S5 v15 (Nat.zero_le _)
          have mo2 := mo1.tr w2
          have t11 := mo2.2.2.2.2.2.2.2.2.1
          have I6 : FdI R K S sl D al pt cu X g s6 := by
            refine ⟨w1, ⟨H, by rw [w4, k81 10 (by decide)]; exact i2, by rw [w4, k81 10 (by decide)]; omega, fun i b hi eb => ?_⟩, ?_, Or.inr ⟨by rw [w6, v15], fun k hk a => w3 k (Nat.zero_le _) hk a⟩⟩
            · have hi2 : (i : Int) < s 81 11 := by omega
              rw [mo2.2.2.2.2.2.2.2.1 i hi2] at eb
              exact (i4 i b hi eb).mo (i1.1.vs hi2 eb).1 hs mo2
            · rw [w5, k81 14 (by decide), mo2.2.2.2.2.1 75 (by decide), mo2.2.2.2.2.1 74 (by decide)]
              rcases i5 with y | ⟨y1, y2⟩
              · exact Or.inl y
              · exact Or.inr ⟨y1, fun r hr a b => mo2.1 r hr (y2 r hr a b)⟩
          obtain ⟨z1, z2⟩ := ih.2.2.1 x s6 rr t m (hF.mo mo2) (hg.mo mo2) I6 (by rw [mo2.2.2.2.2.2.2.1 2 (by decide) (by decide) (by decide) (by decide) (by decide) (by decide)]; exact h2) (by rw [w4, w5, w6, v15, k81 10 (by decide), k81 14 (by decide)]; omega)
          exact ⟨mo2.tr z1, z2⟩
        · rw [et]
          have f1 : s 81 15 = 1 := by
            rcases i6 with y | y
            · exact absurd y c2
            · exact y.1
          exact ⟨MoS.rf, Or.inr ⟨er, hI0, he, hd, Or.inr f1, hn⟩⟩
    · replace m := ul_X9_finds_138 m
      unfold T_X9_finds_138 at m
      obtain ⟨_, _, _, m⟩ := m
      exact ih.1 (x + 1) s rr t m hF hg hI h2 hx
    · replace m := ul_X9_finds_144 m
      unfold T_X9_finds_144 at m
      obtain ⟨_, _, _, m⟩ := m
      rw [h2, Int.toNat_natCast] at m
      rcases m with ⟨c, er, et⟩ | ⟨c, _⟩
      · rw [et]
        exact ⟨MoS.rf, Or.inl ⟨er, hv, hI⟩⟩
      · exact absurd hv c
theorem MoS.toR (m : MoS R K S gg s t) (h : SrI R K S sl D al pt cu X g t) : MoS R K S R s t := by
  obtain ⟨a1, a2, a3, a4, a5, a6, a7, a8, a9, a10, a11⟩ := m
  refine ⟨a1, a2, a3, a4, a5, a6, a7, a8, a9, a10, fun k u p q z _ e => ?_⟩
  rcases (h.2.2.1 k u p q z).1 with ⟨b, b1, b2, _⟩ | ⟨b1, _⟩ <;> omega
theorem findsF (hF : FlS R K S sl fr D al pt cu X s) (hg : RgS R K S s) (hI : FdI R K S sl D al pt cu X g s) (hgR : g < R) (h2 : s 81 2 = (g : Int)) (hkK : k < K) (ha : al g k) (hX : X g k = 0) (hw : ¬ Ws s k (sl g)) (ht : s 77 (24 * k + sl g) = s 75 g - pt g k) (m : M_X9_finds s (k : Int) rr t) : FdE R K S R sl D al pt cu X g s t rr ∧ Ws t k (sl g) ∧ ∀ k' u, k' < K → u < S → Ws t k' u → ¬ Ws s k' u → t 86 (24 * k' + u) = (g : Int) → k' = k := by
  have hs := hF.st.1
  have sg := hs g hgR
  obtain ⟨fu, m⟩ := m
  unfold T_X9_finds_e at m
  obtain ⟨_, _, s28, m28, _, _, m⟩ := m
  rw [h2, Int.toNat_natCast, (hF.2.2.1 g hgR).1] at m28
  -- what the first spread has seen is of kind k
  obtain ⟨lo, hi, v1, v2, v3, v4, v5⟩ := spreadF hF hI.1.1 hkK sg (hg.2 k (sl g) hkK sg) m28
  have first : ∀ k' u, k' < K → u < S → Ws s28 k' u → ¬ Ws s k' u → k' = k := fun k' u p q z y => by
    by_cases w : k' = k
    · exact w
    · unfold Ws at z y
      rw [((v4.1 k' u p q).2 (fun c => w c.1)).1, v4.2.2.2.2.2.2.2.2 4 (by decide) (by decide) (by decide)] at z
      exact absurd z y
  obtain ⟨w1, w2, w3, w4, w5, w6⟩ := spread_st (gg := R) hF hI.1 hkK sg hw (hg.2 k (sl g) hkK sg) (Or.inl ⟨g, hgR, rfl, rfl, Or.inl rfl, ha, hX, fun q => absurd rfl q, ht⟩) (by omega) m28
  have I28 := hI.mo hs (by omega) w1 w2 w4 w5 w6
  have n14 : 0 ≤ s28 81 14 := by rcases I28.2.2.1 with y | y <;> omega
  have n15 : 0 ≤ s28 81 15 := by rcases I28.2.2.2 with y | y <;> omega
  have n10 : 0 ≤ s28 81 10 := by
    obtain ⟨H, y, _⟩ := I28.2.1
    omega
  obtain ⟨z1, z2⟩ := (finds23 (by omega) fu).1 0 s28 rr t m (hF.mo w2) (hg.mo w2) I28 (by rw [w2.2.2.2.2.2.2.1 2 (by decide) (by decide) (by decide) (by decide) (by decide) (by decide)]; exact h2) (by omega)
  have It : SrI R K S sl D al pt cu X g t := by
    rcases z2 with y | y
    · exact y.2.2
    · exact y.2.1.1
  refine ⟨⟨w2.tr (z1.toR It), z2⟩, z1.2.1 k (sl g) hkK sg w3, fun k' u p q a b e => ?_⟩
  by_cases c : Ws s28 k' u
  · exact first k' u p q c b
  · exact absurd e (z1.2.2.2.2.2.2.2.2.2.2 k' u p q a c)
end Fd6
