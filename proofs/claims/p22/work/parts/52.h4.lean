/-! the ranker: what is seen, and how -/
def Vs (s : PS) (r : Nat) : Prop := s 83 r = s 81 4
def Ws (s : PS) (k u : Nat) : Prop := s 85 (24 * k + u) = s 81 4
/-- a row that was seen ahead of place j in the line, or the goal -/
def Ahd (s : PS) (g : Nat) (j : Nat) (b : Nat) : Prop := b = g ∨ ∃ i, i < j ∧ s 87 i = (b : Int)
/-- how the row at place j of the line was seen -/
def RwI (R K S : Nat) (sl : Nat → Nat) (D : Nat → Int) (pt X : Nat → Nat → Int) (g : Nat) (s : PS) (j r : Nat) : Prop := (s 84 r = -3 ∧ s 81 14 = 1 ∧ sgN (X r) K < D r ∧ s 75 r = s 74 5 ∧ ∃ lo i, lo < R ∧ s 81 12 = (lo : Int) ∧ i < j ∧ s 87 i = (lo : Int)) ∨ ∃ k, k < K ∧ s 84 r = (k : Int) ∧ X r k = 1 ∧ tb (s 82 r) k = false ∧ Ws s k (sl r) ∧ s 75 r = s 77 (24 * k + sl r) + pt r k ∧ ((∃ b, b < R ∧ s 86 (24 * k + sl r) = (b : Int) ∧ Ahd s g j b) ∨ (s 86 (24 * k + sl r) = -2 ∧ ∃ lk b, lk < K ∧ s 81 13 = (lk : Int) ∧ b < R ∧ s 86 (24 * lk + (S - 1)) = (b : Int) ∧ Ahd s g j b))
/-- how a place was seen -/
def PlI (R S : Nat) (sl : Nat → Nat) (al : Nat → Nat → Prop) (pt cu X : Nat → Nat → Int) (g : Nat) (s : PS) (k u : Nat) : Prop := (∃ b, b < R ∧ s 86 (24 * k + u) = (b : Int) ∧ (b = g ∨ Vs s b) ∧ al b k ∧ X b k = 0 ∧ (¬ b = g → tb (s 82 b) k = false) ∧ s 77 (24 * k + sl b) = s 75 b - pt b k ∧ (∀ x, x < S → btw (sl b) u x → s 77 (24 * k + x) = s 77 (24 * k + u) ∧ Ws s k x ∧ s 86 (24 * k + x) = (b : Int)) ∧ ∀ x, sl b ≤ x → x < u → 0 < rStk R sl cu X k x) ∨ (s 86 (24 * k + u) = -2 ∧ s 81 15 = 1 ∧ s 77 (24 * k + u) = s 74 6 ∧ ∀ x, u ≤ x → x < S → s 77 (24 * k + x) = s 74 6 ∧ Ws s k x ∧ s 86 (24 * k + x) = -2)
/-- nothing seen lacks what it leads to -/
def ClP (R S : Nat) (sl : Nat → Nat) (pt cu X : Nat → Nat → Int) (s : PS) (k u : Nat) : Prop := (∀ r, r < R → sl r = u → X r k = 1 → tb (s 82 r) k = false → s 75 r = s 77 (24 * k + u) + pt r k → Vs s r) ∧ (0 < u → s 77 (24 * k + (u - 1)) = s 77 (24 * k + u) → Ws s k (u - 1)) ∧ (u + 1 < S → 0 < rStk R sl cu X k u → s 77 (24 * k + (u + 1)) = s 77 (24 * k + u) → Ws s k (u + 1)) ∧ (u + 1 = S → 0 < rStk R sl cu X k u → s 77 (24 * k + u) = s 74 6 → ¬ s 81 13 = -1)
def SrI (R K S : Nat) (sl : Nat → Nat) (D : Nat → Int) (al : Nat → Nat → Prop) (pt cu X : Nat → Nat → Int) (g : Nat) (s : PS) : Prop := LiI R s ∧ (∀ j r, r < R → s 87 j = (r : Int) → (j : Int) < s 81 11 → RwI R K S sl D pt X g s j r) ∧ (∀ k u, k < K → u < S → Ws s k u → PlI R S sl al pt cu X g s k u ∧ ClP R S sl pt cu X s k u) ∧ (s 81 12 = -1 ∨ ∃ lo, lo < R ∧ s 81 12 = (lo : Int) ∧ Vs s lo ∧ ¬ s 84 lo = -3 ∧ s 75 lo = s 74 5) ∧ (s 81 13 = -1 ∨ ∃ lk b, lk < K ∧ s 81 13 = (lk : Int) ∧ Ws s lk (S - 1) ∧ 0 < rStk R sl cu X lk (S - 1) ∧ s 77 (24 * lk + (S - 1)) = s 74 6 ∧ b < R ∧ s 86 (24 * lk + (S - 1)) = (b : Int)) ∧ ((s 81 14 = 1 → ¬ s 81 12 = -1) ∧ (s 81 15 = 1 → ¬ s 81 13 = -1)) ∧ ∀ r, r < R → Vs s r → 0 < sgN (X r) K → s 75 r = s 74 5 → ¬ s 81 12 = -1
section Srch
variable {R K S k g slot lo hi : Nat} {sl fr : Nat → Nat} {D : Nat → Int} {al : Nat → Nat → Prop} {pt cu X : Nat → Nat → Int} {rw_ cost : Int} {s t u : PS} {rr : Int}
theorem LiI.ix (h : LiI R s) {r : Nat} (hr : r < R) (hv : Vs s r) : ∃ i : Nat, (i : Int) < s 81 11 ∧ s 87 i = (r : Int) := by
  obtain ⟨T, t1, _, _, t4⟩ := h
  obtain ⟨i, i1, i2⟩ := t4 r hr hv
  exact ⟨i, by omega, i2⟩
theorem LiI.vs (h : LiI R s) {r i : Nat} (hi : (i : Int) < s 81 11) (e : s 87 i = (r : Int)) : r < R ∧ Vs s r := by
  obtain ⟨T, t1, t2, _, _⟩ := h
  obtain ⟨a, a1, a2, a3⟩ := t2 i (by omega)
  have e2 : a = r := by omega
  rw [← e2]
  exact ⟨a1, a3⟩
/-- a spread keeps all this -/
theorem sp_st (hF : FlS R K S sl fr D al pt cu X s) (hI : SrI R K S sl D al pt cu X g s) (hkK : k < K) (hslot : slot < S) (hun : ¬ Ws s k slot) (hsrc : (∃ b, b < R ∧ rw_ = (b : Int) ∧ slot = sl b ∧ (b = g ∨ Vs s b) ∧ al b k ∧ X b k = 0 ∧ (¬ b = g → tb (s 82 b) k = false) ∧ s 77 (24 * k + slot) = s 75 b - pt b k) ∨ (rw_ = -2 ∧ slot = S - 1 ∧ s 81 15 = 1 ∧ s 77 (24 * k + slot) = s 74 6)) (h1 : lo ≤ slot + 1) (h2 : slot + 1 ≤ hi) (h3 : hi ≤ S) (hE : SpE R K S k (fun u => lo ≤ u ∧ u < hi) (hitS sl pt X k (fun u => lo ≤ u ∧ u < hi) s) rw_ (k : Int) s t) (hD : SpD R K S k sl cu X slot (s 77 (24 * k + slot)) s lo (slot + 1) hi) : SrI R K S sl D al pt cu X g t ∧ (∀ r, r < R → Vs s r → Vs t r) ∧ (∀ k u, k < K → u < S → Ws s k u → Ws t k u) ∧ Ws t k slot ∧ (¬ s 81 12 = -1 → t 81 12 = s 81 12) ∧ (¬ s 81 13 = -1 → t 81 13 = s 81 13) := by
  obtain ⟨d1, d2, d3, d4⟩ := hD
  obtain ⟨e1, e2, eL, ⟨T, T2, e3, e4, e5, e6⟩, ⟨e7, e8⟩, ⟨e9, e10⟩, e11, e12, e13⟩ := hE
  obtain ⟨iL, iR, iP, i12, i13, ⟨i14, i15⟩, iC⟩ := hI
  have hs := hF.st.1
  have hS : 0 < S := by omega
  have st : t 81 4 = s 81 4 := e13 4 (by decide) (by decide) (by decide)
  have t14 : t 81 14 = s 81 14 := e13 14 (by decide) (by decide) (by decide)
  have t15 : t 81 15 = s 81 15 := e13 15 (by decide) (by decide) (by decide)
  have t75 : t 75 = s 75 := e11 75 (by decide)
  have t77 : t 77 = s 77 := e11 77 (by decide)
  have t74 : t 74 = s 74 := e11 74 (by decide)
  have lsl : lo ≤ slot := by
    by_cases q : lo ≤ slot
    · exact q
    · have elo : lo = slot + 1 := by omega
      rcases d2 with z | z | z
      · omega
      · rw [elo] at z
        exact absurd z hun
      · rw [elo] at z
        exact absurd rfl z
  have mV : ∀ r, r < R → Vs s r → Vs t r := fun r hr q => by
    have nh : ¬ hitS sl pt X k (fun u => lo ≤ u ∧ u < hi) s r := fun z => z.2.2.2.1 q
    unfold Vs
    rw [((e2 r hr).2 nh).1, st]
    exact q
  have hV : ∀ r, r < R → Vs t r → Vs s r ∨ hitS sl pt X k (fun u => lo ≤ u ∧ u < hi) s r := fun r hr q => by
    by_cases z : hitS sl pt X k (fun u => lo ≤ u ∧ u < hi) s r
    · exact Or.inr z
    · refine Or.inl ?_
      unfold Vs at q
      rw [((e2 r hr).2 z).1, st] at q
      exact q
  have pin : ∀ u, u < S → lo ≤ u → u < hi → ¬ Ws s k u ∧ s 77 (24 * k + u) = s 77 (24 * k + slot) := fun u _ q1 q2 => by
    by_cases q3 : u < slot + 1
    · exact d1 u q1 q3
    · exact (d3 u (by omega) q2).1
  have nI : ∀ k2 u, k2 < K → u < S → Ws s k2 u → ¬ (k2 = k ∧ lo ≤ u ∧ u < hi) := fun k2 u _ q2 q z => by
    rw [z.1] at q
    exact (pin u q2 z.2.1 z.2.2).1 q
  have mW : ∀ k2 u, k2 < K → u < S → Ws s k2 u → Ws t k2 u ∧ t 86 (24 * k2 + u) = s 86 (24 * k2 + u) := fun k2 u q1 q2 q => by
    obtain ⟨w1, w2⟩ := (e1 k2 u q1 q2).2 (nI k2 u q1 q2 q)
    unfold Ws
    rw [w1, w2, st]
    exact ⟨q, rfl⟩
  have nW : ∀ u, u < S → lo ≤ u → u < hi → Ws t k u ∧ t 86 (24 * k + u) = rw_ := fun u q1 q2 q3 => by
    obtain ⟨w1, w2⟩ := (e1 k u hkK q1).1 ⟨rfl, q2, q3⟩
    unfold Ws
    rw [w1, st]
    exact ⟨rfl, w2⟩
  have hW : ∀ k2 u, k2 < K → u < S → Ws t k2 u → Ws s k2 u ∨ (k2 = k ∧ lo ≤ u ∧ u < hi) := fun k2 u q1 q2 q => by
    by_cases z : k2 = k ∧ lo ≤ u ∧ u < hi
    · exact Or.inr z
    · refine Or.inl ?_
      unfold Ws at q
      rw [((e1 k2 u q1 q2).2 z).1, st] at q
      exact q
  have m12 : ¬ s 81 12 = -1 → ¬ t 81 12 = -1 := fun q => by rw [e7 q]; exact q
  have m13 : ¬ s 81 13 = -1 → ¬ t 81 13 = -1 := fun q => by rw [e9 q]; exact q
  have T0 : ∀ r, r < R → Vs s r → ∃ i, i < T ∧ t 87 i = (r : Int) ∧ s 87 i = (r : Int) := fun r hr q => by
    obtain ⟨i, i1, i2⟩ := iL.ix hr q
    exact ⟨i, by omega, by rw [e6 i (by omega)]; exact i2, i2⟩
  refine ⟨⟨eL, fun j r hr ej hj => ?_, fun k2 u q1 q2 q => ?_, ?_, ?_, ⟨fun z => m12 (i14 (by rw [← t14]; exact z)), fun z => m13 (i15 (by rw [← t15]; exact z))⟩, fun r hr q p z => ?_⟩, mV, fun k2 u q1 q2 q => (mW k2 u q1 q2 q).1, (nW slot hslot lsl (by omega)).1, e7, e9⟩
  · by_cases oldj : j < T
    · rw [e6 j oldj] at ej
      obtain ⟨_, vr⟩ := iL.vs (by omega) ej
      have nh : ¬ hitS sl pt X k (fun u => lo ≤ u ∧ u < hi) s r := fun z => z.2.2.2.1 vr
      have t84 : t 84 r = s 84 r := ((e2 r hr).2 nh).2
      have ahd : ∀ b, Ahd s g j b → Ahd t g j b := fun b q => by
        rcases q with q | ⟨i, i1, i2⟩
        · exact Or.inl q
        · exact Or.inr ⟨i, i1, by rw [e6 i (by omega)]; exact i2⟩
      rcases iR j r hr ej (by omega) with ⟨z1, z2, z3, z4, lo', i, z5, z6, z7, z8⟩ | ⟨k', z1, z2, z3, z4, z5, z6, z7⟩
      · refine Or.inl ⟨by rw [t84]; exact z1, by rw [t14]; exact z2, z3, by rw [t75, t74]; exact z4, lo', i, z5, by rw [e7 (by rw [z6]; omega)]; exact z6, z7, by rw [e6 i (by omega)]; exact z8⟩
      · obtain ⟨w1, w2⟩ := mW k' (sl r) z1 (hs r hr) z5
        refine Or.inr ⟨k', z1, by rw [t84]; exact z2, z3, by rw [e12]; exact z4, w1, by rw [t75, t77]; exact z6, ?_⟩
        rw [w2]
        rcases z7 with ⟨b, b1, b2, b3⟩ | ⟨b1, lk, b, b2, b3, b4, b5, b6⟩
        · exact Or.inl ⟨b, b1, b2, ahd b b3⟩
        · have n13 : ¬ s 81 13 = -1 := by omega
          rcases i13 with y | ⟨lk', b', y1, y2, y3, y4, y5, y6, y7⟩
          · exact absurd y n13
          · have el : lk' = lk := by omega
            rw [el] at y3
            exact Or.inr ⟨b1, lk, b, b2, by rw [e9 n13]; exact b3, b4, by rw [(mW lk (S - 1) b2 (by omega) y3).2]; exact b5, ahd b b6⟩
    · obtain ⟨_, vt⟩ := eL.vs hj ej
      have nvs : ¬ Vs s r := fun q => by
        obtain ⟨i, i1, i2, _⟩ := T0 r hr q
        obtain ⟨T', x1, _, x3, _⟩ := eL
        have y := x3 i j (by omega) (by omega) (by rw [i2, ej])
        omega
      have hh : hitS sl pt X k (fun u => lo ≤ u ∧ u < hi) s r := by
        rcases hV r hr vt with z | z
        · exact absurd z nvs
        · exact z
      obtain ⟨z1, z2, z3, z4, z5⟩ := hh
      obtain ⟨w1, w2⟩ := nW (sl r) (hs r hr) z3.1 z3.2
      have ahd : ∀ b, b < R → (b = g ∨ Vs s b) → Ahd t g j b := fun b hb q => by
        rcases q with q | q
        · exact Or.inl q
        · obtain ⟨i, i1, i2, _⟩ := T0 b hb q
          exact Or.inr ⟨i, by omega, i2⟩
      refine Or.inr ⟨k, hkK, ((e2 r hr).1 ⟨z1, z2, z3, z4, z5⟩).2, z1, by rw [e12]; exact z2, w1, by rw [t75, t77]; exact z5, ?_⟩
      rw [w2]
      rcases hsrc with ⟨b, b1, b2, b3, b4, _⟩ | ⟨b1, b2, b3, b4⟩
      · exact Or.inl ⟨b, b1, b2, ahd b b1 b4⟩
      · have n13 := i15 b3
        rcases i13 with y | ⟨lk, b', y1, y2, y3, y4, y5, y6, y7⟩
        · exact absurd y n13
        · refine Or.inr ⟨b1, lk, b', y1, by rw [e9 n13]; exact y2, y6, by rw [(mW lk (S - 1) y1 (by omega) y3).2]; exact y7, ?_⟩
          rcases (iP lk (S - 1) y1 (by omega) y3).1 with ⟨b'', p1, p2, p3, _⟩ | ⟨p1, _⟩
          · have eb : b'' = b' := by omega
            rw [eb] at p3
            exact ahd b' y6 p3
          · omega
  · rcases hW k2 u q1 q2 q with old | new
    · obtain ⟨z1, c1, c2, c3, c4⟩ := iP k2 u q1 q2 old
      refine ⟨?_, fun r hr a1 a2 a3 a4 => mV r hr (c1 r hr a1 a2 (by rw [← e12]; exact a3) (by rw [← t75, ← t77]; exact a4)), fun a1 a2 => (mW k2 (u - 1) q1 (by omega) (c2 a1 (by rw [← t77]; exact a2))).1, fun a1 a2 a3 => (mW k2 (u + 1) q1 a1 (c3 a1 a2 (by rw [← t77]; exact a3))).1, fun a1 a2 a3 => m13 (c4 a1 a2 (by rw [← t77, ← t74]; exact a3))⟩
      have o86 := (mW k2 u q1 q2 old).2
      rcases z1 with ⟨b, b1, b2, b3, b4, b5, b6, b7, b8, b9⟩ | ⟨b1, b2, b3, b4⟩
      · refine Or.inl ⟨b, b1, by rw [o86]; exact b2, b3.imp id (mV b b1), b4, b5, fun z => by rw [e12]; exact b6 z, by rw [t77, t75]; exact b7, fun x x1 x2 => ?_, b9⟩
        obtain ⟨y1, y2, y3⟩ := b8 x x1 x2
        obtain ⟨w1, w2⟩ := mW k2 x q1 x1 y2
        exact ⟨by rw [t77]; exact y1, w1, by rw [w2]; exact y3⟩
      · refine Or.inr ⟨by rw [o86]; exact b1, by rw [t15]; exact b2, by rw [t77, t74]; exact b3, fun x x1 x2 => ?_⟩
        obtain ⟨y1, y2, y3⟩ := b4 x x1 x2
        obtain ⟨w1, w2⟩ := mW k2 x q1 x2 y2
        exact ⟨by rw [t77, t74]; exact y1, w1, by rw [w2]; exact y3⟩
    · have pu := pin u q2 new.2.1 new.2.2
      rw [new.1]
      refine ⟨?_, fun r hr a1 a2 a3 a4 => ?_, fun a1 a2 => ?_, fun a1 a2 a3 => ?_, fun a1 a2 a3 => ?_⟩
      · rcases hsrc with ⟨b, b1, b2, b3, b4, b5, b6, b7, b8⟩ | ⟨b1, b2, b3, b4⟩
        · refine Or.inl ⟨b, b1, by rw [(nW u q2 new.2.1 new.2.2).2]; exact b2, b4.imp id (mV b b1), b5, b6, fun z => by rw [e12]; exact b7 z, by rw [t77, t75, ← b3]; exact b8, fun x x1 x2 => ?_, fun x x1 x2 => ?_⟩
          · have inI : lo ≤ x ∧ x < hi := by
              rw [← b3] at x2
              unfold btw at x2
              omega
            obtain ⟨w1, w2⟩ := nW x x1 inI.1 inI.2
            exact ⟨by rw [t77, (pin x x1 inI.1 inI.2).2, pu.2], w1, by rw [w2]; exact b2⟩
          · have z := (d3 (x + 1) (by omega) (by omega)).2
            exact z
        · refine Or.inr ⟨by rw [(nW u q2 new.2.1 new.2.2).2]; exact b1, by rw [t15]; exact b3, by rw [t77, t74, pu.2]; exact b4, fun x x1 x2 => ?_⟩
          obtain ⟨w1, w2⟩ := nW x x2 (by omega) (by omega)
          exact ⟨by rw [t77, t74, (pin x x2 (by omega) (by omega)).2]; exact b4, w1, by rw [w2]; exact b1⟩
      · by_cases z : Vs s r
        · exact mV r hr z
        · have hh : hitS sl pt X k (fun u => lo ≤ u ∧ u < hi) s r := ⟨a2, by rw [← e12]; exact a3, by show lo ≤ sl r ∧ sl r < hi; omega, z, by rw [a1, ← t75, ← t77]; exact a4⟩
          unfold Vs
          rw [((e2 r hr).1 hh).1, st]
      · by_cases z : lo ≤ u - 1
        · exact (nW (u - 1) (by omega) z (by omega)).1
        · have elo : lo - 1 = u - 1 := by omega
          rcases d2 with y | y | y
          · omega
          · rw [elo] at y
            exact (mW k (u - 1) hkK (by omega) y).1
          · rw [elo] at y
            rw [t77, pu.2] at a2
            exact absurd a2 y
      · by_cases z : u + 1 < hi
        · exact (nW (u + 1) a1 (by omega) z).1
        · have ehi : hi = u + 1 := by omega
          rw [ehi] at d4
          rcases d4 with y | y | y | y
          · omega
          · have y2 : rStk R sl cu X k u ≤ 0 := y
            omega
          · exact (mW k (u + 1) hkK a1 y).1
          · rw [t77, pu.2] at a3
            exact absurd a3 y
      · have eu : u = S - 1 := by omega
        rw [eu] at new a2 a3
        rw [t77, t74] at a3
        have lf : (lo ≤ S - 1 ∧ S - 1 < hi) ∧ 0 < s 73 (24 * k + (S - 1)) ∧ s 77 (24 * k + (S - 1)) = s 74 6 := ⟨new.2, by rw [(hF.2.2.2.2.1 k (S - 1) hkK (by omega)).1]; exact a2, a3⟩
        by_cases z : s 81 13 = -1
        · rcases e10 z with ⟨_, y⟩ | ⟨_, y⟩
          · exact absurd lf y
          · rw [y]
            omega
        · exact m13 z
  · rcases i12 with z | ⟨lo', z1, z2, z3, z4, z5⟩
    · rcases e8 z with ⟨y, _⟩ | ⟨r, y1, y2, y3, y4, y5⟩
      · exact Or.inl y
      · refine Or.inr ⟨r, y1, y5, ?_, ?_, by rw [t75, t74]; exact y4⟩
        · unfold Vs
          rw [((e2 r y1).1 y2).1, st]
        · rw [((e2 r y1).1 y2).2]
          omega
    · have nh : ¬ hitS sl pt X k (fun u => lo ≤ u ∧ u < hi) s lo' := fun q => q.2.2.2.1 z3
      exact Or.inr ⟨lo', z1, by rw [e7 (by rw [z2]; omega)]; exact z2, mV lo' z1 z3, by rw [((e2 lo' z1).2 nh).2]; exact z4, by rw [t75, t74]; exact z5⟩
  · rcases i13 with z | ⟨lk, b, z1, z2, z3, z4, z5, z6, z7⟩
    · rcases e10 z with ⟨y, _⟩ | ⟨⟨y1, y2, y3⟩, y4⟩
      · exact Or.inl y
      · obtain ⟨w1, w2⟩ := nW (S - 1) (by omega) y1.1 y1.2
        rw [(hF.2.2.2.2.1 k (S - 1) hkK (by omega)).1] at y2
        rcases hsrc with ⟨b, b1, b2, _⟩ | ⟨b1, b2, b3, b4⟩
        · exact Or.inr ⟨k, b, hkK, y4, w1, y2, by rw [t77, t74]; exact y3, b1, by rw [w2]; exact b2⟩
        · exact absurd z (i15 b3)
    · obtain ⟨w1, w2⟩ := mW lk (S - 1) z1 (by omega) z3
      exact Or.inr ⟨lk, b, z1, by rw [e9 (by rw [z2]; omega)]; exact z2, w1, z4, by rw [t77, t74]; exact z5, z6, by rw [w2]; exact z7⟩
  · rcases hV r hr q with y | y
    · exact m12 (iC r hr y p (by rw [← t75, ← t74]; exact z))
    · rw [t75, t74] at z
      by_cases y2 : s 81 12 = -1
      · rcases e8 y2 with ⟨_, w⟩ | ⟨a, _, _, _, _, w⟩
        · exact absurd ⟨by omega, z⟩ (w r hr y)
        · rw [w]
          omega
      · exact m12 y2
end Srch
