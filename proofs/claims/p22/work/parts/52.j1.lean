/-! the class's floor: children with gifts due, day by day -/
def FbD (n K : Nat) (D : Nat → Int) (dy : Nat → Nat) (Pt : Nat → Nat → Int) (mb : Nat → Int) (s : PS) : Prop := s 42 2 = (n : Int) ∧ ∀ c, c < n → s 49 c = (dy c : Int) ∧ s 57 c = D c ∧ s 58 c = mb c ∧ ∀ k, k < K → s 59 (10 * c + k) = Pt c k
def FbI (n K : Nat) (D : Nat → Int) (dy : Nat → Nat) (Pt : Nat → Nat → Int) (mb : Nat → Int) (cu : Nat → Nat → Int) (d i R S : Nat) (ch sl dd fr : Nat → Nat) (s : PS) : Prop := (s 64 0 = (K : Int) ∧ s 64 1 = (R : Int) ∧ s 64 2 = (S : Int)) ∧ (∀ r, r < R → (ch r < n ∧ 0 < D (ch r)) ∧ (s 65 r = (sl r : Int) ∧ s 68 r = D (ch r) ∧ s 69 r = mb (ch r) ∧ s 70 r = 0 ∧ s 71 r = 0 ∧ ∀ k, k < K → s 72 (10 * r + k) = Pt (ch r) k) ∧ s 67 (ch r) = (r : Int)) ∧ (∀ r, r < R → (sl r < S ∧ dy (ch r) = dd (sl r)) ∨ (sl r = S ∧ dy (ch r) = d ∧ ch r < i)) ∧ (∀ t, t < S → 1 ≤ dd t ∧ dd t < d) ∧ (∀ t u, t < u → u < S → dd t < dd u) ∧ (∀ c, c < 40 → (∀ r, r < R → ¬ ch r = c) → s 67 c = -1) ∧ (∀ c, c < n → 0 < D c → (dy c < d ∨ (dy c = d ∧ c < i)) → ∃ r, r < R ∧ ch r = c) ∧ (∀ k t, k < K → t < S → s 73 (24 * k + t) = cu k (dd t)) ∧ (∀ t, t ≤ S → s 66 t = (fr t : Int) ∧ fr t ≤ R) ∧ (∀ r t, r < R → t < S → ((fr t ≤ r ∧ r < fr (t + 1)) ↔ sl r = t)) ∧ ∀ r, r < R → (fr S ≤ r ↔ sl r = S)
section Flb
variable {n K d i R S : Nat} {D : Nat → Int} {dy : Nat → Nat} {Pt : Nat → Nat → Int} {mb : Nat → Int} {cu cm : Nat → Nat → Int} {ch sl dd fr : Nat → Nat} {s t : PS} {rr : Int}
theorem FbD.cg (h : FbD n K D dy Pt mb s) (e42 : t 42 2 = s 42 2) (e49 : t 49 = s 49) (e57 : t 57 = s 57) (e58 : t 58 = s 58) (e59 : t 59 = s 59) : FbD n K D dy Pt mb t := by
  unfold FbD at h ⊢
  rw [e42, e49, e57, e58, e59]
  exact h
theorem FbI.inj (h : FbI n K D dy Pt mb cu d i R S ch sl dd fr s) {r r' : Nat} (hr : r < R) (hr' : r' < R) (e : ch r = ch r') : r = r' := by
  have a := (h.2.1 r hr).2.2
  have b := (h.2.1 r' hr').2.2
  rw [e, b] at a
  omega
theorem FbI.sk (h : FbI n K D dy Pt mb cu d i R S ch sl dd fr s) (hn : ¬ (dy i = d ∧ 0 < D i)) : FbI n K D dy Pt mb cu d (i + 1) R S ch sl dd fr s := by
  obtain ⟨a, b, c, e, f, g, j, l⟩ := h
  refine ⟨a, b, fun r hr => ?_, e, f, g, fun x hx hd q => ?_, l⟩
  · rcases c r hr with y | ⟨y1, y2, y3⟩
    · exact Or.inl y
    · exact Or.inr ⟨y1, y2, by omega⟩
  · rcases q with q | ⟨q1, q2⟩
    · exact j x hx hd (Or.inl q)
    · by_cases y : x = i
      · rw [y] at q1 hd
        exact absurd ⟨q1, hd⟩ hn
      · exact j x hx hd (Or.inr ⟨q1, by omega⟩)
/-- no row of child i yet; there is room -/
theorem FbI.room (h : FbI n K D dy Pt mb cu d i R S ch sl dd fr s) (hi : i < n) (hd : dy i = d) : (∀ r, r < R → ¬ ch r = i) ∧ R + 1 ≤ n := by
  have no : ∀ r, r < R → ¬ ch r = i := fun r hr e => by
    rcases h.2.2.1 r hr with ⟨y1, y2⟩ | ⟨_, _, y3⟩
    · have z := (h.2.2.2.1 (sl r) y1).2
      rw [e] at y2
      omega
    · omega
  refine ⟨no, ?_⟩
  exact php n (R + 1) (fun r => if r = R then i else ch r) (fun r hr => by
    show (if r = R then i else ch r) < n
    by_cases y : r = R
    · rw [if_pos y]
      exact hi
    · rw [if_neg y]
      exact (h.2.1 r (by omega)).1.1) (fun r r' hr hr' e => by
    have e2 : (if r = R then i else ch r) = (if r' = R then i else ch r') := e
    by_cases y : r = R
    · by_cases y2 : r' = R
      · omega
      · rw [if_pos y, if_neg y2] at e2
        exact absurd e2.symm (no r' (by omega))
    · by_cases y2 : r' = R
      · rw [if_neg y, if_pos y2] at e2
        exact absurd e2 (no r (by omega))
      · rw [if_neg y, if_neg y2] at e2
        exact h.inj (by omega) (by omega) e2)
theorem ar85 (hR : R < 40) : ∀ (fu x : Nat) (s : PS) (rr : Int) (t : PS), It_X3_addRow_56 fu (i : Int) (x : Int) s rr t → s 64 0 = (K : Int) → s 64 1 = (R : Int) → K ≤ 10 → x ≤ K → (∀ k, k < x → s 72 (10 * R + k) = s 59 (10 * i + k)) → (∀ k, k < K → t 72 (10 * R + k) = s 59 (10 * i + k)) ∧ (∀ j, ¬ (10 * R ≤ j ∧ j < 10 * R + 10) → t 72 j = s 72 j) ∧ t 64 1 = (R : Int) + 1 ∧ (∀ j, ¬ j = 1 → t 64 j = s 64 j) ∧ ∀ y, ¬ y = 64 → ¬ y = 72 → t y = s y
  | 0, x, s, rr, t, m, _, _, _, _, _ => False.elim m
  | fu + 1, x, s, rr, t, m, h0, h1, hK, hx, hp => by
    replace m := ul_X3_addRow_56_85 m
    unfold T_X3_addRow_56_85 at m
    obtain ⟨_, _, _, m⟩ := m
    rw [h0, h1] at m
    rcases m with ⟨c, s2, e2, _, et⟩ | ⟨c, s4, e4, m⟩
    · have e : x = K := by omega
      rw [e] at hp
      rw [et]
      exact ⟨fun k hk => by rw [e2, us_k (by decide)]; exact hp k hk, fun j _ => by rw [e2, us_k (by decide)], by rw [e2, us_at], fun j hj => by rw [e2, us_j hj], fun y y1 _ => by rw [e2, us_k y1]⟩
    · have ei : (((R : Int) * 10) + (x : Int)).toNat = 10 * R + x := by
        clear m
        omega
      have ei2 : (((i : Int) * 10) + (x : Int)).toNat = 10 * i + x := by
        clear m
        omega
      rw [ei, ei2] at e4
      have e1 : (x : Int) + 1 = ((x + 1 : Nat) : Int) := rfl
      rw [e1] at m
      have hxK : x < K := by
        clear m
        omega
      have k4 : ∀ y, ¬ y = 72 → s4 y = s y := fun y hy => by rw [e4, us_k hy]
      obtain ⟨w1, w2, w3, w4, w5⟩ := ar85 hR fu (x + 1) s4 rr t m (by rw [k4 64 (by decide)]; exact h0) (by rw [k4 64 (by decide)]; exact h1) hK hxK (fun k hk => by
        rw [k4 59 (by decide), e4, us_if]
        by_cases y : k = x
        · rw [y, if_pos rfl]
        · rw [if_neg (by omega)]
          exact hp k (by omega))
      rw [k4 59 (by decide)] at w1
      refine ⟨w1, fun j hj => ?_, w3, fun j hj => by rw [w4 j hj, k4 64 (by decide)], fun y y1 y2 => (w5 y y1 y2).trans (k4 y y2)⟩
      rw [w2 j hj, e4, us_if, if_neg (by omega)]
/-- one row more -/
theorem addRowF (hn : n ≤ 40) (hK : K ≤ 10) (hC : FbD n K D dy Pt mb s) (h : FbI n K D dy Pt mb cu d i R S ch sl dd fr s) (hi : i < n) (hd : dy i = d) (hD : 0 < D i) (m : M_X3_addRow_56 s (i : Int) rr t) : FbI n K D dy Pt mb cu d (i + 1) (R + 1) S (fun r => if r = R then i else ch r) (fun r => if r = R then S else sl r) dd fr t ∧ ∀ y, ¬ (64 ≤ y ∧ y ≤ 73) → t y = s y := by
  suffices H : ∀ ch2 sl2 : Nat → Nat, (∀ r, ch2 r = if r = R then i else ch r) → (∀ r, sl2 r = if r = R then S else sl r) → FbI n K D dy Pt mb cu d (i + 1) (R + 1) S ch2 sl2 dd fr t ∧ ∀ y, ¬ (64 ≤ y ∧ y ≤ 73) → t y = s y from H _ _ (fun _ => rfl) (fun _ => rfl)
  intro ch2 sl2 hch hsl
  have cR : ∀ r, r = R → ch2 r = i ∧ sl2 r = S := fun r y => ⟨by rw [hch, if_pos y], by rw [hsl, if_pos y]⟩
  have cN : ∀ r, ¬ r = R → ch2 r = ch r ∧ sl2 r = sl r := fun r y => ⟨by rw [hch, if_neg y], by rw [hsl, if_neg y]⟩
  obtain ⟨no, hR⟩ := h.room hi hd
  have h0 := h
  obtain ⟨⟨a1, a2, a3⟩, b, c, e, f, g, j, l, o, p, q⟩ := h
  obtain ⟨d1, d2, d3, d4⟩ := hC.2 i hi
  obtain ⟨fu, m⟩ := m
  unfold T_X3_addRow_56_e at m
  obtain ⟨_, _, m⟩ := m
  rw [a2, a3, Int.toNat_natCast, Int.toNat_natCast] at m
  rcases m with ⟨_, s6, e6, s7, e7, s9, e9, s11, e11, s12, e12, s13, e13, m⟩ | ⟨c1, _⟩
  · have k13 : ∀ y, ¬ y = 65 → ¬ y = 67 → ¬ y = 68 → ¬ y = 69 → ¬ y = 70 → ¬ y = 71 → s13 y = s y := fun y y1 y2 y3 y4 y5 y6 => by rw [e13, us_k y6, e12, us_k y5, e11, us_k y4, e9, us_k y3, e7, us_k y2, e6, us_k y1]
    have v65 : ∀ r, s13 65 r = if r = R then (S : Int) else s 65 r := fun r => by rw [e13, us_k (by decide), e12, us_k (by decide), e11, us_k (by decide), e9, us_k (by decide), e7, us_k (by decide), e6, us_if]
    have v67 : ∀ r, s13 67 r = if r = i then (R : Int) else s 67 r := fun r => by rw [e13, us_k (by decide), e12, us_k (by decide), e11, us_k (by decide), e9, us_k (by decide), e7, us_if, e6, us_k (by decide)]
    have v68 : ∀ r, s13 68 r = if r = R then D i else s 68 r := fun r => by rw [e13, us_k (by decide), e12, us_k (by decide), e11, us_k (by decide), e9, us_if, e7, us_k (by decide), e6, us_k (by decide), d2]
    have v69 : ∀ r, s13 69 r = if r = R then mb i else s 69 r := fun r => by rw [e13, us_k (by decide), e12, us_k (by decide), e11, us_if, e9, us_k (by decide), e7, us_k (by decide), e6, us_k (by decide), d3]
    have v70 : ∀ r, s13 70 r = if r = R then 0 else s 70 r := fun r => by rw [e13, us_k (by decide), e12, us_if, e11, us_k (by decide), e9, us_k (by decide), e7, us_k (by decide), e6, us_k (by decide)]
    have v71 : ∀ r, s13 71 r = if r = R then 0 else s 71 r := fun r => by rw [e13, us_if, e12, us_k (by decide), e11, us_k (by decide), e9, us_k (by decide), e7, us_k (by decide), e6, us_k (by decide)]
    have k64 := k13 64 (by decide) (by decide) (by decide) (by decide) (by decide) (by decide)
    obtain ⟨w1, w2, w3, w4, w5⟩ := ar85 (show R < 40 by omega) fu 0 s13 rr t m (by rw [k64]; exact a1) (by rw [k64]; exact a2) hK (Nat.zero_le _) (fun k hk => absurd hk (Nat.not_lt_zero _))
    have kt : ∀ y, ¬ y = 64 → ¬ y = 65 → ¬ y = 67 → ¬ y = 68 → ¬ y = 69 → ¬ y = 70 → ¬ y = 71 → ¬ y = 72 → t y = s y := fun y y0 y1 y2 y3 y4 y5 y6 y7 => (w5 y y0 y7).trans (k13 y y1 y2 y3 y4 y5 y6)
    rw [k13 59 (by decide) (by decide) (by decide) (by decide) (by decide) (by decide)] at w1
    refine ⟨⟨⟨by rw [w4 0 (by decide), k64]; exact a1, by rw [w3]; rfl, by rw [w4 2 (by decide), k64]; exact a3⟩, fun r hr => ?_, fun r hr => ?_, e, f, fun x hx hne => ?_, fun x hx hDx hq => ?_, fun k u hk hu => ?_, fun u hu => ?_, fun r u hr hu => ?_, fun r hr => ?_⟩, fun y hy => kt y (by omega) (by omega) (by omega) (by omega) (by omega) (by omega) (by omega) (by omega)⟩
    · rw [w5 65 (by decide) (by decide), w5 67 (by decide) (by decide), w5 68 (by decide) (by decide), w5 69 (by decide) (by decide), w5 70 (by decide) (by decide), w5 71 (by decide) (by decide), v65, v67, v68, v69, v70, v71]
      by_cases y : r = R
      · rw [(cR r y).1, (cR r y).2, if_pos y, if_pos y, if_pos y, if_pos y, if_pos y, if_pos rfl, y]
        exact ⟨⟨hi, hD⟩, ⟨rfl, rfl, rfl, rfl, rfl, fun k hk => (w1 k hk).trans (d4 k hk)⟩, rfl⟩
      · have hr2 : r < R := by omega
        obtain ⟨b1, ⟨b2, b3, b4, b5, b6, b7⟩, b8⟩ := b r hr2
        rw [(cN r y).1, (cN r y).2, if_neg y, if_neg y, if_neg y, if_neg y, if_neg y, if_neg (no r hr2)]
        exact ⟨b1, ⟨b2, b3, b4, b5, b6, fun k hk => by rw [w2 _ (by omega), k13 72 (by decide) (by decide) (by decide) (by decide) (by decide) (by decide)]; exact b7 k hk⟩, b8⟩
    · by_cases y : r = R
      · rw [(cR r y).1, (cR r y).2]
        exact Or.inr ⟨rfl, hd, by omega⟩
      · rw [(cN r y).1, (cN r y).2]
        rcases c r (by omega) with z | ⟨z1, z2, z3⟩
        · exact Or.inl z
        · exact Or.inr ⟨z1, z2, by omega⟩
    · have hxi : ¬ x = i := fun z => by
        have w := hne R (by omega)
        rw [(cR R rfl).1] at w
        exact w z.symm
      rw [w5 67 (by decide) (by decide), v67, if_neg hxi]
      refine g x hx (fun r hr z => ?_)
      have w := hne r (by omega)
      rw [(cN r (by omega)).1] at w
      exact w z
    · by_cases y : x = i
      · exact ⟨R, by omega, by rw [(cR R rfl).1, y]⟩
      · obtain ⟨r, r1, r2⟩ := j x hx hDx (by omega)
        exact ⟨r, by omega, by rw [(cN r (by omega)).1]; exact r2⟩
    · rw [kt 73 (by decide) (by decide) (by decide) (by decide) (by decide) (by decide) (by decide) (by decide)]
      exact l k u hk hu
    · rw [kt 66 (by decide) (by decide) (by decide) (by decide) (by decide) (by decide) (by decide) (by decide)]
      exact ⟨(o u hu).1, by have := (o u hu).2; omega⟩
    · by_cases y : r = R
      · rw [(cR r y).2]
        have z := (o (u + 1) (by omega)).2
        omega
      · rw [(cN r y).2]
        exact p r u (by omega) hu
    · by_cases y : r = R
      · rw [(cR r y).2]
        have z := (o S (Nat.le_refl _)).2
        exact ⟨fun _ => rfl, fun _ => by omega⟩
      · rw [(cN r y).2]
        exact q r (by omega)
  · exact absurd (show (R : Int) < 40 by omega) c1
theorem ad73 (hS : S < 24) {pd pb : Int} : ∀ (fu x : Nat) (s : PS) (rr : Int) (t : PS), It_X3_addDay_42_56_109 fu 73 pd pb (x : Int) s rr t → s 64 0 = (K : Int) → s 64 1 = (R : Int) → s 64 2 = (S : Int) → x ≤ K → (∀ k, k < x → s 73 (24 * k + S) = s 109 k) → (∀ k, k < K → t 73 (24 * k + S) = s 109 k) ∧ (∀ k u, u < S → t 73 (24 * k + u) = s 73 (24 * k + u)) ∧ t 64 2 = (S : Int) + 1 ∧ t 66 (S + 1) = (R : Int) ∧ (∀ j, ¬ j = S + 1 → t 66 j = s 66 j) ∧ (∀ j, ¬ j = 2 → t 64 j = s 64 j) ∧ ∀ y, ¬ y = 64 → ¬ y = 66 → ¬ y = 73 → t y = s y
  | 0, x, s, rr, t, m, _, _, _, _, _ => False.elim m
  | fu + 1, x, s, rr, t, m, h0, h1, h2, hx, hp => by
    replace m := ul_X3_addDay_42_56_109_73 m
    unfold T_X3_addDay_42_56_109_73 at m
    obtain ⟨_, _, _, _, m⟩ := m
    rw [h0, h1, h2] at m
    rcases m with ⟨c, s2, e2, s3, e3, _, et⟩ | ⟨c, s5, e5, m⟩
    · have e : x = K := by omega
      have es : ((S : Int) + 1).toNat = S + 1 := by omega
      rw [es] at e3
      rw [e] at hp
      rw [et]
      exact ⟨fun k hk => by rw [e3, us_k (by decide), e2, us_k (by decide)]; exact hp k hk, fun k u _ => by rw [e3, us_k (by decide), e2, us_k (by decide)], by rw [e3, us_k (by decide), e2, us_at], by rw [e3, us_at], fun j hj => by rw [e3, us_j hj, e2, us_k (by decide)], fun j hj => by rw [e3, us_k (by decide), e2, us_j hj], fun y y1 y2 _ => by rw [e3, us_k y2, e2, us_k y1]⟩
    · have ei : (((x : Int) * 24) + (S : Int)).toNat = 24 * x + S := by
        clear m
        omega
      rw [ei, Int.toNat_natCast] at e5
      have e1 : (x : Int) + 1 = ((x + 1 : Nat) : Int) := rfl
      rw [e1] at m
      have k5 : ∀ y, ¬ y = 73 → s5 y = s y := fun y hy => by rw [e5, us_k hy]
      obtain ⟨w1, w2, w3, w4, w5, w6, w7⟩ := ad73 hS fu (x + 1) s5 rr t m (by rw [k5 64 (by decide)]; exact h0) (by rw [k5 64 (by decide)]; exact h1) (by rw [k5 64 (by decide)]; exact h2) (by clear m; omega) (fun k hk => by
        rw [k5 109 (by decide), e5, us_if]
        by_cases y : k = x
        · rw [y, if_pos rfl]
        · rw [if_neg (by omega)]
          exact hp k (by omega))
      rw [k5 109 (by decide)] at w1
      rw [k5 66 (by decide)] at w5
      rw [k5 64 (by decide)] at w6
      exact ⟨w1, fun k u hu => by rw [w2 k u hu, e5, us_if, if_neg (by omega)], w3, w4, w5, w6, fun y y1 y2 y3 => (w7 y y1 y2 y3).trans (k5 y y3)⟩
/-- a day of which no child is a row -/
theorem FbI.day0 (h : FbI n K D dy Pt mb cu d n R S ch sl dd fr s) (hf : fr S = R) : FbI n K D dy Pt mb cu (d + 1) 0 R S ch sl dd fr s := by
  obtain ⟨a, b, c, e, f, g, j, l, o, p, q⟩ := h
  refine ⟨a, b, fun r hr => ?_, fun u hu => ⟨(e u hu).1, by have := (e u hu).2; omega⟩, f, g, fun x hx hD hq => j x hx hD (by omega), l, o, p, q⟩
  rcases c r hr with y | ⟨y1, _⟩
  · exact Or.inl y
  · have z := (q r hr).mpr y1
    omega
/-- a day with rows: one slot more -/
theorem FbI.day1 (h : FbI n K D dy Pt mb cu d n R S ch sl dd fr s) (hd : 1 ≤ d) (e0 : t 64 0 = s 64 0) (e1 : t 64 1 = s 64 1) (e2 : t 64 2 = (S : Int) + 1) (e66 : t 66 (S + 1) = (R : Int)) (e66o : ∀ j, ¬ j = S + 1 → t 66 j = s 66 j) (e73 : ∀ k, k < K → t 73 (24 * k + S) = cu k d) (e73o : ∀ k u, u < S → t 73 (24 * k + u) = s 73 (24 * k + u)) (eo : ∀ y, ¬ y = 64 → ¬ y = 66 → ¬ y = 73 → t y = s y) : FbI n K D dy Pt mb cu (d + 1) 0 R (S + 1) ch sl (fun u => if u = S then d else dd u) (fun u => if u = S + 1 then R else fr u) t := by
  obtain ⟨⟨a1, a2, a3⟩, b, c, e, f, g, j, l, o, p, q⟩ := h
  have dS : ∀ u, u < S → (if u = S then d else dd u) = dd u := fun u hu => if_neg (by omega)
  refine ⟨⟨e0.trans a1, e1.trans a2, e2⟩, fun r hr => ?_, fun r hr => ?_, fun u hu => ?_, fun u v huv hv => ?_, fun x hx hne => ?_, fun x hx hD hq => j x hx hD (by omega), fun k u hk hu => ?_, fun u hu => ?_, fun r u hr hu => ?_, fun r hr => ?_⟩
  · rw [eo 65 (by decide) (by decide) (by decide), eo 67 (by decide) (by decide) (by decide), eo 68 (by decide) (by decide) (by decide), eo 69 (by decide) (by decide) (by decide), eo 70 (by decide) (by decide) (by decide), eo 71 (by decide) (by decide) (by decide), eo 72 (by decide) (by decide) (by decide)]
    exact b r hr
  · refine Or.inl ?_
    rcases c r hr with ⟨y1, y2⟩ | ⟨y1, y2, _⟩
    · refine ⟨by omega, ?_⟩
      show dy (ch r) = if sl r = S then d else dd (sl r)
      rw [dS (sl r) y1]
      exact y2
    · refine ⟨by omega, ?_⟩
      show dy (ch r) = if sl r = S then d else dd (sl r)
      rw [if_pos y1]
      exact y2
  · show 1 ≤ (if u = S then d else dd u) ∧ (if u = S then d else dd u) < d + 1
    by_cases y : u = S
    · rw [if_pos y]
      omega
    · rw [if_neg y]
      have z := e u (by omega)
      omega
  · show (if u = S then d else dd u) < (if v = S then d else dd v)
    rw [if_neg (by omega)]
    by_cases y : v = S
    · rw [if_pos y]
      exact (e u (by omega)).2
    · rw [if_neg y]
      exact f u v huv (by omega)
  · rw [eo 67 (by decide) (by decide) (by decide)]
    exact g x hx hne
  · show t 73 (24 * k + u) = cu k (if u = S then d else dd u)
    by_cases y : u = S
    · rw [if_pos y, y]
      exact e73 k hk
    · rw [if_neg y, e73o k u (by omega)]
      exact l k u hk (by omega)
  · show t 66 u = ((if u = S + 1 then R else fr u : Nat) : Int) ∧ (if u = S + 1 then R else fr u) ≤ R
    by_cases y : u = S + 1
    · rw [if_pos y, y]
      exact ⟨e66, Nat.le_refl _⟩
    · rw [if_neg y, e66o u y]
      exact o u (by omega)
  · show ((if u = S + 1 then R else fr u) ≤ r ∧ r < (if u + 1 = S + 1 then R else fr (u + 1))) ↔ sl r = u
    rw [if_neg (by omega)]
    by_cases y : u = S
    · rw [if_pos (by omega), y]
      have z := q r hr
      constructor
      · intro w
        exact z.mp w.1
      · intro w
        exact ⟨z.mpr w, hr⟩
    · rw [if_neg (by omega)]
      exact p r u hr (by omega)
  · show (if S + 1 = S + 1 then R else fr (S + 1)) ≤ r ↔ sl r = S + 1
    rw [if_pos rfl]
    have z := c r hr
    omega
theorem ad9 (hn : n ≤ 40) (hK : K ≤ 10) (hd : 1 ≤ d) {b4 : Nat} : ∀ fu : Nat, (∀ (i R S : Nat) (ch sl dd fr : Nat → Nat) (s : PS) (rr : Int) (t : PS), It_X3_addDay_42_56_109 fu 9 (d : Int) (b4 : Int) (i : Int) s rr t → FbI n K D dy Pt mb cu d i R S ch sl dd fr s → FbD n K D dy Pt mb s → (∀ k, k < K → s 109 k = cu k d) → fr S = b4 → i ≤ n → ∃ (R2 S2 : Nat) (ch2 sl2 dd2 fr2 : Nat → Nat), FbI n K D dy Pt mb cu (d + 1) 0 R2 S2 ch2 sl2 dd2 fr2 t ∧ fr2 S2 = R2 ∧ ∀ y, ¬ (64 ≤ y ∧ y ≤ 73) → t y = s y) ∧ ∀ (i R S : Nat) (ch sl dd fr : Nat → Nat) (s : PS) (rr : Int) (t : PS), It_X3_addDay_42_56_109 fu 46 (d : Int) (b4 : Int) (i : Int) s rr t → FbI n K D dy Pt mb cu d (i + 1) R S ch sl dd fr s → FbD n K D dy Pt mb s → (∀ k, k < K → s 109 k = cu k d) → fr S = b4 → i < n → ∃ (R2 S2 : Nat) (ch2 sl2 dd2 fr2 : Nat → Nat), FbI n K D dy Pt mb cu (d + 1) 0 R2 S2 ch2 sl2 dd2 fr2 t ∧ fr2 S2 = R2 ∧ ∀ y, ¬ (64 ≤ y ∧ y ≤ 73) → t y = s y
  | 0 => ⟨fun i R S ch sl dd fr s rr t m => False.elim m, fun i R S ch sl dd fr s rr t m => False.elim m⟩
  | fu + 1 => by
    have ih := ad9 hn hK hd (b4 := b4) fu
    refine ⟨fun i R S ch sl dd fr s rr t m h hC h9 hf hi => ?_, fun i R S ch sl dd fr s rr t m h hC h9 hf hi => ?_⟩
    · have h0 := h
      obtain ⟨⟨a1, a2, a3⟩, b, c, e, f, g, j, l, o, p, q⟩ := h
      replace m := ul_X3_addDay_42_56_109_9 m
      unfold T_X3_addDay_42_56_109_9 at m
      obtain ⟨_, _, _, _, m⟩ := m
      rw [hC.1, Int.toNat_natCast, a2] at m
      rcases m with ⟨c1, m⟩ | ⟨c1, m⟩
      · have ei : i = n := by
          clear m
          omega
        rw [ei] at h0
        rcases m with ⟨c2, _, et⟩ | ⟨c2, c3, m⟩
        · have eR : fr S = R := by
            have z := (o S (Nat.le_refl _)).2
            omega
          rw [et]
          exact ⟨R, S, ch, sl, dd, fr, h0.day0 eR, eR, fun _ _ => rfl⟩
        · cases fu with
          | zero => exact False.elim m
          | succ fu =>
            rw [a3] at c3
            obtain ⟨w1, w2, w3, w4, w5, w6, w7⟩ := ad73 (K := K) (R := R) (S := S) (by omega) (fu + 1) 0 s rr t m a1 a2 a3 (Nat.zero_le _) (fun k hk => absurd hk (Nat.not_lt_zero _))
            refine ⟨R, S + 1, ch, sl, _, _, h0.day1 hd (w6 0 (by decide)) (w6 1 (by decide)) w3 w4 w5 (fun k hk => (w1 k hk).trans (h9 k hk)) w2 w7, if_pos rfl, fun y hy => w7 y (by omega) (by omega) (by omega)⟩
      · have hin : i < n := by
          clear m
          omega
        obtain ⟨d1, d2, d3, d4⟩ := hC.2 i hin
        rw [d1, d2] at m
        rcases m with ⟨c2, m⟩ | ⟨c2, m⟩
        · have ed : dy i = d := by
            clear m
            omega
          rcases m with ⟨c3, m⟩ | ⟨c3, s13, m13, _, _, m⟩
          · exact ih.2 i R S ch sl dd fr s rr t m (h0.sk (fun z => absurd z.2 (by omega))) hC h9 hf hin
          · obtain ⟨w1, w2⟩ := addRowF hn hK hC h0 hin ed (by clear m; omega) m13
            obtain ⟨R2, S2, ch2, sl2, dd2, fr2, v1, v2, v3⟩ := ih.2 i (R + 1) S _ _ dd fr s13 rr t m w1 (hC.cg (by rw [w2 42 (by omega)]) (w2 49 (by omega)) (w2 57 (by omega)) (w2 58 (by omega)) (w2 59 (by omega))) (by rw [w2 109 (by omega)]; exact h9) hf hin
            exact ⟨R2, S2, ch2, sl2, dd2, fr2, v1, v2, fun y hy => (v3 y hy).trans (w2 y hy)⟩
        · exact ih.2 i R S ch sl dd fr s rr t m (h0.sk (fun z => absurd z.1 (by omega))) hC h9 hf hin
    · replace m := ul_X3_addDay_42_56_109_46 m
      unfold T_X3_addDay_42_56_109_46 at m
      obtain ⟨_, _, _, _, m⟩ := m
      have e1 : (i : Int) + 1 = ((i + 1 : Nat) : Int) := rfl
      rw [e1] at m
      exact ih.1 (i + 1) R S ch sl dd fr s rr t m h hC h9 hf hi
theorem add3 {e : Nat} (hcu : ∀ k d, 0 ≤ cuD cm k d ∧ cuD cm k d ≤ 1000000 ∨ 24 < d) (he : e < 24) : ∀ (fu x : Nat) (s : PS) (rr : Int) (t : PS), It_X6_addCome_109 fu ((e : Int) + 1) (K : Int) (x : Int) s rr t → K ≤ 10 → (∀ k d : Nat, k < 10 → d < 25 → s 54 (25 * k + d) = cm k d) → (∀ k, k < K → s 109 k = if k < x then cuD cm k (e + 1) else cuD cm k e) → x ≤ K → (∀ k, k < K → t 109 k = cuD cm k (e + 1)) ∧ (∀ k, K ≤ k → t 109 k = s 109 k) ∧ ∀ y, ¬ y = 109 → t y = s y
  | 0, x, s, rr, t, m, _, _, _, _ => False.elim m
  | fu + 1, x, s, rr, t, m, hK, h54, h9, hx => by
    replace m := ul_X6_addCome_109_3 m
    unfold T_X6_addCome_109_3 at m
    obtain ⟨_, _, _, _, m⟩ := m
    rcases m with ⟨c, _, et⟩ | ⟨c, s5, e5, m⟩
    · have ex : x = K := by omega
      rw [et]
      refine ⟨fun k hk => ?_, fun _ _ => rfl, fun _ _ => rfl⟩
      rw [h9 k hk, if_pos (by omega)]
    · have hxK : x < K := by
        clear m
        omega
      have ei : (((x : Int) * 25) + ((e : Int) + 1)).toNat = 25 * x + (e + 1) := by
        clear m
        omega
      rw [ei, Int.toNat_natCast, h54 x (e + 1) (by omega) (by omega), h9 x hxK, if_neg (Nat.lt_irrefl x)] at e5
      have z1 := hcu x e
      have z2 := hcu x (e + 1)
      rw [cuD_s] at z2
      rw [wi_id (by omega) (by omega)] at e5
      have e1 : (x : Int) + 1 = ((x + 1 : Nat) : Int) := rfl
      rw [e1] at m
      have k5 : ∀ y, ¬ y = 109 → s5 y = s y := fun y hy => by rw [e5, us_k hy]
      obtain ⟨w1, wz, w2⟩ := add3 hcu he fu (x + 1) s5 rr t m hK (by rw [k5 54 (by decide)]; exact h54) (fun k hk => by
        rw [e5, us_if]
        by_cases y : k = x
        · rw [if_pos y, if_pos (by omega), y, cuD_s]
        · rw [if_neg y, h9 k hk]
          by_cases y2 : k < x
          · rw [if_pos y2, if_pos (by omega)]
          · rw [if_neg y2, if_neg (by omega)]) hxK
      exact ⟨w1, fun k hk => by rw [wz k hk, e5, us_if, if_neg (by omega)], fun y hy => (w2 y hy).trans (k5 y hy)⟩
/-- day by day, then the deal -/
theorem give28 (hn : n ≤ 40) (hK : K ≤ 10) (hcu : ∀ k d, 0 ≤ cuD cm k d ∧ cuD cm k d ≤ 1000000 ∨ 24 < d) : ∀ (fu e R S : Nat) (ch sl dd fr : Nat → Nat) (s : PS) (rr : Int) (t : PS), It_X11_give fu ((e : Int) + 1) s rr t → FbI n K D dy Pt mb (cuD cm) (e + 1) 0 R S ch sl dd fr s → fr S = R → FbD n K D dy Pt mb s → (∀ k, k < K → s 109 k = cuD cm k e) → (∀ k, K ≤ k → k < 10 → s 109 k = 0) → (∀ k d : Nat, k < 10 → d < 25 → s 54 (25 * k + d) = cm k d) → s 1 0 = (K : Int) → e ≤ 24 → ∃ (R2 S2 : Nat) (ch2 sl2 dd2 fr2 : Nat → Nat) (s2 s3 : PS), FbI n K D dy Pt mb (cuD cm) 25 0 R2 S2 ch2 sl2 dd2 fr2 s2 ∧ M_X9_deal s2 0 s3 ∧ M_X4_keep_1_42_56_64_109 s3 rr t ∧ (∀ k, k < K → s2 109 k = cuD cm k 24) ∧ (∀ k, K ≤ k → k < 10 → s2 109 k = 0) ∧ ∀ y, ¬ (64 ≤ y ∧ y ≤ 73) → ¬ y = 109 → s2 y = s y
  | 0, e, R, S, ch, sl, dd, fr, s, rr, t, m, _, _, _, _, _, _, _, _ => False.elim m
  | fu + 1, e, R, S, ch, sl, dd, fr, s, rr, t, m, h, hf, hC, h9, hz, h54, h10, he => by
    replace m := ul_X11_give_28 m
    unfold T_X11_give_28 at m
    obtain ⟨_, _, m⟩ := m
    rw [h10] at m
    rcases m with ⟨c, s2, m2, _, _, r7, s6, m6, _, _, er, et⟩ | ⟨c, s9, m9, _, _, s12, m12, _, _, m⟩
    · have e24 : e = 24 := by
        clear m2 m6
        omega
      rw [e24] at h h9
      rw [er, et]
      exact ⟨R, S, ch, sl, dd, fr, s, s2, h, m2, m6, h9, hz, fun _ _ _ => rfl⟩
    · have he2 : e < 24 := by
        clear m m9 m12
        omega
      obtain ⟨f9, m9⟩ := m9
      unfold T_X6_addCome_109_e at m9
      obtain ⟨_, _, _, m9⟩ := m9
      obtain ⟨w1, wz, w2⟩ := add3 hcu he2 f9 0 s 0 s9 m9 hK h54 (fun k hk => by rw [h9 k hk, if_neg (Nat.not_lt_zero _)]) (Nat.zero_le _)
      have hI9 : FbI n K D dy Pt mb (cuD cm) (e + 1) 0 R S ch sl dd fr s9 := by
        unfold FbI at h ⊢
        rw [w2 64 (by decide), w2 65 (by decide), w2 66 (by decide), w2 67 (by decide), w2 68 (by decide), w2 69 (by decide), w2 70 (by decide), w2 71 (by decide), w2 72 (by decide), w2 73 (by decide)]
        exact h
      have hC9 : FbD n K D dy Pt mb s9 := hC.cg (by rw [w2 42 (by decide)]) (w2 49 (by decide)) (w2 57 (by decide)) (w2 58 (by decide)) (w2 59 (by decide))
      obtain ⟨f12, m12⟩ := m12
      unfold T_X3_addDay_42_56_109_e at m12
      obtain ⟨_, _, m12⟩ := m12
      rw [hI9.1.2.1] at m12
      have e1 : (e : Int) + 1 = ((e + 1 : Nat) : Int) := rfl
      rw [e1] at m12
      obtain ⟨R2, S2, ch2, sl2, dd2, fr2, v1, v2, v3⟩ := (ad9 hn hK (by omega) (b4 := R) f12).1 0 R S ch sl dd fr s9 0 s12 m12 hI9 hC9 w1 hf (Nat.zero_le _)
      rw [e1] at m
      obtain ⟨R3, S3, ch3, sl3, dd3, fr3, s2, s3, x1, x2, x3, x4, xz, x5⟩ := give28 hn hK hcu fu (e + 1) R2 S2 ch2 sl2 dd2 fr2 s12 rr t m v1 v2 (hC9.cg (by rw [v3 42 (by omega)]) (v3 49 (by omega)) (v3 57 (by omega)) (v3 58 (by omega)) (v3 59 (by omega))) (by rw [v3 109 (by omega)]; exact w1) (fun k k1 k2 => by rw [v3 109 (by omega), wz k k1]; exact hz k k1 k2) (by rw [v3 54 (by omega), w2 54 (by decide)]; exact h54) (by rw [v3 1 (by omega), w2 1 (by decide)]; exact h10) he2
      exact ⟨R3, S3, ch3, sl3, dd3, fr3, s2, s3, x1, x2, x3, x4, xz, fun y y1 y2 => (x5 y y1 y2).trans ((v3 y y1).trans (w2 y y2))⟩
/-- the floor as the deal wants it -/
theorem FbI.fl {Al : Nat → Nat → Prop} (hal : ∀ c k, c < n → k < K → (tb (mb c) k = true ↔ Al c k)) (hn : n ≤ 40) (hK : K ≤ 10) (h : FbI n K D dy Pt mb cu 25 0 R S ch sl dd fr s) (hpt : ∀ c k, c < n → k < K → -2147483648 ≤ Pt c k ∧ Pt c k ≤ 2147483648) (hcu : ∀ k d, k < K → d ≤ 24 → 0 ≤ cu k d ∧ cu k d ≤ 500000) : FlS R K S sl fr (fun r => D (ch r)) (fun r k => Al (ch r) k) (fun r k => Pt (ch r) k) (fun k u => cu k (dd u)) (fun _ _ => 0) s := by
  have h0 := h
  obtain ⟨a, b, c, e, f, g, j, l, o, p, q⟩ := h
  have dd1 : ∀ u, u < S → u + 1 ≤ dd u := by
    intro u
    induction u with
    | zero => exact fun hu => (e 0 hu).1
    | succ u ih =>
      intro hu
      have z := ih (by omega)
      have y := f u (u + 1) (by omega) hu
      omega
  have hS : S ≤ 24 := by
    by_cases y : S = 0
    · omega
    · have z := dd1 (S - 1) (by omega)
      have w := (e (S - 1) (by omega)).2
      omega
  have hR : R ≤ 40 := by
    have z := php n R ch (fun r hr => (b r hr).1.1) (fun r r' hr hr' e => h0.inj hr hr' e)
    omega
  refine ⟨a, ⟨hR, hK, hS⟩, fun r hr => ?_, fun r k hr hk => ?_, fun k u hk hu => ?_, o, fun r u hr hu => p r u hr hu, fun r k hr _ hk => ?_⟩
  · obtain ⟨b1, ⟨b2, b3, b4, b5, b6, b7⟩, b8⟩ := b r hr
    refine ⟨b2, ?_, b3, ?_⟩
    · rcases c r hr with y | ⟨_, _, y⟩
      · exact y.1
      · exact absurd y (Nat.not_lt_zero _)
    · rw [b6]
      exact (sgN_0 K (fun _ _ => rfl)).symm
  · obtain ⟨b1, ⟨b2, b3, b4, b5, b6, b7⟩, b8⟩ := b r hr
    refine ⟨by rw [b4]; exact hal (ch r) k b1.1 hk, ?_, b7 k hk, hpt (ch r) k b1.1 hk, Or.inl rfl⟩
    rw [b5, tb_zero (by omega)]
    exact ⟨fun z => absurd z (by decide), fun z => absurd (show (0 : Int) = 1 from z) (by decide)⟩
  · have z := hcu k (dd u) hk (by have := (e u hu).2; omega)
    refine ⟨?_, z.1, z.2⟩
    rw [l k u hk hu]
    unfold rStk
    rw [sgN_0 R (fun r _ => by
      show (if sl r ≤ u then (0 : Int) else 0) = 0
      split <;> rfl), Int.sub_zero]
  · obtain ⟨b1, ⟨b2, b3, b4, b5, b6, b7⟩, b8⟩ := b r hr
    rw [b5]
    exact tb_zero hk
theorem FbI.slt (h : FbI n K D dy Pt mb cu 25 0 R S ch sl dd fr s) {r : Nat} (hr : r < R) : sl r < S ∧ dy (ch r) = dd (sl r) := by
  rcases h.2.2.1 r hr with y | ⟨_, _, y⟩
  · exact y
  · exact absurd y (Nat.not_lt_zero _)
end Flb
