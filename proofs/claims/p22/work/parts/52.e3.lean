/-! ways on which a label came: no node twice -/
def hND : List (Nat × Int) → Prop
  | [] => True
  | x :: l => (∀ y ∈ l, ¬ y.1 = x.1) ∧ hND l
/-- how many of them are not rows -/
def cnL : List (Nat × Int) → Nat
  | [] => 0
  | x :: l => (if 40 ≤ x.1 then 1 else 0) + cnL l
def anyL (l : List (Nat × Int)) (v : Nat) : Int := if l.any (fun y => y.1 == v) = true then 1 else 0
def Hist (pi d : Nat → Int) (l : List (Nat × Int)) (c : Int) : Prop := hND l ∧ (∀ x ∈ l, x.1 < 42) ∧ ∀ x ∈ l, x.2 - pi x.1 ≤ c ∧ d x.1 ≤ x.2
section His
variable {pi d d2 : Nat → Int} {l : List (Nat × Int)} {c c2 : Int}
theorem anyL_c {x : Nat × Int} {v : Nat} : anyL (x :: l) v = if x.1 = v then 1 else anyL l v := by
  unfold anyL
  rw [List.any_cons]
  by_cases e : x.1 = v
  · rw [if_pos e, beq_iff_eq.mpr e, Bool.true_or, if_pos rfl]
  · rw [if_neg e, beq_eq_false_iff_ne.mpr e, Bool.false_or]
theorem anyL_0 {v : Nat} (h : ∀ y ∈ l, ¬ y.1 = v) : anyL l v = 0 := by
  unfold anyL
  refine if_neg (fun q => ?_)
  obtain ⟨y, y1, y2⟩ := List.any_eq_true.mp q
  exact h y y1 (beq_iff_eq.mp y2)
theorem anyL_in (v : Nat) : 0 ≤ anyL l v ∧ anyL l v ≤ 1 := by
  unfold anyL
  split <;> omega
theorem hND_len {n : Nat} : ∀ l : List (Nat × Int), hND l → (∀ x ∈ l, x.1 < n) → (l.length : Int) ≤ sgN (anyL l) n
  | [], _, _ => sgN_nn n (fun v _ => (anyL_in v).1)
  | x :: l, h, hl => by
    have ih := hND_len l h.2 (fun y hy => hl y (List.mem_cons_of_mem _ hy))
    have hx := hl x List.mem_cons_self
    have z := sgN_up (f := anyL l) (g := anyL (x :: l)) n x.1 hx (fun i _ hi => by
      rw [anyL_c, if_neg (fun q => hi q.symm)])
    rw [z, anyL_c, if_pos rfl, anyL_0 h.1, List.length_cons]
    omega
theorem Hist.len (h : Hist pi d l c) : l.length ≤ 42 := by
  have z := hND_len (n := 42) l h.1 h.2.1
  have y := sgN_le 42 (f := anyL l) (g := fun _ => 1) (fun i _ => (anyL_in i).2)
  have e : sgN (fun _ => (1 : Int)) 42 = 42 := by decide
  omega
theorem cnL_2 : ∀ l : List (Nat × Int), hND l → (∀ x ∈ l, x.1 < 42) → (cnL l : Int) ≤ anyL l 40 + anyL l 41
  | [], _, _ => by
    have a := anyL_in (l := []) 40
    have b := anyL_in (l := []) 41
    show ((0 : Nat) : Int) ≤ _
    omega
  | x :: l, h, hl => by
    have ih := cnL_2 l h.2 (fun y hy => hl y (List.mem_cons_of_mem _ hy))
    have hx := hl x List.mem_cons_self
    have h1 := h.1
    rw [anyL_c, anyL_c]
    show (((if 40 ≤ x.1 then 1 else 0) + cnL l : Nat) : Int) ≤ _
    by_cases c40 : x.1 = 40
    · rw [if_pos c40, if_neg (show ¬ x.1 = 41 by omega), if_pos (show 40 ≤ x.1 by omega)]
      have z := anyL_0 (l := l) (v := 40) (fun y hy => by
        have q := h1 y hy
        omega)
      omega
    · by_cases c41 : x.1 = 41
      · rw [if_neg c40, if_pos c41, if_pos (show 40 ≤ x.1 by omega)]
        have z := anyL_0 (l := l) (v := 41) (fun y hy => by
          have q := h1 y hy
          omega)
        omega
      · rw [if_neg c40, if_neg c41, if_neg (show ¬ 40 ≤ x.1 by omega)]
        omega
theorem Hist.cn (h : Hist pi d l c) : cnL l ≤ 2 := by
  have z := cnL_2 l h.1 h.2.1
  have a := anyL_in (l := l) 40
  have b := anyL_in (l := l) 41
  omega
theorem Hist.mono (h : Hist pi d l c) (hc : c ≤ c2) (hd : ∀ v, d2 v ≤ d v) : Hist pi d2 l c2 := by
  refine ⟨h.1, h.2.1, fun x hx => ?_⟩
  have z := h.2.2 x hx
  have y := hd x.1
  omega
/-- what is lowered now was not on the way -/
theorem Hist.push {v : Nat} {z : Int} (h : Hist pi d l c) (hv : v < 42) (hc : c ≤ z - pi v) (hz : z < d v) (hd : ∀ w, d2 w ≤ d w) (hdv : d2 v ≤ z) : Hist pi d2 ((v, z) :: l) (z - pi v) := by
  refine ⟨⟨fun y hy q => ?_, h.1⟩, fun x hx => ?_, fun x hx => ?_⟩
  · have w := h.2.2 y hy
    rw [show y.1 = v from q] at w
    omega
  · rcases List.mem_cons.mp hx with e | e
    · rw [e]
      exact hv
    · exact h.2.1 x e
  · rcases List.mem_cons.mp hx with e | e
    · rw [e]
      exact ⟨Int.le_refl _, hdv⟩
    · have w := h.2.2 x e
      have y := hd x.1
      omega
theorem Hist.nin {v : Nat} {z : Int} (h : Hist pi d l c) (hc : c ≤ z - pi v) (hz : z < d v) : ∀ x ∈ l, ¬ x.1 = v := fun x hx q => by
  have w := h.2.2 x hx
  rw [q] at w
  omega
theorem Hist.one {v : Nat} {z : Int} (hv : v < 42) (hz : d v ≤ z) : Hist pi d [(v, z)] (z - pi v) := by
  refine ⟨⟨fun y hy => absurd hy List.not_mem_nil, trivial⟩, fun x hx => ?_, fun x hx => ?_⟩
  · rw [List.mem_singleton.mp hx]
    exact hv
  · rw [List.mem_singleton.mp hx]
    exact ⟨Int.le_refl _, hz⟩
end His
/-- no more places than values -/
theorem php : ∀ (n m : Nat) (f : Nat → Nat), (∀ i, i < m → f i < n) → (∀ i j, i < m → j < m → f i = f j → i = j) → m ≤ n
  | 0, m, f, h1, _ => by
    by_cases c : m = 0
    · omega
    · exact absurd (h1 0 (by omega)) (Nat.not_lt_zero _)
  | n + 1, 0, f, _, _ => Nat.zero_le _
  | n + 1, m + 1, f, h1, h2 => by
    by_cases c : ∃ i, i < m + 1 ∧ f i = n
    · obtain ⟨a, a1, a2⟩ := c
      have z := php n m (fun i => if i = a then f m else f i) (fun i hi => by
        show (if i = a then f m else f i) < n
        by_cases q : i = a
        · rw [if_pos q]
          have b := h1 m (by omega)
          have g : ¬ f m = n := fun e => by
            have y := h2 m a (by omega) a1 (by omega)
            omega
          omega
        · rw [if_neg q]
          have b := h1 i (by omega)
          have g : ¬ f i = n := fun e => q (h2 i a (by omega) a1 (by omega))
          omega) (fun i j hi hj e => by
        have e2 : (if i = a then f m else f i) = (if j = a then f m else f j) := e
        by_cases q : i = a
        · by_cases q2 : j = a
          · omega
          · rw [if_pos q, if_neg q2] at e2
            have y := h2 m j (by omega) (by omega) e2
            omega
        · by_cases q2 : j = a
          · rw [if_neg q, if_pos q2] at e2
            have y := h2 i m (by omega) (by omega) e2
            omega
          · rw [if_neg q, if_neg q2] at e2
            exact h2 i j (by omega) (by omega) e2)
      omega
    · have z := php n (m + 1) f (fun i hi => by
        have b := h1 i hi
        have g : ¬ f i = n := fun e => c ⟨i, hi, e⟩
        omega) h2
      omega
/-! the queue of the filler -/
/-- who waits stands in the ring once; the further back, the longer the way on which he came -/
def QuI (R : Nat) (h : Nat → List (Nat × Int)) (P0 Hd Tl : Nat) (s : PS) : Prop := (s 74 9 = (Hd : Int) ∧ s 74 10 = (Tl : Int) ∧ Hd ≤ Tl ∧ Tl ≤ 1000000) ∧ (∀ p, Hd ≤ p → p < Tl → ∃ r, r < R ∧ s 79 (p % 64) = (r : Int) ∧ s 80 r = 1 ∧ p < P0 + 41 * (h r).length) ∧ (∀ p q, Hd ≤ p → p < Tl → Hd ≤ q → q < Tl → s 79 (p % 64) = s 79 (q % 64) → p = q) ∧ ∀ r, r < R → s 80 r = 0 ∨ ∃ p, Hd ≤ p ∧ p < Tl ∧ s 79 (p % 64) = (r : Int)
section Que
variable {R P0 Hd Tl : Nat} {h h2 : Nat → List (Nat × Int)} {s t : PS} {rr : Int}
theorem QuI.len (q : QuI R h P0 Hd Tl s) : Tl ≤ Hd + R := by
  have z := php R (Tl - Hd) (fun i => (s 79 ((Hd + i) % 64)).toNat) (fun i hi => by
    obtain ⟨r, r1, r2, _⟩ := q.2.1 (Hd + i) (by omega) (by omega)
    show (s 79 ((Hd + i) % 64)).toNat < R
    rw [r2]
    omega) (fun i j hi hj e => by
    obtain ⟨r, r1, r2, _⟩ := q.2.1 (Hd + i) (by omega) (by omega)
    obtain ⟨r', r1', r2', _⟩ := q.2.1 (Hd + j) (by omega) (by omega)
    have e2 : (s 79 ((Hd + i) % 64)).toNat = (s 79 ((Hd + j) % 64)).toNat := e
    have y := q.2.2.1 (Hd + i) (Hd + j) (by omega) (by omega) (by omega) (by omega) (by rw [r2, r2'] at e2 ⊢; omega)
    omega)
  omega
theorem QuI.cg (q : QuI R h P0 Hd Tl s) (e74 : t 74 9 = s 74 9 ∧ t 74 10 = s 74 10) (e79 : t 79 = s 79) (e80 : t 80 = s 80) : QuI R h P0 Hd Tl t := by
  unfold QuI at q ⊢
  rw [e74.1, e74.2, e79, e80]
  exact q
theorem and63i {T : Nat} (hT : T ≤ 1000000) : (iAnd (T : Int) 63).toNat = T % 64 := by
  have hx : (nI T).toInt = (T : Int) := nI_toInt (by omega)
  rw [← z_and hx (show (63 : Int32).toInt = 63 from by decide)]
  exact and63 T
/-- a row joins the queue; ways may have become others, no shorter -/
theorem enq (q : QuI R h P0 Hd Tl s) (hR : R ≤ 40) {r : Nat} (hr : r < R) (hT : Hd < 900000) (m : M_X2_enqueue s (r : Int) rr t) (hl : ∀ v, v < R → ¬ v = r → (h v).length ≤ (h2 v).length) (hl2 : Hd + 40 < P0 + 41 * (h2 r).length) : (∃ Tl2, QuI R h2 P0 Hd Tl2 t ∧ Tl2 ≤ Tl + 1) ∧ (∀ x, ¬ x = 74 → ¬ x = 79 → ¬ x = 80 → t x = s x) ∧ (∀ j, ¬ j = 10 → t 74 j = s 74 j) ∧ (∀ v, v < R → ¬ v = r → t 80 v = s 80 v) ∧ ¬ t 80 r = 0 := by
  have hlen := q.len
  obtain ⟨⟨a1, a2, a3, a4⟩, b, c, d⟩ := q
  unfold M_X2_enqueue T_X2_enqueue_e at m
  obtain ⟨_, _, m⟩ := m
  rw [Int.toNat_natCast] at m
  rcases m with ⟨w, s3, e3, s4, e4, s5, e5, _, et⟩ | ⟨w, _, et⟩
  · have i63 : (iAnd (s 74 10) 63).toNat = Tl % 64 := by
      rw [a2]
      exact and63i (by omega)
    have wt : wi (s 74 10 + 1) = ((Tl + 1 : Nat) : Int) := by
      rw [a2, wi_id (by omega) (by omega)]
      omega
    rw [i63] at e4
    rw [wt] at e5
    have k80 : ∀ v, t 80 v = if v = r then 1 else s 80 v := fun v => by rw [et, e5, us_k (by decide), e4, us_k (by decide), e3, us_if]
    have k79 : ∀ j, t 79 j = if j = Tl % 64 then (r : Int) else s 79 j := fun j => by rw [et, e5, us_k (by decide), e4, us_if, e3, us_k (by decide)]
    have k74 : ∀ j, t 74 j = if j = 10 then ((Tl + 1 : Nat) : Int) else s 74 j := fun j => by rw [et, e5, us_if, e4, us_k (by decide), e3, us_k (by decide)]
    have old : ∀ p, Hd ≤ p → p < Tl → t 79 (p % 64) = s 79 (p % 64) := fun p p1 p2 => by
      rw [k79, if_neg (by omega)]
    have new : t 79 (Tl % 64) = (r : Int) := by rw [k79, if_pos rfl]
    have rn : ∀ p, Hd ≤ p → p < Tl → ¬ s 79 (p % 64) = (r : Int) := fun p p1 p2 e => by
      obtain ⟨v, v1, v2, v3, _⟩ := b p p1 p2
      have ev : v = r := by omega
      rw [ev, w] at v3
      exact absurd v3 (by decide)
    refine ⟨⟨Tl + 1, ⟨⟨by rw [k74, if_neg (by decide)]; exact a1, by rw [k74, if_pos rfl], by omega, by omega⟩, fun p p1 p2 => ?_, fun p p' p1 p2 p3 p4 e => ?_, fun v hv => ?_⟩, Nat.le_refl _⟩, fun x x1 x2 x3 => by rw [et, e5, us_k x1, e4, us_k x2, e3, us_k x3], fun j hj => by rw [k74, if_neg hj], fun v _ hv => by rw [k80, if_neg hv], by rw [k80, if_pos rfl]; decide⟩
    · by_cases z : p = Tl
      · refine ⟨r, hr, ?_, ?_, ?_⟩
        · rw [z]
          exact new
        · rw [k80, if_pos rfl]
        · omega
      · obtain ⟨v, v1, v2, v3, v4⟩ := b p p1 (by omega)
        have vr : ¬ v = r := fun e => rn p p1 (by omega) (by rw [v2, e])
        have y := hl v v1 vr
        refine ⟨v, v1, ?_, ?_, by omega⟩
        · rw [old p p1 (by omega)]
          exact v2
        · rw [k80, if_neg vr]
          exact v3
    · by_cases z : p = Tl
      · by_cases z2 : p' = Tl
        · omega
        · rw [z, new, old p' p3 (by omega)] at e
          exact absurd e.symm (rn p' p3 (by omega))
      · by_cases z2 : p' = Tl
        · rw [z2, new, old p p1 (by omega)] at e
          exact absurd e (rn p p1 (by omega))
        · rw [old p p1 (by omega), old p' p3 (by omega)] at e
          exact c p p' p1 (by omega) p3 (by omega) e
    · by_cases z : v = r
      · exact Or.inr ⟨Tl, a3, Nat.lt_succ_self _, by rw [new, z]⟩
      · rcases d v hv with y | ⟨p, p1, p2, p3⟩
        · exact Or.inl (by rw [k80, if_neg z]; exact y)
        · exact Or.inr ⟨p, p1, by omega, by rw [old p p1 p2]; exact p3⟩
  · rw [et]
    refine ⟨⟨Tl, ⟨⟨a1, a2, a3, a4⟩, fun p p1 p2 => ?_, c, d⟩, by omega⟩, fun _ _ _ _ => rfl, fun _ _ => rfl, fun _ _ _ => rfl, w⟩
    obtain ⟨v, v1, v2, v3, v4⟩ := b p p1 p2
    refine ⟨v, v1, v2, v3, ?_⟩
    by_cases z : v = r
    · rw [z]
      omega
    · have y := hl v v1 z
      omega
end Que
