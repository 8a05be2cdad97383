/-! cheapest ways in a net of lanes: the reference's search ends, and its ways end -/
section Ways
variable {n : Nat} {fr to : Nat → Nat} {rm : Nat → Prop} {pr pi far : Nat → Int} {by_ t : Nat → Nat} {a c : Nat}
/-- no lane with room is cheaper than the potential says -/
def FE (n : Nat) (fr to : Nat → Nat) (rm : Nat → Prop) (pr pi : Nat → Int) : Prop := ∀ l, l < n → rm l → 0 ≤ pr l + pi (fr l) - pi (to l)
/-- how many posts are reached -/
def cR (far : Nat → Int) : Nat → Nat
  | 0 => 0
  | k + 1 => cR far k + (if far k = 1152921504606846976 then 0 else 1)
theorem cR_le (far : Nat → Int) : ∀ k, cR far k ≤ k
  | 0 => Nat.le_refl _
  | k + 1 => by
    have q := cR_le far k
    show cR far k + (if far k = 1152921504606846976 then 0 else 1) ≤ k + 1
    split <;> omega
def updZ {α : Type} (f : Nat → α) (i : Nat) (x : α) : Nat → α := fun j => if j = i then x else f j
theorem updZ_at {α : Type} (f : Nat → α) (i : Nat) (x : α) : updZ f i x i = x := by
  unfold updZ
  rw [if_pos rfl]
theorem updZ_ne {α : Type} (f : Nat → α) {i j : Nat} (x : α) (h : ¬ j = i) : updZ f i x j = f j := by
  unfold updZ
  rw [if_neg h]
theorem cR_up {v : Nat} {x : Int} (hx : ¬ x = 1152921504606846976) : ∀ k, cR (updZ far v x) k = cR far k + (if v < k ∧ far v = 1152921504606846976 then 1 else 0)
  | 0 => by
    rw [if_neg (by omega)]
    rfl
  | k + 1 => by
    show cR (updZ far v x) k + (if updZ far v x k = 1152921504606846976 then 0 else 1) = cR far k + (if far k = 1152921504606846976 then 0 else 1) + _
    rw [cR_up hx k]
    by_cases e : k = v
    · rw [e, updZ_at, if_neg hx]
      by_cases q : far v = 1152921504606846976
      · rw [if_neg (by omega), if_pos q, if_pos ⟨by omega, q⟩]
      · rw [if_neg (by omega), if_neg q, if_neg (by omega)]
    · rw [updZ_ne far x e]
      by_cases q : v < k ∧ far v = 1152921504606846976
      · rw [if_pos q, if_pos (show v < k + 1 ∧ far v = 1152921504606846976 from ⟨by omega, q.2⟩)]
        omega
      · rw [if_neg q, if_neg (show ¬ (v < k + 1 ∧ far v = 1152921504606846976) from fun z => q ⟨by omega, z.2⟩)]
        omega
/-- the search, under way -/
def BS (n : Nat) (fr to : Nat → Nat) (rm : Nat → Prop) (pr pi : Nat → Int) (a : Nat) (far : Nat → Int) (by_ t : Nat → Nat) (c : Nat) : Prop :=
  far a = 0 ∧ (∀ v, v < 290 → far v = 1152921504606846976 ∨ (pi v - pi a ≤ far v ∧ far v ≤ 2147483648 * (cR far 290 : Int))) ∧
  (∀ v, v < 290 → ¬ far v = 1152921504606846976 → ¬ v = a → by_ v < n ∧ to (by_ v) = v ∧ rm (by_ v) ∧ ¬ far (fr (by_ v)) = 1152921504606846976 ∧ (far (fr (by_ v)) + pr (by_ v) < far v ∨ (far (fr (by_ v)) + pr (by_ v) = far v ∧ t (fr (by_ v)) < t v))) ∧
  (∀ v, t v < c)
/-- nothing is nearer than it is told -/
def NR (fr to : Nat → Nat) (rm : Nat → Prop) (pr far : Nat → Int) (l : Nat) : Prop := rm l → ¬ far (fr l) = 1152921504606846976 → far (to l) ≤ far (fr l) + pr l
theorem BS_ub (h : BS n fr to rm pr pi a far by_ t c) {v : Nat} (hv : v < 290) (r : ¬ far v = 1152921504606846976) : pi v - pi a ≤ far v ∧ far v ≤ 622770257920 := by
  have q := (h.2.1 v hv).resolve_left r
  have k := cR_le far 290
  omega
theorem BS_0 {f0 : Nat → Int} (h0 : ∀ v, v < 290 → ¬ v = a → f0 v = 1152921504606846976) (ha : a < 290) (za : f0 a = 0) : BS n fr to rm pr pi a f0 by_ (fun _ => 0) 1 := by
  refine ⟨za, fun v hv => ?_, fun v hv r na => absurd (h0 v hv na) r, fun v => Nat.zero_lt_one⟩
  by_cases q : v = a
  · rw [q, za]
    exact Or.inr ⟨by omega, by omega⟩
  · exact Or.inl (h0 v hv q)
/-- a lane that is cheaper is taken -/
theorem BS_st (hF : FE n fr to rm pr pi) (hP : ∀ l, l < n → pr l ≤ 2147483648) (hf : ∀ l, fr l < 290) (ht : ∀ l, to l < 290) (h : BS n fr to rm pr pi a far by_ t c) {l : Nat} (hl : l < n) (hr : rm l) (hu : ¬ far (fr l) = 1152921504606846976) (hlt : far (fr l) + pr l < far (to l)) :
    BS n fr to rm pr pi a (updZ far (to l) (far (fr l) + pr l)) (updZ by_ (to l) l) (updZ t (to l) c) (c + 1) ∧ pi (to l) - pi a ≤ far (fr l) + pr l := by
  have e := hF l hl hr
  have hp := hP l hl
  have ub := BS_ub h (hf l) hu
  obtain ⟨h1, h2, h3, h4⟩ := h
  have hu2 := (h2 (fr l) (hf l)).resolve_left hu
  have lo : pi (to l) - pi a ≤ far (fr l) + pr l := by omega
  have na : ¬ a = to l := by
    intro q
    rw [← q] at hlt lo
    omega
  have nu : ¬ fr l = to l := by
    intro q
    rw [q] at hlt e
    omega
  have nF : ¬ far (fr l) + pr l = 1152921504606846976 := by
    intro q
    rcases h2 (to l) (ht l) with y | y
    · omega
    · have k := cR_le far 290
      omega
  have cn := cR_up (far := far) (v := to l) nF 290
  refine ⟨⟨by rw [updZ_ne far _ na]; exact h1, fun v hv => ?_, fun v hv r va => ?_, fun v => ?_⟩, lo⟩
  · by_cases q : v = to l
    · rw [q, updZ_at]
      refine Or.inr ⟨lo, ?_⟩
      rw [cn]
      by_cases z : far (to l) = 1152921504606846976
      · rw [if_pos ⟨ht l, z⟩]
        omega
      · have y := (h2 (to l) (ht l)).resolve_left z
        rw [if_neg (by omega)]
        omega
    · rw [updZ_ne far _ q]
      rcases h2 v hv with y | y
      · exact Or.inl y
      · refine Or.inr ⟨y.1, ?_⟩
        rw [cn]
        have : (0 : Int) ≤ ((if to l < 290 ∧ far (to l) = 1152921504606846976 then 1 else 0 : Nat) : Int) := Int.natCast_nonneg _
        omega
  · by_cases q : v = to l
    · rw [q, updZ_at, updZ_at, updZ_at, updZ_ne far _ nu, updZ_ne t _ nu]
      exact ⟨hl, rfl, hr, hu, Or.inr ⟨rfl, h4 _⟩⟩
    · rw [updZ_ne far _ q] at r
      obtain ⟨g1, g2, g3, g4, g5⟩ := h3 v hv r va
      rw [updZ_ne by_ _ q, updZ_ne far _ q, updZ_ne t _ q]
      refine ⟨g1, g2, g3, ?_, ?_⟩
      · by_cases z : fr (by_ v) = to l
        · rw [z, updZ_at]
          exact nF
        · rw [updZ_ne far _ z]
          exact g4
      · by_cases z : fr (by_ v) = to l
        · rw [z, updZ_at]
          rw [z] at g5
          exact Or.inl (by omega)
        · rw [updZ_ne far _ z, updZ_ne t _ z]
          exact g5
  · by_cases q : v = to l
    · rw [q, updZ_at]
      exact Nat.lt_succ_self c
    · rw [updZ_ne t _ q]
      exact Nat.lt_succ_of_lt (h4 v)
/-- how far everything is above the least that it can be -/
def sM (far pi : Nat → Int) (a : Nat) : Nat → Nat
  | 0 => 0
  | k + 1 => sM far pi a k + (far k - (pi k - pi a)).toNat
theorem sM_up {v : Nat} {x : Int} (hx : x < far v) (lo : pi v - pi a ≤ x) : ∀ k, (v < k → sM (updZ far v x) pi a k < sM far pi a k) ∧ (¬ v < k → sM (updZ far v x) pi a k = sM far pi a k)
  | 0 => ⟨fun q => absurd q (Nat.not_lt_zero v), fun _ => rfl⟩
  | k + 1 => by
    have ih := sM_up hx lo k
    have e : sM (updZ far v x) pi a (k + 1) = sM (updZ far v x) pi a k + (updZ far v x k - (pi k - pi a)).toNat := rfl
    have e2 : sM far pi a (k + 1) = sM far pi a k + (far k - (pi k - pi a)).toNat := rfl
    by_cases q : k = v
    · have i2 := ih.2 (by omega)
      rw [e, e2, i2, q, updZ_at]
      exact ⟨fun _ => by omega, fun z => absurd (Nat.lt_succ_self v) z⟩
    · rw [e, e2, updZ_ne far x q]
      refine ⟨fun z => ?_, fun z => ?_⟩
      · have i1 := ih.1 (by omega)
        omega
      · have i2 := ih.2 (by omega)
        omega
/-- the search has ended: each way's last lane -/
theorem BS_fx (h : BS n fr to rm pr pi a far by_ t c) (hN : ∀ l, l < n → NR fr to rm pr far l) {v : Nat} (hv : v < 290) (r : ¬ far v = 1152921504606846976) (va : ¬ v = a) : by_ v < n ∧ to (by_ v) = v ∧ rm (by_ v) ∧ ¬ far (fr (by_ v)) = 1152921504606846976 ∧ far (fr (by_ v)) + pr (by_ v) = far v ∧ t (fr (by_ v)) < t v := by
  obtain ⟨g1, g2, g3, g4, g5⟩ := h.2.2.1 v hv r va
  have q := hN _ g1 g3 g4
  rw [g2] at q
  rcases g5 with y | y
  · omega
  · exact ⟨g1, g2, g3, g4, y⟩
/-- the next potential -/
def nP (far pi : Nat → Int) (a b : Nat) (v : Nat) : Int := pi v + (if far v = 1152921504606846976 then far b + pi a - pi b else if far v + pi a - pi v ≤ far b + pi a - pi b then far v + pi a - pi v else far b + pi a - pi b)
/-- posts on the way -/
def oW (far pi : Nat → Int) (a b : Nat) (v : Nat) : Prop := ¬ far v = 1152921504606846976 ∧ far v + pi a - pi v ≤ far b + pi a - pi b
theorem oW_cl (hF : FE n fr to rm pr pi) (hf : ∀ l, fr l < 290) (h : BS n fr to rm pr pi a far by_ t c) (hN : ∀ l, l < n → NR fr to rm pr far l) {b v : Nat} (hv : v < 290) (ho : oW far pi a b v) (va : ¬ v = a) : oW far pi a b (fr (by_ v)) := by
  obtain ⟨g1, g2, g3, g4, g5, g6⟩ := BS_fx h hN hv ho.1 va
  have e := hF _ g1 g3
  rw [g2] at e
  exact ⟨g4, by have := ho.2; omega⟩
theorem FE_aug {rm1 : Nat → Prop} {xr : Nat → Nat} {b : Nat} (hF : FE n fr to rm pr pi) (hP : ∀ l, l < n → pr l ≤ 2147483648) (hf : ∀ l, fr l < 290) (h : BS n fr to rm pr pi a far by_ t c) (hN : ∀ l, l < n → NR fr to rm pr far l) (hb : b < 290) (rb : ¬ far b = 1152921504606846976)
    (hx : ∀ l, l < n → pr (xr l) = - pr l ∧ fr (xr l) = to l ∧ to (xr l) = fr l)
    (g : ∀ l, l < n → rm1 l → rm l ∨ ∃ v, v < 290 ∧ oW far pi a b v ∧ ¬ v = a ∧ (l = by_ v ∨ l = xr (by_ v))) : FE n fr to rm1 pr (nP far pi a b) := by
  intro l hl r1
  have D0 := BS_ub h hb rb
  have main : rm l → 0 ≤ pr l + nP far pi a b (fr l) - nP far pi a b (to l) := by
    intro r
    have e := hF l hl r
    have q := hN l hl r
    unfold nP
    by_cases z : far (fr l) = 1152921504606846976
    · rw [if_pos z]
      split
      · omega
      · split <;> omega
    · rw [if_neg z]
      have y := q z
      have u := BS_ub h (hf l) z
      have nt : ¬ far (to l) = 1152921504606846976 := by
        intro k
        have hp := hP l hl
        rw [k] at y
        omega
      rw [if_neg nt]
      split
      · split <;> omega
      · split <;> omega
  rcases g l hl r1 with r | ⟨v, hv, ho, va, hl2⟩
  · exact main r
  · obtain ⟨g1, g2, g3, g4, g5, g6⟩ := BS_fx h hN hv ho.1 va
    rcases hl2 with e | e
    · exact main (by rw [e]; exact g3)
    · have x := hx _ g1
      have oc := oW_cl hF hf h hN hv ho va
      rw [e, x.1, x.2.1, x.2.2, g2]
      unfold nP
      rw [if_neg ho.1, if_pos ho.2, if_neg oc.1, if_pos oc.2]
      omega
/-- the potential's bounds -/
def PB (pi : Nat → Int) : Prop := pi 0 = 0 ∧ pi 1 ≤ 1099511627776 ∧ ∀ v, v < 290 → -2147483648 ≤ pi v ∧ pi v ≤ pi 1 + 2147483648
theorem PB_aug (h : BS n fr to rm pr pi 0 far by_ t c) (hB : PB pi) (rb : ¬ far 1 = 1152921504606846976) : PB (nP far pi 0 1) := by
  have D := BS_ub h (show 1 < 290 by decide) rb
  have f0 := h.1
  obtain ⟨p0, p1, p2⟩ := hB
  have e0 : nP far pi 0 1 0 = 0 := by
    unfold nP
    rw [f0, if_neg (by decide)]
    split <;> omega
  have e1 : nP far pi 0 1 1 = far 1 := by
    unfold nP
    rw [if_neg rb, if_pos (by omega)]
    omega
  refine ⟨e0, by omega, fun v hv => ?_⟩
  rw [e1]
  have b := p2 v hv
  unfold nP
  split
  · omega
  · rename_i q
    have u := BS_ub h hv q
    split <;> omega
theorem PB_in (hB : PB pi) {v : Nat} (hv : v < 290) : -2147483648 ≤ pi v ∧ pi v ≤ 1101659111424 := by
  have b := hB.2.2 v hv
  have c := hB.2.1
  omega
/-- a way back along a lane that costs nothing more: the potential stays -/
theorem nP_same (h : BS n fr to rm pr pi a far by_ t c) (hF : FE n fr to rm pr pi) {b l : Nat} (hl : l < n) (hr : rm l) (ef : fr l = b) (et : to l = a) (hb : b < 290) (rb : ¬ far b = 1152921504606846976) (z : far b + pr l = 0) : ∀ v, v < 290 → nP far pi a b v = pi v := by
  intro v hv
  have e := hF l hl hr
  rw [ef, et] at e
  have D := BS_ub h hb rb
  unfold nP
  split
  · omega
  · rename_i q
    have u := BS_ub h hv q
    split <;> omega
theorem FE_cg {pi2 : Nat → Int} {rm1 : Nat → Prop} (hf : ∀ l, fr l < 290) (ht : ∀ l, to l < 290) (h : FE n fr to rm pr pi) (e : ∀ v, v < 290 → pi v = pi2 v) (hr : ∀ l, l < n → rm1 l → rm l) : FE n fr to rm1 pr pi2 := by
  intro l hl r
  rw [← e _ (hf l), ← e _ (ht l)]
  exact h l hl (hr l hl r)
end Ways
