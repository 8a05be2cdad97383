/-! the acts of both -/
/-- how many; of each what it is (0 report, 1 gifts, 2 call, 3 void), its numbers, the act that tells that it is void, its wishes -/
abbrev LT : Type := Nat × (Nat → Int) × (Nat → Nat → Int) × (Nat → Int) × (Nat → List (List Nat))
def LX (L : LT) (s : PS) : Prop := s 35 0 = (L.1 : Int) ∧ ∀ a : Nat, 1 ≤ a → a ≤ L.1 → s 36 a = L.2.1 a + 1 ∧ (∀ i, i < 3 → s 37 (5 * a + i) = L.2.2.1 a i) ∧ s 40 a = L.2.2.2.1 a ∧ (L.2.1 a = 0 → (∀ i, i < 5 → s 37 (5 * a + i) = L.2.2.1 a i) ∧ s 39 a = ((L.2.2.2.2 a).length : Int) ∧ ∀ (j : Nat) (h : j < (L.2.2.2.2 a).length), s 38 (3 * a + j) = ((e5 (L.2.2.2.2 a)[j] : Nat) : Int))
def LU (L : LT) (u : PS) : Prop := u 0 37 = (L.1 : Int) ∧ ∀ a : Nat, 1 ≤ a → a ≤ L.1 → u 21 a = L.2.1 a ∧ (∀ i, i < 3 → u 22 (5 * a + i) = L.2.2.1 a i) ∧ u 23 a = L.2.2.2.1 a ∧ (L.2.1 a = 0 → (∀ i, i < 5 → u 22 (5 * a + i) = L.2.2.1 a i) ∧ (∀ (j : Nat) (h : j < (L.2.2.2.2 a).length), u 24 (3 * a + j) = ((c8 (L.2.2.2.2 a)[j] : Nat) : Int)) ∧ ∀ j : Nat, (L.2.2.2.2 a).length ≤ j → j < 3 → u 24 (3 * a + j) = 0)
/-- what can be told, with so many kinds -/
def LOk (kn : Int) (L : LT) : Prop := ∀ a : Nat, 1 ≤ a → a ≤ L.1 → (L.2.1 a = 0 ∨ L.2.1 a = 1 ∨ L.2.1 a = 2 ∨ L.2.1 a = 3) ∧ (L.2.1 a = 0 → (0 ≤ L.2.2.1 a 0 ∧ L.2.2.1 a 0 ≤ 9999) ∧ (0 ≤ L.2.2.1 a 1 ∧ L.2.2.1 a 1 ≤ 17) ∧ (0 ≤ L.2.2.1 a 2 ∧ L.2.2.1 a 2 ≤ 99) ∧ (0 ≤ L.2.2.1 a 3 ∧ L.2.2.1 a 3 ≤ 999) ∧ (1 ≤ L.2.2.1 a 4 ∧ L.2.2.1 a 4 ≤ 24) ∧ (L.2.2.2.2 a).length ≤ 3 ∧ ∀ w ∈ L.2.2.2.2 a, LW w ∧ ¬ w = []) ∧ (L.2.1 a = 1 ∨ L.2.1 a = 2 → (0 ≤ L.2.2.1 a 0 ∧ L.2.2.1 a 0 < kn) ∧ (1 ≤ L.2.2.1 a 1 ∧ L.2.2.1 a 1 ≤ 24) ∧ (0 ≤ L.2.2.1 a 2 ∧ L.2.2.1 a 2 ≤ 99)) ∧ (L.2.2.2.1 a = 0 ∨ ((a : Int) < L.2.2.2.1 a ∧ L.2.2.2.1 a ≤ (L.1 : Int)))
def LG (L : LT) (s u : PS) : Prop := LX L s ∧ LU L u ∧ LOk (s 1 0) L ∧ s 35 1 = u 0 38 ∧ 0 ≤ u 0 38 ∧ u 0 38 ≤ 80
/-- what was told stays told -/
def LExt (L M : LT) : Prop := L.1 ≤ M.1 ∧ ∀ x, 1 ≤ x → x ≤ L.1 → M.2.1 x = L.2.1 x ∧ M.2.2.1 x = L.2.2.1 x ∧ M.2.2.2.2 x = L.2.2.2.2 x ∧ (M.2.2.2.1 x = L.2.2.2.1 x ∨ (L.2.2.2.1 x = 0 ∧ (L.1 : Int) < M.2.2.2.1 x))
/-- one act more -/
def LT.add (L : LT) (k : Int) (d : Nat → Int) (w : List (List Nat)) : LT := (L.1 + 1, fun a => if a = L.1 + 1 then k else L.2.1 a, fun a => if a = L.1 + 1 then d else L.2.2.1 a, fun a => if a = L.1 + 1 then 0 else L.2.2.2.1 a, fun a => if a = L.1 + 1 then w else L.2.2.2.2 a)
/-- an act is void -/
def LT.void (L : LT) (x : Nat) (v : Int) : LT := (L.1, L.2.1, L.2.2.1, fun a => if a = x then v else L.2.2.2.1 a, L.2.2.2.2)
section Acts
variable {s t u v : PS} {r r2 : Int} {L : LT} {n : Nat}
theorem LX.cg (h : LX L s) (e35 : t 35 0 = s 35 0) (e36 : t 36 = s 36) (e37 : t 37 = s 37) (e38 : t 38 = s 38) (e39 : t 39 = s 39) (e40 : t 40 = s 40) : LX L t := by
  refine ⟨e35.trans h.1, fun a h1 h2 => ?_⟩
  rw [e36, e37, e38, e39, e40]
  exact h.2 a h1 h2
theorem LU.cg (h : LU L u) (e0 : v 0 37 = u 0 37) (e21 : v 21 = u 21) (e22 : v 22 = u 22) (e23 : v 23 = u 23) (e24 : v 24 = u 24) : LU L v := by
  refine ⟨e0.trans h.1, fun a h1 h2 => ?_⟩
  rw [e21, e22, e23, e24]
  exact h.2 a h1 h2
theorem LExt.refl : LExt L L := ⟨Nat.le_refl _, fun x _ _ => ⟨rfl, rfl, rfl, Or.inl rfl⟩⟩
theorem LExt.add {k : Int} {d : Nat → Int} {w : List (List Nat)} : LExt L (L.add k d w) := ⟨Nat.le_succ _, fun x _ h2 => ⟨if_neg (by omega), if_neg (by omega), if_neg (by omega), Or.inl (if_neg (by omega))⟩⟩
theorem LExt.void {k v : Int} {d : Nat → Int} {w : List (List Nat)} {y : Nat} (h0 : L.2.2.2.1 y = 0) (hv : (L.1 : Int) < v) : LExt L ((L.add k d w).void y v) := by
  refine ⟨Nat.le_succ _, fun x _ h2 => ⟨if_neg (by omega), if_neg (by omega), if_neg (by omega), ?_⟩⟩
  show (if x = y then v else (if x = L.1 + 1 then 0 else L.2.2.2.1 x)) = L.2.2.2.1 x ∨ _
  by_cases c : x = y
  · refine Or.inr ⟨by rw [c]; exact h0, ?_⟩
    show (L.1 : Int) < (if x = y then v else (if x = L.1 + 1 then 0 else L.2.2.2.1 x))
    rw [if_pos c]
    exact hv
  · rw [if_neg c, if_neg (by omega)]
    exact Or.inl rfl
theorem LG.cg (h : LG L s u) (e1 : t 1 0 = s 1 0) (e35 : t 35 0 = s 35 0) (e351 : t 35 1 = s 35 1) (e36 : t 36 = s 36) (e37 : t 37 = s 37) (e38 : t 38 = s 38) (e39 : t 39 = s 39) (e40 : t 40 = s 40) (e0 : v 0 37 = u 0 37) (e38' : v 0 38 = u 0 38) (e21 : v 21 = u 21) (e22 : v 22 = u 22) (e23 : v 23 = u 23) (e24 : v 24 = u 24) : LG L t v := by
  obtain ⟨h1, h2, h3, h4, h5, h6⟩ := h
  exact ⟨h1.cg e35 e36 e37 e38 e39 e40, h2.cg e0 e21 e22 e23 e24, by rw [e1]; exact h3, by rw [e351, e38']; exact h4, by rw [e38']; exact h5, by rw [e38']; exact h6⟩
theorem isFullX (h : M_X7_isFull s r t) : t = s ∧ ((r = 0 ∧ s 35 0 < 200) ∨ (r = 1 ∧ ¬ s 35 0 < 200)) := by
  unfold M_X7_isFull T_X7_isFull_e at h
  obtain ⟨_, ⟨c, er, es⟩ | ⟨c, er, es⟩⟩ := h
  · exact ⟨es, Or.inl ⟨er, c⟩⟩
  · exact ⟨es, Or.inr ⟨er, c⟩⟩
theorem withinX {p lo hi : Int} (h : M_X11_within s p lo hi r t) : t = s ∧ ((r = 1 ∧ lo ≤ p ∧ p ≤ hi) ∨ (r = 0 ∧ ¬ (lo ≤ p ∧ p ≤ hi))) := by
  unfold M_X11_within T_X11_within_e at h
  obtain ⟨_, _, _, ⟨c, er, es⟩ | ⟨c, ⟨d, er, es⟩ | ⟨d, er, es⟩⟩⟩ := h
  · exact ⟨es, Or.inr ⟨er, by omega⟩⟩
  · exact ⟨es, Or.inr ⟨er, by omega⟩⟩
  · exact ⟨es, Or.inl ⟨er, by omega, by omega⟩⟩
theorem isDayX {p : Int} (h : M_X11_isDay s p r t) : t = s ∧ ((r = 1 ∧ 1 ≤ p ∧ p ≤ 24) ∨ (r = 0 ∧ ¬ (1 ≤ p ∧ p ≤ 24))) := by
  unfold M_X11_isDay T_X11_isDay_e at h
  obtain ⟨_, r1, s1, hm, _, _, _, er, es⟩ := h
  have k := withinX hm
  rw [es, er]
  exact k
theorem isMm {p lo hi : Int} (h : M_X12_is s p lo hi r t) : t = s ∧ ((r = 1 ∧ lo ≤ p ∧ p ≤ hi) ∨ (r = 0 ∧ ¬ (lo ≤ p ∧ p ≤ hi))) := by
  unfold M_X12_is T_X12_is_e at h
  obtain ⟨_, ⟨c, er, es⟩ | ⟨c, ⟨d, er, es⟩ | ⟨d, er, es⟩⟩⟩ := h
  · exact ⟨es, Or.inr ⟨er, by omega⟩⟩
  · exact ⟨es, Or.inr ⟨er, by omega⟩⟩
  · exact ⟨es, Or.inl ⟨er, by omega, by omega⟩⟩
theorem us_if {k j : Nat} {z : Int} (j2 : Nat) : us s k j z k j2 = if j2 = j then z else s k j2 := by
  by_cases c : j2 = j
  · rw [if_pos c, c, us_at]
  · rw [if_neg c, us_j c]
/-- the class: one act more -/
def AdX (n : Nat) (k a b c : Int) (s t : PS) : Prop := t 35 0 = ((n + 1 : Nat) : Int) ∧ t 35 1 = s 35 1 ∧ (∀ j, t 36 j = if j = n + 1 then k else s 36 j) ∧ (∀ j, t 40 j = if j = n + 1 then 0 else s 40 j) ∧ (∀ j, ¬ j = n + 1 → t 39 j = s 39 j) ∧ (∀ j, t 37 j = if j = 5 * (n + 1) + 2 then c else if j = 5 * (n + 1) + 1 then b else if j = 5 * (n + 1) then a else s 37 j) ∧ ∀ k, ¬ k = 35 → ¬ k = 36 → ¬ k = 37 → ¬ k = 39 → ¬ k = 40 → t k = s k
theorem addX {k a b c : Int} (h : M_X7_add s k a b c r t) (hn : s 35 0 = (n : Int)) : r = ((n + 1 : Nat) : Int) ∧ AdX n k a b c s t := by
  unfold M_X7_add T_X7_add_e at h
  obtain ⟨_, _, s1, e1, s2, e2, s3, e3, s4, e4, s5, e5', s6, e6, s7, e7, er, es⟩ := h
  have i1 : (s 35 0 + 1).toNat = n + 1 := by omega
  have i2 : ((s 35 0 + 1) * 5).toNat = 5 * (n + 1) := by omega
  have i3 : ((s 35 0 + 1) * 5 + 1).toNat = 5 * (n + 1) + 1 := by omega
  have i4 : ((s 35 0 + 1) * 5 + 2).toNat = 5 * (n + 1) + 2 := by omega
  rw [i1] at e2 e3 e4
  rw [i2] at e5'
  rw [i3] at e6
  rw [i4] at e7
  have ev : t = us (us (us (us (us (us (us s 35 0 (s 35 0 + 1)) 36 (n + 1) k) 40 (n + 1) 0) 39 (n + 1) 0) 37 (5 * (n + 1)) a) 37 (5 * (n + 1) + 1) b) 37 (5 * (n + 1) + 2) c := by rw [es, e7, e6, e5', e4, e3, e2, e1]
  refine ⟨by rw [er, hn]; rfl, ?_, ?_, fun j => ?_, fun j => ?_, fun j hj => ?_, fun j => ?_, fun m h1 h2 h3 h4 h5 => ?_⟩
  · rw [ev, us_k (by decide), us_k (by decide), us_k (by decide), us_k (by decide), us_k (by decide), us_k (by decide), us_at, hn]
    rfl
  · rw [ev, us_k (by decide), us_k (by decide), us_k (by decide), us_k (by decide), us_k (by decide), us_k (by decide), us_j (by decide)]
  · rw [ev, us_k (by decide), us_k (by decide), us_k (by decide), us_k (by decide), us_k (by decide), us_if, us_k (by decide)]
  · rw [ev, us_k (by decide), us_k (by decide), us_k (by decide), us_k (by decide), us_if, us_k (by decide), us_k (by decide)]
  · rw [ev, us_k (by decide), us_k (by decide), us_k (by decide), us_j hj, us_k (by decide), us_k (by decide), us_k (by decide)]
  · rw [ev, us_if, us_if, us_if, us_k (by decide), us_k (by decide), us_k (by decide), us_k (by decide)]
  · rw [ev, us_k h3, us_k h3, us_k h3, us_k h4, us_k h5, us_k h2, us_k h1]
/-- the reference: one act more -/
def AdM (n : Nat) (k a b c d e : Int) (s t : PS) : Prop := t 0 37 = ((n + 1 : Nat) : Int) ∧ (∀ j, ¬ j = 37 → t 0 j = s 0 j) ∧ (∀ j, t 21 j = if j = n + 1 then k else s 21 j) ∧ (∀ j, t 23 j = if j = n + 1 then 0 else s 23 j) ∧ (∀ j, t 22 j = if j = 5 * (n + 1) + 4 then e else if j = 5 * (n + 1) + 3 then d else if j = 5 * (n + 1) + 2 then c else if j = 5 * (n + 1) + 1 then b else if j = 5 * (n + 1) then a else s 22 j) ∧ ∀ k, ¬ k = 0 → ¬ k = 21 → ¬ k = 22 → ¬ k = 23 → t k = s k
theorem tellsM {k a b c d e : Int} (h : M_X12_tells s k a b c d e r t) (hn : s 0 37 = (n : Int)) : r = ((n + 1 : Nat) : Int) ∧ AdM n k a b c d e s t := by
  unfold M_X12_tells T_X12_tells_e at h
  obtain ⟨_, _, _, _, _, _, _, s1, e1, s2, e2, s3, e3, s4, e4, s5, e5', s6, e6, s7, e7, s8, e8', er, es⟩ := h
  have i1 : (s 0 37 + 1).toNat = n + 1 := by omega
  have i2 : (5 * (s 0 37 + 1)).toNat = 5 * (n + 1) := by omega
  have i3 : (5 * (s 0 37 + 1) + 1).toNat = 5 * (n + 1) + 1 := by omega
  have i4 : (5 * (s 0 37 + 1) + 2).toNat = 5 * (n + 1) + 2 := by omega
  have i5 : (5 * (s 0 37 + 1) + 3).toNat = 5 * (n + 1) + 3 := by omega
  have i6 : (5 * (s 0 37 + 1) + 4).toNat = 5 * (n + 1) + 4 := by omega
  rw [i1] at e2 e3
  rw [i2] at e4
  rw [i3] at e5'
  rw [i4] at e6
  rw [i5] at e7
  rw [i6] at e8'
  have ev : t = us (us (us (us (us (us (us (us s 0 37 (s 0 37 + 1)) 21 (n + 1) k) 23 (n + 1) 0) 22 (5 * (n + 1)) a) 22 (5 * (n + 1) + 1) b) 22 (5 * (n + 1) + 2) c) 22 (5 * (n + 1) + 3) d) 22 (5 * (n + 1) + 4) e := by rw [es, e8', e7, e6, e5', e4, e3, e2, e1]
  refine ⟨by rw [er, hn]; rfl, ?_, fun j hj => ?_, fun j => ?_, fun j => ?_, fun j => ?_, fun m h1 h2 h3 h4 => ?_⟩
  · rw [ev, us_k (by decide), us_k (by decide), us_k (by decide), us_k (by decide), us_k (by decide), us_k (by decide), us_k (by decide), us_at, hn]
    rfl
  · rw [ev, us_k (by decide), us_k (by decide), us_k (by decide), us_k (by decide), us_k (by decide), us_k (by decide), us_k (by decide), us_j hj]
  · rw [ev, us_k (by decide), us_k (by decide), us_k (by decide), us_k (by decide), us_k (by decide), us_k (by decide), us_if, us_k (by decide)]
  · rw [ev, us_k (by decide), us_k (by decide), us_k (by decide), us_k (by decide), us_k (by decide), us_if, us_k (by decide), us_k (by decide)]
  · rw [ev, us_if, us_if, us_if, us_if, us_if, us_k (by decide), us_k (by decide), us_k (by decide)]
  · rw [ev, us_k h3, us_k h3, us_k h3, us_k h3, us_k h3, us_k h4, us_k h2, us_k h1]
theorem LX.add {k a b c : Int} {d : Nat → Int} {w : List (List Nat)} (h : LX L s) (hA : AdX L.1 (k + 1) a b c s t) (d0 : d 0 = a) (d1 : d 1 = b) (d2 : d 2 = c) (hk : k = 0 → False) : LX (L.add k d w) t := by
  obtain ⟨a1, _, a3, a4, a5, a6, a7⟩ := hA
  refine ⟨a1, fun x h1 h2 => ?_⟩
  have h2' : x ≤ L.1 + 1 := h2
  by_cases c : x = L.1 + 1
  · subst c
    show t 36 (L.1 + 1) = (if L.1 + 1 = L.1 + 1 then k else L.2.1 (L.1 + 1)) + 1 ∧ (∀ i, i < 3 → t 37 (5 * (L.1 + 1) + i) = (if L.1 + 1 = L.1 + 1 then d else L.2.2.1 (L.1 + 1)) i) ∧ t 40 (L.1 + 1) = (if L.1 + 1 = L.1 + 1 then 0 else L.2.2.2.1 (L.1 + 1)) ∧ ((if L.1 + 1 = L.1 + 1 then k else L.2.1 (L.1 + 1)) = 0 → _)
    rw [if_pos rfl, if_pos rfl, if_pos rfl]
    refine ⟨by rw [a3, if_pos rfl], fun i hi => ?_, by rw [a4, if_pos rfl], fun e => absurd e (fun z => hk z)⟩
    rw [a6]
    have ci : i = 0 ∨ i = 1 ∨ i = 2 := by omega
    rcases ci with ci | ci | ci <;> subst ci
    · rw [if_neg (by omega), if_neg (by omega), if_pos (by omega), d0]
    · rw [if_neg (by omega), if_pos (by omega), d1]
    · rw [if_pos (by omega), d2]
  · have g := h.2 x h1 (by omega)
    obtain ⟨g1, g2, g3, g4⟩ := g
    show t 36 x = (if x = L.1 + 1 then k else L.2.1 x) + 1 ∧ (∀ i, i < 3 → t 37 (5 * x + i) = (if x = L.1 + 1 then d else L.2.2.1 x) i) ∧ t 40 x = (if x = L.1 + 1 then 0 else L.2.2.2.1 x) ∧ ((if x = L.1 + 1 then k else L.2.1 x) = 0 → (∀ i, i < 5 → t 37 (5 * x + i) = (if x = L.1 + 1 then d else L.2.2.1 x) i) ∧ t 39 x = ((if x = L.1 + 1 then w else L.2.2.2.2 x).length : Int) ∧ ∀ (j : Nat) (h : j < (if x = L.1 + 1 then w else L.2.2.2.2 x).length), t 38 (3 * x + j) = ((e5 (if x = L.1 + 1 then w else L.2.2.2.2 x)[j] : Nat) : Int))
    simp only [if_neg c]
    refine ⟨by rw [a3, if_neg c]; exact g1, fun i hi => ?_, by rw [a4, if_neg c]; exact g3, fun e => ?_⟩
    · rw [a6, if_neg (by omega), if_neg (by omega), if_neg (by omega)]
      exact g2 i hi
    · obtain ⟨p1, p2, p3⟩ := g4 e
      refine ⟨fun i hi => ?_, by rw [a5 x c]; exact p2, fun j hj => ?_⟩
      · rw [a6, if_neg (by omega), if_neg (by omega), if_neg (by omega)]
        exact p1 i hi
      · rw [a7 38 (by decide) (by decide) (by decide) (by decide) (by decide)]
        exact p3 j hj
theorem LU.add {k a b c d' e' : Int} {d : Nat → Int} {w : List (List Nat)} (h : LU L u) (hA : AdM L.1 k a b c d' e' u v) (d0 : d 0 = a) (d1 : d 1 = b) (d2 : d 2 = c) (hk : k = 0 → False) : LU (L.add k d w) v := by
  obtain ⟨a1, _, a3, a4, a6, a7⟩ := hA
  refine ⟨a1, fun x h1 h2 => ?_⟩
  have h2' : x ≤ L.1 + 1 := h2
  by_cases c : x = L.1 + 1
  · subst c
    show v 21 (L.1 + 1) = (if L.1 + 1 = L.1 + 1 then k else L.2.1 (L.1 + 1)) ∧ (∀ i, i < 3 → v 22 (5 * (L.1 + 1) + i) = (if L.1 + 1 = L.1 + 1 then d else L.2.2.1 (L.1 + 1)) i) ∧ v 23 (L.1 + 1) = (if L.1 + 1 = L.1 + 1 then 0 else L.2.2.2.1 (L.1 + 1)) ∧ ((if L.1 + 1 = L.1 + 1 then k else L.2.1 (L.1 + 1)) = 0 → _)
    rw [if_pos rfl, if_pos rfl, if_pos rfl]
    refine ⟨by rw [a3, if_pos rfl], fun i hi => ?_, by rw [a4, if_pos rfl], fun e => absurd e (fun z => hk z)⟩
    rw [a6]
    have ci : i = 0 ∨ i = 1 ∨ i = 2 := by omega
    rcases ci with ci | ci | ci <;> subst ci
    · rw [if_neg (by omega), if_neg (by omega), if_neg (by omega), if_neg (by omega), if_pos (by omega), d0]
    · rw [if_neg (by omega), if_neg (by omega), if_neg (by omega), if_pos (by omega), d1]
    · rw [if_neg (by omega), if_neg (by omega), if_pos (by omega), d2]
  · have g := h.2 x h1 (by omega)
    obtain ⟨g1, g2, g3, g4⟩ := g
    show v 21 x = (if x = L.1 + 1 then k else L.2.1 x) ∧ (∀ i, i < 3 → v 22 (5 * x + i) = (if x = L.1 + 1 then d else L.2.2.1 x) i) ∧ v 23 x = (if x = L.1 + 1 then 0 else L.2.2.2.1 x) ∧ ((if x = L.1 + 1 then k else L.2.1 x) = 0 → (∀ i, i < 5 → v 22 (5 * x + i) = (if x = L.1 + 1 then d else L.2.2.1 x) i) ∧ (∀ (j : Nat) (h : j < (if x = L.1 + 1 then w else L.2.2.2.2 x).length), v 24 (3 * x + j) = ((c8 (if x = L.1 + 1 then w else L.2.2.2.2 x)[j] : Nat) : Int)) ∧ ∀ j : Nat, (if x = L.1 + 1 then w else L.2.2.2.2 x).length ≤ j → j < 3 → v 24 (3 * x + j) = 0)
    simp only [if_neg c]
    refine ⟨by rw [a3, if_neg c]; exact g1, fun i hi => ?_, by rw [a4, if_neg c]; exact g3, fun e => ?_⟩
    · rw [a6, if_neg (by omega), if_neg (by omega), if_neg (by omega), if_neg (by omega), if_neg (by omega)]
      exact g2 i hi
    · obtain ⟨p1, p2, p3⟩ := g4 e
      refine ⟨fun i hi => ?_, fun j hj => ?_, fun j h1 h2 => ?_⟩
      · rw [a6, if_neg (by omega), if_neg (by omega), if_neg (by omega), if_neg (by omega), if_neg (by omega)]
        exact p1 i hi
      · rw [a7 24 (by decide) (by decide) (by decide) (by decide)]
        exact p2 j hj
      · rw [a7 24 (by decide) (by decide) (by decide) (by decide)]
        exact p3 j h1 h2
theorem LOk.add {kn k : Int} {d : Nat → Int} {w : List (List Nat)} (h : LOk kn L) (h0 : k = 0 ∨ k = 1 ∨ k = 2 ∨ k = 3) (h1 : k = 0 → (0 ≤ d 0 ∧ d 0 ≤ 9999) ∧ (0 ≤ d 1 ∧ d 1 ≤ 17) ∧ (0 ≤ d 2 ∧ d 2 ≤ 99) ∧ (0 ≤ d 3 ∧ d 3 ≤ 999) ∧ (1 ≤ d 4 ∧ d 4 ≤ 24) ∧ w.length ≤ 3 ∧ ∀ x ∈ w, LW x ∧ ¬ x = []) (h2 : k = 1 ∨ k = 2 → (0 ≤ d 0 ∧ d 0 < kn) ∧ (1 ≤ d 1 ∧ d 1 ≤ 24) ∧ (0 ≤ d 2 ∧ d 2 ≤ 99)) : LOk kn (L.add k d w) := by
  intro x x1 x2
  have x2' : x ≤ L.1 + 1 := x2
  by_cases c : x = L.1 + 1
  · subst c
    have e1 : (L.add k d w).2.1 (L.1 + 1) = k := if_pos rfl
    have e2 : (L.add k d w).2.2.1 (L.1 + 1) = d := if_pos rfl
    have e3 : (L.add k d w).2.2.2.1 (L.1 + 1) = 0 := if_pos rfl
    have e4 : (L.add k d w).2.2.2.2 (L.1 + 1) = w := if_pos rfl
    rw [e1, e2, e3, e4]
    exact ⟨h0, h1, h2, Or.inl rfl⟩
  · have g := h x x1 (by omega)
    have e1 : (L.add k d w).2.1 x = L.2.1 x := if_neg c
    have e2 : (L.add k d w).2.2.1 x = L.2.2.1 x := if_neg c
    have e3 : (L.add k d w).2.2.2.1 x = L.2.2.2.1 x := if_neg c
    have e4 : (L.add k d w).2.2.2.2 x = L.2.2.2.2 x := if_neg c
    have e5' : (L.add k d w).1 = L.1 + 1 := rfl
    rw [e1, e2, e3, e4, e5']
    refine ⟨g.1, g.2.1, g.2.2.1, ?_⟩
    rcases g.2.2.2 with z | z
    · exact Or.inl z
    · exact Or.inr ⟨z.1, by omega⟩
/-- what a call that may add an act does to all else -/
def OtX (s t : PS) : Prop := ∀ k, ¬ k = 31 → ¬ k = 35 → ¬ k = 36 → ¬ k = 37 → ¬ k = 38 → ¬ k = 39 → ¬ k = 40 → ¬ k = 41 → t k = s k
theorem tyX_acts (h : TyX s) : 0 ≤ s 35 0 ∧ s 35 0 ≤ 200 := h.1 (35, 0, 0, 200) (by decide)
theorem gifts2 {p1 p2 p3 : Int} (hB : BK s u) (hX : TyX s) (hL : LG L s u) (h1 : M_X11_gifts s p1 p2 p3 r t) (h2 : M_X12_gifts u p1 p2 p3 r2 v) : r = r2 ∧ ∃ M : LT, LExt L M ∧ LG M t v := by
  have hk := hB.kinds
  obtain ⟨l1, l2, l3, l4, l5, l6⟩ := hL
  unfold M_X11_gifts T_X11_gifts_e at h1
  unfold M_X12_gifts T_X12_gifts_e at h2
  obtain ⟨_, x1, s1, i1, _, _, _, h1⟩ := h1
  obtain ⟨_, y1, u1, j1, _, _, _, h2⟩ := h2
  obtain ⟨es1, i1⟩ := isKindX i1
  obtain ⟨eu1, j1⟩ := isKindM j1
  rw [← hk] at j1
  subst es1
  subst eu1
  have same : r = -1 → t = s1 → r2 = -1 → v = u1 → r = r2 ∧ ∃ M : LT, LExt L M ∧ LG M t v := by
    intro a1 a2 a3 a4
    rw [a1, a2, a3, a4]
    exact ⟨rfl, L, LExt.refl, l1, l2, l3, l4, l5, l6⟩
  rcases h1 with ⟨c1, er, es⟩ | ⟨c1, h1⟩
  · rcases h2 with ⟨d1, er2, eu⟩ | ⟨d1, -⟩
    · exact same er es er2 eu
    · omega
  · rcases h2 with ⟨d1, -⟩ | ⟨d1, h2⟩
    · try clear h1
      omega
    · obtain ⟨x2, s2, i2, _, _, _, h1⟩ := h1
      obtain ⟨y2, u2, j2, _, _, _, h2⟩ := h2
      obtain ⟨es2, i2⟩ := isDayX i2
      obtain ⟨eu2, j2⟩ := isMm j2
      subst es2
      subst eu2
      rcases h1 with ⟨c2, er, es⟩ | ⟨c2, h1⟩
      · rcases h2 with ⟨d2, er2, eu⟩ | ⟨d2, -⟩
        · exact same er es er2 eu
        · omega
      · rcases h2 with ⟨d2, -⟩ | ⟨d2, h2⟩
        · try clear h1
          omega
        · obtain ⟨x3, s3, i3, _, _, _, h1⟩ := h1
          obtain ⟨y3, u3, j3, _, _, _, h2⟩ := h2
          obtain ⟨es3, i3⟩ := withinX i3
          obtain ⟨eu3, j3⟩ := isMm j3
          subst es3
          subst eu3
          rcases h1 with ⟨c3, er, es⟩ | ⟨c3, h1⟩
          · rcases h2 with ⟨d3, er2, eu⟩ | ⟨d3, -⟩
            · exact same er es er2 eu
            · omega
          · rcases h2 with ⟨d3, -⟩ | ⟨d3, h2⟩
            · try clear h1
              omega
            · obtain ⟨x4, s4, i4, _, _, _, h1⟩ := h1
              obtain ⟨es4, i4⟩ := isFullX i4
              subst es4
              have n1 := l1.1
              have n2 := l2.1
              have ta := tyX_acts hX
              rcases h1 with ⟨c4, x5, s5, i5, f5, _, _, er, es⟩ | ⟨c4, er, es⟩
              · rcases h2 with ⟨d4, er2, eu⟩ | ⟨d4, y5, u5, j5, g5, _, _, er2, eu⟩
                · omega
                · obtain ⟨a1, a2⟩ := addX i5 n1
                  obtain ⟨b1, b2⟩ := tellsM j5 n2
                  rw [er, er2, es, eu]
                  refine ⟨a1.trans b1.symm, L.add 1 (fun i => if i = 0 then p1 else if i = 1 then p2 else p3) [], LExt.add, l1.add (k := 1) a2 rfl rfl rfl (by decide), l2.add (k := 1) b2 rfl rfl rfl (by decide), ?_, ?_, ?_, ?_⟩
                  · rw [f5.1 1 (by decide)]
                    refine l3.add (Or.inr (Or.inl rfl)) (fun z => absurd z (by decide)) (fun _ => ?_)
                    show (0 ≤ p1 ∧ p1 < s4 1 0) ∧ (1 ≤ p2 ∧ p2 ≤ 24) ∧ (0 ≤ p3 ∧ p3 ≤ 99)
                    omega
                  · rw [a2.2.1, b2.2.1 38 (by decide)]
                    exact l4
                  · rw [b2.2.1 38 (by decide)]
                    exact l5
                  · rw [b2.2.1 38 (by decide)]
                    exact l6
              · rcases h2 with ⟨d4, er2, eu⟩ | ⟨d4, -⟩
                · exact same er es er2 eu
                · exfalso
                  omega
theorem call2 {p1 p2 : Int} (hB : BK s u) (hX : TyX s) (hL : LG L s u) (h1 : M_X11_call s p1 p2 r t) (h2 : M_X12_call u p1 p2 r2 v) : r = r2 ∧ ∃ M : LT, LExt L M ∧ LG M t v := by
  have hk := hB.kinds
  obtain ⟨l1, l2, l3, l4, l5, l6⟩ := hL
  unfold M_X11_call T_X11_call_e at h1
  unfold M_X12_call T_X12_call_e at h2
  obtain ⟨_, x1, s1, i1, _, _, _, h1⟩ := h1
  obtain ⟨_, y1, u1, j1, _, _, _, h2⟩ := h2
  obtain ⟨es1, i1⟩ := isKindX i1
  obtain ⟨eu1, j1⟩ := isKindM j1
  rw [← hk] at j1
  subst es1
  subst eu1
  have same : r = -1 → t = s1 → r2 = -1 → v = u1 → r = r2 ∧ ∃ M : LT, LExt L M ∧ LG M t v := by
    intro a1 a2 a3 a4
    rw [a1, a2, a3, a4]
    exact ⟨rfl, L, LExt.refl, l1, l2, l3, l4, l5, l6⟩
  rcases h1 with ⟨c1, er, es⟩ | ⟨c1, h1⟩
  · rcases h2 with ⟨d1, er2, eu⟩ | ⟨d1, -⟩
    · exact same er es er2 eu
    · omega
  · rcases h2 with ⟨d1, -⟩ | ⟨d1, h2⟩
    · try clear h1
      omega
    · obtain ⟨x2, s2, i2, _, _, _, h1⟩ := h1
      obtain ⟨y2, u2, j2, _, _, _, h2⟩ := h2
      obtain ⟨es2, i2⟩ := isDayX i2
      obtain ⟨eu2, j2⟩ := isMm j2
      subst es2
      subst eu2
      rcases h1 with ⟨c2, er, es⟩ | ⟨c2, h1⟩
      · rcases h2 with ⟨d2, er2, eu⟩ | ⟨d2, -⟩
        · exact same er es er2 eu
        · omega
      · rcases h2 with ⟨d2, -⟩ | ⟨d2, h2⟩
        · try clear h1
          omega
        · obtain ⟨x4, s4, i4, _, _, _, h1⟩ := h1
          obtain ⟨es4, i4⟩ := isFullX i4
          subst es4
          have n1 := l1.1
          have n2 := l2.1
          have ta := tyX_acts hX
          rcases h1 with ⟨c4, x5, s5, i5, f5, _, _, er, es⟩ | ⟨c4, er, es⟩
          · rcases h2 with ⟨d4, er2, eu⟩ | ⟨d4, y5, u5, j5, g5, _, _, er2, eu⟩
            · omega
            · obtain ⟨a1, a2⟩ := addX i5 n1
              obtain ⟨b1, b2⟩ := tellsM j5 n2
              rw [er, er2, es, eu]
              refine ⟨a1.trans b1.symm, L.add 2 (fun i => if i = 0 then p1 else if i = 1 then p2 else 0) [], LExt.add, l1.add (k := 2) a2 rfl rfl rfl (by decide), l2.add (k := 2) b2 rfl rfl rfl (by decide), ?_, ?_, ?_, ?_⟩
              · rw [f5.1 1 (by decide)]
                refine l3.add (Or.inr (Or.inr (Or.inl rfl))) (fun z => absurd z (by decide)) (fun _ => ?_)
                show (0 ≤ p1 ∧ p1 < s4 1 0) ∧ (1 ≤ p2 ∧ p2 ≤ 24) ∧ ((0 : Int) ≤ 0 ∧ (0 : Int) ≤ 99)
                omega
              · rw [a2.2.1, b2.2.1 38 (by decide)]
                exact l4
              · rw [b2.2.1 38 (by decide)]
                exact l5
              · rw [b2.2.1 38 (by decide)]
                exact l6
          · rcases h2 with ⟨d4, er2, eu⟩ | ⟨d4, -⟩
            · exact same er es er2 eu
            · exfalso
              omega
end Acts
