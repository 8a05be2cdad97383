/-! report of both -/
section Report
variable {g : Nat → Nat} {N q : Nat} {s t u v : PS} {r r2 : Int} {L : LT} {n : Nat}
/-- the class's state behind a report that is told -/
def RdX (n : Nat) (p1 p2 p3 p4 p5 : Int) (w : List (List Nat)) (s t : PS) : Prop := t 35 0 = ((n + 1 : Nat) : Int) ∧ t 35 1 = s 35 1 + 1 ∧ (∀ j, t 36 j = if j = n + 1 then 1 else s 36 j) ∧ (∀ j, t 40 j = if j = n + 1 then 0 else s 40 j) ∧ (∀ j, t 39 j = if j = n + 1 then (w.length : Int) else s 39 j) ∧ (∀ j, t 37 j = if j = 5 * (n + 1) + 4 then p5 else if j = 5 * (n + 1) + 3 then p4 else if j = 5 * (n + 1) + 2 then p3 else if j = 5 * (n + 1) + 1 then p2 else if j = 5 * (n + 1) then p1 else s 37 j) ∧ (∀ j, j < 3 * (n + 1) ∨ 3 * (n + 1) + 3 ≤ j → t 38 j = s 38 j) ∧ (∀ (j : Nat) (h : j < w.length), t 38 (3 * (n + 1) + j) = ((e5 w[j] : Nat) : Int)) ∧ ∀ k, ¬ k = 35 → ¬ k = 36 → ¬ k = 37 → ¬ k = 38 → ¬ k = 39 → ¬ k = 40 → t k = s k
theorem rep48 {a x6 : Int} {w : List (List Nat)} {x1 x2 x3 x4 x5 : Int} {A : Nat} (ha : a = (A : Int)) (hx : x6 = (w.length : Int)) (h3 : w.length ≤ 3) : ∀ (m i : Nat) (s : PS) (r : Int) (t : PS), It_X7_addReport m 48 x1 x2 x3 x4 x5 x6 a (i : Int) s r t → i ≤ w.length → (∀ (j : Nat) (h : j < w.length), s 41 j = ((e5 w[j] : Nat) : Int)) → s 35 1 ≤ 80 → 0 ≤ s 35 1 → r = a ∧ t 35 1 = s 35 1 + 1 ∧ (∀ j, ¬ j = 1 → t 35 j = s 35 j) ∧ (∀ k, ¬ k = 35 → ¬ k = 38 → t k = s k) ∧ (∀ j, j < 3 * A + i ∨ 3 * A + 3 ≤ j → t 38 j = s 38 j) ∧ ∀ (j : Nat) (h : j < w.length), i ≤ j → t 38 (3 * A + j) = ((e5 w[j] : Nat) : Int)
  | 0, i, s, r, t, h, _, _, _, _ => False.elim h
  | m + 1, i, s, r, t, h, hi, hw, h80, h00 => by
    replace h := ul_X7_addReport_48 h
    unfold T_X7_addReport_48 at h
    obtain ⟨_, _, _, _, h⟩ := h
    rcases h with ⟨c1, h⟩ | ⟨c1, _, s1, e1, h⟩
    · cases m with
      | zero => exact False.elim h
      | succ m =>
        replace h := ul_X7_addReport_86 h
        unfold T_X7_addReport_86 at h
        obtain ⟨_, _, _, _, s1, e1, er, es⟩ := h
        rw [wi_id (by omega) (by omega)] at e1
        rw [es, e1]
        exact ⟨er, us_at, fun j hj => us_j hj _, fun k hk _ => us_k hk, fun j _ => by rw [us_k (by decide)], fun j hj h2 => absurd hj (by omega)⟩
    · have ix : (a * 3 + (i : Int)).toNat = 3 * A + i := by omega
      have hi2 : i < w.length := by clear h; omega
      rw [ix, Int.toNat_natCast, hw i hi2] at e1
      have z := rep48 (x6 := x6) ha hx h3 m (i + 1) s1 r t h (by clear h; omega) (fun j hj => by rw [e1, us_k (by decide)]; exact hw j hj) (by rw [e1, us_k (by decide)]; exact h80) (by rw [e1, us_k (by decide)]; exact h00)
      obtain ⟨z1, z2, z3, z4, z5, z6⟩ := z
      refine ⟨z1, by rw [z2, e1, us_k (by decide)], fun j hj => by rw [z3 j hj, e1, us_k (by decide)], fun k h1 h2 => by rw [z4 k h1 h2, e1, us_k h2], fun j hj => ?_, fun j hj h2 => ?_⟩
      · rw [z5 j (by omega), e1, us_j (by omega)]
      · by_cases y : j = i
        · subst y
          rw [z5 _ (by omega), e1, us_at]
        · exact z6 j hj (by omega)
theorem addReportX {p1 p2 p3 p4 p5 p6 : Int} {w : List (List Nat)} (h : M_X7_addReport s p1 p2 p3 p4 p5 p6 r t) (hn : s 35 0 = (n : Int)) (hx : p6 = (w.length : Int)) (h3 : w.length ≤ 3) (hw : ∀ (j : Nat) (h : j < w.length), s 41 j = ((e5 w[j] : Nat) : Int)) (h80 : 0 ≤ s 35 1 ∧ s 35 1 ≤ 80) : r = ((n + 1 : Nat) : Int) ∧ RdX n p1 p2 p3 p4 p5 w s t := by
  obtain ⟨m, h⟩ := h
  unfold T_X7_addReport_e at h
  obtain ⟨_, _, r1, s1, hm, _, _, _, s2, e2, s3, e3, s4, e4, h⟩ := h
  obtain ⟨a1, a2⟩ := addX hm hn
  have i3 : (r1 * 5 + 3).toNat = 5 * (n + 1) + 3 := by clear h hm; omega
  have i4 : (r1 * 5 + 4).toNat = 5 * (n + 1) + 4 := by clear h hm; omega
  have i5 : r1.toNat = n + 1 := by clear h hm; omega
  rw [i3] at e2
  rw [i4] at e3
  rw [i5] at e4
  have e41 : s4 41 = s 41 := by
    rw [e4, us_k (by decide), e3, us_k (by decide), e2, us_k (by decide), a2.2.2.2.2.2.2 41 (by decide) (by decide) (by decide) (by decide) (by decide)]
  have e35 : s4 35 = s1 35 := by rw [e4, us_k (by decide), e3, us_k (by decide), e2, us_k (by decide)]
  have h2 : It_X7_addReport m 48 p1 p2 p3 p4 p5 p6 r1 ((0 : Nat) : Int) s4 r t := h
  have z := rep48 (A := n + 1) (w := w) a1 hx h3 m 0 s4 r t h2 (Nat.zero_le _) (fun j hj => by rw [e41]; exact hw j hj) (by rw [e35, a2.2.1]; exact h80.2) (by rw [e35, a2.2.1]; exact h80.1)
  obtain ⟨z1, z2, z3, z4, z5, z6⟩ := z
  refine ⟨z1.trans a1, ?_, ?_, fun j => ?_, fun j => ?_, fun j => ?_, fun j => ?_, fun j hj => ?_, fun j hj => z6 j hj (Nat.zero_le _), fun k h1 h2 h3 h4 h5 h6 => ?_⟩
  · rw [z3 0 (by decide), e35]
    exact a2.1
  · rw [z2, e35, a2.2.1]
  · rw [z4 36 (by decide) (by decide), e4, us_k (by decide), e3, us_k (by decide), e2, us_k (by decide), a2.2.2.1]
  · rw [z4 40 (by decide) (by decide), e4, us_k (by decide), e3, us_k (by decide), e2, us_k (by decide), a2.2.2.2.1]
  · rw [z4 39 (by decide) (by decide), e4, us_if, hx]
    by_cases c : j = n + 1
    · rw [if_pos c, if_pos c]
    · rw [if_neg c, if_neg c, e3, us_k (by decide), e2, us_k (by decide), a2.2.2.2.2.1 j c]
  · rw [z4 37 (by decide) (by decide), e4, us_k (by decide), e3, us_if, e2, us_if, a2.2.2.2.2.2.1]
  · rw [z5 j (by omega), e4, us_k (by decide), e3, us_k (by decide), e2, us_k (by decide), a2.2.2.2.2.2.2 38 (by decide) (by decide) (by decide) (by decide) (by decide)]
  · rw [z4 k h1 h4, e4, us_k h5, e3, us_k h3, e2, us_k h3, a2.2.2.2.2.2.2 k h1 h2 h3 h5 h6]
theorem LX.rep {kn p1 p2 p3 p4 p5 : Int} {w : List (List Nat)} {d : Nat → Int} (h : LX L s) (hO : LOk kn L) (hA : RdX L.1 p1 p2 p3 p4 p5 w s t) (d0 : d 0 = p1) (d1 : d 1 = p2) (d2 : d 2 = p3) (d3 : d 3 = p4) (d4 : d 4 = p5) : LX (L.add 0 d w) t := by
  obtain ⟨a1, _, a3, a4, a5, a6, a7, a8, _⟩ := hA
  refine ⟨a1, fun x h1 h2 => ?_⟩
  have h2' : x ≤ L.1 + 1 := h2
  by_cases c : x = L.1 + 1
  · subst c
    have e1 : (L.add 0 d w).2.1 (L.1 + 1) = 0 := if_pos rfl
    have e2 : (L.add 0 d w).2.2.1 (L.1 + 1) = d := if_pos rfl
    have e3 : (L.add 0 d w).2.2.2.1 (L.1 + 1) = 0 := if_pos rfl
    have e4 : (L.add 0 d w).2.2.2.2 (L.1 + 1) = w := if_pos rfl
    have dd : ∀ i, i < 5 → t 37 (5 * (L.1 + 1) + i) = d i := by
      intro i hi
      rw [a6]
      have ci : i = 0 ∨ i = 1 ∨ i = 2 ∨ i = 3 ∨ i = 4 := by omega
      rcases ci with ci | ci | ci | ci | ci <;> subst ci
      · rw [if_neg (by omega), if_neg (by omega), if_neg (by omega), if_neg (by omega), if_pos (by omega), d0]
      · rw [if_neg (by omega), if_neg (by omega), if_neg (by omega), if_pos (by omega), d1]
      · rw [if_neg (by omega), if_neg (by omega), if_pos (by omega), d2]
      · rw [if_neg (by omega), if_pos (by omega), d3]
      · rw [if_pos (by omega), d4]
    rw [e1, e2, e3, e4]
    refine ⟨by rw [a3, if_pos rfl]; rfl, fun i hi => dd i (by omega), by rw [a4, if_pos rfl], fun _ => ⟨dd, by rw [a5, if_pos rfl], a8⟩⟩
  · have e1 : (L.add 0 d w).2.1 x = L.2.1 x := if_neg c
    have e2 : (L.add 0 d w).2.2.1 x = L.2.2.1 x := if_neg c
    have e3 : (L.add 0 d w).2.2.2.1 x = L.2.2.2.1 x := if_neg c
    have e4 : (L.add 0 d w).2.2.2.2 x = L.2.2.2.2 x := if_neg c
    rw [e1, e2, e3, e4]
    obtain ⟨g1, g2, g3, g4⟩ := h.2 x h1 (by omega)
    have dd : ∀ i, i < 5 → t 37 (5 * x + i) = s 37 (5 * x + i) := by
      intro i hi
      rw [a6, if_neg (by omega), if_neg (by omega), if_neg (by omega), if_neg (by omega), if_neg (by omega)]
    refine ⟨by rw [a3, if_neg c]; exact g1, fun i hi => by rw [dd i (by omega)]; exact g2 i hi, by rw [a4, if_neg c]; exact g3, fun e => ?_⟩
    obtain ⟨p1, p2, p3⟩ := g4 e
    have s3 : ∀ j, j < 3 → t 38 (3 * x + j) = s 38 (3 * x + j) := fun j hj => a7 _ (by omega)
    have l3 := (((hO x h1 (by omega)).2.1 e).2.2.2.2.2).1
    refine ⟨fun i hi => by rw [dd i hi]; exact p1 i hi, by rw [a5, if_neg c]; exact p2, fun j hj => ?_⟩
    rw [a7 _ (by omega)]
    exact p3 j hj
theorem LU.rep {kn p1 p2 p3 p4 p5 : Int} {w : List (List Nat)} {d : Nat → Int} (h : LU L u) (hO : LOk kn L) (hA : RdM L.1 p1 p2 p3 p4 p5 w u v) (d0 : d 0 = p1) (d1 : d 1 = p2) (d2 : d 2 = p3) (d3 : d 3 = p4) (d4 : d 4 = p5) (hw : w.length ≤ 3) : LU (L.add 0 d w) v := by
  obtain ⟨a1, _, a3, a4, a6, a7, a8⟩ := hA
  refine ⟨a1, fun x h1 h2 => ?_⟩
  have h2' : x ≤ L.1 + 1 := h2
  by_cases c : x = L.1 + 1
  · subst c
    have e1 : (L.add 0 d w).2.1 (L.1 + 1) = 0 := if_pos rfl
    have e2 : (L.add 0 d w).2.2.1 (L.1 + 1) = d := if_pos rfl
    have e3 : (L.add 0 d w).2.2.2.1 (L.1 + 1) = 0 := if_pos rfl
    have e4 : (L.add 0 d w).2.2.2.2 (L.1 + 1) = w := if_pos rfl
    have dd : ∀ i, i < 5 → v 22 (5 * (L.1 + 1) + i) = d i := by
      intro i hi
      rw [a6]
      have ci : i = 0 ∨ i = 1 ∨ i = 2 ∨ i = 3 ∨ i = 4 := by omega
      rcases ci with ci | ci | ci | ci | ci <;> subst ci
      · rw [if_neg (by omega), if_neg (by omega), if_neg (by omega), if_neg (by omega), if_pos (by omega), d0]
      · rw [if_neg (by omega), if_neg (by omega), if_neg (by omega), if_pos (by omega), d1]
      · rw [if_neg (by omega), if_neg (by omega), if_pos (by omega), d2]
      · rw [if_neg (by omega), if_pos (by omega), d3]
      · rw [if_pos (by omega), d4]
    rw [e1, e2, e3, e4]
    refine ⟨by rw [a3, if_pos rfl], fun i hi => dd i (by omega), by rw [a4, if_pos rfl], fun _ => ⟨dd, fun j hj => (a8 j (by omega)).1 hj, fun j h1 h2 => (a8 j h2).2 h1⟩⟩
  · have e1 : (L.add 0 d w).2.1 x = L.2.1 x := if_neg c
    have e2 : (L.add 0 d w).2.2.1 x = L.2.2.1 x := if_neg c
    have e3 : (L.add 0 d w).2.2.2.1 x = L.2.2.2.1 x := if_neg c
    have e4 : (L.add 0 d w).2.2.2.2 x = L.2.2.2.2 x := if_neg c
    rw [e1, e2, e3, e4]
    obtain ⟨g1, g2, g3, g4⟩ := h.2 x h1 (by omega)
    have dd : ∀ i, i < 5 → v 22 (5 * x + i) = u 22 (5 * x + i) := by
      intro i hi
      rw [a6, if_neg (by omega), if_neg (by omega), if_neg (by omega), if_neg (by omega), if_neg (by omega)]
    refine ⟨by rw [a3, if_neg c]; exact g1, fun i hi => by rw [dd i (by omega)]; exact g2 i hi, by rw [a4, if_neg c]; exact g3, fun e => ?_⟩
    obtain ⟨p1, p2, p3⟩ := g4 e
    have l3 := (((hO x h1 (by omega)).2.1 e).2.2.2.2.2).1
    refine ⟨fun i hi => by rw [dd i hi]; exact p1 i hi, fun j hj => ?_, fun j h1 h2 => ?_⟩
    · rw [a7 _ (by omega)]
      exact p2 j hj
    · rw [a7 _ (by omega)]
      exact p3 j h1 h2
theorem r85 {m : Nat} {x1 x2 x3 x4 x5 x6 : Int} (h : It_X11_report m 85 x1 x2 x3 x4 x5 x6 0 s r t) : r = -1 ∧ t = s := by
  cases m with
  | zero => exact False.elim h
  | succ m =>
    replace h := ul_X11_report_85 h
    unfold T_X11_report_85 at h
    obtain ⟨_, _, h⟩ := h
    cases m with
    | zero => exact False.elim h
    | succ m =>
      replace h := ul_X11_report_86 h
      unfold T_X11_report_86 at h
      obtain ⟨_, _, _, ⟨_, er, es⟩ | ⟨c, _⟩⟩ := h
      · exact ⟨er, es⟩
      · exact absurd rfl c
/-- what a report wants -/
def RpCan (g : Nat → Nat) (N : Nat) (acts reps p1 p2 p3 p4 p5 : Int) (ws : List (List Nat)) : Prop := wsT g N 3 0 = some ws ∧ RpOk p1 p2 p3 p4 p5 ∧ acts < 200 ∧ reps < 80
theorem repX {p1 p2 p3 p4 p5 : Int} (hN : N ≤ 1000) (hg : ∀ i, g i ≤ 255) (h : M_X11_report s p1 p2 p3 p4 p5 r t) (hT : TpX g N s) (hO : OWX s) (hn : s 35 0 = (n : Int)) (h80 : 0 ≤ s 35 1 ∧ s 35 1 ≤ 80) : (r = -1 ∧ (∀ k, ¬ k = 31 → ¬ k = 41 → t k = s k) ∧ ∀ ws, ¬ RpCan g N (s 35 0) (s 35 1) p1 p2 p3 p4 p5 ws) ∨ (∃ ws, RpCan g N (s 35 0) (s 35 1) p1 p2 p3 p4 p5 ws ∧ r = ((n + 1 : Nat) : Int) ∧ ∃ s0 : PS, (∀ k, ¬ k = 31 → ¬ k = 41 → s0 k = s k) ∧ RdX n p1 p2 p3 p4 p5 ws s0 t) := by
  obtain ⟨m, h⟩ := h
  unfold T_X11_report_e at h
  obtain ⟨_, r1, s1, hm, hf, _, _, s2, e2, h⟩ := h
  have k := wishX hN hg hm hT hO
  have ks : ∀ k, ¬ k = 31 → ¬ k = 41 → s2 k = s k := fun k h1 h2 => by rw [e2, us_k h1, hf.1 k (by simp only [List.mem_cons, List.not_mem_nil, or_false]; omega)]
  have no : r = -1 ∧ t = s2 → (∀ ws, ¬ RpCan g N (s 35 0) (s 35 1) p1 p2 p3 p4 p5 ws) → (r = -1 ∧ (∀ k, ¬ k = 31 → ¬ k = 41 → t k = s k) ∧ ∀ ws, ¬ RpCan g N (s 35 0) (s 35 1) p1 p2 p3 p4 p5 ws) ∨ (∃ ws, RpCan g N (s 35 0) (s 35 1) p1 p2 p3 p4 p5 ws ∧ r = ((n + 1 : Nat) : Int) ∧ ∃ s0 : PS, (∀ k, ¬ k = 31 → ¬ k = 41 → s0 k = s k) ∧ RdX n p1 p2 p3 p4 p5 ws s0 t) := fun a b => Or.inl ⟨a.1, by rw [a.2]; exact ks, b⟩
  have bad : ¬ RpOk p1 p2 p3 p4 p5 → ∀ ws, ¬ RpCan g N (s 35 0) (s 35 1) p1 p2 p3 p4 p5 ws := fun a ws b => a b.2.1
  rcases h with ⟨c1, h⟩ | ⟨c1, x1, s3, i1, _, _, _, h⟩
  · refine no (r85 h) (fun ws hc => ?_)
    rcases k with ⟨w, k1, k2, _⟩ | ⟨_, k2⟩
    · omega
    · have := hc.1
      rw [k2] at this
      cases this
  obtain ⟨e3, i1⟩ := withinX i1
  subst e3
  rcases h with ⟨d1, h⟩ | ⟨d1, x2, s4, i2, _, _, _, h⟩
  · exact no (r85 h) (bad (by unfold RpOk; omega))
  obtain ⟨e4, i2⟩ := withinX i2
  subst e4
  rcases h with ⟨d2, h⟩ | ⟨d2, x3, s5, i3, _, _, _, h⟩
  · exact no (r85 h) (bad (by unfold RpOk; omega))
  obtain ⟨e5', i3⟩ := withinX i3
  subst e5'
  rcases h with ⟨d3, h⟩ | ⟨d3, x4, s6, i4, _, _, _, h⟩
  · exact no (r85 h) (bad (by unfold RpOk; omega))
  obtain ⟨e6, i4⟩ := withinX i4
  subst e6
  rcases h with ⟨d4, h⟩ | ⟨d4, x5, s7, i5, _, _, _, h⟩
  · exact no (r85 h) (bad (by unfold RpOk; omega))
  obtain ⟨e7, i5⟩ := isDayX i5
  subst e7
  rcases h with ⟨d5, h⟩ | ⟨d5, h⟩
  · exact no (r85 h) (bad (by unfold RpOk; omega))
  have ok : RpOk p1 p2 p3 p4 p5 := by unfold RpOk; clear h; omega
  cases m with
  | zero => exact False.elim h
  | succ m =>
    have h9 := ul_X11_report_86 h
    clear h
    unfold T_X11_report_86 at h9
    obtain ⟨_, _, _, ⟨c, _⟩ | ⟨_, h9⟩⟩ := h9
    · exact absurd c (by decide)
    · rcases h9 with ⟨c6, er, es⟩ | ⟨c6, x6, s8, i6, _, _, _, h9⟩
      · refine no ⟨er, es⟩ (fun ws hc => ?_)
        have z := hc.2.2.2
        rw [ks 35 (by decide) (by decide)] at c6
        omega
      · obtain ⟨e8', i6⟩ := isFullX i6
        subst e8'
        rcases h9 with ⟨c7, x7, s9, i7, _, _, _, er, es⟩ | ⟨c7, er, es⟩
        · rcases k with ⟨w, k1, k2, k3⟩ | ⟨k1, _⟩
          · have w3 := (wsT_LW hg 3 0 w k1).1
            have q := addReportX (w := w) i7 (by rw [ks 35 (by decide) (by decide)]; exact hn) k2 w3 (fun j hj => by rw [e2, us_k (by decide)]; exact k3 j hj) (by rw [ks 35 (by decide) (by decide)]; exact h80)
            rw [ks 35 (by decide) (by decide)] at c6 i6
            refine Or.inr ⟨w, ⟨k1, ok, by clear q; omega, by clear q; omega⟩, er.trans q.1, s8, ks, by rw [es]; exact q.2⟩
          · exact absurd k1 c1
        · refine no ⟨er, es⟩ (fun ws hc => ?_)
          have z := hc.2.2.1
          rw [ks 35 (by decide) (by decide)] at i6
          omega
theorem repM {p1 p2 p3 p4 p5 : Int} (hN : N ≤ 1000) (hg : ∀ i, g i ≤ 255) (h : M_X12_report u p1 p2 p3 p4 p5 r v) (hb : ∀ i, u 1 i = (g i : Int)) (hl : u 0 1 = (N : Int)) (hn : u 0 37 = (n : Int)) (hn2 : n ≤ 200) (h80 : 0 ≤ u 0 38 ∧ u 0 38 ≤ 80) : (r = -1 ∧ KpM u v ∧ ∀ ws, ¬ RpCan g N (u 0 37) (u 0 38) p1 p2 p3 p4 p5 ws) ∨ (∃ ws, RpCan g N (u 0 37) (u 0 38) p1 p2 p3 p4 p5 ws ∧ r = ((n + 1 : Nat) : Int) ∧ ∃ u0 : PS, KpM u u0 ∧ RdM n p1 p2 p3 p4 p5 ws u0 v) := by
  obtain ⟨m, h⟩ := h
  unfold T_X12_report_e at h
  obtain ⟨_, u1, hm, hf, _, h⟩ := h
  unfold M_X12_starts T_X12_starts_e at hm
  obtain ⟨_, v1, w1, v2, w2, v3, w3, v4, w4, v5, w5, v6, hm6, hf6, _, _, e6⟩ := hm
  have ev : v5 = us (us (us (us (us u 0 2 (u 0 1)) 0 1 0) 0 5 0) 0 8 0) 0 9 (-1) := by rw [w5, w4, w3, w2, w1]
  have q1 : v5 1 = u 1 := by
    rw [ev]
    simp only [us_k (show ¬ 1 = 0 by decide)]
  have q02 : v5 0 2 = (N : Int) := by
    rw [ev, us_j (by decide), us_j (by decide), us_j (by decide), us_j (by decide), us_at, hl]
  have q05 : v5 0 5 = 0 := by
    rw [ev, us_j (by decide), us_j (by decide), us_at]
  have q08 : v5 0 8 = 0 := by
    rw [ev, us_j (by decide), us_at]
  have T5 : TpM g N v5 := ⟨fun i => by rw [q1]; exact hb i, q02⟩
  have k := looksM (q := 0) hN hg hm6 T5 q05 (Nat.zero_le _) q08
  have kp : KpM u u1 := KpM.fr hf (by decide) fq19
  rw [← e6] at k hf6
  have h2 : It_X12_report m 7 p1 p2 p3 p4 p5 ((0 : Nat) : Int) 0 0 0 u1 r v := h
  have z : WsR (wsT g N 3 0) [] m p1 p2 p3 p4 p5 u1 r v := by
    rcases k with ⟨k1, k2⟩ | ⟨k1, k2⟩
    · obtain ⟨m2, h3⟩ := rep7f h2 k2
      refine ⟨m2, u1, _, h3, KpM.refl, Or.inr ⟨?_, k2⟩⟩
      unfold wsT
      rw [if_neg (by omega), if_neg (by omega)]
    · exact repL hN hg m 3 0 0 u1 r v [] h2 ⟨T5.cg (hf6.1 1 (by decide)) (hf6.f (by decide) (by decide)), Nat.zero_le _, k1, k2⟩ (by decide) rfl (fun j hj => absurd hj (Nat.not_lt_zero _))
  obtain ⟨m2, u2, x6, z1, z2, z3⟩ := z
  have kp2 := kp.trans z2
  have e37 : u2 0 37 = u 0 37 := kp2.2 37 (by decide) (by decide)
  have e38 : u2 0 38 = u 0 38 := kp2.2 38 (by decide) (by decide)
  rcases z3 with ⟨w, z4, z5, z6, z7⟩ | ⟨z4, z5⟩
  · have y := rep86 (n := n) (w := w) (by rw [e37]; exact hn) (by rw [e38]; exact h80) z1 z5 z6 z7
    rcases y with ⟨y1, y2, y3⟩ | ⟨y1, y2, y3, y4⟩
    · refine Or.inl ⟨y1, by rw [y2]; exact kp2, fun ws hc => y3 ⟨hc.2.1, ?_, ?_⟩⟩
      · have := hc.2.2.1
        rw [e37]
        omega
      · have := hc.2.2.2
        rw [e38]
        omega
    · rw [e37, e38] at y3
      exact Or.inr ⟨w, ⟨z4, y2, by clear y4; omega, by clear y4; omega⟩, y1, u2, kp2, y4⟩
  · cases m2 with
    | zero => exact False.elim z1
    | succ m2 =>
      have h := ul_X12_report_86 z1
      unfold T_X12_report_86 at h
      obtain ⟨_, _, ⟨c, _⟩ | ⟨_, er, es⟩⟩ := h
      · exact absurd c z5
      · refine Or.inl ⟨er, by rw [es]; exact kp2, fun ws hc => ?_⟩
        have := hc.1
        rw [z4] at this
        cases this
theorem report2 {p1 p2 p3 p4 p5 : Int} (hT : TT s u) (hO : OWX s) (hX : TyX s) (hM : TyM u) (hL : LG L s u) (h1 : M_X11_report s p1 p2 p3 p4 p5 r t) (h2 : M_X12_report u p1 p2 p3 p4 p5 r2 v) : r = r2 ∧ ∃ M : LT, LExt L M ∧ LG M t v := by
  obtain ⟨l1, l2, l3, l4, l5, l6⟩ := hL
  have ba : ∀ i, 0 ≤ u 1 i ∧ u 1 i ≤ 255 := fun i => tyM_byt hM i
  have ln : 0 ≤ u 0 1 ∧ u 0 1 ≤ 1000 := hM.1 (0, 1, 0, 1000) (by decide)
  have hb : ∀ i, u 1 i = (((u 1 i).toNat : Nat) : Int) := fun i => by
    have := ba i
    omega
  have hl : u 0 1 = (((u 0 1).toNat : Nat) : Int) := by omega
  have hg : ∀ i, (fun i => (u 1 i).toNat) i ≤ 255 := fun i => by
    have := ba i
    show (u 1 i).toNat ≤ 255
    omega
  have hN : (u 0 1).toNat ≤ 1000 := by omega
  have ta := tyX_acts hX
  have n1 := l1.1
  have n2 := l2.1
  have x := repX (g := fun i => (u 1 i).toNat) hN hg h1 ⟨fun i => by rw [hT.1]; exact hb i, by rw [hT.2]; exact hl⟩ hO n1 (by rw [l4]; exact ⟨l5, l6⟩)
  have y := repM (g := fun i => (u 1 i).toNat) hN hg h2 hb hl n2 (by omega) ⟨l5, l6⟩
  rw [l4, n1] at x
  rw [n2] at y
  rcases x with ⟨x1, x2, x3⟩ | ⟨w, x1, x2, s0, x3, x4⟩
  · rcases y with ⟨y1, y2, y3⟩ | ⟨w2, y1, _⟩
    · refine ⟨x1.trans y1.symm, L, LExt.refl, l1.cg (by rw [x2 35 (by decide) (by decide)]) (x2 36 (by decide) (by decide)) (x2 37 (by decide) (by decide)) (x2 38 (by decide) (by decide)) (x2 39 (by decide) (by decide)) (x2 40 (by decide) (by decide)), l2.cg (y2.2 37 (by decide) (by decide)) (y2.1 21 (by decide) (by decide)) (y2.1 22 (by decide) (by decide)) (y2.1 23 (by decide) (by decide)) (y2.1 24 (by decide) (by decide)), ?_, ?_, ?_, ?_⟩
      · rw [x2 1 (by decide) (by decide)]
        exact l3
      · rw [x2 35 (by decide) (by decide), y2.2 38 (by decide) (by decide)]
        exact l4
      · rw [y2.2 38 (by decide) (by decide)]
        exact l5
      · rw [y2.2 38 (by decide) (by decide)]
        exact l6
    · exact absurd y1 (x3 w2)
  · rcases y with ⟨_, _, y3⟩ | ⟨w2, y1, y2, u0, y3, y4⟩
    · exact absurd x1 (y3 w)
    · have ew : w = w2 := Option.some.inj (x1.1.symm.trans y1.1)
      subst ew
      have wl := wsT_LW hg 3 0 w x1.1
      have k1 : LX L s0 := l1.cg (by rw [x3 35 (by decide) (by decide)]) (x3 36 (by decide) (by decide)) (x3 37 (by decide) (by decide)) (x3 38 (by decide) (by decide)) (x3 39 (by decide) (by decide)) (x3 40 (by decide) (by decide))
      have k2 : LU L u0 := l2.cg (y3.2 37 (by decide) (by decide)) (y3.1 21 (by decide) (by decide)) (y3.1 22 (by decide) (by decide)) (y3.1 23 (by decide) (by decide)) (y3.1 24 (by decide) (by decide))
      have e38 : u0 0 38 = u 0 38 := y3.2 38 (by decide) (by decide)
      have e351 : s0 35 1 = u 0 38 := by rw [x3 35 (by decide) (by decide)]; exact l4
      refine ⟨x2.trans y2.symm, L.add 0 (fun i => if i = 0 then p1 else if i = 1 then p2 else if i = 2 then p3 else if i = 3 then p4 else p5) w, LExt.add, k1.rep l3 x4 rfl rfl rfl rfl rfl, k2.rep l3 y4 rfl rfl rfl rfl rfl wl.1, ?_, ?_, ?_, ?_⟩
      · rw [x4.2.2.2.2.2.2.2.2 1 (by decide) (by decide) (by decide) (by decide) (by decide) (by decide), x3 1 (by decide) (by decide)]
        refine l3.add (Or.inl rfl) (fun _ => ?_) (fun z => absurd z (by decide))
        have q := x1.2.1
        exact ⟨q.1, q.2.1, q.2.2.1, q.2.2.2.1, q.2.2.2.2, wl.1, wl.2⟩
      · rw [x4.2.1, y4.2.1, e351, e38]
      · rw [y4.2.1, e38]
        omega
      · have q := x1.2.2.2
        rw [y4.2.1, e38]
        omega
end Report
