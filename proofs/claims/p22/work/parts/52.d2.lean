/-! the reference's giving: the net is built -/
/-- whether a child may get a kind, how much it is liked, how many are due, its day, what comes: as both know -/
def alG (b : BST) (L : LT) (now : Nat) (OL : List OT) (c k : Nat) : Bool := !(decide (clF L now k now ≤ cDay ((knAll L now now).2.1 c))) && !(nvF b (knAll L now now) c k OL)
def ptG (b : BST) (L : LT) (now : Nat) (OL : List OT) (c k : Nat) : Int := ptF b (knAll L now now) c k OL 0
def duG (b : BST) (L : LT) (now : Nat) (OL : List OT) (c : Nat) : Int := max 0 (min 3 (dueF b (knAll L now now) c OL 1))
def dyG (L : LT) (now : Nat) (c : Nat) : Nat := (cDay ((knAll L now now).2.1 c)).toNat
def cmG (L : LT) (now : Nat) (k d : Nat) : Int := cmF L now k d now
theorem alG_iff {b : BST} {L : LT} {now : Nat} {OL : List OT} {c k : Nat} : alG b L now OL c k = true ↔ mgF b L now (knAll L now now) OL c k := by
  unfold alG mgF
  rw [Bool.and_eq_true, Bool.not_eq_true', Bool.not_eq_true', decide_eq_false_iff_not]
  constructor
  · intro h
    exact ⟨h.1, fun z => by rw [h.2] at z; exact Bool.noConfusion z⟩
  · intro h
    refine ⟨h.1, ?_⟩
    cases q : nvF b (knAll L now now) c k OL with
    | false => rfl
    | true => exact absurd q h.2
/-- all that both know of a giving is known to be so -/
def GvH (b : BST) (OL : List OT) (L : LT) (now : Nat) : Prop := now ≤ L.1 ∧ L.1 ≤ 200 ∧ (∃ kn, kn ≤ 10 ∧ LOk kn L) ∧ KsOk now (knAll L now now) ∧ GO b OL ∧ b.1.length ≤ 10 ∧ b.2.1.length ≤ 8 ∧ H28 b OL ∧ OL.length ≤ 24
section BuildM
variable {b : BST} {OL : List OT} {L : LT} {now n K : Nat} {dy : Nat → Nat} {cm : Nat → Nat → Int} {D : Nat → Int} {Pt : Nat → Nat → Int} {l : List TAG} {s t u : PS} {r : Int} {x : TAG} {al : Nat → Nat → Bool}
theorem GvE.kinds (h : GvE b OL L now s) : s 2 (s 0 12).toNat = (b.1.length : Int) := by
  obtain ⟨⟨C, a, a1, a2, hB, _⟩, _⟩ := h
  rw [a2, Int.toNat_natCast]
  exact hB.1
theorem GvE.kids (h : GvE b OL L now s) : s 0 45 = ((knAll L now now).1 : Int) ∧ ∀ k, k < (knAll L now now).1 → CU ((knAll L now now).2.1 k) k s := by
  obtain ⟨⟨C, a, a1, a2, hB, _, _, hK⟩, _⟩ := h
  exact hK
/-- of kind after kind, day after day: what comes, what waits -/
theorem give15 (hK : K ≤ 10) : ∀ m : Nat, (∀ (k : Nat) (s : PS) (r : Int) (t : PS), It_X12_give m 15 (k : Int) 0 s r t → s 2 (s 0 12).toNat = (K : Int) → k ≤ K → (∀ k d : Nat, k < 10 → d < 25 → s 46 (25 * k + d) = cm k d) → LnS dy cm D Pt (catN (tgK cm) k) s → ∃ (m2 : Nat) (s2 : PS), It_X12_give m2 121 0 0 s2 r t ∧ LnS dy cm D Pt (catN (tgK cm) K) s2 ∧ (∀ k, ¬ k = 0 → ¬ (38 ≤ k ∧ k ≤ 41) → s2 k = s k) ∧ ∀ j, ¬ j = 62 → s2 0 j = s 0 j) ∧ (∀ (k e : Nat) (s : PS) (r : Int) (t : PS), It_X12_give m 30 (k : Int) ((e : Int) + 1) s r t → s 2 (s 0 12).toNat = (K : Int) → k < K → e ≤ 24 → (∀ k d : Nat, k < 10 → d < 25 → s 46 (25 * k + d) = cm k d) → LnS dy cm D Pt (catN (tgK cm) k ++ catN (tgD cm k) e) s → ∃ (m2 : Nat) (s2 : PS), It_X12_give m2 121 0 0 s2 r t ∧ LnS dy cm D Pt (catN (tgK cm) K) s2 ∧ (∀ k, ¬ k = 0 → ¬ (38 ≤ k ∧ k ≤ 41) → s2 k = s k) ∧ ∀ j, ¬ j = 62 → s2 0 j = s 0 j) ∧ (∀ (k e : Nat) (s : PS) (r : Int) (t : PS), It_X12_give m 76 (k : Int) ((e : Int) + 1) s r t → s 2 (s 0 12).toNat = (K : Int) → k < K → e < 24 → (∀ k d : Nat, k < 10 → d < 25 → s 46 (25 * k + d) = cm k d) → LnS dy cm D Pt (catN (tgK cm) k ++ catN (tgD cm k) e ++ (if 0 < cm k (e + 1) then [(0, k, e + 1)] else [])) s → ∃ (m2 : Nat) (s2 : PS), It_X12_give m2 121 0 0 s2 r t ∧ LnS dy cm D Pt (catN (tgK cm) K) s2 ∧ (∀ k, ¬ k = 0 → ¬ (38 ≤ k ∧ k ≤ 41) → s2 k = s k) ∧ ∀ j, ¬ j = 62 → s2 0 j = s 0 j) ∧ (∀ (k e : Nat) (s : PS) (r : Int) (t : PS), It_X12_give m 107 (k : Int) ((e : Int) + 1) s r t → s 2 (s 0 12).toNat = (K : Int) → k < K → e < 24 → (∀ k d : Nat, k < 10 → d < 25 → s 46 (25 * k + d) = cm k d) → LnS dy cm D Pt (catN (tgK cm) k ++ catN (tgD cm k) (e + 1)) s → ∃ (m2 : Nat) (s2 : PS), It_X12_give m2 121 0 0 s2 r t ∧ LnS dy cm D Pt (catN (tgK cm) K) s2 ∧ (∀ k, ¬ k = 0 → ¬ (38 ≤ k ∧ k ≤ 41) → s2 k = s k) ∧ ∀ j, ¬ j = 62 → s2 0 j = s 0 j)
  | 0 => ⟨fun k s r t h => False.elim h, fun k e s r t h => False.elim h, fun k e s r t h => False.elim h, fun k e s r t h => False.elim h⟩
  | m + 1 => by
    have ih := give15 hK m
    -- a state in which lanes alone are more
    have pass : ∀ {s s1 : PS}, (∀ k, ¬ k = 0 → ¬ (38 ≤ k ∧ k ≤ 41) → s1 k = s k) → (∀ j, ¬ j = 62 → s1 0 j = s 0 j) → s 2 (s 0 12).toNat = (K : Int) → (∀ k d : Nat, k < 10 → d < 25 → s 46 (25 * k + d) = cm k d) → s1 2 (s1 0 12).toNat = (K : Int) ∧ (∀ k d : Nat, k < 10 → d < 25 → s1 46 (25 * k + d) = cm k d) := by
      intro s s1 g1 g2 h2 h46
      refine ⟨by rw [g1 2 (by decide) (by decide), g2 12 (by decide)]; exact h2, fun k d hk hd => by rw [g1 46 (by decide) (by decide)]; exact h46 k d hk hd⟩
    refine ⟨fun k s r t h h2 hk h46 hS => ?_, fun k e s r t h h2 hk he h46 hS => ?_, fun k e s r t h h2 hk he h46 hS => ?_, fun k e s r t h h2 hk he h46 hS => ?_⟩
    · replace h := ul_X12_give_15 h
      unfold T_X12_give_15 at h
      obtain ⟨_, _, h⟩ := h
      rw [h2] at h
      rcases h with ⟨c, h⟩ | ⟨c, h⟩
      · have e : k = K := by omega
        rw [e] at hS
        exact ⟨m, s, h, hS, fun _ _ _ => rfl, fun _ _ => rfl⟩
      · refine ih.2.1 k 0 s r t h h2 (by omega) (Nat.zero_le _) h46 ?_
        show LnS dy cm D Pt (catN (tgK cm) k ++ []) s
        rw [List.append_nil]
        exact hS
    · replace h := ul_X12_give_30 h
      unfold T_X12_give_30 at h
      obtain ⟨_, _, _, h⟩ := h
      rcases h with ⟨c, h⟩ | ⟨c, h⟩
      · have e24 : e = 24 := by omega
        rw [e24] at hS
        exact ih.1 (k + 1) s r t h h2 (by omega) h46 hS
      · have he2 : e < 24 := by
          clear h
          omega
        have ei : (25 * (k : Int) + ((e : Int) + 1)).toNat = 25 * k + (e + 1) := by
          clear h
          omega
        have ec := h46 k (e + 1) (by omega) (by omega)
        rw [ei, ec] at h
        rcases h with ⟨c1, h⟩ | ⟨c1, r92, s91, m91, _, _, _, h⟩
        · refine ih.2.2.1 k e s r t h h2 hk he2 h46 ?_
          rw [if_neg (by omega), List.append_nil]
          exact hS
        · obtain ⟨g1, _, g3, g4⟩ := laneM (x := (0, k, e + 1)) m91 hS rfl (by show 1 + 24 * (k : Int) + ((e : Int) + 1) = ((1 + 24 * k + (e + 1) : Nat) : Int); omega) rfl rfl ⟨by decide, by decide⟩
          obtain ⟨p1, p2⟩ := pass g3 g4 h2 h46
          obtain ⟨m2, s2, w1, w2, w3, w4⟩ := ih.2.2.1 k e s91 r t h p1 hk he2 p2 (by rw [if_pos (by omega)]; exact g1)
          exact ⟨m2, s2, w1, w2, fun x x1 x2 => (w3 x x1 x2).trans (g3 x x1 x2), fun j hj => (w4 j hj).trans (g4 j hj)⟩
    · replace h := ul_X12_give_76 h
      unfold T_X12_give_76 at h
      obtain ⟨_, _, _, h⟩ := h
      have ap : catN (tgK cm) k ++ catN (tgD cm k) (e + 1) = catN (tgK cm) k ++ catN (tgD cm k) e ++ (if 0 < cm k (e + 1) then [(0, k, e + 1)] else []) ++ (if e + 1 < 24 then [(1, k, e + 1)] else []) := by
        show catN (tgK cm) k ++ (catN (tgD cm k) e ++ ((if 0 < cm k (e + 1) then [(0, k, e + 1)] else []) ++ (if e + 1 < 24 then [(1, k, e + 1)] else []))) = _
        simp only [List.append_assoc]
      rcases h with ⟨c, h⟩ | ⟨c, r82, s81, m81, _, _, _, h⟩
      · refine ih.2.2.2 k e s r t h h2 hk he h46 ?_
        rw [ap, if_neg (show ¬ e + 1 < 24 by omega), List.append_nil]
        exact hS
      · obtain ⟨g1, _, g3, g4⟩ := laneM (x := (1, k, e + 1)) m81 hS (by show 1 + 24 * (k : Int) + ((e : Int) + 1) = ((1 + 24 * k + (e + 1) : Nat) : Int); omega) (by show 2 + 24 * (k : Int) + ((e : Int) + 1) = ((2 + 24 * k + (e + 1) : Nat) : Int); omega) rfl rfl ⟨by decide, by decide⟩
        obtain ⟨p1, p2⟩ := pass g3 g4 h2 h46
        obtain ⟨m2, s2, w1, w2, w3, w4⟩ := ih.2.2.2 k e s81 r t h p1 hk he p2 (by rw [ap, if_pos (show e + 1 < 24 by omega)]; exact g1)
        exact ⟨m2, s2, w1, w2, fun x x1 x2 => (w3 x x1 x2).trans (g3 x x1 x2), fun j hj => (w4 j hj).trans (g4 j hj)⟩
    · replace h := ul_X12_give_107 h
      unfold T_X12_give_107 at h
      obtain ⟨_, _, _, h⟩ := h
      exact ih.2.1 k (e + 1) s r t h h2 hk (by omega) h46 hS
/-- no pair has a lane -/
theorem give121 : ∀ (m i : Nat) (s : PS) (r : Int) (t : PS), It_X12_give m 121 (i : Int) 0 s r t → i ≤ 400 → (∀ q, q < i → s 44 q = -1) → ∃ (m2 : Nat) (s2 : PS), It_X12_give m2 151 0 0 s2 r t ∧ (∀ q, q < 400 → s2 44 q = -1) ∧ s2 0 69 = s 0 45 ∧ (∀ k, ¬ k = 0 → ¬ k = 44 → s2 k = s k) ∧ ∀ j, ¬ j = 69 → s2 0 j = s 0 j
  | 0, i, s, r, t, h, _, _ => False.elim h
  | m + 1, i, s, r, t, h, hi, hz => by
    replace h := ul_X12_give_121 h
    unfold T_X12_give_121 at h
    obtain ⟨_, _, h⟩ := h
    rw [Int.toNat_natCast] at h
    rcases h with ⟨c, s78, e78, h⟩ | ⟨c, s79, e79, h⟩
    · have e : i = 400 := by omega
      rw [e] at hz
      exact ⟨m, s78, h, fun q hq => by rw [e78, us_k (by decide)]; exact hz q hq, by rw [e78, us_at], fun k k1 _ => by rw [e78, us_k k1], fun j hj => by rw [e78, us_j hj]⟩
    · obtain ⟨m2, s2, w1, w2, w3, w4, w5⟩ := give121 m (i + 1) s79 r t h (by omega) (fun q hq => by
        by_cases e : q = i
        · rw [e, e79, us_at]
        · rw [e79, us_j e]
          exact hz q (by omega))
      refine ⟨m2, s2, w1, w2, ?_, fun k k1 k2 => (w4 k k1 k2).trans (by rw [e79, us_k k2]), fun j hj => (w5 j hj).trans (by rw [e79, us_k (by decide)])⟩
      rw [w3, e79, us_k (by decide)]
/-- each pair's lane, as far as the list goes -/
def PrS (l : List TAG) (s : PS) : Prop := ∀ q, q < 400 → (s 44 q = -1 ∧ ¬ (3, q / 10, q % 10) ∈ l) ∨ ∃ (j : Nat) (h : j < l.length), l[j] = (3, q / 10, q % 10) ∧ s 44 q = ((2 * j : Nat) : Int)
theorem PrS.more (h : PrS l s) (hx : ¬ x.1 = 3) (e : t 44 = s 44) : PrS (l ++ [x]) t := by
  intro q hq
  rw [e]
  rcases h q hq with ⟨z1, z2⟩ | ⟨j, j1, j2, j3⟩
  · refine Or.inl ⟨z1, fun z => ?_⟩
    rcases List.mem_append.mp z with y | y
    · exact z2 y
    · rw [← List.mem_singleton.mp y] at hx
      exact hx rfl
  · exact Or.inr ⟨j, by rw [List.length_append]; omega, by rw [List.getElem_append_left j1]; exact j2, j3⟩
theorem PrS.pair {c k : Nat} (h : PrS l s) (hk : k < 10) (e : t = us u 44 (10 * c + k) ((2 * l.length : Nat) : Int)) (eu : u 44 = s 44) : PrS (l ++ [(3, c, k)]) t := by
  intro q hq
  by_cases e1 : q = 10 * c + k
  · refine Or.inr ⟨l.length, by rw [List.length_append, List.length_singleton]; omega, ?_, by rw [e1, e, us_at]⟩
    have d10 : q / 10 = c := by omega
    have m10 : q % 10 = k := by omega
    rw [List.getElem_append_right (Nat.le_refl _), d10, m10]
    simp only [Nat.sub_self, List.getElem_cons_zero]
  · rw [e, us_j e1, eu]
    rcases h q hq with ⟨z1, z2⟩ | ⟨j, j1, j2, j3⟩
    · refine Or.inl ⟨z1, fun z => ?_⟩
      rcases List.mem_append.mp z with y | y
      · exact z2 y
      · have w := List.mem_singleton.mp y
        have w1 : q / 10 = c := congrArg (fun t : TAG => t.2.1) w
        have w2 : q % 10 = k := congrArg (fun t : TAG => t.2.2) w
        omega
    · exact Or.inr ⟨j, by rw [List.length_append]; omega, by rw [List.getElem_append_left j1]; exact j2, j3⟩
end BuildM
