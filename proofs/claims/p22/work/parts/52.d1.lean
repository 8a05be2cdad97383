/-! the reference's giving: what comes; a lane more -/
/-- the reference with a book, acts, children -/
def GvE (b : BST) (OL : List OT) (L : LT) (now : Nat) (s : PS) : Prop := ME b OL (knAll L now now) s ∧ LU L s ∧ nowU s = (now : Int)
/-- lanes as they stand in the rows -/
def LnS (dy : Nat → Nat) (cm : Nat → Nat → Int) (D : Nat → Int) (Pt : Nat → Nat → Int) (l : List TAG) (s : PS) : Prop := s 0 62 = ((2 * l.length : Nat) : Int) ∧ ∀ (j : Nat) (h : j < l.length), s 38 (2 * j) = (lnA dy l[j] : Int) ∧ s 39 (2 * j) = (lnB l[j] : Int) ∧ s 38 (2 * j + 1) = (lnB l[j] : Int) ∧ s 39 (2 * j + 1) = (lnA dy l[j] : Int) ∧ s 41 (2 * j) = lnW Pt l[j] ∧ s 41 (2 * j + 1) = - lnW Pt l[j] ∧ s 40 (2 * j) = lnC cm D l[j] ∧ s 40 (2 * j + 1) = 0
section GiveM
variable {b : BST} {OL : List OT} {L : LT} {now n K : Nat} {dy : Nat → Nat} {cm : Nat → Nat → Int} {D : Nat → Int} {Pt : Nat → Nat → Int} {l : List TAG} {s t u : PS} {r : Int} {x : TAG}
theorem GvE.cg (h : GvE b OL L now s) (e : ∀ k, 2 ≤ k → k ≤ 36 → t k = s k) (e12 : t 0 12 = s 0 12) (e37 : t 0 37 = s 0 37) (e39 : t 0 39 = s 0 39) (e45 : t 0 45 = s 0 45) : GvE b OL L now t := by
  obtain ⟨⟨C, a, a1, a2, hB, hC, hX, hK⟩, hL, hn⟩ := h
  refine ⟨⟨C, a, a1, e12.trans a2, hB.cg (fun k h1 h2 => e k (by omega) (by omega)), ⟨by rw [e 14 (by decide) (by decide)]; exact hC.1, fun i hi => ?_⟩, hX.cg (e 12 (by decide) (by decide)), ⟨e45.trans hK.1, fun k hk => ?_⟩⟩, hL.cg e37 (e 21 (by decide) (by decide)) (e 22 (by decide) (by decide)) (e 23 (by decide) (by decide)) (e 24 (by decide) (by decide)), ?_⟩
  · have z := hC.2 i hi
    unfold OpM at z ⊢
    rw [e 13 (by decide) (by decide), e 15 (by decide) (by decide)]
    exact z
  · have z := hK.2 k hk
    unfold CU at z ⊢
    rw [e 26 (by decide) (by decide), e 27 (by decide) (by decide), e 28 (by decide) (by decide), e 29 (by decide) (by decide), e 30 (by decide) (by decide), e 31 (by decide) (by decide), e 32 (by decide) (by decide), e 35 (by decide) (by decide), e 33 (by decide) (by decide), e 34 (by decide) (by decide)]
    exact z
  · unfold nowU
    rw [e37, e39]
    exact hn
theorem LnS.cg (h : LnS dy cm D Pt l s) (e : ∀ k, k = 38 ∨ k = 39 ∨ k = 40 ∨ k = 41 → t k = s k) (e0 : t 0 62 = s 0 62) : LnS dy cm D Pt l t := by
  unfold LnS
  rw [e0, e 38 (Or.inl rfl), e 39 (Or.inr (Or.inl rfl)), e 40 (Or.inr (Or.inr (Or.inl rfl))), e 41 (Or.inr (Or.inr (Or.inr rfl)))]
  exact h
/-- a lane more -/
theorem laneM {p1 p2 p3 p4 : Int} (h : M_X12_lane s p1 p2 p3 p4 r t) (hL : LnS dy cm D Pt l s) (e1 : p1 = (lnA dy x : Int)) (e2 : p2 = (lnB x : Int)) (e3 : p3 = lnC cm D x) (e4 : p4 = lnW Pt x) (hw : -2147483648 ≤ p4 ∧ p4 ≤ 2147483648) : LnS dy cm D Pt (l ++ [x]) t ∧ r = ((2 * l.length : Nat) : Int) ∧ (∀ k, ¬ k = 0 → ¬ (38 ≤ k ∧ k ≤ 41) → t k = s k) ∧ ∀ j, ¬ j = 62 → t 0 j = s 0 j := by
  unfold M_X12_lane T_X12_lane_e at h
  obtain ⟨_, _, _, s1, f1, s2, f2, s3, f3, s4, f4, s5, f5, s6, f6, s7, f7, s9, f9, s10, f10, hr, es⟩ := h
  obtain ⟨l0, l1⟩ := hL
  have i1 : (s 0 62).toNat = 2 * l.length := by omega
  have i2 : (s 0 62 + 1).toNat = 2 * l.length + 1 := by omega
  rw [i1] at f1 f2 f3 f4
  rw [i2] at f5 f6 f7 f9
  rw [wl_id (by omega) (by omega)] at f9
  have a38 : ∀ i, t 38 i = if i = 2 * l.length + 1 then p2 else if i = 2 * l.length then p1 else s 38 i := by
    intro i
    rw [es, f10, us_k (by decide), f9, us_k (by decide), f7, us_k (by decide), f6, us_k (by decide), f5, us_f, f4, us_k (by decide), f3, us_k (by decide), f2, us_k (by decide), f1, us_f]
  have a39 : ∀ i, t 39 i = if i = 2 * l.length + 1 then p1 else if i = 2 * l.length then p2 else s 39 i := by
    intro i
    rw [es, f10, us_k (by decide), f9, us_k (by decide), f7, us_k (by decide), f6, us_f, f5, us_k (by decide), f4, us_k (by decide), f3, us_k (by decide), f2, us_f, f1, us_k (by decide)]
  have a40 : ∀ i, t 40 i = if i = 2 * l.length + 1 then 0 else if i = 2 * l.length then p3 else s 40 i := by
    intro i
    rw [es, f10, us_k (by decide), f9, us_k (by decide), f7, us_f, f6, us_k (by decide), f5, us_k (by decide), f4, us_k (by decide), f3, us_f, f2, us_k (by decide), f1, us_k (by decide)]
  have a41 : ∀ i, t 41 i = if i = 2 * l.length + 1 then - p4 else if i = 2 * l.length then p4 else s 41 i := by
    intro i
    rw [es, f10, us_k (by decide), f9, us_f, f7, us_k (by decide), f6, us_k (by decide), f5, us_k (by decide), f4, us_f, f3, us_k (by decide), f2, us_k (by decide), f1, us_k (by decide)]
  have a0 : ∀ j, ¬ j = 62 → t 0 j = s 0 j := by
    intro j hj
    rw [es, f10, us_j hj, f9, us_k (by decide), f7, us_k (by decide), f6, us_k (by decide), f5, us_k (by decide), f4, us_k (by decide), f3, us_k (by decide), f2, us_k (by decide), f1, us_k (by decide)]
  have ak : ∀ k, ¬ k = 0 → ¬ (38 ≤ k ∧ k ≤ 41) → t k = s k := by
    intro k h0 h1
    rw [es, f10, us_k h0, f9, us_k (by omega), f7, us_k (by omega), f6, us_k (by omega), f5, us_k (by omega), f4, us_k (by omega), f3, us_k (by omega), f2, us_k (by omega), f1, us_k (by omega)]
  refine ⟨⟨?_, fun j hj => ?_⟩, by omega, ak, a0⟩
  · rw [es, f10, us_at, List.length_append, List.length_singleton]
    omega
  · rw [List.length_append, List.length_singleton] at hj
    rw [a38, a38, a39, a39, a40, a40, a41, a41]
    by_cases c : j = l.length
    · subst c
      have ex : (l ++ [x])[l.length] = x := by
        rw [List.getElem_append_right (Nat.le_refl _)]
        simp only [Nat.sub_self, List.getElem_cons_zero]
      rw [ex, if_neg (by omega), if_pos rfl, if_neg (by omega), if_pos rfl, if_pos rfl, if_pos rfl, if_neg (by omega), if_pos rfl, if_pos rfl, if_neg (by omega), if_pos rfl, if_pos rfl]
      exact ⟨e1, e2, e2, e1, e4, by rw [e4], e3, rfl⟩
    · have hj2 : j < l.length := by omega
      have ex : (l ++ [x])[j] = l[j] := List.getElem_append_left hj2
      rw [ex, if_neg (by omega), if_neg (by omega), if_neg (by omega), if_neg (by omega), if_neg (by omega), if_neg (by omega), if_neg (by omega), if_neg (by omega), if_neg (by omega), if_neg (by omega), if_neg (by omega), if_neg (by omega), if_neg (by omega), if_neg (by omega), if_neg (by omega), if_neg (by omega)]
      exact l1 j hj2
/-- acts that aren't known yet bring nothing -/
theorem cmF_past {k d : Int} : ∀ (x a : Nat), now ≤ a → cmF L now k d (a + x) = cmF L now k d a
  | 0, a, _ => rfl
  | x + 1, a, h => by
    show cmF L now k d (a + x) + (if L.2.1 (a + x + 1) = 1 ∧ knwn L now (a + x + 1) = true ∧ L.2.2.1 (a + x + 1) 0 = k ∧ L.2.2.1 (a + x + 1) 1 = d then L.2.2.1 (a + x + 1) 2 else 0) = cmF L now k d a
    rw [cmF_past x a h, if_neg (fun z => by
      have y := z.2.1
      unfold knwn at y
      rw [decide_eq_false (by omega), Bool.false_and] at y
      exact Bool.noConfusion y), Int.add_zero]
theorem arr24 {kn : Int} (hkn : kn ≤ 10) (hO : LOk kn L) (hL2 : L.1 ≤ 200) : ∀ (m a : Nat) (s : PS) (r : Int) (t : PS), It_X12_arrives m 24 ((a : Int) + 1) s r t → LU L s → nowU s = (now : Int) → a ≤ L.1 → (∀ k d : Nat, k < 10 → d < 25 → s 46 (25 * k + d) = cmF L now k d a) → (∀ k d : Nat, k < 10 → d < 25 → t 46 (25 * k + d) = cmF L now k d L.1) ∧ ∀ k, ¬ k = 46 → t k = s k := by
  intro m
  induction m using Nat.strongRecOn with
  | ind m ih =>
  intro a s r t h hL hn ha hc
  cases m with
  | zero => exact False.elim h
  | succ m =>
    replace h := ul_X12_arrives_24 h
    unfold T_X12_arrives_24 at h
    obtain ⟨_, _, h⟩ := h
    rw [hL.1] at h
    rcases h with ⟨c, _, es⟩ | ⟨c, h⟩
    · have e : a = L.1 := by omega
      rw [es, ← e]
      exact ⟨hc, fun _ _ => rfl⟩
    · have ha2 : a + 1 ≤ L.1 := by
        clear h
        omega
      obtain ⟨z21, z22, z23, _⟩ := hL.2 (a + 1) (by omega) ha2
      obtain ⟨o1, _, o3, o4⟩ := hO (a + 1) (by omega) ha2
      have e1 : ((a : Int) + 1).toNat = a + 1 := by
        clear h
        omega
      have e5 : (5 * ((a : Int) + 1)).toNat = 5 * (a + 1) := by
        clear h
        omega
      have e51 : (5 * ((a : Int) + 1) + 1).toNat = 5 * (a + 1) + 1 := by
        clear h
        omega
      have e52 : (5 * ((a : Int) + 1) + 2).toNat = 5 * (a + 1) + 2 := by
        clear h
        omega
      have y0 : s 22 (5 * (a + 1)) = L.2.2.1 (a + 1) 0 := z22 0 (by decide)
      have y1 : s 22 (5 * (a + 1) + 1) = L.2.2.1 (a + 1) 1 := z22 1 (by decide)
      have y2 : s 22 (5 * (a + 1) + 2) = L.2.2.1 (a + 1) 2 := z22 2 (by decide)
      rw [e1, e5, e51, e52, y0, y1, y2, z21] at h
      have back : ∀ (m' : Nat) (s1 : PS), m' ≤ m → It_X12_arrives m' 90 ((a : Int) + 1) s1 r t → (∀ k, ¬ k = 46 → s1 k = s k) → (∀ k d : Nat, k < 10 → d < 25 → s1 46 (25 * k + d) = cmF L now k d (a + 1)) → (∀ k d : Nat, k < 10 → d < 25 → t 46 (25 * k + d) = cmF L now k d L.1) ∧ ∀ k, ¬ k = 46 → t k = s k := by
        intro m' s1 hm' h k1 c1
        cases m' with
        | zero => exact False.elim h
        | succ m' =>
          replace h := ul_X12_arrives_90 h
          unfold T_X12_arrives_90 at h
          obtain ⟨_, _, h⟩ := h
          have w := ih m' (by omega) (a + 1) s1 r t h (hL.cg (by rw [k1 0 (by decide)]) (k1 21 (by decide)) (k1 22 (by decide)) (k1 23 (by decide)) (k1 24 (by decide))) (by
            unfold nowU
            rw [k1 0 (by decide)]
            exact hn) ha2 c1
          exact ⟨w.1, fun k hk => (w.2 k hk).trans (k1 k hk)⟩
      have same : ¬ (L.2.1 (a + 1) = 1 ∧ knwn L now (a + 1) = true) → ∀ k d : Nat, k < 10 → d < 25 → s 46 (25 * k + d) = cmF L now k d (a + 1) := by
        intro hn1 k d hk hd
        show _ = cmF L now k d a + _
        rw [if_neg (fun z => hn1 ⟨z.1, z.2.1⟩), Int.add_zero]
        exact hc k d hk hd
      have hz : L.2.2.2.1 (a + 1) = 0 ∨ 0 < L.2.2.2.1 (a + 1) := by
        clear h
        omega
      rcases h with ⟨c2, r5, s4, m4, _, _, _, h⟩ | ⟨c2, h⟩
      · obtain ⟨q4, k4⟩ := isSoM (L := L) (A := a + 1) rfl m4 z23 hz
        rw [hn] at k4
        rw [q4] at h
        rcases h with ⟨c3, h⟩ | ⟨c3, s13, e13, h⟩
        · refine back m s (Nat.le_refl _) h (fun _ _ => rfl) (same (fun z => ?_))
          rcases k4 with ⟨y, _⟩ | ⟨_, y⟩
          · omega
          · exact y z.2
        · have kn1 : knwn L now (a + 1) = true := by
            rcases k4 with ⟨_, y⟩ | ⟨y, _⟩
            · exact y
            · exact absurd y c3
          have o5 := o3 (Or.inl c2)
          obtain ⟨k0, ek⟩ : ∃ k0 : Nat, L.2.2.1 (a + 1) 0 = (k0 : Int) := ⟨(L.2.2.1 (a + 1) 0).toNat, by clear h; omega⟩
          obtain ⟨d0, ed⟩ : ∃ d0 : Nat, L.2.2.1 (a + 1) 1 = (d0 : Int) := ⟨(L.2.2.1 (a + 1) 1).toNat, by clear h; omega⟩
          have hk0 : k0 < 10 := by
            clear h
            omega
          have hd0 : d0 < 25 := by
            clear h
            omega
          have ei : (25 * L.2.2.1 (a + 1) 0 + L.2.2.1 (a + 1) 1).toNat = 25 * k0 + d0 := by
            clear h
            omega
          have old := hc k0 d0 hk0 hd0
          have bd := cmF_le (now := now) (k := k0) (d := d0) hO a ha
          rw [ei, old, wi_id (by clear h; omega) (by clear h; omega)] at e13
          refine back m s13 (Nat.le_refl _) h (fun k hk => by rw [e13, us_k hk]) (fun k d hk hd => ?_)
          show _ = cmF L now k d a + (if L.2.1 (a + 1) = 1 ∧ knwn L now (a + 1) = true ∧ L.2.2.1 (a + 1) 0 = (k : Int) ∧ L.2.2.1 (a + 1) 1 = (d : Int) then L.2.2.1 (a + 1) 2 else 0)
          by_cases q : k = k0 ∧ d = d0
          · rw [q.1, q.2, e13, us_at, if_pos ⟨c2, kn1, ek, ed⟩]
          · rw [e13, us_j (by omega), if_neg (fun z => q ⟨by omega, by omega⟩), Int.add_zero]
            exact hc k d hk hd
      · exact back m s (Nat.le_refl _) h (fun _ _ => rfl) (same (fun z => c2 z.1))
theorem arr2 {kn : Int} (hkn : kn ≤ 10) (hO : LOk kn L) (hL2 : L.1 ≤ 200) : ∀ (m i : Nat) (s : PS) (r : Int) (t : PS), It_X12_arrives m 2 (i : Int) s r t → LU L s → nowU s = (now : Int) → i ≤ 250 → (∀ j, j < i → s 46 j = 0) → (∀ k d : Nat, k < 10 → d < 25 → t 46 (25 * k + d) = cmF L now k d L.1) ∧ ∀ k, ¬ k = 46 → t k = s k
  | 0, i, s, r, t, h, _, _, _, _ => False.elim h
  | m + 1, i, s, r, t, h, hL, hn, hi, hz => by
    replace h := ul_X12_arrives_2 h
    unfold T_X12_arrives_2 at h
    obtain ⟨_, _, h⟩ := h
    rw [Int.toNat_natCast] at h
    rcases h with ⟨c, h⟩ | ⟨c, s15, e15, h⟩
    · exact arr24 hkn hO hL2 m 0 s r t h hL hn (Nat.zero_le _) (fun k d hk hd => hz _ (by omega))
    · have k1 : ∀ k, ¬ k = 46 → s15 k = s k := fun k hk => by rw [e15, us_k hk]
      have w := arr2 hkn hO hL2 m (i + 1) s15 r t h (hL.cg (by rw [k1 0 (by decide)]) (k1 21 (by decide)) (k1 22 (by decide)) (k1 23 (by decide)) (k1 24 (by decide))) (by
        unfold nowU
        rw [k1 0 (by decide)]
        exact hn) (by omega) (fun j hj => by
        by_cases e : j = i
        · rw [e, e15, us_at]
        · rw [e15, us_j e]
          exact hz j (by omega))
      exact ⟨w.1, fun k hk => (w.2 k hk).trans (k1 k hk)⟩
/-- what comes, as known -/
theorem arrivesM {kn : Int} (hkn : kn ≤ 10) (hO : LOk kn L) (hL2 : L.1 ≤ 200) (hl : now ≤ L.1) (hL : LU L s) (hn : nowU s = (now : Int)) (h : M_X12_arrives s r t) : (∀ k d : Nat, k < 10 → d < 25 → t 46 (25 * k + d) = cmF L now k d now) ∧ ∀ k, ¬ k = 46 → t k = s k := by
  obtain ⟨m, h⟩ := h
  unfold T_X12_arrives_e at h
  have w := arr2 hkn hO hL2 m 0 s r t h.2 hL hn (by decide) (fun j hj => absurd hj (Nat.not_lt_zero _))
  refine ⟨fun k d hk hd => ?_, w.2⟩
  have z := w.1 k d hk hd
  have y := cmF_past (L := L) (now := now) (k := (k : Int)) (d := (d : Int)) (L.1 - now) now (Nat.le_refl _)
  have e : now + (L.1 - now) = L.1 := by omega
  rw [e] at y
  rw [z, y]
end GiveM
