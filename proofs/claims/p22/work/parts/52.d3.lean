/-! the reference's giving: child by child, pair by pair -/
def ChU (b : BST) (OL : List OT) (L : LT) (now : Nat) (c : Nat) (s : PS) : Prop := (∀ i, i < c → s 47 i = duG b L now OL i ∧ s 48 i = cHou ((knAll L now now).2.1 i) ∧ s 49 i = cDay ((knAll L now now).2.1 i) ∧ s 50 i = cAge ((knAll L now now).2.1 i)) ∧ ∀ i k, i < c → k < b.1.length → s 51 (10 * i + k) = if alG b L now OL i k = true then 1 else 0
/-- the net as far as child c -/
abbrev tgTo (b : BST) (OL : List OT) (L : LT) (now : Nat) (c : Nat) : List TAG := catN (tgK (cmG L now)) b.1.length ++ catN (tgC b.1.length (alG b L now OL)) c
def BdU (b : BST) (OL : List OT) (L : LT) (now : Nat) (l : List TAG) (s : PS) : Prop := GvE b OL L now s ∧ LnS (dyG L now) (cmG L now) (duG b L now OL) (ptG b L now OL) l s ∧ PrS l s ∧ s 0 69 = ((knAll L now now).1 : Int) ∧ ∀ k d : Nat, k < 10 → d < 25 → s 46 (25 * k + d) = cmG L now k d
section KidsM
variable {b : BST} {OL : List OT} {L : LT} {now c : Nat} {l : List TAG} {s t u : PS} {r : Int} {x : TAG}
theorem ptG_in (hH : GvH b OL L now) {c k : Nat} (hc : c < (knAll L now now).1) : -55200000 ≤ ptG b L now OL c k ∧ ptG b L now OL c k ≤ 55200000 := by
  obtain ⟨_, _, _, hS, hG, _, _, _, h24⟩ := hH
  have z := ptF_in (b := b) (kd := k) (nK := b.1.length) (nM := b.2.1.length) hS hc OL 0 0 (fun x hx => hG.2 x hx) (by decide) (by decide)
  rw [Nat.zero_add] at z
  unfold ptG
  omega
theorem dyG_e (hH : GvH b OL L now) {c : Nat} (hc : c < (knAll L now now).1) : cDay ((knAll L now now).2.1 c) = (dyG L now c : Int) ∧ 1 ≤ dyG L now c ∧ dyG L now c ≤ 24 := by
  have z := (hH.2.2.2.1.2.2.1 c hc).2.2.2.2.2.2.1
  unfold dyG
  omega
theorem BdU.k37 (h : BdU b OL L now l s) (e : ∀ k, ¬ k = 37 → t k = s k) : BdU b OL L now l t := by
  obtain ⟨h1, h2, h3, h4, h5⟩ := h
  exact ⟨h1.cg (fun k _ _ => e k (by omega)) (by rw [e 0 (by decide)]) (by rw [e 0 (by decide)]) (by rw [e 0 (by decide)]) (by rw [e 0 (by decide)]), h2.cg (fun k hk => e k (by omega)) (by rw [e 0 (by decide)]), fun q hq => by rw [e 44 (by decide)]; exact h3 q hq, by rw [e 0 (by decide)]; exact h4, fun k d hk hd => by rw [e 46 (by decide)]; exact h5 k d hk hd⟩
theorem BdU.u47 (h : BdU b OL L now l s) {k j : Nat} {v : Int} (hk : 47 ≤ k) : BdU b OL L now l (us s k j v) := by
  obtain ⟨h1, h2, h3, h4, h5⟩ := h
  have e : ∀ i, i < 47 → us s k j v i = s i := fun i hi => us_k (by omega)
  exact ⟨h1.cg (fun i _ _ => e i (by omega)) (by rw [e 0 (by decide)]) (by rw [e 0 (by decide)]) (by rw [e 0 (by decide)]) (by rw [e 0 (by decide)]), h2.cg (fun i hi => e i (by omega)) (by rw [e 0 (by decide)]), fun q hq => by rw [e 44 (by decide)]; exact h3 q hq, by rw [e 0 (by decide)]; exact h4, fun i d hk hd => by rw [e 46 (by decide)]; exact h5 i d hk hd⟩
theorem ChU.cg (h : ChU b OL L now c s) (e : ∀ k, 47 ≤ k → k ≤ 51 → t k = s k) : ChU b OL L now c t := by
  unfold ChU
  rw [e 47 (by decide) (by decide), e 48 (by decide) (by decide), e 49 (by decide) (by decide), e 50 (by decide) (by decide), e 51 (by decide) (by decide)]
  exact h
/-- behind a lane more -/
theorem BdU.lane {p1 p2 p3 p4 : Int} (h : BdU b OL L now l s) (hl : M_X12_lane s p1 p2 p3 p4 r t) (e1 : p1 = (lnA (dyG L now) x : Int)) (e2 : p2 = (lnB x : Int)) (e3 : p3 = lnC (cmG L now) (duG b L now OL) x) (e4 : p4 = lnW (ptG b L now OL) x) (hw : -2147483648 ≤ p4 ∧ p4 ≤ 2147483648) : LnS (dyG L now) (cmG L now) (duG b L now OL) (ptG b L now OL) (l ++ [x]) t ∧ GvE b OL L now t ∧ t 0 69 = ((knAll L now now).1 : Int) ∧ (∀ k d : Nat, k < 10 → d < 25 → t 46 (25 * k + d) = cmG L now k d) ∧ r = ((2 * l.length : Nat) : Int) ∧ (∀ k, ¬ k = 0 → ¬ (38 ≤ k ∧ k ≤ 41) → t k = s k) ∧ ∀ j, ¬ j = 62 → t 0 j = s 0 j := by
  obtain ⟨h1, h2, h3, h4, h5⟩ := h
  obtain ⟨g1, g2, g3, g4⟩ := laneM hl h2 e1 e2 e3 e4 hw
  exact ⟨g1, h1.cg (fun k k1 k2 => g3 k (by omega) (by omega)) (g4 12 (by decide)) (g4 37 (by decide)) (g4 39 (by decide)) (g4 45 (by decide)), (g4 69 (by decide)).trans h4, fun k d hk hd => by rw [g3 46 (by decide) (by decide)]; exact h5 k d hk hd, g2, g3, g4⟩
theorem give151 (hH : GvH b OL L now) : ∀ m : Nat, (∀ (c : Nat) (s : PS) (r : Int) (t : PS), It_X12_give m 151 (c : Int) 0 s r t → c ≤ (knAll L now now).1 → BdU b OL L now (tgTo b OL L now c) s → ChU b OL L now c s → ∃ (m2 : Nat) (s1 s54 s2 : PS), M_X12_settles s1 0 s54 ∧ It_X12_give m2 340 0 0 s2 r t ∧ s2 = us (us s54 0 78 0) 0 79 0 ∧ BdU b OL L now (tgTo b OL L now (knAll L now now).1) s1 ∧ ChU b OL L now (knAll L now now).1 s1) ∧ (∀ (c k : Nat) (s : PS) (r : Int) (t : PS), It_X12_give m 226 (c : Int) (k : Int) s r t → c < (knAll L now now).1 → k ≤ b.1.length → BdU b OL L now (tgTo b OL L now c ++ ((2, c, 0) :: catN (tgP (alG b L now OL) c) k)) s → ChU b OL L now c s → (s 47 c = duG b L now OL c ∧ s 48 c = cHou ((knAll L now now).2.1 c) ∧ s 49 c = cDay ((knAll L now now).2.1 c) ∧ s 50 c = cAge ((knAll L now now).2.1 c)) → (∀ i, i < k → s 51 (10 * c + i) = if alG b L now OL c i = true then 1 else 0) → ∃ (m2 : Nat) (s1 s54 s2 : PS), M_X12_settles s1 0 s54 ∧ It_X12_give m2 340 0 0 s2 r t ∧ s2 = us (us s54 0 78 0) 0 79 0 ∧ BdU b OL L now (tgTo b OL L now (knAll L now now).1) s1 ∧ ChU b OL L now (knAll L now now).1 s1) ∧ (∀ (c k : Nat) (s : PS) (r : Int) (t : PS), It_X12_give m 312 (c : Int) (k : Int) s r t → c < (knAll L now now).1 → k < b.1.length → BdU b OL L now (tgTo b OL L now c ++ ((2, c, 0) :: catN (tgP (alG b L now OL) c) (k + 1))) s → ChU b OL L now c s → (s 47 c = duG b L now OL c ∧ s 48 c = cHou ((knAll L now now).2.1 c) ∧ s 49 c = cDay ((knAll L now now).2.1 c) ∧ s 50 c = cAge ((knAll L now now).2.1 c)) → (∀ i, i < k + 1 → s 51 (10 * c + i) = if alG b L now OL c i = true then 1 else 0) → ∃ (m2 : Nat) (s1 s54 s2 : PS), M_X12_settles s1 0 s54 ∧ It_X12_give m2 340 0 0 s2 r t ∧ s2 = us (us s54 0 78 0) 0 79 0 ∧ BdU b OL L now (tgTo b OL L now (knAll L now now).1) s1 ∧ ChU b OL L now (knAll L now now).1 s1)
  | 0 => ⟨fun c s r t h => False.elim h, fun c k s r t h => False.elim h, fun c k s r t h => False.elim h⟩
  | m + 1 => by
    have ih := give151 hH m
    have hH0 := hH
    obtain ⟨hl, hL2, ⟨kn, hkn, hO⟩, hS, hG, h10, h8, h28, h24⟩ := hH0
    refine ⟨fun c s r t h hc hB hC => ?_, fun c k s r t h hc hk hB hC h4 h5 => ?_, fun c k s r t h hc hk hB hC h4 h5 => ?_⟩
    · replace h := ul_X12_give_151 h
      unfold T_X12_give_151 at h
      obtain ⟨_, _, h⟩ := h
      rw [(hB.1.kids).1] at h
      simp only [Int.toNat_natCast] at h
      rcases h with ⟨c1, s54, m54, _, _, s57, e57, s58, e58, h⟩ | ⟨c1, r60, s59, m59, _, _, s63, e63, s65, e65, s67, e67, s69, e69, r71, s70, m70, _, _, _, h⟩
      · have e : c = (knAll L now now).1 := by omega
        rw [e] at hB hC
        exact ⟨m, s, s54, s58, m54, h, by rw [e58, e57], hB, hC⟩
      · have hc2 : c < (knAll L now now).1 := by
          clear h
          omega
        obtain ⟨d1, d2⟩ := dueM hS hc2 hG h8 hB.1.1 m59
        have cu := (hB.1.kids).2 c hc2
        obtain ⟨_, x27, _, _, _, x31, x32, _⟩ := cu
        have B59 := hB.k37 d2
        have B69 : BdU b OL L now (tgTo b OL L now c) s69 := by
          rw [e69, e67, e65, e63]
          exact (((B59.u47 (by decide)).u47 (by decide)).u47 (by decide)).u47 (by decide)
        obtain ⟨g1, g2, g3, g4, g5, g6, g7⟩ := B69.lane (x := (2, c, 0)) m70 (by show 242 + (c : Int) = ((242 + c : Nat) : Int); omega) rfl d1 rfl ⟨by decide, by decide⟩
        have k70 : ∀ k, ¬ k = 0 → ¬ (37 ≤ k ∧ k ≤ 41) → ¬ (47 ≤ k ∧ k ≤ 50) → s70 k = s k := fun k k1 k2 k3 => by rw [g6 k k1 (by omega), e69, us_k (by omega), e67, us_k (by omega), e65, us_k (by omega), e63, us_k (by omega), d2 k (by omega)]
        have v47 : ∀ i, s70 47 i = if i = c then r60 else s 47 i := fun i => by rw [g6 47 (by decide) (by decide), e69, us_k (by decide), e67, us_k (by decide), e65, us_k (by decide), e63, us_f, d2 47 (by decide)]
        have v48 : ∀ i, s70 48 i = if i = c then cHou ((knAll L now now).2.1 c) else s 48 i := fun i => by rw [g6 48 (by decide) (by decide), e69, us_k (by decide), e67, us_k (by decide), e65, us_f, e63, us_k (by decide), d2 48 (by decide), x31]
        have v49 : ∀ i, s70 49 i = if i = c then cDay ((knAll L now now).2.1 c) else s 49 i := fun i => by rw [g6 49 (by decide) (by decide), e69, us_k (by decide), e67, us_f, e65, us_k (by decide), e63, us_k (by decide), d2 49 (by decide), x32]
        have v50 : ∀ i, s70 50 i = if i = c then cAge ((knAll L now now).2.1 c) else s 50 i := fun i => by rw [g6 50 (by decide) (by decide), e69, us_f, e67, us_k (by decide), e65, us_k (by decide), e63, us_k (by decide), d2 50 (by decide), x27]
        refine ih.2.1 c 0 s70 r t h hc2 (Nat.zero_le _) ⟨g2, g1, ?_, g3, g4⟩ ⟨fun i hi => ?_, fun i k hi hk => ?_⟩ ⟨?_, ?_, ?_, ?_⟩ (fun i hi => absurd hi (Nat.not_lt_zero _))
        · exact PrS.more hB.2.2.1 (show ¬ (2 : Nat) = 3 by decide) (k70 44 (by decide) (by decide) (by decide))
        · rw [v47, v48, v49, v50, if_neg (by omega), if_neg (by omega), if_neg (by omega), if_neg (by omega)]
          exact hC.1 i hi
        · rw [k70 51 (by decide) (by decide) (by decide)]
          exact hC.2 i k hi hk
        · rw [v47, if_pos rfl]
          exact d1
        · rw [v48, if_pos rfl]
        · rw [v49, if_pos rfl]
        · rw [v50, if_pos rfl]
    · replace h := ul_X12_give_226 h
      unfold T_X12_give_226 at h
      obtain ⟨_, _, _, h⟩ := h
      rw [hB.1.kinds] at h
      have ei : (10 * (c : Int) + (k : Int)).toNat = 10 * c + k := by
        clear h
        omega
      rw [ei, Int.toNat_natCast] at h
      rcases h with ⟨c1, h⟩ | ⟨c1, r34, s33, m33, _, _, _, s36, e36, h⟩
      · have e : k = b.1.length := by omega
        rw [e] at hB h5
        refine ih.1 (c + 1) s r t h (by omega) ?_ ⟨fun i hi => ?_, fun i k hi hk => ?_⟩
        · have z : tgTo b OL L now (c + 1) = tgTo b OL L now c ++ ((2, c, 0) :: catN (tgP (alG b L now OL) c) b.1.length) := by
            show catN (tgK (cmG L now)) b.1.length ++ (catN (tgC b.1.length (alG b L now OL)) c ++ ((2, c, 0) :: catN (tgP (alG b L now OL) c) b.1.length)) = _
            rw [List.append_assoc]
          rw [z]
          exact hB
        · by_cases q : i = c
          · rw [q]
            exact h4
          · exact hC.1 i (by omega)
        · by_cases q : i = c
          · rw [q]
            exact h5 k hk
          · exact hC.2 i k (by omega) hk
      · have hk2 : k < b.1.length := by
          clear h
          omega
        obtain ⟨f1, f2⟩ := mayGetM hO hl hS hc hG h8 h28 hk2 hB.1.2.1 hB.1.1 hB.1.2.2 m33
        have r34v : r34 = if alG b L now OL c k = true then 1 else 0 := by
          rcases f1 with ⟨y1, y2⟩ | ⟨y1, y2⟩
          · rw [if_pos (alG_iff.mpr y2)]
            exact y1
          · rw [if_neg (fun z => y2 (alG_iff.mp z))]
            exact y1
        have B36 : BdU b OL L now (tgTo b OL L now c ++ ((2, c, 0) :: catN (tgP (alG b L now OL) c) k)) s36 := by
          rw [e36]
          exact (hB.k37 f2).u47 (by decide)
        have k36 : ∀ x, ¬ x = 37 → ¬ x = 51 → s36 x = s x := fun x x1 x2 => by rw [e36, us_k x2, f2 x x1]
        have v51 : ∀ i, s36 51 i = if i = 10 * c + k then r34 else s 51 i := fun i => by rw [e36, us_f, f2 51 (by decide)]
        have C36 : ChU b OL L now c s36 := by
          refine ⟨fun i hi => by rw [k36 47 (by decide) (by decide), k36 48 (by decide) (by decide), k36 49 (by decide) (by decide), k36 50 (by decide) (by decide)]; exact hC.1 i hi, fun i k2 hi hk3 => ?_⟩
          rw [v51, if_neg (by omega)]
          exact hC.2 i k2 hi hk3
        have h36 : s36 47 c = duG b L now OL c ∧ s36 48 c = cHou ((knAll L now now).2.1 c) ∧ s36 49 c = cDay ((knAll L now now).2.1 c) ∧ s36 50 c = cAge ((knAll L now now).2.1 c) := by
          rw [k36 47 (by decide) (by decide), k36 48 (by decide) (by decide), k36 49 (by decide) (by decide), k36 50 (by decide) (by decide)]
          exact h4
        have h536 : ∀ i, i < k + 1 → s36 51 (10 * c + i) = if alG b L now OL c i = true then 1 else 0 := by
          intro i hi
          rw [v51]
          by_cases q : i = k
          · rw [q, if_pos rfl]
            exact r34v
          · rw [if_neg (by omega)]
            exact h5 i (by omega)
        have e51 : s36 51 (10 * c + k) = r34 := by rw [v51, if_pos rfl]
        rw [e51] at h
        have grow : catN (tgP (alG b L now OL) c) (k + 1) = catN (tgP (alG b L now OL) c) k ++ tgP (alG b L now OL) c k := rfl
        rcases h with ⟨c2, h⟩ | ⟨c2, r41, s40, m41, _, _, r46, s45, m45, _, _, _, s52, e52, h⟩
        · have na : ¬ alG b L now OL c k = true := fun z => by
            rw [if_pos z] at r34v
            omega
          refine ih.2.2 c k s36 r t h hc hk2 ?_ C36 h36 h536
          rw [grow]
          unfold tgP
          rw [if_neg na, List.append_nil]
          exact B36
        · have ya : alG b L now OL c k = true := by
            by_cases z : alG b L now OL c k = true
            · exact z
            · rw [if_neg z] at r34v
              exact absurd r34v c2
          obtain ⟨p1, p2⟩ := pointsOfM hS hc hG h8 h28 hk2 B36.1.1 m41
          have pin := ptG_in hH (k := k) hc
          have pe : r41 = ptG b L now OL c k := p1
          have B40 := B36.k37 p2
          obtain ⟨_, _, _, _, _, _, x32, _⟩ := (hB.1.kids).2 c hc
          have de := dyG_e hH hc
          rw [x32, de.1, wi_id (by clear h; omega) (by clear h; omega)] at m45
          obtain ⟨g1, g2, g3, g4, g5, g6, g7⟩ := B40.lane (x := (3, c, k)) m45 (by show 1 + 24 * (k : Int) + (dyG L now c : Int) = ((1 + 24 * k + dyG L now c : Nat) : Int); omega) (by show 242 + (c : Int) = ((242 + c : Nat) : Int); omega) rfl (by show - r41 = - ptG b L now OL c k; rw [pe]) ⟨by clear h; omega, by clear h; omega⟩
          have lapp : tgTo b OL L now c ++ ((2, c, 0) :: catN (tgP (alG b L now OL) c) (k + 1)) = (tgTo b OL L now c ++ ((2, c, 0) :: catN (tgP (alG b L now OL) c) k)) ++ [(3, c, k)] := by
            have e3 : tgP (alG b L now OL) c k = [(3, c, k)] := by
              unfold tgP
              rw [if_pos ya]
            rw [grow, e3]
            exact (List.append_assoc (tgTo b OL L now c) ((2, c, 0) :: catN (tgP (alG b L now OL) c) k) [(3, c, k)]).symm
          have k52 : ∀ x, ¬ x = 44 → s52 x = s45 x := fun x hx => by rw [e52, us_k hx]
          have k45 : ∀ x, 47 ≤ x → s52 x = s36 x := fun x hx => by rw [k52 x (by omega), g6 x (by omega) (by omega), p2 x (by omega)]
          refine ih.2.2 c k s52 r t h hc hk2 ?_ (C36.cg (fun x h1 _ => k45 x h1)) ?_ (fun i hi => by rw [k45 51 (by decide)]; exact h536 i hi)
          · rw [lapp]
            refine ⟨g2.cg (fun x h1 h2 => k52 x (by omega)) (by rw [k52 0 (by decide)]) (by rw [k52 0 (by decide)]) (by rw [k52 0 (by decide)]) (by rw [k52 0 (by decide)]), g1.cg (fun x hx => k52 x (by omega)) (by rw [k52 0 (by decide)]), ?_, by rw [k52 0 (by decide)]; exact g3, fun i d hi hd => by rw [k52 46 (by decide)]; exact g4 i d hi hd⟩
            rw [g5] at e52
            exact PrS.pair B40.2.2.1 (by omega) e52 (g6 44 (by decide) (by decide))
          · rw [k45 47 (by decide), k45 48 (by decide), k45 49 (by decide), k45 50 (by decide)]
            exact h36
    · replace h := ul_X12_give_312 h
      unfold T_X12_give_312 at h
      obtain ⟨_, _, _, h⟩ := h
      exact ih.2.1 c (k + 1) s r t h hc (by omega) hB hC h4 h5
end KidsM
