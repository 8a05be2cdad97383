/-! behind give both have the same giving; what is told of it -/
section Gv2
variable {K n : Nat} {ag ho dy du : Nat → Int} {Al : Nat → Nat → Bool} {X : Nat → Nat → Int} {re re0 p : Nat → Int} {pts P : Int} {s t u v : PS} {r r2 : Int} {b : BST} {OL : List OT} {L : LT} {c B w : Int}
theorem wi_2 (x : Int) : wi (wi x) = wi x := by
  have z := wi_wi x 0
  rw [Int.add_zero, Int.add_zero] at z
  exact z
theorem giveGV (hX : TyX s) (hc : c + 1 ≤ 2147483647) (hR : RQ b OL L c s u) (hS : StA B s) (hB : B + 440 < 2147483647) (h1 : M_X11_give s r t) (h2 : M_X12_give u r2 v) : GV b.1.length t v := by
  obtain ⟨now, a1, a2, X, s3, best, bag, m, hK, hJ, h9, hz, h10⟩ := giveD hX hc hR hS hB h1
  have hH := gvH hX hR a2
  obtain ⟨X', b2, ⟨g1, g2, g3, ⟨g4, g5⟩, g6, g7, g8, g9⟩, _⟩ := giveM hH (fun n1 => gvE hX hR a1 a2 n1) h2
  have hn := hH.2.2.2.1.1
  have hK10 := hH.2.2.2.2.2.1
  have q := BestD.uniq best b2 hn hK10
  have x01 : ∀ c k, c < nG L now → k < b.1.length → X c k = 0 ∨ X c k = 1 := fun c k hc hk => (best.1.1 c k hc hk).1
  have kp := keepG (ag := fun i => cAge ((knAll L now now).2.1 i)) (ho := fun i => cHou ((knAll L now now).2.1 i)) (dy := fun i => cDay ((knAll L now now).2.1 i)) (du := duG b L now OL) (Al := alG b L now OL) (Pt := ptG b L now OL) (re0 := fun k => cuD (cmG L now) k 24) hn hK10 x01 (fun k hk => by
    have z := cuD_in (k := k) hH
    show 0 ≤ cuD (cmG L now) k 24 ∧ cuD (cmG L now) k 24 ≤ 500000
    omega) h10 hK.1 (fun i hi => by
    obtain ⟨x43, x44, x45, x46, x47, x48, x49, _⟩ := hK.2 i hi
    obtain ⟨j1, j2, j3⟩ := hJ i hi
    refine ⟨x44, x48, x49, j1, fun k hk => ?_, j3⟩
    have z := (j2 k hk).trans alG_iff.symm
    cases e : alG b L now OL i k with
    | true => exact z.mpr e
    | false =>
      cases e2 : tb (s3 58 i) k with
      | false => rfl
      | true =>
        have y := z.mp e2
        rw [e] at y
        exact absurd y (by decide)) bag h9 hz m
  obtain ⟨⟨i1, i2, i3, i4, i5⟩, j1, j2, j3, j4, j5⟩ := kp
  have sx : ∀ k, k < b.1.length → sgN (fun i => X i k) (nG L now) = sgN (fun i => X' i k) (nG L now) := fun k hk => sgN_cg _ (fun i hi => q i k hi hk)
  refine Or.inr ⟨nG L now, fun i => cAge ((knAll L now now).2.1 i), fun i => cHou ((knAll L now now).2.1 i), fun i => cDay ((knAll L now now).2.1 i), duG b L now OL, alG b L now OL, X, fun k => cuD (cmG L now) k 24 - sgN (fun i => X i k) (nG L now), wi (dPts (nG L now) b.1.length (ptG b L now OL) X), ?_, ⟨⟨i2, i3, i5⟩, fun i hi => ?_, j4, j5⟩, ⟨g1, g3, ?_⟩, fun i hi => ?_, fun k hk => ?_⟩
  · refine ⟨⟨hn, hK10⟩, x01, fun i hi => ⟨duG_in i, best.1.2.1 i hi, ?_⟩, fun i k hi hk e => (best.1.1 i k hi hk).2 e, fun k hk => ?_, wi_2 _⟩
    · have ok := hH.2.2.2.1.2.2.1 i hi
      exact ok.2.1
    · have z := cuD_in (k := k) hH
      have y := sg_in (f := fun i => X i k) (nG L now) (fun i hi => by
        have w := x01 i k hi hk
        show 0 ≤ X i k ∧ X i k ≤ 1
        omega)
      show -1000 ≤ cuD (cmG L now) k 24 - sgN (fun i => X i k) (nG L now) ∧ cuD (cmG L now) k 24 - sgN (fun i => X i k) (nG L now) ≤ 500000
      have hn2 : nG L now ≤ 40 := hn
      omega
  · obtain ⟨k1, k2, k3, k4, k5, k6, _⟩ := j3 i hi
    exact ⟨k1, k2, k3, k4, k5, k6⟩
  · rw [g9]
    unfold dPts
    rw [sgN_cg (nG L now) (fun i hi => sgN_cg b.1.length (f := fun k => ptG b L now OL i k * X i k) (g := fun k => ptG b L now OL i k * X' i k) (fun k hk => by
      show ptG b L now OL i k * X i k = ptG b L now OL i k * X' i k
      rw [q i k hi hk]))]
  · obtain ⟨k1, k2, k3, k4⟩ := g4 i hi
    exact ⟨k4, k2, k3, k1, fun k hk => g5 i k hi hk, by rw [(g6 i hi).1]; exact stN_cg _ (fun k hk => (q i k hi hk).symm)⟩
  · show v 54 k = cuD (cmG L now) k 24 - sgN (fun i => X i k) (nG L now)
    rw [g7 k hk, sx k hk]
/-- how many kinds, in the reference -/
theorem cnt10 (hK : K ≤ 10) (hp : ∀ k, k < K → p k = 0 ∨ p k = 1) : sgN (fun k => if tb (stN p K) k = true then (1 : Int) else 0) 10 = sgN p K := by
  have e10 : K + (10 - K) = 10 := by omega
  rw [← e10, sgN_spl K (10 - K), sgN_0 (10 - K) (fun i hi => by
    show (if tb (stN p K) (K + i) = true then (1 : Int) else 0) = 0
    rw [tb_stN K hK (K + i) (by omega), decide_eq_false (fun q => absurd q.1 (by omega))]
    rfl), Int.add_zero]
  refine sgN_cg K (fun k hk => ?_)
  show (if tb (stN p K) k = true then (1 : Int) else 0) = p k
  rw [tb_stN K hK k (by omega)]
  rcases hp k hk with c | c
  · rw [decide_eq_false (fun q => by
      have := q.2
      omega), c]
    rfl
  · rw [decide_eq_true ⟨hk, c⟩, c]
    rfl
theorem bits4 : ∀ (fu x : Nat) (s : PS) (r : Int) (t : PS), It_X12_bits fu w (sgN (fun k => if tb w k = true then (1 : Int) else 0) x) (x : Int) s r t → x ≤ 10 → t = s ∧ r = sgN (fun k => if tb w k = true then (1 : Int) else 0) 10
  | 0, x, s, r, t, m, _ => False.elim m
  | fu + 1, x, s, r, t, m, hx => by
    replace m := ul_X12_bits_4 m
    unfold T_X12_bits_4 at m
    obtain ⟨_, _, m⟩ := m
    rcases m with ⟨q, er, et⟩ | ⟨q, m⟩
    · have e : x = 10 := by omega
      rw [e] at er
      exact ⟨et, er⟩
    · have b := sg_in (f := fun k => if tb w k = true then (1 : Int) else 0) x (fun i _ => by
        show 0 ≤ (if tb w i = true then (1 : Int) else 0) ∧ (if tb w i = true then (1 : Int) else 0) ≤ 1
        split <;> omega)
      have b2 : 0 ≤ (if tb w x = true then (1 : Int) else 0) ∧ (if tb w x = true then (1 : Int) else 0) ≤ 1 := by split <;> omega
      rw [tb_val _ (show x < 32 by omega), wi_id (by omega) (by omega)] at m
      have e1 : (x : Int) + 1 = ((x + 1 : Nat) : Int) := rfl
      rw [e1] at m
      exact bits4 fu (x + 1) s r t m (by omega)
theorem bitsM (hK : K ≤ 10) (hp : ∀ k, k < K → p k = 0 ∨ p k = 1) (m : M_X12_bits s (stN p K) r t) : t = s ∧ r = sgN p K := by
  obtain ⟨fu, m⟩ := m
  unfold T_X12_bits_e at m
  obtain ⟨_, m⟩ := m
  obtain ⟨e1, e2⟩ := bits4 fu 0 s r t m (Nat.zero_le _)
  exact ⟨e1, e2.trans (cnt10 hK hp)⟩
/-- what lacks up to child c -/
def lkF (K : Nat) (ag du : Nat → Int) (X : Nat → Nat → Int) (a z : Int) : Nat → Int
  | 0 => 0
  | c + 1 => if a ≤ ag c ∧ ag c ≤ z then wi (lkF K ag du X a z c + wi (du c - sgN (X c) K)) else lkF K ag du X a z c
theorem lkF_wi {a z : Int} : ∀ c : Nat, wi (lkF K ag du X a z c) = lkF K ag du X a z c
  | 0 => by
    show wi 0 = 0
    decide
  | c + 1 => by
    show wi (if a ≤ ag c ∧ ag c ≤ z then wi (lkF K ag du X a z c + wi (du c - sgN (X c) K)) else lkF K ag du X a z c) = _
    by_cases y : a ≤ ag c ∧ ag c ≤ z
    · rw [if_pos y, wi_2]
      exact (if_pos y).symm
    · rw [if_neg y, lkF_wi c]
      exact (if_neg y).symm
theorem lackC (hC : GvC K n ag ho dy du Al X re pts s) {a z : Int} : ∀ fu : Nat, (∀ (c : Nat) (r : Int) (t : PS), It_X4_lacking fu 5 a z (lkF K ag du X a z c) (c : Int) s r t → c ≤ n → r = lkF K ag du X a z n) ∧ ∀ (c : Nat) (r : Int) (t : PS), It_X4_lacking fu 54 a z (lkF K ag du X a z (c + 1)) (c : Int) s r t → c < n → r = lkF K ag du X a z n
  | 0 => ⟨fun c r t m => False.elim m, fun c r t m => False.elim m⟩
  | fu + 1 => by
    have ih := lackC hC (a := a) (z := z) fu
    refine ⟨fun c r t m hc => ?_, fun c r t m hc => ?_⟩
    · replace m := ul_X4_lacking_5 m
      unfold T_X4_lacking_5 at m
      obtain ⟨_, _, m⟩ := m
      rw [hC.1.2.1, Int.toNat_natCast] at m
      rcases m with ⟨q, er, _⟩ | ⟨q, m⟩
      · have e : c = n := by omega
        rw [er, e]
      · have hcn : c < n := by
          clear m
          omega
        obtain ⟨d1, d2, d3, d4, d5, d6⟩ := hC.2.1 c hcn
        rw [d1, d4, d6] at m
        rcases m with ⟨q1, m⟩ | ⟨q1, m⟩
        · refine ih.2 c r t ?_ hcn
          have e : lkF K ag du X a z (c + 1) = lkF K ag du X a z c := if_neg (fun y => by omega)
          rw [e]
          exact m
        · rcases m with ⟨q2, m⟩ | ⟨q2, m⟩
          · refine ih.2 c r t ?_ hcn
            have e : lkF K ag du X a z (c + 1) = lkF K ag du X a z c := if_neg (fun y => by omega)
            rw [e]
            exact m
          · refine ih.2 c r t ?_ hcn
            have e : lkF K ag du X a z (c + 1) = wi (lkF K ag du X a z c + wi (du c - sgN (X c) K)) := if_pos (by omega)
            rw [e]
            exact m
    · replace m := ul_X4_lacking_54 m
      unfold T_X4_lacking_54 at m
      obtain ⟨_, _, m⟩ := m
      have e1 : (c : Int) + 1 = ((c + 1 : Nat) : Int) := rfl
      rw [e1] at m
      exact ih.1 (c + 1) r t m hc
theorem lackingC (hC : GvC K n ag ho dy du Al X re pts s) {a z : Int} (m : M_X4_lacking s a z r t) : r = lkF K ag du X a z n := by
  obtain ⟨fu, m⟩ := m
  unfold T_X4_lacking_e at m
  obtain ⟨_, m⟩ := m
  exact (lackC hC fu).1 0 r t m (Nat.zero_le _)
theorem lackR (hD : GvD K n ag du Al X re pts) (hR : GvR K n ag ho dy du Al X re pts u) {a z : Int} : ∀ fu : Nat, (∀ (c : Nat) (r : Int) (t : PS) (y1 y2 : Int), It_X12_lacks fu 14 a z (lkF K ag du X a z c) (c : Int) y1 y2 u r t → c ≤ n → r = lkF K ag du X a z n) ∧ ∀ (c : Nat) (r : Int) (t : PS) (x3 y0 y1 : Int), It_X12_lacks fu 61 a z x3 (c : Int) y0 y1 u r t → wi (y1 + y0) = lkF K ag du X a z (c + 1) → c < n → r = lkF K ag du X a z n
  | 0 => ⟨fun c r t y1 y2 m => False.elim m, fun c r t x3 y0 y1 m => False.elim m⟩
  | fu + 1 => by
    have ih := lackR hD hR (a := a) (z := z) fu
    refine ⟨fun c r t y1 y2 m hc => ?_, fun c r t x3 y0 y1 m hy hc => ?_⟩
    · replace m := ul_X12_lacks_14 m
      unfold T_X12_lacks_14 at m
      obtain ⟨_, _, m⟩ := m
      rw [hR.1.2.1, Int.toNat_natCast] at m
      rcases m with ⟨q, er, _⟩ | ⟨q, r5, s4, m4, _, _, _, m⟩
      · have e : c = n := by omega
        rw [er, e]
      · have hcn : c < n := by
          clear m m4
          omega
        obtain ⟨d1, d2, d3, d4, d5, d6⟩ := hR.2.1 c hcn
        obtain ⟨q4, k4⟩ := isMm m4
        rw [d1] at k4
        rw [q4] at m
        rcases m with ⟨q5, m⟩ | ⟨q5, r12, s11, m11, _, _, m⟩
        · refine ih.2 c r t _ _ _ m ?_ hcn
          have e : lkF K ag du X a z (c + 1) = lkF K ag du X a z c := if_neg (by
            rcases k4 with y | y
            · omega
            · exact y.2)
          rw [e, Int.add_zero, lkF_wi]
        · rw [d6] at m11
          obtain ⟨q11, k11⟩ := bitsM hD.1.2 (fun k hk => hD.2.1 c k hcn hk) m11
          rw [q11, d4, k11] at m
          refine ih.2 c r t _ _ _ m ?_ hcn
          exact (show lkF K ag du X a z (c + 1) = wi (lkF K ag du X a z c + wi (du c - sgN (X c) K)) from if_pos (by
            rcases k4 with y | y
            · exact y.2
            · exact absurd y.1 q5)).symm
    · replace m := ul_X12_lacks_61 m
      unfold T_X12_lacks_61 at m
      obtain ⟨_, _, m⟩ := m
      have e1 : (c : Int) + 1 = ((c + 1 : Nat) : Int) := rfl
      rw [e1, hy] at m
      exact ih.1 (c + 1) r t 0 0 m hc
theorem lacks2 {p1 p2 : Int} (hG : GV K s u) (h1 : M_X11_lacks s p1 p2 r t) (h2 : M_X12_lacks u p1 p2 r2 v) : r = r2 := by
  unfold M_X11_lacks T_X11_lacks_e at h1
  obtain ⟨fu, h2⟩ := h2
  unfold T_X12_lacks_e at h2
  obtain ⟨_, h1⟩ := h1
  obtain ⟨_, h2⟩ := h2
  rcases hG with ⟨a, b⟩ | ⟨n, ag, ho, dy, du, Al, X, re, pts, hD, hC, hR⟩
  · rcases h1 with ⟨_, er, _⟩ | ⟨q, _⟩
    · rcases h2 with ⟨_, er2, _⟩ | ⟨q, _⟩
      · exact er.trans er2.symm
      · exact absurd b q
    · exact absurd a q
  · rcases h1 with ⟨q, _⟩ | ⟨_, r3, s2, m2, _, _, er, _⟩
    · rw [hC.1.1] at q
      exact absurd q (by decide)
    · rcases h2 with ⟨q, _⟩ | ⟨_, m⟩
      · rw [hR.1.1] at q
        exact absurd q (by decide)
      · rw [er, lackingC hC m2, (lackR hD hR fu).1 0 r2 v 0 0 m (Nat.zero_le _)]
theorem left2 {p1 : Int} (hG : GV K s u) (hs : s 1 0 = (K : Int)) (hu : u 2 (u 0 12).toNat = (K : Int)) (h1 : M_X11_left s p1 r t) (h2 : M_X12_left u p1 r2 v) : r = r2 := by
  unfold M_X11_left T_X11_left_e at h1
  unfold M_X12_left T_X12_left_e at h2
  obtain ⟨_, h1⟩ := h1
  obtain ⟨_, h2⟩ := h2
  rcases hG with ⟨a, b⟩ | ⟨n, ag, ho, dy, du, Al, X, re, pts, hD, hC, hR⟩
  · rcases h1 with ⟨_, er, _⟩ | ⟨q, _⟩
    · rcases h2 with ⟨_, er2, _⟩ | ⟨q, _⟩
      · exact er.trans er2.symm
      · exact absurd b q
    · exact absurd a q
  · rcases h1 with ⟨q, _⟩ | ⟨_, r3, s2, m2, _, _, _, h1⟩
    · rw [hC.1.1] at q
      exact absurd q (by decide)
    · rcases h2 with ⟨q, _⟩ | ⟨_, r4, u2, n2, _, _, _, h2⟩
      · rw [hR.1.1] at q
        exact absurd q (by decide)
      · obtain ⟨q2, k2⟩ := isKindX m2
        obtain ⟨q3, k3⟩ := isKindM n2
        rw [hs] at k2
        rw [hu] at k3
        rcases h1 with ⟨c1, er, _⟩ | ⟨c1, er, _⟩
        · rcases h2 with ⟨d1, er2, _⟩ | ⟨d1, er2, _⟩
          · exact er.trans er2.symm
          · rcases k2 with y | y
            · omega
            · rcases k3 with z | z
              · exact absurd z.2 y.2
              · exact absurd z.1 d1
        · rcases h2 with ⟨d1, er2, _⟩ | ⟨d1, er2, _⟩
          · rcases k2 with y | y
            · rcases k3 with z | z
              · omega
              · exact absurd y.2 z.2
            · exact absurd y.1 c1
          · rcases k2 with y | y
            · obtain ⟨k, rfl⟩ : ∃ k : Nat, p1 = (k : Int) := ⟨p1.toNat, by omega⟩
              rw [Int.toNat_natCast] at er er2
              rw [er, er2, hC.2.2.1 k (by omega), hR.2.2 k (by omega)]
            · exact absurd y.1 c1
/-- whom nothing lacks, up to child c -/
def fuF (K : Nat) (du : Nat → Int) (X : Nat → Nat → Int) (c : Nat) : Int := sgN (fun i => if sgN (X i) K = du i then (1 : Int) else 0) c
theorem fuF_in (c : Nat) : 0 ≤ fuF K du X c ∧ fuF K du X c ≤ (c : Int) := sg_in c (fun i _ => by
  show 0 ≤ (if sgN (X i) K = du i then (1 : Int) else 0) ∧ (if sgN (X i) K = du i then (1 : Int) else 0) ≤ 1
  split <;> omega)
theorem totalC (hD : GvD K n ag du Al X re pts) (hC : GvC K n ag ho dy du Al X re pts s) : ∀ fu : Nat, (∀ (c : Nat) (r : Int) (t : PS) (y1 y2 : Int), It_X4_total fu 18 1 (fuF K du X c) (c : Int) y1 y2 s r t → c ≤ n → r = fuF K du X n) ∧ ∀ (c : Nat) (r : Int) (t : PS) (x2 y0 y1 : Int), It_X4_total fu 47 1 x2 (c : Int) y0 y1 s r t → wi (y1 + y0) = fuF K du X (c + 1) → c < n → r = fuF K du X n
  | 0 => ⟨fun c r t y1 y2 m => False.elim m, fun c r t x2 y0 y1 m => False.elim m⟩
  | fu + 1 => by
    have ih := totalC hD hC fu
    refine ⟨fun c r t y1 y2 m hc => ?_, fun c r t x2 y0 y1 m hy hc => ?_⟩
    · replace m := ul_X4_total_18 m
      unfold T_X4_total_18 at m
      obtain ⟨_, _, _, m⟩ := m
      rw [hC.1.2.1, Int.toNat_natCast] at m
      rcases m with ⟨q, er, _⟩ | ⟨q, m⟩
      · have e : c = n := by omega
        rw [er, e]
      · have hcn : c < n := by
          clear m
          omega
        obtain ⟨d1, d2, d3, d4, d5, d6⟩ := hC.2.1 c hcn
        have fi := fuF_in (K := K) (du := du) (X := X) c
        have n40 := hD.1.1
        rw [d4, d6] at m
        rcases m with ⟨q1, m⟩ | ⟨q1, m⟩
        · refine ih.2 c r t _ _ _ m ?_ hcn
          rw [wi_id (by omega) (by omega)]
          show fuF K du X c + 1 = fuF K du X c + (if sgN (X c) K = du c then (1 : Int) else 0)
          rw [if_pos q1]
        · refine ih.2 c r t _ _ _ m ?_ hcn
          rw [wi_id (by omega) (by omega)]
          show fuF K du X c + 0 = fuF K du X c + (if sgN (X c) K = du c then (1 : Int) else 0)
          rw [if_neg q1]
    · replace m := ul_X4_total_47 m
      unfold T_X4_total_47 at m
      obtain ⟨_, _, _, _, m⟩ := m
      have e1 : (c : Int) + 1 = ((c + 1 : Nat) : Int) := rfl
      rw [e1, hy] at m
      exact ih.1 (c + 1) r t 0 0 m hc
theorem givenR (hD : GvD K n ag du Al X re pts) (hR : GvR K n ag ho dy du Al X re pts u) : ∀ fu : Nat, (∀ (c : Nat) (r : Int) (t : PS) (y1 y2 : Int), It_X12_given fu 51 1 (fuF K du X c) (c : Int) y1 y2 u r t → c ≤ n → r = fuF K du X n) ∧ ∀ (c : Nat) (r : Int) (t : PS) (x2 y0 y1 : Int), It_X12_given fu 83 1 x2 (c : Int) y0 y1 u r t → wi (y1 + y0) = fuF K du X (c + 1) → c < n → r = fuF K du X n
  | 0 => ⟨fun c r t y1 y2 m => False.elim m, fun c r t x2 y0 y1 m => False.elim m⟩
  | fu + 1 => by
    have ih := givenR hD hR fu
    refine ⟨fun c r t y1 y2 m hc => ?_, fun c r t x2 y0 y1 m hy hc => ?_⟩
    · replace m := ul_X12_given_51 m
      unfold T_X12_given_51 at m
      obtain ⟨_, _, m⟩ := m
      rw [hR.1.2.1, Int.toNat_natCast] at m
      rcases m with ⟨q, er, _⟩ | ⟨q, r5, s4, m4, _, _, m⟩
      · have e : c = n := by omega
        rw [er, e]
      · have hcn : c < n := by
          clear m m4
          omega
        obtain ⟨d1, d2, d3, d4, d5, d6⟩ := hR.2.1 c hcn
        have fi := fuF_in (K := K) (du := du) (X := X) c
        have n40 := hD.1.1
        have le := (hD.2.2.1 c hcn).2.1
        rw [d6] at m4
        obtain ⟨q4, k4⟩ := bitsM hD.1.2 (fun k hk => hD.2.1 c k hcn hk) m4
        rw [q4, d4, k4] at m
        rcases m with ⟨q1, m⟩ | ⟨q1, m⟩
        · refine ih.2 c r t _ _ _ m ?_ hcn
          rw [wi_id (by omega) (by omega)]
          show fuF K du X c + 0 = fuF K du X c + (if sgN (X c) K = du c then (1 : Int) else 0)
          rw [if_neg (by omega)]
        · refine ih.2 c r t _ _ _ m ?_ hcn
          rw [wi_id (by omega) (by omega)]
          show fuF K du X c + 1 = fuF K du X c + (if sgN (X c) K = du c then (1 : Int) else 0)
          rw [if_pos (by omega)]
    · replace m := ul_X12_given_83 m
      unfold T_X12_given_83 at m
      obtain ⟨_, _, _, m⟩ := m
      have e1 : (c : Int) + 1 = ((c + 1 : Nat) : Int) := rfl
      rw [e1, hy] at m
      exact ih.1 (c + 1) r t 0 0 m hc
theorem given95 (hD : GvD K n ag du Al X re pts) (hR : GvR K n ag ho dy du Al X re pts u) : ∀ (fu c : Nat) (r : Int) (t : PS) (p1 y1 y2 : Int), It_X12_given fu 95 p1 (lkF K ag du X 0 17 c) (c : Int) y1 y2 u r t → c ≤ n → r = lkF K ag du X 0 17 n
  | 0, c, r, t, p1, y1, y2, m, _ => False.elim m
  | fu + 1, c, r, t, p1, y1, y2, m, hc => by
    replace m := ul_X12_given_95 m
    unfold T_X12_given_95 at m
    obtain ⟨_, _, m⟩ := m
    rw [hR.1.2.1, Int.toNat_natCast] at m
    rcases m with ⟨q, er, _⟩ | ⟨q, r13, s12, m12, _, _, m⟩
    · have e : c = n := by omega
      rw [er, e]
    · have hcn : c < n := by
        clear m m12
        omega
      obtain ⟨d1, d2, d3, d4, d5, d6⟩ := hR.2.1 c hcn
      have ga := (hD.2.2.1 c hcn).2.2
      rw [d6] at m12
      obtain ⟨q4, k4⟩ := bitsM hD.1.2 (fun k hk => hD.2.1 c k hcn hk) m12
      have e1 : (c : Int) + 1 = ((c + 1 : Nat) : Int) := rfl
      have e : wi (lkF K ag du X 0 17 c + wi (du c - sgN (X c) K)) = lkF K ag du X 0 17 (c + 1) := (show lkF K ag du X 0 17 (c + 1) = wi (lkF K ag du X 0 17 c + wi (du c - sgN (X c) K)) from if_pos ga).symm
      rw [q4, d4, k4, e1, e] at m
      exact given95 hD hR fu (c + 1) r t p1 0 0 m hcn
/-- what is left, up to kind k -/
def lfF (re : Nat → Int) : Nat → Int
  | 0 => 0
  | k + 1 => wi (lfF re k + re k)
theorem lfF_wi : ∀ k : Nat, wi (lfF re k) = lfF re k
  | 0 => by
    show wi 0 = 0
    decide
  | k + 1 => wi_2 _
theorem total64 (hK : K ≤ 10) (hC : GvC K n ag ho dy du Al X re pts s) : ∀ (fu k : Nat) (r : Int) (t : PS) (p1 y1 y2 : Int), It_X4_total fu 64 p1 (lfF re (min k K)) (k : Int) y1 y2 s r t → k ≤ 10 → r = lfF re K
  | 0, k, r, t, p1, y1, y2, m, _ => False.elim m
  | fu + 1, k, r, t, p1, y1, y2, m, hk => by
    replace m := ul_X4_total_64 m
    unfold T_X4_total_64 at m
    obtain ⟨_, _, _, m⟩ := m
    rw [Int.toNat_natCast] at m
    rcases m with ⟨q, er, _⟩ | ⟨q, m⟩
    · rw [er, Nat.min_eq_right (by omega)]
    · have e1 : (k : Int) + 1 = ((k + 1 : Nat) : Int) := rfl
      have e2 : wi (lfF re (min k K) + s 96 k) = lfF re (min (k + 1) K) := by
        by_cases y : k < K
        · rw [Nat.min_eq_left (by omega), Nat.min_eq_left (by omega), hC.2.2.1 k y]
          rfl
        · rw [Nat.min_eq_right (by omega), Nat.min_eq_right (by omega), hC.2.2.2 k (by omega) (by omega), Int.add_zero]
          exact lfF_wi K
      rw [e1, e2] at m
      exact total64 hK hC fu (k + 1) r t p1 0 0 m (by omega)
theorem given132 (hu : u 2 (u 0 12).toNat = (K : Int)) (hR : GvR K n ag ho dy du Al X re pts u) : ∀ (fu k : Nat) (r : Int) (t : PS) (p1 y1 y2 : Int), It_X12_given fu 132 p1 (lfF re k) (k : Int) y1 y2 u r t → k ≤ K → r = lfF re K
  | 0, k, r, t, p1, y1, y2, m, _ => False.elim m
  | fu + 1, k, r, t, p1, y1, y2, m, hk => by
    replace m := ul_X12_given_132 m
    unfold T_X12_given_132 at m
    obtain ⟨_, _, m⟩ := m
    rw [hu, Int.toNat_natCast] at m
    rcases m with ⟨q, er, _⟩ | ⟨q, m⟩
    · have e : k = K := by omega
      rw [er, e]
    · have hkK : k < K := by
        clear m
        omega
      have e1 : (k : Int) + 1 = ((k + 1 : Nat) : Int) := rfl
      rw [e1, hR.2.2 k hkK] at m
      exact given132 hu hR fu (k + 1) r t p1 0 0 m hkK
theorem given2 {p1 : Int} (hG : GV K s u) (hu : u 2 (u 0 12).toNat = (K : Int)) (h1 : M_X11_given s p1 r t) (h2 : M_X12_given u p1 r2 v) : r = r2 := by
  unfold M_X11_given T_X11_given_e at h1
  obtain ⟨fu, h2⟩ := h2
  unfold T_X12_given_e at h2
  obtain ⟨_, h1⟩ := h1
  obtain ⟨_, h2⟩ := h2
  rcases hG with ⟨a, b⟩ | ⟨n, ag, ho, dy, du, Al, X, re, pts, hD, hC, hR⟩
  · rcases h1 with ⟨_, er, _⟩ | ⟨q, _⟩
    · rcases h2 with ⟨_, er2, _⟩ | ⟨q, _⟩
      · exact er.trans er2.symm
      · exact absurd b q
    · exact absurd a q
  · rcases h1 with ⟨q, _⟩ | ⟨_, r3, s2, m2, _, _, er, _⟩
    · rw [hC.1.1] at q
      exact absurd q (by decide)
    · rcases h2 with ⟨q, _⟩ | ⟨_, h2⟩
      · rw [hR.1.1] at q
        exact absurd q (by decide)
      · rw [er]
        obtain ⟨f2, m2⟩ := m2
        unfold T_X4_total_e at m2
        obtain ⟨_, m2⟩ := m2
        rcases m2 with ⟨p, e2, _⟩ | ⟨p, m2⟩
        · rcases h2 with ⟨_, e3, _⟩ | ⟨p', _⟩
          · rw [e2, e3, hC.1.2.2, hR.1.2.2]
          · exact absurd p p'
        · rcases h2 with ⟨p', _⟩ | ⟨_, h2⟩
          · exact absurd p' p
          · rcases m2 with ⟨p3, m2⟩ | ⟨p3, m2⟩
            · rw [p3] at m2 h2
              rcases h2 with ⟨_, h2⟩ | ⟨p4, _⟩
              · rw [(totalC hD hC f2).1 0 r3 s2 0 0 m2 (Nat.zero_le _), (givenR hD hR fu).1 0 r2 v 0 0 h2 (Nat.zero_le _)]
              · exact absurd rfl p4
            · rcases h2 with ⟨p4, _⟩ | ⟨_, h2⟩
              · exact absurd p4 p3
              · rcases m2 with ⟨p5, m2⟩ | ⟨p5, m2⟩
                · rcases h2 with ⟨p6, _⟩ | ⟨_, ⟨_, h2⟩ | ⟨p7, _⟩⟩
                  · omega
                  · have z : lfF re (min 0 K) = 0 := by
                      rw [Nat.min_eq_left (Nat.zero_le _)]
                      rfl
                    rw [total64 hD.1.2 hC f2 0 r3 s2 p1 0 0 (by rw [z]; exact m2) (Nat.zero_le _), given132 hu hR fu 0 r2 v p1 0 0 h2 (Nat.zero_le _)]
                  · exact absurd p5 p7
                · rcases m2 with ⟨p6, r14, s13, m13, _, _, e2, _⟩ | ⟨p6, e2, _⟩
                  · rcases h2 with ⟨_, h2⟩ | ⟨p7, _⟩
                    · rw [e2, lackingC hC m13, given95 hD hR fu 0 r2 v p1 0 0 h2 (Nat.zero_le _)]
                    · exact absurd p6 p7
                  · rcases h2 with ⟨p7, _⟩ | ⟨_, ⟨p7, _⟩ | ⟨_, e3, _⟩⟩
                    · exact absurd p7 p6
                    · exact absurd p7 p5
                    · rw [e2, e3]
end Gv2
