/-! the ranker: the chain from the goal back to the goal -/
/-- a turn half made: row r, at place j of the line, has one too many -/
def TrI (R K S : Nat) (sl fr : Nat → Nat) (D : Nat → Int) (al : Nat → Nat → Prop) (pt cu X : Nat → Nat → Int) (g : Nat) (z s0 : PS) (Y : Nat → Nat → Int) (r j : Nat) (s : PS) : Prop := (FlS R K S sl fr D al pt cu Y s ∧ ∀ x, ¬ x = 70 → ¬ x = 71 → ¬ x = 73 → s x = s0 x) ∧ (∀ a k, a < R → k < K → Y a k = X a k ∨ (kcX S s0 k (sl a) = s0 75 a - pt a k ∧ tb (s0 82 a) k = false)) ∧ (∀ k u, k < K → u < S → rStk R sl cu Y k u ≤ rStk R sl cu X k u ∨ kcX S s0 k u = kcX S s0 k (u + 1)) ∧ (∀ k u, k < K → u < S → 0 ≤ rStk R sl cu Y k u) ∧ ((∀ a i : Nat, a < R → i < j → s0 87 i = (a : Int) → ∀ k, k < K → Y a k = X a k) ∧ ∀ k, k < K → X r k = 1 → Y r k = 1) ∧ (∀ k u, k < K → u + 1 < S → rStk R sl cu Y k u < rStk R sl cu X k u → ∃ b i : Nat, s0 86 (24 * k + (u + 1)) = (b : Int) ∧ s0 87 i = (b : Int) ∧ j ≤ i ∧ (i : Int) < s0 81 11 ∧ ¬ b = g) ∧ (∀ k, k < K → rStk R sl cu Y k (S - 1) < rStk R sl cu X k (S - 1) → ∃ lk b i : Nat, s0 81 13 = (lk : Int) ∧ s0 86 (24 * lk + (S - 1)) = (b : Int) ∧ s0 87 i = (b : Int) ∧ j ≤ i ∧ (i : Int) < s0 81 11 ∧ ¬ b = g) ∧ ((∀ a, a < R → sgN (Y a) K = sgN (X a) K + (if a = r then 1 else 0) - (if a = g then 1 else 0)) ∨ ∃ rd lo il : Nat, rd < R ∧ lo < R ∧ ¬ rd = lo ∧ sgN (X rd) K < D rd ∧ s0 75 rd = s0 74 5 ∧ s0 75 lo = s0 74 5 ∧ 0 < sgN (X lo) K ∧ s0 81 12 = (lo : Int) ∧ s0 87 il = (lo : Int) ∧ (il : Int) < s0 81 11 ∧ j ≤ il ∧ ∀ a, a < R → sgN (Y a) K = sgN (X a) K + (if a = r then 1 else 0) - (if a = g then 1 else 0) + (if a = rd then 1 else 0) - (if a = lo then 1 else 0)) ∧ (∀ a k, a < R → k < K → Y a k = 1 → al a k) ∧ r < R ∧ s0 87 j = (r : Int) ∧ (j : Int) < s0 81 11 ∧ ¬ Vs z r
section Trn
variable {R K S g k0 : Nat} {sl fr : Nat → Nat} {D : Nat → Int} {al : Nat → Nat → Prop} {pt cu X Y : Nat → Nat → Int} {z s0 s t : PS} {rr : Int}
/-- nothing that a closed search had seen leads to what it had not -/
def Old (R K S : Nat) (sl : Nat → Nat) (D : Nat → Int) (al : Nat → Nat → Prop) (pt cu X : Nat → Nat → Int) (g k0 : Nat) (z s0 : PS) : Prop := ClS R K S sl D al pt cu X g z ∧ MoS R K S R z s0 ∧ SrI R K S sl D al pt cu X g s0 ∧ ∀ k u, k < K → u < S → Ws s0 k u → ¬ Ws z k u → s0 86 (24 * k + u) = (g : Int) → k = k0
theorem Old.iv (h : Old R K S sl D al pt cu X g k0 z s0) {k a u : Nat} (hk : k < K) (ha : a < S) (hu : u < S) (hw : Ws z k a) (he : ∀ x, x < S → btw a u x → s0 77 (24 * k + x) = s0 77 (24 * k + u)) (ho : ∀ x, a ≤ x → x < u → 0 < rStk R sl cu X k x) : Ws z k u := by
  obtain ⟨hC, hM, _, _⟩ := h
  have z77 := hM.2.2.2.2.1 77 (by decide)
  rw [z77] at he
  have iP := hC.1.1.2.2.1
  by_cases q : a ≤ u
  · have up : ∀ n : Nat, a + n ≤ u → Ws z k (a + n) := by
      intro n
      induction n with
      | zero => exact fun _ => hw
      | succ n ih =>
        intro hn
        have w := ih (by omega)
        exact (iP k (a + n) hk (by omega) w).2.2.2.1 (by omega) (ho (a + n) (by omega) (by omega)) (by
          have e1 := he (a + (n + 1)) (by omega) (by unfold btw; omega)
          have e2 := he (a + n) (by omega) (by unfold btw; omega)
          show z 77 (24 * k + (a + n + 1)) = z 77 (24 * k + (a + n))
          rw [e2]
          exact e1)
    have w := up (u - a) (by omega)
    rw [Nat.add_sub_cancel' q] at w
    exact w
  · have dn : ∀ n : Nat, u + n ≤ a → Ws z k (a - n) := by
      intro n
      induction n with
      | zero => exact fun _ => hw
      | succ n ih =>
        intro hn
        have w := ih (by omega)
        have e : a - (n + 1) = (a - n) - 1 := by omega
        rw [e]
        exact (iP k (a - n) hk (by omega) w).2.2.1 (by omega) (by
          have e1 := he (a - n - 1) (by omega) (by unfold btw; omega)
          have e2 := he (a - n) (by omega) (by unfold btw; omega)
          rw [e1, e2])
    have w := dn (a - u) (by omega)
    have e : a - (a - u) = u := by omega
    rw [e] at w
    exact w
/-- what one link says: which row drops which kind, which row takes which -/
def LnkT (R K S : Nat) (sl : Nat → Nat) (al : Nat → Nat → Prop) (pt cu X : Nat → Nat → Int) (g k0 : Nat) (z s0 : PS) (jd d k b k1 : Nat) : Prop := (k < K ∧ s0 84 d = (k : Int) ∧ X d k = 1 ∧ tb (s0 82 d) k = false ∧ s0 75 d = s0 77 (24 * k + sl d) + pt d k) ∧ (b < R ∧ k1 < K ∧ al b k1 ∧ X b k1 = 0 ∧ s0 77 (24 * k1 + sl b) = s0 75 b - pt b k1) ∧ ((b = g ∧ k1 = k0) ∨ (¬ b = g ∧ tb (s0 82 b) k1 = false ∧ ¬ Vs z b ∧ ∃ ib : Nat, ib < jd ∧ s0 87 ib = (b : Int))) ∧ ((s0 86 (24 * k + sl d) = (b : Int) ∧ k1 = k ∧ (∀ x, x < S → btw (sl b) (sl d) x → s0 77 (24 * k + x) = s0 77 (24 * k + sl d) ∧ s0 86 (24 * k + x) = (b : Int)) ∧ ∀ x, sl b ≤ x → x < sl d → 0 < rStk R sl cu X k x) ∨ (s0 86 (24 * k + sl d) = -2 ∧ s0 81 13 = (k1 : Int) ∧ ¬ k1 = k ∧ s0 86 (24 * k1 + (S - 1)) = (b : Int) ∧ (∀ x, sl d ≤ x → x < S → s0 77 (24 * k + x) = s0 74 6) ∧ s0 77 (24 * k1 + (S - 1)) = s0 74 6 ∧ (∀ x, x < S → sl b ≤ x → s0 77 (24 * k1 + x) = s0 74 6 ∧ s0 86 (24 * k1 + x) = (b : Int)) ∧ ∀ x, sl b ≤ x → x < S → 0 < rStk R sl cu X k1 x))
theorem Old.lnk (h : Old R K S sl D al pt cu X g k0 z s0) (hs : ∀ r, r < R → sl r < S) {jd d : Nat} (hd : d < R) (hj : s0 87 jd = (d : Int)) (hj2 : (jd : Int) < s0 81 11) (hz : ¬ Vs z d) (h3 : ¬ s0 84 d = -3) : ∃ k b k1, LnkT R K S sl al pt cu X g k0 z s0 jd d k b k1 := by
  have h0 := h
  obtain ⟨hC, hM, hI, hG⟩ := h
  obtain ⟨⟨hIz, ⟨H, h10, h11, hArc⟩, hdu, hle⟩, hend, he12, he13, hng⟩ := hC
  have iPz := hIz.2.2.1
  have z75 := hM.2.2.2.2.1 75 (by decide)
  have z77 := hM.2.2.2.2.1 77 (by decide)
  have z74 := hM.2.2.2.2.1 74 (by decide)
  have z82 := hM.2.2.2.2.2.1
  have sd := hs d hd
  obtain ⟨iL, iR, iP, i12, i13, ⟨i14, i15⟩, iC⟩ := hI
  -- who is ahead of it in the line was not seen before, if it leads to what was not
  have nb : ∀ k u b, k < K → u < S → ¬ Ws z k u → b < R → al b k → X b k = 0 → tb (s0 82 b) k = false → s0 77 (24 * k + sl b) = s0 75 b - pt b k → (∀ x, x < S → btw (sl b) u x → s0 77 (24 * k + x) = s0 77 (24 * k + u)) → (∀ x, sl b ≤ x → x < u → 0 < rStk R sl cu X k x) → ¬ Vs z b := by
    intro k u b hk hu hw hb ha hx hf ht he ho q
    obtain ⟨i, q1, q2⟩ := hIz.1.ix hb q
    have w := hArc i b (by omega) q2 k (Nat.zero_le _) hk ha hx (by rw [← z82]; exact hf) (by rw [← z77, ← z75]; exact ht)
    exact hw (h0.iv hk (hs b hb) hu w he ho)
  rcases iR jd d hd hj hj2 with ⟨y, _⟩ | ⟨k, q1, q2, q3, q4, q5, q6, q7⟩
  · exact absurd y h3
  · have nw : ¬ Ws z k (sl d) := fun w => hz ((iPz k (sl d) q1 sd w).2.1 d hd rfl q3 (by rw [← z82]; exact q4) (by rw [← z75, ← z77]; exact q6))
    have pl := (iP k (sl d) q1 sd q5).1
    rcases q7 with ⟨b, b1, b2, b3⟩ | ⟨b1, lk, b, b2, b3, b4, b5, b6⟩
    · rcases pl with ⟨b', p1, p2, p3, p4, p5, p6, p7, p8, p9⟩ | ⟨p1, _⟩
      · have e : b' = b := by omega
        rw [e] at p1 p3 p4 p5 p6 p7 p8 p9
        refine ⟨k, b, k, ⟨q1, q2, q3, q4, q6⟩, ⟨b1, q1, p4, p5, p7⟩, ?_, Or.inl ⟨b2, rfl, fun x x1 x2 => ⟨(p8 x x1 x2).1, (p8 x x1 x2).2.2⟩, p9⟩⟩
        by_cases c : b = g
        · exact Or.inl ⟨c, hG k (sl d) q1 sd q5 nw (by rw [b2, c])⟩
        · refine Or.inr ⟨c, p6 c, nb k (sl d) b q1 sd nw b1 p4 p5 (p6 c) p7 (fun x x1 x2 => (p8 x x1 x2).1) p9, ?_⟩
          rcases b3 with y | ⟨i, y1, y2⟩
          · exact absurd y c
          · exact ⟨i, y1, y2⟩
      · omega
    · rcases pl with ⟨b', _, p2, _⟩ | ⟨p1, p2, p3, p4⟩
      · omega
      · rcases i13 with y | ⟨lk', b', y1, y2, y3, y4, y5, y6, y7⟩
        · omega
        · have el : lk' = lk := by omega
          rw [el] at y3 y4 y5 y7
          have eb : b' = b := by omega
          have nwl : ¬ Ws z lk (S - 1) := fun w => by
            have w1 := (iPz lk (S - 1) b2 (by omega) w).2.2.2.2 (by omega) y4 (by rw [← z77, ← z74]; exact y5)
            rcases he13 with w2 | w2
            · exact w1 w2
            · rcases hle with w3 | ⟨_, w3⟩
              · omega
              · have w4 := w3 k q1 (by
                  have w5 := (p4 (S - 1) (by omega) (by omega)).1
                  rw [z77, z74] at w5
                  exact w5)
                exact nw (h0.iv q1 (show S - 1 < S by omega) sd w4 (fun x x1 x2 => by
                  rw [(p4 x (by unfold btw at x2; omega) x1).1, p3]) (fun x x1 x2 => by omega))
          rcases (iP lk (S - 1) b2 (by omega) y3).1 with ⟨b'', r1, r2, r3, r4, r5, r6, r7, r8, r9⟩ | ⟨r1, _⟩
          · have e : b'' = b := by omega
            rw [e] at r1 r3 r4 r5 r6 r7 r8 r9
            have sb := hs b r1
            refine ⟨k, b, lk, ⟨q1, q2, q3, q4, q6⟩, ⟨r1, b2, r4, r5, r7⟩, ?_, Or.inr ⟨b1, b3, fun e2 => ?_, b5, fun x x1 x2 => (p4 x x1 x2).1, y5, fun x x1 x2 => ?_, fun x x1 x2 => ?_⟩⟩
            · by_cases c : b = g
              · exact Or.inl ⟨c, hG lk (S - 1) b2 (by omega) y3 nwl (by rw [b5, c])⟩
              · refine Or.inr ⟨c, r6 c, nb lk (S - 1) b b2 (by omega) nwl r1 r4 r5 (r6 c) r7 (fun x x1 x2 => (r8 x x1 x2).1) r9, ?_⟩
                rcases b6 with w | ⟨i, w1, w2⟩
                · exact absurd w c
                · exact ⟨i, w1, w2⟩
            · have w := (p4 (S - 1) (by omega) (by omega)).2.2
              rw [← e2, b5] at w
              omega
            · obtain ⟨w1, _, w3⟩ := r8 x x1 (by unfold btw; omega)
              exact ⟨by rw [w1]; exact y5, w3⟩
            · by_cases c : x = S - 1
              · rw [c]
                exact y4
              · exact r9 x x1 (by omega)
          · omega
end Trn
