/-! the ranker: a row's kinds one after another -/
section Rk2
variable {R K S g : Nat} {sl fr co : Nat → Nat} {D : Nat → Int} {al : Nat → Nat → Prop} {pt cu : Nat → Nat → Int} {s t : PS} {rr B : Int}
def RkE (R K S : Nat) (sl fr co : Nat → Nat) (D : Nat → Int) (al : Nat → Nat → Prop) (pt cu X : Nat → Nat → Int) (n : Nat) (B : Int) (s t : PS) : Prop := ∃ X2, RkB R K S sl fr D al pt cu X2 t ∧ LexP R K S sl D al pt cu co n X2 ∧ FixI R K co n t ∧ StA B t ∧ dSize R K X2 = dSize R K X ∧ dPts R K pt X2 = dPts R K pt X ∧ ∀ x, ¬ (x = 70 ∨ x = 71 ∨ x = 73 ∨ (81 ≤ x ∧ x ≤ 87)) → t x = s x
theorem RkE.tr {X X2 : Nat → Nat → Int} {n : Nat} {u : PS} (h : RkE R K S sl fr co D al pt cu X2 n B u t) (hsz : dSize R K X2 = dSize R K X) (hps : dPts R K pt X2 = dPts R K pt X) (e : ∀ x, ¬ (x = 70 ∨ x = 71 ∨ x = 73 ∨ (81 ≤ x ∧ x ≤ 87)) → u x = s x) : RkE R K S sl fr co D al pt cu X n B s t := by
  obtain ⟨X3, h1, h2, h3, h4, h5, h6, h7⟩ := h
  exact ⟨X3, h1, h2, h3, h4, h5.trans hsz, h6.trans hps, fun x hx => (h7 x hx).trans (e x hx)⟩
theorem rank11 (hco : ∀ r r', r < R → r' < R → co r = co r' → r = r') (hS : 0 < S) (hg : g < R) (hB2 : B < 2147483647) : ∀ fu : Nat, (∀ (kx b : Nat) (s : PS) (rr : Int) (t : PS) (X : Nat → Nat → Int), It_X9_rankRow fu 11 (g : Int) (kx : Int) s rr t → RkB R K S sl fr D al pt cu X s → LexP R K S sl D al pt cu co (10 * co g + kx) X → FixI R K co (10 * co g + kx) s → ClS R K S sl D al pt cu X g s → s 81 2 = (g : Int) → StA (b : Int) s → kx ≤ K → (b : Int) + ((K : Int) - (kx : Int)) ≤ B → RkE R K S sl fr co D al pt cu X (10 * co g + K) B s t) ∧ ∀ (kx b : Nat) (s : PS) (rr : Int) (t : PS) (X : Nat → Nat → Int), It_X9_rankRow fu 83 (g : Int) (kx : Int) s rr t → RkB R K S sl fr D al pt cu X s → LexP R K S sl D al pt cu co (10 * co g + kx + 1) X → FixI R K co (10 * co g + kx + 1) s → ClS R K S sl D al pt cu X g s → s 81 2 = (g : Int) → StA (b : Int) s → kx < K → (b : Int) + ((K : Int) - ((kx : Int) + 1)) ≤ B → RkE R K S sl fr co D al pt cu X (10 * co g + K) B s t
  | 0 => ⟨fun kx b s rr t X m => False.elim m, fun kx b s rr t X m => False.elim m⟩
  | fu + 1 => by
    have ih := rank11 hco hS hg hB2 fu
    refine ⟨fun kx b s rr t X m hB hLx hfx hC h2 hst hkx hb => ?_, fun kx b s rr t X m hB hLx hfx hC h2 hst hkx hb => ?_⟩
    · have hB0 := hB
      obtain ⟨hF, hX, hL, hD, hg5⟩ := hB
      have hs := hF.st.1
      have hR40 := hF.2.1.1
      have hK10 := hF.2.1.2.1
      have sg := hs g hg
      have hX01 := hF.st.2.2.2
      replace m := ul_X9_rankRow_11 m
      unfold T_X9_rankRow_11 at m
      obtain ⟨_, _, _, m⟩ := m
      rw [hF.1.1, Int.toNat_natCast] at m
      -- the end: all that is left agrees
      have stop : It_X9_rankRow fu 89 (g : Int) (kx : Int) s rr t → LexP R K S sl D al pt cu co (10 * co g + K) X → RkE R K S sl fr co D al pt cu X (10 * co g + K) B s t := by
        intro m2 hl
        cases fu with
        | zero => exact False.elim m2
        | succ fu =>
          replace m2 := ul_X9_rankRow_89 m2
          obtain ⟨w1, w2, w3⟩ := rank89 hco hg hB0 hfx hkx m2
          exact ⟨X, w1, hl, w2, (hst.cg (by rw [w3 81 (by decide)]) (w3 83 (by decide)) (w3 85 (by decide))).le (by omega), rfl, rfl, fun x hx => w3 x (by omega)⟩
      rcases m with ⟨c, m⟩ | ⟨c, r5, s4, m4, _, _, _, m⟩
      · have e : kx = K := by
          clear m
          omega
        have hl := hLx
        rw [e] at hl
        exact stop m hl
      · have hkK : kx < K := by
          clear m m4
          omega
        obtain ⟨e4, can⟩ := canF hF hg m4
        rw [e4] at m
        rcases m with ⟨c1, m⟩ | ⟨_, s11, e11, m⟩
        · obtain ⟨d1, d2⟩ := can c1
          exact stop m (hLx.to (by omega) (fun Y hY hag => stop_no hF hco hg hfx d1 d2 hY hag))
        · have k11 : ∀ x, ¬ x = 82 → s11 x = s x := fun x hx => by rw [e11, us_k hx]
          have b11 : ∀ k, k < 32 → tb (s11 82 g) k = (tb (s 82 g) k || decide (kx = k)) := fun k hk => by rw [e11, us_at, tb_or (by omega) hk]
          have hB11 : RkB R K S sl fr D al pt cu X s11 := hB0.cg (fun x x1 x2 => k11 x (by omega))
          have fx11 : FixI R K co (10 * co g + kx + 1) s11 := fun r k hr hk => by
            by_cases y : r = g
            · rw [y, b11 k (by omega), Bool.or_eq_true, hfx g k hg hk, decide_eq_true_iff]
              omega
            · rw [e11, us_if, if_neg y, hfx r k hr hk]
              have nc : ¬ co r = co g := fun q => y (hco r g hr hg q)
              omega
          have C11 : ClS R K S sl D al pt cu X g s11 := hC.fx e11 (fun k hk q => by
            have z := b11 k (by omega)
            rw [e11, us_at, q] at z
            cases h3 : tb (s 82 g) k with
            | false => rfl
            | true =>
              rw [h3, Bool.true_or] at z
              exact absurd z (by decide))
          have st11 : StA (b : Int) s11 := hst.cg (by rw [k11 81 (by decide)]) (k11 83 (by decide)) (k11 85 (by decide))
          have g11 : s11 81 2 = (g : Int) := by rw [k11 81 (by decide)]; exact h2
          have fr11 : ∀ x, ¬ (x = 70 ∨ x = 71 ∨ x = 73 ∨ (81 ≤ x ∧ x ≤ 87)) → s11 x = s x := fun x hx => k11 x (by omega)
          have bit : iAnd (iShr (s 70 g) (kx : Int)) 1 = 0 ↔ X g kx = 0 := by
            have g2 := (hF.2.2.2.1 g kx hg hkK).2.1
            unfold tb at g2
            constructor
            · intro q
              rcases hX01 g kx hg hkK with y | y
              · exact y
              · exact absurd q (of_decide_eq_true (g2.mpr y))
            · intro q
              by_cases y : iAnd (iShr (s 70 g) (kx : Int)) 1 = 0
              · exact y
              · have z := g2.mp (decide_eq_true y)
                omega
          have fp : ∀ r k, r < R → k < K → ¬ 10 * co r + k < 10 * co g + kx → ¬ (r = g ∧ k = kx) → tb (s11 82 r) k = false := fun r k hr hk q q2 => by
            cases h3 : tb (s11 82 r) k with
            | false => rfl
            | true =>
              have z := (fx11 r k hr hk).mp h3
              have e1 : co r = co g := by omega
              have e2 := hco r g hr hg e1
              exact absurd ⟨e2, by rw [e2] at z q; omega⟩ q2
          rcases m with ⟨c3, r16, s15, m15, _, _, _, m⟩ | ⟨c3, m⟩
          · have hX0 := bit.mp c3
            obtain ⟨e15, res⟩ := mayTakeF hB11.1 hB11.2.2.2.2 hg hkK m15
            rw [e15] at m
            -- none of the best takes it
            have none : ∀ (u : PS), RkB R K S sl fr D al pt cu X u → (∀ Y, RowOk R K S sl D al cu Y → dSize R K Y = dSize R K X → dPts R K pt Y = dPts R K pt X → (∀ r k, r < R → k < K → 10 * co r + k < 10 * co g + kx → Y r k = X r k) → Y g kx = 0) → LexP R K S sl D al pt cu co (10 * co g + kx + 1) X := fun u _ h => hLx.st hco hg hkK hK10 rfl (fun Y y1 y2 y3 y4 => Or.inl (by rw [h Y y1 y2 y3 y4, hX0]))
            rcases m with ⟨c4, m⟩ | ⟨c4, r20, s19, m19, _, _, _, m⟩
            · have L11 : LexP R K S sl D al pt cu co (10 * co g + kx + 1) X := none s11 hB11 (fun Y y1 y2 y3 y4 => by
                rcases res with ⟨_, q | q | q⟩ | ⟨q, _⟩
                · rcases (y1.1 g kx hg hkK).1 with y | y
                  · exact y
                  · exact absurd ((y1.1 g kx hg hkK).2 y) q
                · exact cl_no (W := fun r k => 10 * co r + k < 10 * co g + kx) hB11.1 hB11.2.2.1 hB11.2.2.2.1 hX y1 C11 hg hkK fp y4 hX0 q y2 y3
                · exact nt_no hB11.1 hB11.2.2.1 hB11.2.2.2.1 hX y1 hg hkK hX0 q y2 y3
                · omega)
              exact (ih.2 kx b s11 rr t X m hB11 L11 fx11 C11 g11 st11 hkK (by omega)).tr rfl rfl fr11
            · rcases res with ⟨q, _⟩ | ⟨_, ha, hw, ht⟩
              · exact absurd q c4
              · obtain ⟨⟨mo, fnd⟩, ws, hG⟩ := findsF hB11.1 hB11.2.2.2.2 C11.1 hg g11 hkK ha hX0 hw ht m19
                have k19 : ∀ x, ¬ (81 ≤ x ∧ x ≤ 87) → s19 x = s11 x := mo.2.2.2.2.1
                have B19 : RkB R K S sl fr D al pt cu X s19 := hB11.cg (fun x x1 x2 => k19 x (by omega))
                have st19 : StA (b : Int) s19 := st11.mo (findsSt m19)
                have e82 : s19 82 = s11 82 := mo.2.2.2.2.2.1
                have g19 : s19 81 2 = (g : Int) := by
                  rw [mo.2.2.2.2.2.2.1 2 (by decide) (by decide) (by decide) (by decide) (by decide) (by decide)]
                  exact g11
                have fr19 : ∀ x, ¬ (x = 70 ∨ x = 71 ∨ x = 73 ∨ (81 ≤ x ∧ x ≤ 87)) → s19 x = s x := fun x hx => (k19 x (by omega)).trans (fr11 x hx)
                have fx19 : FixI R K co (10 * co g + kx + 1) s19 := fun r k hr hk => by
                  rw [e82]
                  exact fx11 r k hr hk
                rcases m with ⟨c5, m⟩ | ⟨c5, s25, m25, _, _, s28, m28, _, _, m⟩
                · rcases fnd with ⟨q, _⟩ | ⟨_, C19⟩
                  · omega
                  · have L19 : LexP R K S sl D al pt cu co (10 * co g + kx + 1) X := none s19 B19 (fun Y y1 y2 y3 y4 => cl_no (W := fun r k => 10 * co r + k < 10 * co g + kx) B19.1 B19.2.2.1 B19.2.2.2.1 hX y1 C19 hg hkK (by rw [e82]; exact fp) y4 hX0 ws y2 y3)
                    exact (ih.2 kx b s19 rr t X m B19 L19 fx19 C19 g19 st19 hkK (by omega)).tr rfl rfl fr19
                · rcases fnd with ⟨_, vg, I19⟩ | ⟨q, _⟩
                  · have fxg : tb (s19 82 g) kx = true := (fx19 g kx hg hkK).mpr (by omega)
                    obtain ⟨Y, v1, v2, v3, v4, v5, v6, v7, v8, v9⟩ := turnF B19.1 hX B19.2.2.1 B19.2.2.2.1 ⟨C11, mo, I19, hG⟩ hg hkK hX0 fxg g19 vg m25
                    have B25 : RkB R K S sl fr D al pt cu Y s25 := by
                      refine ⟨v1, v2, v3, v4, ?_⟩
                      unfold RgS
                      rw [v9 75 (by decide) (by decide) (by decide), v9 77 (by decide) (by decide) (by decide)]
                      exact B19.2.2.2.2
                    have st25 : StA (b : Int) s25 := st19.cg (by rw [v9 81 (by decide) (by decide) (by decide)]) (v9 83 (by decide) (by decide) (by decide)) (v9 85 (by decide) (by decide) (by decide))
                    obtain ⟨C28, st28, k28, g28⟩ := freshF (sl := sl) (D := D) (al := al) (pt := pt) (cu := cu) (X := Y) hR40 hK10 hF.2.1.2.2 hg st25 (by omega) m28
                    have B28 : RkB R K S sl fr D al pt cu Y s28 := B25.cg (fun x x1 x2 => k28 x (by omega))
                    have L0 : LexP R K S sl D al pt cu co (10 * co g + kx) Y := hLx.ch v7 v8 (fun r k hr hk q => v6 r k hr hk (fun q2 => by rw [q2.1, q2.2] at q; omega) ((fx19 r k hr hk).mpr (by omega)))
                    have L28 : LexP R K S sl D al pt cu co (10 * co g + kx + 1) Y := L0.st hco hg hkK hK10 rfl (fun Y' y1 _ _ _ => by
                      rcases (y1.1 g kx hg hkK).1 with y | y
                      · exact Or.inr ⟨v5, y⟩
                      · exact Or.inl (by rw [y, v5]))
                    have fx28 : FixI R K co (10 * co g + kx + 1) s28 := fun r k hr hk => by
                      rw [k28 82 (by decide), v9 82 (by decide) (by decide) (by decide)]
                      exact fx19 r k hr hk
                    have b1 : (b : Int) + 1 = ((b + 1 : Nat) : Int) := rfl
                    rw [b1] at st28
                    exact (ih.2 kx (b + 1) s28 rr t Y m B28 L28 fx28 C28 (by rw [g28, v9 81 (by decide) (by decide) (by decide)]; exact g19) st28 hkK (by omega)).tr v7 v8 (fun x hx => (k28 x (by omega)).trans ((v9 x (by omega) (by omega) (by omega)).trans (fr19 x hx)))
                  · exact absurd q c5
          · have hX1 : X g kx = 1 := by
              rcases hX01 g kx hg hkK with y | y
              · exact absurd (bit.mpr y) c3
              · exact y
            have L11 : LexP R K S sl D al pt cu co (10 * co g + kx + 1) X := hLx.st hco hg hkK hK10 rfl (fun Y' y1 _ _ _ => by
              rcases (y1.1 g kx hg hkK).1 with y | y
              · exact Or.inr ⟨hX1, y⟩
              · exact Or.inl (by rw [y, hX1]))
            exact (ih.2 kx b s11 rr t X m hB11 L11 fx11 C11 g11 st11 hkK (by omega)).tr rfl rfl fr11
    · replace m := ul_X9_rankRow_83 m
      unfold T_X9_rankRow_83 at m
      obtain ⟨_, _, _, m⟩ := m
      have e1 : (kx : Int) + 1 = ((kx + 1 : Nat) : Int) := rfl
      rw [e1] at m
      exact ih.1 (kx + 1) b s rr t X m hB hLx hfx hC h2 hst hkx (by omega)
theorem rankRowF {X : Nat → Nat → Int} {b : Nat} (hco : ∀ r r', r < R → r' < R → co r = co r' → r = r') (hS : 0 < S) (hg : g < R) (hB2 : B < 2147483647) (hB : RkB R K S sl fr D al pt cu X s) (hLx : LexP R K S sl D al pt cu co (10 * co g) X) (hfx : FixI R K co (10 * co g) s) (hst : StA (b : Int) s) (hb : (b : Int) + 11 ≤ B) (m : M_X9_rankRow s (g : Int) rr t) : RkE R K S sl fr co D al pt cu X (10 * co g + K) B s t := by
  obtain ⟨fu, m⟩ := m
  unfold T_X9_rankRow_e at m
  obtain ⟨_, _, s34, e34, s35, m35, _, _, m⟩ := m
  have k34 : ∀ x, ¬ x = 81 → s34 x = s x := fun x hx => by rw [e34, us_k hx]
  have st34 : StA (b : Int) s34 := hst.cg (by rw [e34, us_j (by decide)]) (k34 83 (by decide)) (k34 85 (by decide))
  have hK10 := hB.1.2.1.2.1
  obtain ⟨C35, st35, k35, g35⟩ := freshF (sl := sl) (D := D) (al := al) (pt := pt) (cu := cu) (X := X) hB.1.2.1.1 hK10 hB.1.2.1.2.2 hg st34 (by omega) m35
  have kk : ∀ x, ¬ x = 81 → s35 x = s x := fun x hx => (k35 x hx).trans (k34 x hx)
  have b1 : (b : Int) + 1 = ((b + 1 : Nat) : Int) := rfl
  rw [b1] at st35
  have fx35 : FixI R K co (10 * co g + 0) s35 := fun r k hr hk => by
    rw [kk 82 (by decide)]
    exact hfx r k hr hk
  exact ((rank11 hco hS hg hB2 fu).1 0 (b + 1) s35 rr t X m (hB.cg (fun x x1 x2 => kk x (by omega))) hLx fx35 C35 (by rw [g35, e34, us_at]) st35 (Nat.zero_le _) (by omega)).tr rfl rfl (fun x hx => kk x (by omega))
/-- child by child -/
theorem deal35 (hco : ∀ r r', r < R → r' < R → co r = co r' → r = r') (hS : 0 < S) (hB2 : B < 2147483647) (b : Nat) (hb : (b : Int) + 440 ≤ B) : ∀ fu : Nat, (∀ (c : Nat) (s : PS) (rr : Int) (t : PS) (X : Nat → Nat → Int), It_X9_deal fu 35 (c : Int) s rr t → (∀ c, c < 40 → (s 67 c = -1 ∧ ∀ r, r < R → ¬ co r = c) ∨ ∃ r, r < R ∧ s 67 c = (r : Int) ∧ co r = c) → RkB R K S sl fr D al pt cu X s → LexP R K S sl D al pt cu co (10 * c) X → FixI R K co (10 * c) s → StA ((b + 11 * c : Nat) : Int) s → c ≤ 40 → RkE R K S sl fr co D al pt cu X 400 B s t) ∧ ∀ (c : Nat) (s : PS) (rr : Int) (t : PS) (X : Nat → Nat → Int), It_X9_deal fu 67 (c : Int) s rr t → (∀ c, c < 40 → (s 67 c = -1 ∧ ∀ r, r < R → ¬ co r = c) ∨ ∃ r, r < R ∧ s 67 c = (r : Int) ∧ co r = c) → RkB R K S sl fr D al pt cu X s → LexP R K S sl D al pt cu co (10 * (c + 1)) X → FixI R K co (10 * (c + 1)) s → StA ((b + 11 * (c + 1) : Nat) : Int) s → c < 40 → RkE R K S sl fr co D al pt cu X 400 B s t
  | 0 => ⟨fun c s rr t X m => False.elim m, fun c s rr t X m => False.elim m⟩
  | fu + 1 => by
    have ih := deal35 hco hS hB2 b hb fu
    refine ⟨fun c s rr t X m hro hB hLx hfx hst hc => ?_, fun c s rr t X m hro hB hLx hfx hst hc => ?_⟩
    · replace m := ul_X9_deal_35 m
      unfold T_X9_deal_35 at m
      obtain ⟨_, _, m⟩ := m
      rw [Int.toNat_natCast] at m
      rcases m with ⟨c1, _, et⟩ | ⟨c1, m⟩
      · have e : c = 40 := by omega
        rw [e] at hLx hfx
        rw [et]
        exact ⟨X, hB, hLx, hfx, hst.le (by omega), rfl, rfl, fun _ _ => rfl⟩
      · have hc40 : c < 40 := by
          clear m
          omega
        have hK10 := hB.1.2.1.2.1
        rcases hro c hc40 with ⟨q1, q2⟩ | ⟨r, q1, q2, q3⟩
        · rw [q1] at m
          rcases m with ⟨_, m⟩ | ⟨y, _⟩
          · have nx : ∀ r k, r < R → k < K → (10 * co r + k < 10 * c ↔ 10 * co r + k < 10 * (c + 1)) := fun r k hr hk => by
              have z := q2 r hr
              omega
            exact ih.2 c s rr t X m hro hB (hLx.to (by omega) (fun Y _ hag r k hr hk h => hag r k hr hk ((nx r k hr hk).mpr h))) (fun r k hr hk => (hfx r k hr hk).trans (nx r k hr hk)) (hst.le (by omega)) hc40
          · exact absurd rfl y
        · rw [q2] at m
          rcases m with ⟨y, _⟩ | ⟨_, s4, m4, _, _, m⟩
          · omega
          · rw [← q3] at hLx hfx
            obtain ⟨X2, w1, w2, w3, w4, w5, w6, w7⟩ := rankRowF (B := ((b + 11 * (c + 1) : Nat) : Int)) hco hS q1 (by omega) hB hLx hfx hst (by omega) m4
            rw [q3] at w2 w3
            have nx : ∀ r k, r < R → k < K → (10 * co r + k < 10 * c + K ↔ 10 * co r + k < 10 * (c + 1)) := fun r k hr hk => by omega
            exact (ih.2 c s4 rr t X2 m (by rw [w7 67 (by omega)]; exact hro) w1 (w2.to (by omega) (fun Y _ hag r k hr hk h => hag r k hr hk ((nx r k hr hk).mpr h))) (fun r k hr hk => (w3 r k hr hk).trans (nx r k hr hk)) w4 hc40).tr w5 w6 w7
    · replace m := ul_X9_deal_67 m
      unfold T_X9_deal_67 at m
      obtain ⟨_, _, m⟩ := m
      have e1 : (c : Int) + 1 = ((c + 1 : Nat) : Int) := rfl
      rw [e1] at m
      exact ih.1 (c + 1) s rr t X m hro hB hLx hfx hst hc
/-- the class's deal: the largest, of those with most points, of those the first -/
theorem dealF (hco : ∀ r r', r < R → r' < R → co r = co r' → r = r') (hc40 : ∀ r, r < R → co r < 40) (hDp : ∀ r, r < R → 0 ≤ D r) (b : Nat) (hb : (b : Int) + 440 < 2147483647) (hF : FlS R K S sl fr D al pt cu (fun _ _ => 0) s) (hro : ∀ c, c < 40 → (s 67 c = -1 ∧ ∀ r, r < R → ¬ co r = c) ∨ ∃ r, r < R ∧ s 67 c = (r : Int) ∧ co r = c) (hst : StA (b : Int) s) (m : M_X9_deal s rr t) : ∃ X, FlS R K S sl fr D al pt cu X t ∧ RowOk R K S sl D al cu X ∧ (∀ Y, RowOk R K S sl D al cu Y → dSize R K Y ≤ dSize R K X ∧ (dSize R K Y = dSize R K X → dPts R K pt Y ≤ dPts R K pt X)) ∧ LexP R K S sl D al pt cu co 400 X ∧ StA ((b : Int) + 440) t ∧ ∀ x, ¬ (70 ≤ x ∧ x ≤ 87) → t x = s x := by
  obtain ⟨hs, ⟨hR, hK, hS24⟩, hpt, _⟩ := hF.st
  obtain ⟨fu, m⟩ := m
  unfold T_X9_deal_e at m
  obtain ⟨_, m⟩ := m
  rw [hF.1.2.1] at m
  rcases m with ⟨c, _, et⟩ | ⟨c, s9, m9, _, _, s12, m12, _, _, s15, m15, _, _, m⟩
  · have R0 : R = 0 := by omega
    rw [et]
    have ok : RowOk R K S sl D al cu (fun _ _ => 0) := by
      refine ⟨fun r k hr => absurd hr (by omega), fun r hr => absurd hr (by omega), fun k u hk hu => ?_⟩
      have z := (hF.2.2.2.2.1 k u hk hu).2.1
      unfold rStk
      rw [R0]
      show 0 ≤ cu k u - 0
      omega
    refine ⟨fun _ _ => 0, hF, ok, fun Y _ => ?_, fun Y _ _ _ => Or.inl (fun r k hr => absurd hr (by omega)), hst.le (by omega), fun _ _ => rfl⟩
    rw [R0]
    exact ⟨Int.le_refl _, fun _ => Int.le_refl _⟩
  · have R1 : 0 < R := by
      clear m m9 m12 m15
      omega
    have S1 : 0 < S := by
      have z := hs 0 R1
      omega
    obtain ⟨X, F9, C9, k9⟩ := fillF hDp hF m9
    have C9' := C9
    obtain ⟨hX, rho, kap, del, lam, Qr, Qk, hL, hD, _, _⟩ := C9'
    obtain ⟨F12, L12, D12, g1, g2, k12⟩ := levelF S1 F9 hL hD m12
    obtain ⟨a1, a2⟩ := fill82X m15
    have B15 : RkB R K S sl fr D al pt cu X s15 := RkB.cg ⟨F12, hX, L12, D12, g1, g2⟩ (fun x x1 x2 => a2 x (by omega))
    have kk : ∀ x, ¬ (70 ≤ x ∧ x ≤ 80) → ¬ x = 82 → s15 x = s x := fun x x1 x2 => (a2 x x2).trans ((k12 x (by omega)).trans (k9 x x1))
    have L0 : LexP R K S sl D al pt cu co (10 * 0) X := fun Y _ _ _ => Or.inl (fun r k _ _ q => absurd q (by omega))
    have f0 : FixI R K co (10 * 0) s15 := fun r k hr hk => by
      rw [a1 r (by omega)]
      constructor
      · intro q
        rw [tb_zero (by omega)] at q
        exact absurd q (by decide)
      · intro q
        omega
    have st0 : StA ((b + 11 * 0 : Nat) : Int) s15 := hst.cg (by rw [kk 81 (by omega) (by decide)]) (kk 83 (by omega) (by decide)) (kk 85 (by omega) (by decide))
    obtain ⟨X2, w1, w2, w3, w4, w5, w6, w7⟩ := (deal35 (B := (b : Int) + 440) hco S1 hb b (Int.le_refl _) fu).1 0 s15 rr t X m (by rw [kk 67 (by omega) (by decide)]; exact hro) B15 L0 f0 st0 (by decide)
    refine ⟨X2, w1.1, w1.2.1, fun Y hY => ?_, w2, w4, fun x hx => (w7 x (by omega)).trans (kk x (by omega) (by omega))⟩
    obtain ⟨y1, y2⟩ := cert_best hs hR hK hpt C9 hY
    rw [w5, w6]
    exact ⟨y1, y2⟩
end Rk2
