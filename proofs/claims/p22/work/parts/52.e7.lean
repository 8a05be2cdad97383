/-! the filler: the queue is worked off -/
/-- at the end of a queue -/
def RunQ (Ptr : Prop) (R K S : Nat) (sl : Nat → Nat) (al : Nat → Nat → Prop) (pt cu X : Nat → Nat → Int) (root : Nat) (pi : Nat → Int) (kap : Nat → Nat → Int) (j P0 : Nat) (s t : PS) : Prop := ∃ h hk Hd, QuI R h P0 Hd Hd t ∧ FiH Ptr R K S sl al pt cu X root pi kap j j h hk t ∧ A1x R K sl al pt X (fun _ _ => False) t ∧ (∀ r, r < R → t 80 r = 0) ∧ Hd ≤ P0 + 1722 ∧ (∀ x, ¬ (74 ≤ x ∧ x ≤ 80) → t x = s x) ∧ (∀ i, ¬ i = 9 → ¬ i = 10 → t 74 i = s 74 i) ∧ (∀ r, r < R → t 75 r ≤ s 75 r) ∧ ∀ k u, k < K → u < S → t 77 (24 * k + u) ≤ s 77 (24 * k + u)
section Runq
variable {Ptr : Prop} {R K S : Nat} {sl fr : Nat → Nat} {D : Nat → Int} {al : Nat → Nat → Prop} {pt cu X : Nat → Nat → Int} {root : Nat} {pi : Nat → Int} {rho : Nat → Int} {kap : Nat → Nat → Int} {del lam : Int} {j : Nat} {h : Nat → List (Nat × Int)} {hk : Nat → Nat → List (Nat × Int)} {P0 : Nat} {s t u : PS}
theorem FiH.cg {j2 : Nat} (a : FiH Ptr R K S sl al pt cu X root pi kap j j2 h hk s) (e75 : t 75 = s 75) (e76 : t 76 = s 76) (e77 : t 77 = s 77) (e78 : t 78 = s 78) (e5 : t 74 5 = s 74 5) (e6 : t 74 6 = s 74 6) (e80 : ∀ r, r < R → ¬ t 80 r = 0 → ¬ s 80 r = 0) : FiH Ptr R K S sl al pt cu X root pi kap j j2 h hk t := by
  have en : ndD R t = ndD R s := by
    funext v
    unfold ndD
    rw [e5, e6, e75]
  obtain ⟨a1, a2, a3, a4, ⟨u1, u2, u3⟩, a6⟩ := a
  unfold FiH PtS
  rw [en, e75, e76, e77, e78, e5, e6]
  exact ⟨a1, a2, a3, a4, ⟨u1, u2, fun r hr q => u3 r hr (e80 r hr q)⟩, a6⟩
theorem RunQ.tr (a : RunQ Ptr R K S sl al pt cu X root pi kap j P0 u t) (c1 : ∀ x, ¬ (74 ≤ x ∧ x ≤ 80) → u x = s x) (c2 : ∀ i, ¬ i = 9 → ¬ i = 10 → u 74 i = s 74 i) (c3 : ∀ r, r < R → u 75 r ≤ s 75 r) (c4 : ∀ k v, k < K → v < S → u 77 (24 * k + v) ≤ s 77 (24 * k + v)) : RunQ Ptr R K S sl al pt cu X root pi kap j P0 s t := by
  obtain ⟨h, hk, Hd, a1, a2, a3, a4, a5, a6, a7, a8, a9⟩ := a
  exact ⟨h, hk, Hd, a1, a2, a3, a4, a5, fun x hx => (a6 x hx).trans (c1 x hx), fun i i1 i2 => (a7 i i1 i2).trans (c2 i i1 i2), fun r hr => Int.le_trans (a8 r hr) (c3 r hr), fun k v q1 q2 => Int.le_trans (a9 k v q1 q2) (c4 k v q1 q2)⟩
theorem runq (hL : Lab4 (fun _ _ => False) R K S sl al pt cu X rho kap lam) (hP0 : P0 ≤ 800000) : ∀ fu : Nat, (∀ (Hd : Nat) (s : PS) (rr : Int) (t : PS) (h : Nat → List (Nat × Int)) (hk : Nat → Nat → List (Nat × Int)) (Tl : Nat), It_X2_runQueue fu 2 ((Hd : Int) - (P0 : Int)) 0 0 0 s rr t → FlS R K S sl fr D al pt cu X s → FiH Ptr R K S sl al pt cu X root (ndP rho del lam) kap j j h hk s → A1x R K sl al pt X (fun _ _ => False) s → QuI R h P0 Hd Tl s → P0 ≤ Hd → Hd ≤ P0 + 1722 → RunQ Ptr R K S sl al pt cu X root (ndP rho del lam) kap j P0 s t) ∧ (∀ (Hd v kx : Nat) (op : Int) (s : PS) (rr : Int) (t : PS) (h : Nat → List (Nat × Int)) (hk : Nat → Nat → List (Nat × Int)) (Tl : Nat), It_X2_runQueue fu 74 ((Hd : Int) - (P0 : Int) - 1) (v : Int) op (kx : Int) s rr t → FlS R K S sl fr D al pt cu X s → FiH Ptr R K S sl al pt cu X root (ndP rho del lam) kap j j h hk s → A1x R K sl al pt X (fun a b => a = v ∧ kx ≤ b) s → QuI R h P0 Hd Tl s → P0 ≤ Hd → v < R → s 80 v = 0 → s 75 v < FARz → Hd ≤ P0 + 41 * (h v).length → j ≤ cnL (h v) → (∀ k, k < K → (tb op k = true ↔ al v k ∧ X v k = 0)) → kx ≤ K → RunQ Ptr R K S sl al pt cu X root (ndP rho del lam) kap j P0 s t) ∧ ∀ (Hd v kx : Nat) (op : Int) (s : PS) (rr : Int) (t : PS) (h : Nat → List (Nat × Int)) (hk : Nat → Nat → List (Nat × Int)) (Tl : Nat), It_X2_runQueue fu 129 ((Hd : Int) - (P0 : Int) - 1) (v : Int) op (kx : Int) s rr t → FlS R K S sl fr D al pt cu X s → FiH Ptr R K S sl al pt cu X root (ndP rho del lam) kap j j h hk s → A1x R K sl al pt X (fun a b => a = v ∧ kx + 1 ≤ b) s → QuI R h P0 Hd Tl s → P0 ≤ Hd → v < R → s 80 v = 0 → s 75 v < FARz → Hd ≤ P0 + 41 * (h v).length → j ≤ cnL (h v) → (∀ k, k < K → (tb op k = true ↔ al v k ∧ X v k = 0)) → kx + 1 ≤ K → RunQ Ptr R K S sl al pt cu X root (ndP rho del lam) kap j P0 s t
  | 0 => ⟨fun Hd s rr t h hk Tl m => False.elim m, fun Hd v kx op s rr t h hk Tl m => False.elim m, fun Hd v kx op s rr t h hk Tl m => False.elim m⟩
  | fu + 1 => by
    have ih := runq hL hP0 fu
    refine ⟨fun Hd s rr t h hk Tl m hF hG hA hQ hp1 hp2 => ?_, fun Hd v kx op s rr t h hk Tl m hF hG hA hQ hp1 hv h80 h75 hHd hj hop hkx => ?_, fun Hd v kx op s rr t h hk Tl m hF hG hA hQ hp1 hv h80 h75 hHd hj hop hkx => ?_⟩
    · have hF0 := hF
      obtain ⟨f1, f2, f3, f4, f5, f6, f7, f8⟩ := hF
      have hQ0 := hQ
      obtain ⟨⟨q1, q2, q3, q4⟩, q5, q6, q7⟩ := hQ
      replace m := ul_X2_runQueue_2 m
      unfold T_X2_runQueue_2 at m
      obtain ⟨_, _, m⟩ := m
      rcases m with ⟨c, _⟩ | ⟨c, m⟩
      · exact absurd c (by omega)
      · rcases m with ⟨c1, _, e⟩ | ⟨c1, s18, e18, s19, e19, m⟩
        · have eHT : Tl = Hd := by omega
          rw [eHT] at hQ0
          rw [e]
          refine ⟨h, hk, Hd, hQ0, hG, hA, fun r hr => ?_, hp2, fun _ _ => rfl, fun _ _ _ => rfl, fun _ _ => Int.le_refl _, fun _ _ _ _ => Int.le_refl _⟩
          rcases q7 r hr with z | ⟨p, p1, p2, _⟩
          · exact z
          · omega
        · have hlt : Hd < Tl := by
            clear m
            omega
          have i63 : (iAnd (s 74 9) 63).toNat = Hd % 64 := by
            rw [q1]
            exact and63i (by omega)
          obtain ⟨v, v1, v2, v3, v4⟩ := q5 Hd (Nat.le_refl _) hlt
          rw [i63, v2] at e19 m
          rw [Int.toNat_natCast] at e19 m
          have wt : wi (s 74 9 + 1) = ((Hd + 1 : Nat) : Int) := by
            rw [q1, wi_id (by omega) (by omega)]
            omega
          rw [wt] at e18
          have k19 : ∀ x, ¬ x = 74 → ¬ x = 80 → s19 x = s x := fun x x1 x2 => by rw [e19, us_k x2, e18, us_k x1]
          have k74 : ∀ i, s19 74 i = if i = 9 then ((Hd + 1 : Nat) : Int) else s 74 i := fun i => by rw [e19, us_k (by decide), e18, us_if]
          have k80 : ∀ r, s19 80 r = if r = v then 0 else s 80 r := fun r => by rw [e19, us_if, e18, us_k (by decide)]
          have F19 : FlS R K S sl fr D al pt cu X s19 := hF0.cg (fun y y1 y2 => k19 y (by omega) (by omega))
          have G19 : FiH Ptr R K S sl al pt cu X root (ndP rho del lam) kap j j h hk s19 := hG.cg (k19 75 (by decide) (by decide)) (k19 76 (by decide) (by decide)) (k19 77 (by decide) (by decide)) (k19 78 (by decide) (by decide)) (by rw [k74, if_neg (by decide)]) (by rw [k74, if_neg (by decide)]) (fun r hr z => by
            rw [k80] at z
            by_cases y : r = v
            · rw [if_pos y] at z
              exact absurd rfl z
            · rw [if_neg y] at z
              exact z)
          have rn : ∀ p, Hd + 1 ≤ p → p < Tl → ¬ s 79 (p % 64) = (v : Int) := fun p p1 p2 e => by
            have y := q6 p Hd (by omega) p2 (Nat.le_refl _) hlt (by rw [v2]; exact e)
            omega
          have Q19 : QuI R h P0 (Hd + 1) Tl s19 := by
            refine ⟨⟨by rw [k74, if_pos rfl], by rw [k74, if_neg (by decide)]; exact q2, by omega, q4⟩, fun p p1 p2 => ?_, fun p p' p1 p2 p3 p4 e => ?_, fun r hr => ?_⟩
            · obtain ⟨w, y1, y2, y3, y4⟩ := q5 p (by omega) p2
              have ne : ¬ w = v := fun e => rn p p1 p2 (by rw [y2, e])
              exact ⟨w, y1, by rw [k19 79 (by decide) (by decide)]; exact y2, by rw [k80, if_neg ne]; exact y3, y4⟩
            · rw [k19 79 (by decide) (by decide)] at e
              exact q6 p p' (by omega) p2 (by omega) p4 e
            · rw [k80, k19 79 (by decide) (by decide)]
              by_cases y : r = v
              · exact Or.inl (if_pos y)
              · rw [if_neg y]
                rcases q7 r hr with z | ⟨p, p1, p2, p3⟩
                · exact Or.inl z
                · refine Or.inr ⟨p, ?_, p2, p3⟩
                  by_cases y2 : p = Hd
                  · rw [y2, v2] at p3
                    omega
                  · omega
          obtain ⟨w75, wj⟩ := hG.2.2.2.2.1.2.2 v v1 (by rw [v3]; decide)
          have A19 : A1x R K sl al pt X (fun a b => a = v ∧ 0 ≤ b) s19 := fun r k g1 g2 g3 g4 g5 g6 g7 => by
            have ne : ¬ r = v := fun e => g5 ⟨e, Nat.zero_le _⟩
            rw [k80, if_neg ne] at g3
            rw [k19 75 (by decide) (by decide)] at g4 ⊢
            rw [k19 77 (by decide) (by decide)]
            exact hA r k g1 g2 g3 g4 (fun z => z) g6 g7
          have hop : ∀ k, k < K → (tb (iAnd (s 69 v) (iXor (s 70 v) (-1))) k = true ↔ al v k ∧ X v k = 0) := fun k hk2 => by
            obtain ⟨g1, g2, _, _, g5⟩ := f4 v k v1 hk2
            rw [tb_and2 (by omega), tb_xor2 (by omega), tb_m32 ⟨k, by omega⟩]
            constructor
            · intro z
              have z1 := Bool.and_eq_true_iff.mp z
              refine ⟨g1.mp z1.1, ?_⟩
              rcases g5 with y | y
              · exact y
              · have y2 := g2.mpr y
                rw [y2] at z1
                exact absurd z1.2 (by decide)
            · intro z
              have y2 : tb (s 70 v) k = false := by
                cases y3 : tb (s 70 v) k with
                | false => rfl
                | true =>
                  have y4 := g2.mp y3
                  have y5 := z.2
                  omega
              rw [g1.mpr z.1, y2]
              rfl
          have ex1 : (Hd : Int) - (P0 : Int) = ((Hd + 1 : Nat) : Int) - (P0 : Int) - 1 := by omega
          rw [ex1] at m
          have res := ih.2.1 (Hd + 1) v 0 _ s19 rr t h hk Tl m F19 G19 A19 Q19 (by omega) v1 (by rw [k80, if_pos rfl]) (by rw [k19 75 (by decide) (by decide)]; exact w75) (by omega) wj hop (Nat.zero_le _)
          exact res.tr (fun x hx => k19 x (by omega) (by omega)) (fun i i1 i2 => by rw [k74, if_neg i1]) (fun r hr => by rw [k19 75 (by decide) (by decide)]; exact Int.le_refl _) (fun k x q1 q2 => by rw [k19 77 (by decide) (by decide)]; exact Int.le_refl _)
    · have hF0 := hF
      obtain ⟨f1, f2, f3, f4, f5, f6, f7, f8⟩ := hF
      obtain ⟨⟨tl, htl⟩, hist, hrange⟩ := hG.2.1 v hv h75
      have hlen := hist.len
      replace m := ul_X2_runQueue_74 m
      unfold T_X2_runQueue_74 at m
      obtain ⟨_, _, _, _, m⟩ := m
      rw [f1.1, Int.toNat_natCast] at m
      rcases m with ⟨c, m⟩ | ⟨c, m⟩
      · have ex1 : (Hd : Int) - (P0 : Int) - 1 + 1 = (Hd : Int) - (P0 : Int) := by omega
        rw [ex1] at m
        exact ih.1 Hd s rr t h hk Tl m hF0 hG (fun r k g1 g2 g3 g4 _ g6 g7 => hA r k g1 g2 g3 g4 (fun z => by
          have y := z.2
          omega) g6 g7) hQ hp1 (by omega)
      · have hkx2 : kx < K := by
          clear m
          omega
        -- on to the next kind
        have next : ∀ (s1 : PS) (h1 : Nat → List (Nat × Int)) (hk1 : Nat → Nat → List (Nat × Int)) (Tl1 : Nat), It_X2_runQueue fu 129 ((Hd : Int) - (P0 : Int) - 1) (v : Int) op (kx : Int) s1 rr t → FlS R K S sl fr D al pt cu X s1 → FiH Ptr R K S sl al pt cu X root (ndP rho del lam) kap j j h1 hk1 s1 → A1x R K sl al pt X (fun a b => a = v ∧ kx + 1 ≤ b) s1 → QuI R h1 P0 Hd Tl1 s1 → s1 80 v = 0 → s1 75 v = s 75 v → h1 v = h v → RunQ Ptr R K S sl al pt cu X root (ndP rho del lam) kap j P0 s1 t := by
          intro s1 h1 hk1 Tl1 m1 F1 G1 A1 Q1 z80 z75 zh
          exact ih.2.2 Hd v kx op s1 rr t h1 hk1 Tl1 m1 F1 G1 A1 Q1 hp1 hv z80 (by rw [z75]; exact h75) (by rw [zh]; exact hHd) (by rw [zh]; exact hj) hop (by omega)
        obtain ⟨g1, g2, g3, g4, g5⟩ := f4 v kx hv hkx2
        rcases m with ⟨c1, m⟩ | ⟨c1, r7, s6, m7, _, _, s11, m11, _, _, m⟩
        · have no : ¬ (al v kx ∧ X v kx = 0) := fun z => by
            have y := (hop kx hkx2).mpr z
            unfold tb at y
            exact absurd c1 (of_decide_eq_true y)
          refine next s h hk Tl m hF0 hG (fun r k a1 a2 a3 a4 a5 a6 a7 => ?_) hQ h80 rfl rfl
          by_cases y : r = v ∧ k = kx
          · rw [y.1, y.2] at a6 a7
            exact absurd ⟨a6, a7⟩ no
          · exact hA r k a1 a2 a3 a4 (fun z => a5 ⟨z.1, by
              have y2 := z.2
              have y3 := z.1
              omega⟩) a6 a7
        · obtain ⟨yal, yX⟩ := (hop kx hkx2).mp (by
            unfold tb
            exact decide_eq_true c1)
          unfold M_X3_pointsOf T_X3_pointsOf_e at m7
          obtain ⟨_, _, _, er7, es6⟩ := m7
          have ei : (((v : Int) * 10) + (kx : Int)).toNat = 10 * v + kx := by
            clear m m11
            omega
          rw [ei, g3] at er7
          rw [er7, es6, (f3 v hv).1, wl_id (by clear m m11; omega) (by clear m m11; omega)] at m11
          have hcost : -2199023255552 ≤ s 75 v - pt v kx ∧ s 75 v - pt v kx ≤ 2199023255552 := by
            clear m m11
            omega
          obtain ⟨lo, hi, h2, w1, w2, w3, w4, w5, w6, w7, w8⟩ := wantF (hu := h v) hF0 hkx2 (f3 v hv).2.1 hcost (by omega) hHd hQ m11
          have lab := hL.1 v kx hv hkx2 (fun z => z) yal yX
          obtain ⟨⟨hk2, G2⟩, A2, _, B1, B2, B3, B4⟩ := want_st (fun r hr => (f3 r hr).2.1) f2.1 hL (fun r hr => (f4 r kx hr hkx2).2.2.2.1) hkx2 (f3 v hv).2.1 (fun r k q1 q2 => (f4 r k q1 q2).2.2.2.2) hG hA hist (by rw [ndP_r (by omega)]; omega) (by clear m m11; omega) (fun _ => ⟨hj, hj⟩) (fun _ => ⟨v, hv, rfl, rfl, rfl, rfl, h75, yal, yX⟩) w1 w2 w3 w4 w5 w6 w7 w8
          obtain ⟨B5, B6, B7⟩ := B4 (v, s 75 v) (by rw [htl]; exact List.mem_cons_self) hv
          have B5' : s11 75 v = s 75 v := B5
          have B6' : h2 v = h v := B6
          have B7' : s11 80 v = s 80 v := B7
          obtain ⟨⟨_, _, k1, k2⟩, ⟨Tl2, Q2⟩, _⟩ := w4
          refine (next s11 h2 hk2 Tl2 m (hF0.cg (fun y y1 y2 => k1 y (by omega))) G2 (fun r k a1 a2 a3 a4 a5 a6 a7 => ?_) Q2 (by rw [B7']; exact h80) B5' B6').tr (fun x hx => k1 x hx) (fun i _ i2 => k2 i i2) B2 B3
          by_cases y : r = v ∧ k = kx
          · rw [y.1, y.2, B5']
            exact B1
          · exact A2 r k a1 a2 a3 a4 (fun z => a5 ⟨z.1, by
              have y2 := z.2
              have y3 := z.1
              omega⟩) a6 a7
    · replace m := ul_X2_runQueue_129 m
      unfold T_X2_runQueue_129 at m
      obtain ⟨_, _, _, _, m⟩ := m
      exact ih.2.1 Hd v (kx + 1) op s rr t h hk Tl m hF hG hA hQ hp1 hv h80 h75 hHd hj hop hkx
end Runq
