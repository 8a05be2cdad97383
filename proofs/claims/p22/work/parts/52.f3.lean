/-! the filler: all rows are served -/
section Fil
variable {R K S : Nat} {sl fr : Nat → Nat} {D D1 D2 : Nat → Int} {al : Nat → Nat → Prop} {pt cu X Y : Nat → Nat → Int} {root : Nat} {s t u v : PS} {rr : Int}
theorem startQF (m : M_X2_startQueue s rr t) : t 74 9 = 0 ∧ t 74 10 = 0 ∧ (∀ q, q < 40 → t 80 q = 0) ∧ (∀ x, ¬ x = 74 → ¬ x = 80 → t x = s x) ∧ ∀ j, ¬ j = 9 → ¬ j = 10 → t 74 j = s 74 j := by
  unfold M_X2_startQueue T_X2_startQueue_e at m
  obtain ⟨_, s1, e1, s2, e2, s3, m3, _, _, _, et⟩ := m
  obtain ⟨w1, w2⟩ := fill80X m3
  have k : ∀ j, t 74 j = if j = 10 then 0 else if j = 9 then 0 else s 74 j := fun j => by
    rw [et, w2 74 (by decide), e2, us_if, e1, us_if]
  refine ⟨by rw [k]; rfl, by rw [k]; rfl, fun q hq => by rw [et]; exact w1 q hq, fun x x1 x2 => by rw [et, w2 x x2, e2, us_k x1, e1, us_k x1], fun j j1 j2 => by rw [k, if_neg j2, if_neg j1]⟩
theorem servesF (hF : FlS R K S sl fr D al pt cu X s) (hC : CertF R K S sl al pt cu D1 X) (hroot : root < R) (hu : sgN (X root) K = D1 root) (m : M_X2_serves s (root : Int) rr t) : (∀ x, ¬ (70 ≤ x ∧ x ≤ 80) → t x = s x) ∧ ((rr = 1 ∧ ∃ Y, FlS R K S sl fr D al pt cu Y t ∧ CertF R K S sl al pt cu (upD D1 root (D1 root + 1)) Y ∧ sgN (Y root) K = D1 root + 1) ∨ (rr = 0 ∧ FlS R K S sl fr D al pt cu X t ∧ ∀ w, D1 root ≤ w → CertF R K S sl al pt cu (upD D1 root w) X)) := by
  obtain ⟨hs, ⟨hR, hK, hS⟩, hpt, hX01⟩ := hF.st
  have sroot := hs root hroot
  have far : FARz = 1152921504606846976 := rfl
  obtain ⟨hX, rho, kap, del, lam, Qr, Qk, hL, hD, hQ, hQ6⟩ := hC
  obtain ⟨fu, m⟩ := m
  unfold T_X2_serves_e at m
  obtain ⟨_, _, s2, m2, _, _, s6, m6, _, _, s10, m10, _, _, s14, e14, s15, m15, _, _, s19, m19, _, _, r24, s23, m23, _, _, _, m⟩ := m
  rw [Int.toNat_natCast] at e14
  obtain ⟨a1, a2⟩ := fill75X m2
  obtain ⟨b1, b2⟩ := fill77X m6
  obtain ⟨c1, c2, c3, c4, c5⟩ := startQF m10
  have k75 : ∀ q, q < 40 → s14 75 q = if q = root then 0 else FARz := fun q hq => by
    rw [e14, us_if]
    by_cases y : q = root
    · rw [if_pos y, if_pos y]
    · rw [if_neg y, if_neg y, c4 75 (by decide) (by decide), b2 75 (by decide), a1 q hq]
  have k77 : ∀ q, q < 240 → s14 77 q = FARz := fun q hq => by
    rw [e14, us_k (by decide), c4 77 (by decide) (by decide), b1 q hq]
  have k80 : ∀ q, q < 40 → s14 80 q = 0 := fun q hq => by rw [e14, us_k (by decide), c3 q hq]
  have k74 : ∀ j, s14 74 j = s10 74 j := fun j => by rw [e14, us_k (by decide)]
  have ko : ∀ x, ¬ x = 74 → ¬ x = 75 → ¬ x = 77 → ¬ x = 80 → s14 x = s x := fun x x1 x2 x3 x4 => by rw [e14, us_k x2, c4 x x1 x4, b2 x x3, a2 x x2]
  have q14 : QuI R (fun _ => []) 0 0 0 s14 := ⟨⟨by rw [k74, c1]; rfl, by rw [k74, c2]; rfl, Nat.le_refl _, Nat.zero_le _⟩, fun p _ p2 => absurd p2 (Nat.not_lt_zero _), fun p _ _ p2 => absurd p2 (Nat.not_lt_zero _), fun r hr => Or.inl (k80 r (by omega))⟩
  obtain ⟨⟨Tl, q15, _⟩, n1, n2, n3, n4⟩ := enq (h2 := fun r => if r = root then [(root, 0)] else []) q14 hR hroot (by omega) m15 (fun v _ _ => Nat.zero_le _) (by
    show 0 + 40 < 0 + 41 * (if root = root then [((root, 0) : Nat × Int)] else []).length
    rw [if_pos rfl, List.length_singleton]
    omega)
  have F15 : FlS R K S sl fr D al pt cu X s15 := hF.cg (fun x x1 x2 => by rw [n1 x (by omega) (by omega) (by omega), ko x (by omega) (by omega) (by omega) (by omega)])
  have j75 : ∀ q, q < 40 → s15 75 q = if q = root then 0 else FARz := fun q hq => by rw [n1 75 (by decide) (by decide) (by decide)]; exact k75 q hq
  have j77 : ∀ q, q < 240 → s15 77 q = FARz := fun q hq => by rw [n1 77 (by decide) (by decide) (by decide)]; exact k77 q hq
  have i77 : ∀ k x, k < K → x < S → s15 77 (24 * k + x) = FARz := fun k x q1 q2 => j77 _ (by omega)
  have hrt : ∀ r, r < R → s15 75 r < FARz → r = root := fun r hr q => by
    rw [j75 r (by omega)] at q
    by_cases y : r = root
    · exact y
    · rw [if_neg y] at q
      omega
  have rt0 : s15 75 root = 0 := by rw [j75 root (by omega), if_pos rfl]
  have G15 : FiH True R K S sl al pt cu X root (ndP rho del lam) kap 0 0 (fun r => if r = root then [(root, 0)] else []) (fun _ _ => []) s15 := by
    refine ⟨⟨fun r hr => ?_, fun k x q1 q2 => Int.le_of_eq (i77 k x q1 q2)⟩, fun r hr q => ?_, fun k x q1 q2 q3 => absurd q3 (by rw [i77 k x q1 q2]; omega), ⟨fun k x q1 q2 => by rw [i77 k x q1 (by omega), i77 k (x + 1) q1 q2]; exact Int.le_refl _, fun k x q1 q2 _ => by rw [i77 k x q1 (by omega), i77 k (x + 1) q1 q2]; exact Int.le_refl _, fun r k q1 q2 _ q4 => absurd q4 (by rw [i77 k (sl r) q2 (hs r q1)]; omega)⟩, ⟨fun _ _ _ _ => Nat.zero_le _, fun _ _ _ _ => Nat.zero_le _, fun r hr q => ⟨?_, Nat.zero_le _⟩⟩, fun _ => ⟨⟨fun r hr q => ?_, fun k x q1 q2 q3 => absurd q3 (by rw [i77 k x q1 q2]; omega)⟩, fun k x q1 q2 q3 => absurd q3 (by rw [i77 k x q1 q2]; omega), fun r hr q q2 => absurd (hrt r hr q) q2⟩⟩
    · rw [j75 r (by omega)]
      split <;> omega
    · have e := hrt r hr q
      show (∃ tl, (if r = root then [((root, 0) : Nat × Int)] else []) = (r, s15 75 r) :: tl) ∧ Hist (ndP rho del lam) (ndD R s15) (if r = root then [((root, 0) : Nat × Int)] else []) (s15 75 r - ndP rho del lam r) ∧ (- (8589934592 * ((if r = root then [((root, 0) : Nat × Int)] else []).length : Int)) ≤ s15 75 r ∧ s15 75 r ≤ 8589934592 * ((if r = root then [((root, 0) : Nat × Int)] else []).length : Int))
      rw [if_pos e, e, rt0]
      refine ⟨⟨[], rfl⟩, Hist.one (by omega) (by rw [ndD_r hR hroot, rt0]; exact Int.le_refl _), ?_⟩
      rw [List.length_singleton]
      omega
    · by_cases y : r = root
      · rw [y, rt0]
        omega
      · have z := n3 r hr y
        rw [k80 r (by omega)] at z
        exact absurd z q
    · show (root, (0 : Int)) ∈ (if r = root then [((root, 0) : Nat × Int)] else [])
      rw [if_pos (hrt r hr q)]
      exact List.mem_singleton.mpr rfl
  have A15 : A1x R K sl al pt X (fun _ _ => False) s15 := fun r k q1 q2 q3 q4 _ _ _ => by
    rw [hrt r q1 q4] at q3
    exact absurd q3 n4
  obtain ⟨fq, m19⟩ := m19
  unfold T_X2_runQueue_e at m19
  obtain ⟨_, m19⟩ := m19
  have m20 : It_X2_runQueue fq 2 (((0 : Nat) : Int) - ((0 : Nat) : Int)) 0 0 0 s15 0 s19 := m19
  obtain ⟨h, hk, Hd, Q19, G19, A19, z80, _, o1, o2, o3, o4⟩ := (runq (P0 := 0) hL (by omega) fq).1 0 s15 0 s19 _ _ Tl m20 F15 G15 A15 q15 (Nat.le_refl _) (by omega)
  have F19 : FlS R K S sl fr D al pt cu X s19 := F15.cg (fun x x1 x2 => o1 x (by omega))
  have N19 : FinS R K S sl al pt cu X root (ndP rho del lam) kap h hk s19 := ⟨G19, A19, z80⟩
  have kf : ∀ x, ¬ (70 ≤ x ∧ x ≤ 80) → s19 x = s x := fun x hx => by rw [o1 x (by omega), n1 x (by omega) (by omega) (by omega), ko x (by omega) (by omega) (by omega) (by omega)]
  have rz : s19 75 root ≤ 0 := by
    have z := o3 root hroot
    omega
  have rzp : 0 ≤ s19 75 root := by
    have z := (N19.rt hR hroot hroot (by omega)).1
    omega
  obtain ⟨e23, res⟩ := leftF (by omega) F19 m23
  rw [e23] at m
  have e64 : s 64 2 = (S : Int) := hF.1.2.2
  rcases res with ⟨r1, hno⟩ | ⟨k, hkK, r1, hstk, hlt, hmin⟩
  · rw [r1] at m
    rcases m with ⟨_, r29, s28, m28, _, _, _, m⟩ | ⟨c, _⟩
    · obtain ⟨e28, res2⟩ := loserF F19 m28
      rw [e28] at m
      cases fu with
      | zero =>
        rcases m with ⟨_, m⟩ | ⟨_, s33, _, _, _, m⟩
        · exact False.elim m
        · exact False.elim m
      | succ fu =>
        rcases m with ⟨c, m⟩ | ⟨c, s33, m33, _, _, m⟩
        · replace m := ul_X2_serves_103 m
          unfold T_X2_serves_103 at m
          obtain ⟨_, _, _, _, m⟩ := m
          rcases m with ⟨_, er, et⟩ | ⟨c2, _⟩
          · rw [et]
            refine ⟨kf, Or.inr ⟨er, F19, fun w hw => ?_⟩⟩
            rcases res2 with ⟨_, hpos⟩ | ⟨lo, _, y, _⟩
            · exact serves_n F19 hX hL hD hQ hQ6 hroot hu N19 rz hno hpos hw
            · omega
          · exact absurd c c2
        · replace m := ul_X2_serves_103 m
          unfold T_X2_serves_103 at m
          obtain ⟨_, _, _, _, m⟩ := m
          rcases m with ⟨c2, _⟩ | ⟨_, er, et⟩
          · exact absurd c2 c
          · rcases res2 with ⟨y, _⟩ | ⟨lo, hlo, y, hneg, hmin⟩
            · exact absurd y c
            · rw [y] at m33
              obtain ⟨Y, w1, w2, w3, w4⟩ := serves_o F19 hX hL hD hQ hQ6 hroot hu N19 rzp hno hlo hneg hmin m33
              rw [et]
              exact ⟨fun x hx => by rw [w4 x (by omega) (by omega) (by omega)]; exact kf x hx, Or.inl ⟨er, Y, w1, w2, w3⟩⟩
    · exact absurd rfl c
  · rw [r1] at m
    rcases m with ⟨c, _⟩ | ⟨_, s37, m37, _, _, s40, m40, _, _, er, et⟩
    · exact absurd c (by omega)
    · have ei : (((k : Int) * 24) + (s 64 2) - 1).toNat = 24 * k + (S - 1) := by
        rw [e64]
        omega
      rw [ei] at m37 m40
      obtain ⟨Y, w1, w2, w3, w4⟩ := serves_l F19 hX hL hD hQ hQ6 hroot hu N19 hkK hstk hlt hmin m37 m40
      rw [et]
      exact ⟨fun x hx => by rw [w4 x (by omega) (by omega) (by omega)]; exact kf x hx, Or.inl ⟨er, Y, w1, w2, w3⟩⟩
theorem CertF.cd (h : CertF R K S sl al pt cu D1 X) (e : ∀ r, r < R → D1 r = D2 r) : CertF R K S sl al pt cu D2 X := by
  obtain ⟨⟨x1, x2, x3⟩, rho, kap, del, lam, Qr, Qk, hL, ⟨d1, d2⟩, hQ, hQ6⟩ := h
  exact ⟨⟨x1, fun r hr => by rw [← e r hr]; exact x2 r hr, x3⟩, rho, kap, del, lam, Qr, Qk, hL, ⟨d1, fun r hr q => d2 r hr (by rw [e r hr]; exact q)⟩, hQ, fun r hr q => hQ6 r hr (by rw [e r hr]; exact q)⟩
def Dto (D : Nat → Int) (x : Nat) (a : Nat) : Int := if a < x then D a else 0
theorem fillL (hDp : ∀ r, r < R → 0 ≤ D r) (s0 : PS) : ∀ fu : Nat, (∀ (x : Nat) (s : PS) (rr : Int) (t : PS) (X : Nat → Nat → Int), It_X2_fill fu 2 (x : Int) 0 0 s rr t → FlS R K S sl fr D al pt cu X s → CertF R K S sl al pt cu (Dto D x) X → x ≤ R → (∀ y, ¬ (70 ≤ y ∧ y ≤ 80) → s y = s0 y) → ∃ Y, FlS R K S sl fr D al pt cu Y t ∧ CertF R K S sl al pt cu D Y ∧ ∀ y, ¬ (70 ≤ y ∧ y ≤ 80) → t y = s0 y) ∧ (∀ (x i : Nat) (more : Int) (s : PS) (rr : Int) (t : PS) (X : Nat → Nat → Int), It_X2_fill fu 17 (x : Int) more (i : Int) s rr t → FlS R K S sl fr D al pt cu X s → x < R → (i : Int) ≤ D x → ((¬ more = 0 ∧ CertF R K S sl al pt cu (upD (Dto D x) x (i : Int)) X ∧ sgN (X x) K = (i : Int)) ∨ (more = 0 ∧ ∀ w, (i : Int) - 1 ≤ w → CertF R K S sl al pt cu (upD (Dto D x) x w) X)) → (∀ y, ¬ (70 ≤ y ∧ y ≤ 80) → s y = s0 y) → ∃ Y, FlS R K S sl fr D al pt cu Y t ∧ CertF R K S sl al pt cu D Y ∧ ∀ y, ¬ (70 ≤ y ∧ y ≤ 80) → t y = s0 y) ∧ ∀ (x : Nat) (i : Int) (more : Int) (s : PS) (rr : Int) (t : PS) (X : Nat → Nat → Int), It_X2_fill fu 46 (x : Int) more i s rr t → FlS R K S sl fr D al pt cu X s → CertF R K S sl al pt cu (upD (Dto D x) x (D x)) X → x < R → (∀ y, ¬ (70 ≤ y ∧ y ≤ 80) → s y = s0 y) → ∃ Y, FlS R K S sl fr D al pt cu Y t ∧ CertF R K S sl al pt cu D Y ∧ ∀ y, ¬ (70 ≤ y ∧ y ≤ 80) → t y = s0 y
  | 0 => ⟨fun x s rr t X h => False.elim h, fun x i more s rr t X h => False.elim h, fun x i more s rr t X h => False.elim h⟩
  | fu + 1 => by
    have ih := fillL hDp s0 fu
    refine ⟨fun x s rr t X h hF hC hx hk => ?_, fun x i more s rr t X h hF hx hi hS hk => ?_, fun x i more s rr t X h hF hC hx hk => ?_⟩
    · replace h := ul_X2_fill_2 h
      unfold T_X2_fill_2 at h
      obtain ⟨_, _, h⟩ := h
      rw [hF.1.2.1] at h
      rcases h with ⟨c, _, et⟩ | ⟨c, h⟩
      · have e : x = R := by omega
        rw [et]
        refine ⟨X, hF, hC.cd (fun r hr => ?_), hk⟩
        unfold Dto
        rw [if_pos (by omega)]
      · have hxR : x < R := by
          clear h
          omega
        have u0 : sgN (X x) K = 0 := by
          have z := hC.1.2.1 x hxR
          unfold Dto at z
          rw [if_neg (Nat.lt_irrefl x)] at z
          have y := sgN_nn K (f := X x) (fun k hk2 => by
            have w := hF.st.2.2.2 x k hxR hk2
            omega)
          omega
        refine ih.2.1 x 0 1 s rr t X h hF hxR (hDp x hxR) (Or.inl ⟨by decide, hC.cd (fun r hr => ?_), u0⟩) hk
        unfold upD Dto
        by_cases y : r = x
        · rw [if_pos y, if_neg (by omega)]
          rfl
        · rw [if_neg y]
    · replace h := ul_X2_fill_17 h
      unfold T_X2_fill_17 at h
      obtain ⟨_, _, _, _, h⟩ := h
      rw [Int.toNat_natCast, (hF.2.2.1 x hx).2.2.1] at h
      rcases h with ⟨c, h⟩ | ⟨c, h⟩
      · have e : (i : Int) = D x := by
          clear h
          omega
        refine ih.2.2 x _ more s rr t X h hF ?_ hx hk
        rcases hS with ⟨_, z, _⟩ | ⟨_, z⟩
        · rw [← e]
          exact z
        · exact z (D x) (by omega)
      · rcases h with ⟨c2, h⟩ | ⟨c2, r5, s4, m4, _, _, _, h⟩
        · refine ih.2.2 x _ more s rr t X h hF ?_ hx hk
          rcases hS with ⟨z, _⟩ | ⟨_, z⟩
          · exact absurd c2 z
          · exact z (D x) (by clear h; omega)
        · rcases hS with ⟨_, z1, z2⟩ | ⟨z, _⟩
          · have d1 : upD (Dto D x) x (i : Int) x = (i : Int) := if_pos rfl
            obtain ⟨w1, w2⟩ := servesF hF z1 hx (by rw [d1]; exact z2) m4
            have up2 : ∀ w, upD (upD (Dto D x) x (i : Int)) x w = upD (Dto D x) x w := fun w => funext (fun a => by
              unfold upD
              by_cases y : a = x
              · rw [if_pos y, if_pos y]
              · rw [if_neg y, if_neg y, if_neg y])
            have hk4 : ∀ y, ¬ (70 ≤ y ∧ y ≤ 80) → s4 y = s0 y := fun y hy => (w1 y hy).trans (hk y hy)
            have i1 : (i : Int) + 1 ≤ D x := by
              clear h
              omega
            rw [d1] at w2
            rcases w2 with ⟨e5, Y, v1, v2, v3⟩ | ⟨e5, v1, v2⟩
            · rw [up2] at v2
              exact ih.2.1 x (i + 1) r5 s4 rr t Y h v1 hx i1 (Or.inl ⟨by rw [e5]; decide, v2, v3⟩) hk4
            · refine ih.2.1 x (i + 1) r5 s4 rr t X h v1 hx i1 (Or.inr ⟨e5, fun w hw => ?_⟩) hk4
              have y := v2 w (by
                have e : ((i + 1 : Nat) : Int) = (i : Int) + 1 := rfl
                omega)
              rw [up2] at y
              exact y
          · exact absurd z c2
    · replace h := ul_X2_fill_46 h
      unfold T_X2_fill_46 at h
      obtain ⟨_, _, _, _, h⟩ := h
      refine ih.1 (x + 1) s rr t X h hF (hC.cd (fun r hr => ?_)) (by omega) hk
      unfold upD Dto
      by_cases y : r = x
      · rw [if_pos y, if_pos (by omega), y]
      · rw [if_neg y]
        by_cases y2 : r < x
        · rw [if_pos y2, if_pos (by omega)]
        · rw [if_neg y2, if_neg (by omega)]
theorem Cert0 (hpt : ∀ r k, r < R → k < K → -2147483648 ≤ pt r k ∧ pt r k ≤ 2147483648) (hcu : ∀ k x, k < K → x < S → 0 ≤ cu k x) : CertF R K S sl al pt cu (Dto D 0) (fun _ _ => 0) := by
  have u0 : ∀ r : Nat, sgN ((fun _ _ => 0 : Nat → Nat → Int) r) K = 0 := fun r => sgN_0 K (fun _ _ => rfl)
  have d0 : ∀ a, Dto D 0 a = 0 := fun a => if_neg (Nat.not_lt_zero a)
  have n1 : ∀ r k : Nat, (fun _ _ => 0 : Nat → Nat → Int) r k = 1 → False := fun r k q => absurd (show (0 : Int) = 1 from q) (by decide)
  refine ⟨⟨fun r k _ _ => ⟨Or.inl rfl, fun q => (n1 r k q).elim⟩, fun r _ => by rw [u0 r, d0]; exact Int.le_refl _, fun k x a b => ?_⟩, fun _ => 2147483648, fun _ _ => 0, 0, 0, fun _ => False, fun _ _ => False, ⟨fun r k a b _ _ _ => ?_, fun r k _ _ _ q => (n1 r k q).elim, fun _ _ _ _ => Int.le_refl _, fun _ _ _ _ _ => Int.le_refl _, fun _ _ => rfl⟩, ⟨fun r _ q => ?_, fun r _ q => ?_⟩, ClQ.no, fun r _ q => ?_⟩
  · unfold rStk
    rw [sgN_0 R (fun r _ => by split <;> rfl), Int.sub_zero]
    exact hcu k x a b
  · have z := (hpt r k a b).2
    show (0 : Int) ≤ 2147483648 - pt r k
    omega
  · rw [u0 r] at q
    exact absurd q (by decide)
  · rw [u0 r, d0] at q
    exact absurd q (by decide)
  · rw [u0 r, d0] at q
    exact absurd q (by decide)
theorem fillF (hDp : ∀ r, r < R → 0 ≤ D r) (hF : FlS R K S sl fr D al pt cu (fun _ _ => 0) s) (m : M_X2_fill s rr t) : ∃ Y, FlS R K S sl fr D al pt cu Y t ∧ CertF R K S sl al pt cu D Y ∧ ∀ y, ¬ (70 ≤ y ∧ y ≤ 80) → t y = s y := by
  obtain ⟨fu, m⟩ := m
  unfold T_X2_fill_e at m
  obtain ⟨_, m⟩ := m
  exact (fillL hDp s fu).1 0 s rr t _ m hF (Cert0 hF.st.2.2.1 (fun k x a b => (hF.2.2.2.2.1 k x a b).2.1)) (Nat.zero_le _) (fun _ _ => rfl)
/-- what such a certificate says: none is larger; of those as large none has more points -/
theorem cert_best (hs : ∀ r, r < R → sl r < S) (hR : R ≤ 40) (hK : K ≤ 10) (hpt : ∀ r k, r < R → k < K → -2147483648 ≤ pt r k ∧ pt r k ≤ 2147483648) (hC : CertF R K S sl al pt cu D X) (hY : RowOk R K S sl D al cu Y) : dSize R K Y ≤ dSize R K X ∧ (dSize R K Y = dSize R K X → dPts R K pt Y ≤ dPts R K pt X) := by
  obtain ⟨hX, rho, kap, del, lam, Qr, Qk, ⟨l1, l2, l3, l4, l5⟩, ⟨d1, d2⟩, ⟨q1, q2, q3, q4, q5⟩, hQ6⟩ := hC
  generalize hB : (if del - lam ≤ - 1000000000000000 then 0 else del - lam + 1000000000000000) = C
  have C0 : 0 ≤ C ∧ del - C - lam ≤ - 1000000000000000 := by
    rw [← hB]
    split <;> omega
  have hL2 : Lab4 (fun _ _ => False) R K S sl al pt cu X (fun r => @ite _ (Qr r) (Classical.propDecidable _) (rho r - C) (rho r)) (fun k u => @ite _ (u < S ∧ Qk k u) (Classical.propDecidable _) (kap k u - C) (kap k u)) lam := by
    refine ⟨fun r k a b _ ha hx => ?_, fun r k a b _ hx => ?_, fun k u a b => ?_, fun k u a b hp => ?_, fun k a => ?_⟩
    · have z := l1 r k a b (fun q => q) ha hx
      show (@ite _ (sl r < S ∧ Qk k (sl r)) (Classical.propDecidable _) (kap k (sl r) - C) (kap k (sl r))) ≤ (@ite _ (Qr r) (Classical.propDecidable _) (rho r - C) (rho r)) - pt r k
      by_cases c : Qr r
      · rw [if_pos c, if_pos ⟨hs r a, q1 r k a b ha hx c⟩]
        omega
      · rw [if_neg c]
        by_cases c2 : sl r < S ∧ Qk k (sl r)
        · rw [if_pos c2]
          omega
        · rw [if_neg c2]
          exact z
    · have z := l2 r k a b (fun q => q) hx
      show (@ite _ (Qr r) (Classical.propDecidable _) (rho r - C) (rho r)) ≤ (@ite _ (sl r < S ∧ Qk k (sl r)) (Classical.propDecidable _) (kap k (sl r) - C) (kap k (sl r))) + pt r k
      by_cases c : sl r < S ∧ Qk k (sl r)
      · rw [if_pos c, if_pos (q4 r k a b hx c.2)]
        omega
      · rw [if_neg c]
        by_cases c2 : Qr r
        · rw [if_pos c2]
          omega
        · rw [if_neg c2]
          exact z
    · have z := l3 k u a b
      show (@ite _ (u < S ∧ Qk k u) (Classical.propDecidable _) (kap k u - C) (kap k u)) ≤ (@ite _ (u + 1 < S ∧ Qk k (u + 1)) (Classical.propDecidable _) (kap k (u + 1) - C) (kap k (u + 1)))
      by_cases c : u + 1 < S ∧ Qk k (u + 1)
      · rw [if_pos c, if_pos ⟨b, q2 k u a c.1 c.2⟩]
        omega
      · rw [if_neg c]
        by_cases c2 : u < S ∧ Qk k u
        · rw [if_pos c2]
          omega
        · rw [if_neg c2]
          exact z
    · have z := l4 k u a b hp
      show (@ite _ (u + 1 < S ∧ Qk k (u + 1)) (Classical.propDecidable _) (kap k (u + 1) - C) (kap k (u + 1))) ≤ (@ite _ (u < S ∧ Qk k u) (Classical.propDecidable _) (kap k u - C) (kap k u))
      by_cases c : u < S ∧ Qk k u
      · rw [if_pos c]
        by_cases c2 : u + 1 < S
        · rw [if_pos ⟨c2, q3 k u a c2 hp c.2⟩]
          omega
        · have e : u = S - 1 := by omega
          have c3 := c.2
          rw [e] at c3 hp
          have w := q5 k a c3
          omega
      · rw [if_neg c]
        by_cases c2 : u + 1 < S ∧ Qk k (u + 1)
        · rw [if_pos c2]
          omega
        · rw [if_neg c2]
          exact z
    · show (@ite _ (S < S ∧ Qk k S) (Classical.propDecidable _) (kap k S - C) (kap k S)) = lam
      rw [if_neg (fun c => Nat.lt_irrefl _ c.1)]
      exact l5 k a
  have hD2 : LabD R K D X (fun r => @ite _ (Qr r) (Classical.propDecidable _) (rho r - C) (rho r)) (del - C) := by
    refine ⟨fun r a q => ?_, fun r a q => ?_⟩
    · have z := d1 r a q
      show del - C ≤ (@ite _ (Qr r) (Classical.propDecidable _) (rho r - C) (rho r))
      by_cases c : Qr r
      · rw [if_pos c]
        omega
      · rw [if_neg c]
        omega
    · have z := d2 r a q
      show (@ite _ (Qr r) (Classical.propDecidable _) (rho r - C) (rho r)) ≤ del - C
      rw [if_pos (hQ6 r a q)]
      omega
  have main := lab_best hs hL2 hD2 hX hY (fun r k _ _ q => q.elim)
  have bnd : ∀ Z : Nat → Nat → Int, (∀ r k, r < R → k < K → Z r k = 0 ∨ Z r k = 1) → - 858993459200 ≤ dPts R K pt Z ∧ dPts R K pt Z ≤ 858993459200 := by
    intro Z hZ
    have row : ∀ r, r < R → - 21474836480 ≤ sgN (fun i => pt r i * Z r i) K ∧ sgN (fun i => pt r i * Z r i) K ≤ 21474836480 := by
      intro r hr
      have one : ∀ i, i < K → -2147483648 ≤ pt r i * Z r i ∧ pt r i * Z r i ≤ 2147483648 := fun i hi => by
        have p := hpt r i hr hi
        rcases hZ r i hr hi with z | z
        · rw [z, Int.mul_zero]
          omega
        · rw [z, Int.mul_one]
          exact p
      have a := sgN_le K (f := fun _ => -2147483648) (g := fun i => pt r i * Z r i) (fun i hi => (one i hi).1)
      have b := sgN_le K (f := fun i => pt r i * Z r i) (g := fun _ => 2147483648) (fun i hi => (one i hi).2)
      have e1 : ∀ (c : Int) (n : Nat), sgN (fun _ => c) n = c * (n : Int) := fun c n => by
        induction n with
        | zero => exact (Int.mul_zero c).symm
        | succ n ih =>
          show sgN (fun _ => c) n + c = c * ((n : Int) + 1)
          rw [ih, Int.mul_add, Int.mul_one]
      rw [e1] at a b
      omega
    have a := sgN_le R (f := fun _ => - 21474836480) (g := fun r => sgN (fun i => pt r i * Z r i) K) (fun r hr => (row r hr).1)
    have b := sgN_le R (f := fun r => sgN (fun i => pt r i * Z r i) K) (g := fun _ => 21474836480) (fun r hr => (row r hr).2)
    have e1 : ∀ (c : Int) (n : Nat), sgN (fun _ => c) n = c * (n : Int) := fun c n => by
      induction n with
      | zero => exact (Int.mul_zero c).symm
      | succ n ih =>
        show sgN (fun _ => c) n + c = c * ((n : Int) + 1)
        rw [ih, Int.mul_add, Int.mul_one]
    rw [e1] at a b
    unfold dPts
    omega
  have bX := bnd X (fun r k a b => (hX.1 r k a b).1)
  have bY := bnd Y (fun r k a b => (hY.1 r k a b).1)
  have szle : dSize R K Y ≤ dSize R K X := by
    by_cases q : dSize R K Y ≤ dSize R K X
    · exact q
    · have z : (1000000000000000 + (del - C - lam)) * (dSize R K Y - dSize R K X) ≤ 0 := by
        have y : 0 ≤ (- (1000000000000000 + (del - C - lam))) * (dSize R K Y - dSize R K X) := Int.mul_nonneg (by omega) (by omega)
        rw [Int.neg_mul] at y
        omega
      rw [Int.add_mul] at z
      omega
  refine ⟨szle, fun e => ?_⟩
  rw [e, Int.sub_self, Int.mul_zero] at main
  omega
end Fil
