/-! the ranker: a step of the turn, and all of it -/
section Tr2
variable {R K S g k0 : Nat} {sl fr : Nat → Nat} {D : Nat → Int} {al : Nat → Nat → Prop} {pt cu X Y : Nat → Nat → Int} {z s0 s t : PS} {rr : Int} {d k b k1 j jd r : Nat}
theorem LiI.len (h : LiI R s) : s 81 11 ≤ (R : Int) := by
  obtain ⟨T, t1, t2, t3, t4⟩ := h
  have hT : T ≤ R := php R T (fun i => (s 87 i).toNat) (fun i hi => by
    obtain ⟨a, a1, a2, _⟩ := t2 i hi
    show (s 87 i).toNat < R
    rw [a2]
    omega) (fun i j hi hj e => by
    obtain ⟨a, a1, a2, _⟩ := t2 i hi
    obtain ⟨b, b1, b2, _⟩ := t2 j hj
    have e2 : (s 87 i).toNat = (s 87 j).toNat := e
    rw [a2, b2] at e2
    exact t3 i j hi hj (by rw [a2, b2]; omega))
  omega
theorem LiI.un (h : LiI R s) {i j : Nat} (hi : (i : Int) < s 81 11) (hj : (j : Int) < s 81 11) (e : s 87 i = s 87 j) : i = j := by
  obtain ⟨T, t1, t2, t3, t4⟩ := h
  exact t3 i j (by omega) (by omega) e
theorem rStk_dt {k' u : Nat} (hd : d < R) (hb : b < R) (ydk : Y d k = 1) (ybk : Y b k1 = 0) : rStk R sl cu (upX (upX Y d k 0) b k1 1) k' u = rStk R sl cu Y k' u + (if k' = k ∧ sl d ≤ u then 1 else 0) - (if k' = k1 ∧ sl b ≤ u then 1 else 0) := by
  have hne : ¬ (b = d ∧ k1 = k) := fun q => by
    rw [q.1, q.2, ydk] at ybk
    exact absurd ybk (by decide)
  have z : upX Y d k 0 b k1 = 0 := by
    rw [upX_ne hne]
    exact ybk
  rw [rStk_up hb, rStk_up hd, z, ydk]
  by_cases c : k' = k ∧ sl d ≤ u
  · by_cases c2 : k' = k1 ∧ sl b ≤ u
    · rw [if_pos c, if_pos c, if_pos c2, if_pos c2]
      omega
    · rw [if_pos c, if_pos c, if_neg c2, if_neg c2]
      omega
  · by_cases c2 : k' = k1 ∧ sl b ≤ u
    · rw [if_neg c, if_neg c, if_pos c2, if_pos c2]
      omega
    · rw [if_neg c, if_neg c, if_neg c2, if_neg c2]
      omega
/-- what one link does to the stocks -/
theorem trn_st (hs : ∀ r, r < R → sl r < S) (hLi : LiI R s0) (hd : d < R) (l : LnkT R K S sl al pt cu X g k0 z s0 jd d k b k1) (ydk : Y d k = 1) (ybk : Y b k1 = 0) (hjd : jd ≤ j) (hj2 : (j : Int) < s0 81 11) (p3 : ∀ k u, k < K → u < S → rStk R sl cu Y k u ≤ rStk R sl cu X k u ∨ kcX S s0 k u = kcX S s0 k (u + 1)) (p4 : ∀ k u, k < K → u < S → 0 ≤ rStk R sl cu Y k u) (p6 : ∀ k u, k < K → u + 1 < S → rStk R sl cu Y k u < rStk R sl cu X k u → ∃ b i : Nat, s0 86 (24 * k + (u + 1)) = (b : Int) ∧ s0 87 i = (b : Int) ∧ j ≤ i ∧ (i : Int) < s0 81 11 ∧ ¬ b = g) (p7 : ∀ k, k < K → rStk R sl cu Y k (S - 1) < rStk R sl cu X k (S - 1) → ∃ lk b i : Nat, s0 81 13 = (lk : Int) ∧ s0 86 (24 * lk + (S - 1)) = (b : Int) ∧ s0 87 i = (b : Int) ∧ j ≤ i ∧ (i : Int) < s0 81 11 ∧ ¬ b = g) : (∀ k' u, k' < K → u < S → rStk R sl cu (upX (upX Y d k 0) b k1 1) k' u ≤ rStk R sl cu X k' u ∨ kcX S s0 k' u = kcX S s0 k' (u + 1)) ∧ (∀ k' u, k' < K → u < S → 0 ≤ rStk R sl cu (upX (upX Y d k 0) b k1 1) k' u) ∧ ∀ ib : Nat, ¬ b = g → ib < jd → s0 87 ib = (b : Int) → (∀ k' u, k' < K → u + 1 < S → rStk R sl cu (upX (upX Y d k 0) b k1 1) k' u < rStk R sl cu X k' u → ∃ b i : Nat, s0 86 (24 * k' + (u + 1)) = (b : Int) ∧ s0 87 i = (b : Int) ∧ ib ≤ i ∧ (i : Int) < s0 81 11 ∧ ¬ b = g) ∧ ∀ k', k' < K → rStk R sl cu (upX (upX Y d k 0) b k1 1) k' (S - 1) < rStk R sl cu X k' (S - 1) → ∃ lk b i : Nat, s0 81 13 = (lk : Int) ∧ s0 86 (24 * lk + (S - 1)) = (b : Int) ∧ s0 87 i = (b : Int) ∧ ib ≤ i ∧ (i : Int) < s0 81 11 ∧ ¬ b = g := by
  obtain ⟨⟨l1, l2, l3, l4, l5⟩, ⟨m1, m2, m3, m4, m5⟩, n, q⟩ := l
  have st : ∀ k' u, rStk R sl cu (upX (upX Y d k 0) b k1 1) k' u = rStk R sl cu Y k' u + (if k' = k ∧ sl d ≤ u then 1 else 0) - (if k' = k1 ∧ sl b ≤ u then 1 else 0) := fun k' u => rStk_dt hd m1 ydk ybk
  have sd := hs d hd
  have sb := hs b m1
  have back : ∀ i : Nat, s0 87 i = (b : Int) → j ≤ i → (i : Int) < s0 81 11 → ¬ b = g → False := by
    intro i i1 i2 i3 i4
    rcases n with ⟨n1, _⟩ | ⟨_, _, _, ib, n1, n2⟩
    · exact i4 n1
    · have e := hLi.un i3 (j := ib) (by omega) (by rw [i1, n2])
      omega
  have up : ∀ k' u, u < S → (k' = k ∧ sl d ≤ u) → ¬ (k' = k1 ∧ sl b ≤ u) → kcX S s0 k' u = kcX S s0 k' (u + 1) := by
    intro k' u hu c nc
    rcases q with ⟨q1, q2, q3, q4⟩ | ⟨q1, q2, q3, q4, q5, q6, q7, q8⟩
    · have lt : u < sl b := by
        by_cases y : sl b ≤ u
        · exact absurd ⟨by omega, y⟩ nc
        · omega
      have e1 := (q3 u hu (by unfold btw; omega)).1
      have e2 := (q3 (u + 1) (by omega) (by unfold btw; omega)).1
      rw [kcX_u hu, kcX_u (show u + 1 < S by omega), c.1, e1, e2]
    · rw [kcX_u hu, c.1, q5 u c.2 hu]
      by_cases y : u + 1 < S
      · rw [kcX_u y, q5 (u + 1) (by omega) y]
      · have e : u + 1 = S := by omega
        rw [e, kcX_S]
  have dn : ∀ k' u, u < S → (k' = k1 ∧ sl b ≤ u) → ¬ (k' = k ∧ sl d ≤ u) → 0 < rStk R sl cu X k' u ∧ (u + 1 < S → s0 86 (24 * k' + (u + 1)) = (b : Int)) ∧ (u + 1 = S → s0 81 13 = (k' : Int) ∧ s0 86 (24 * k' + (S - 1)) = (b : Int)) := by
    intro k' u hu c nc
    rcases q with ⟨q1, q2, q3, q4⟩ | ⟨q1, q2, q3, q4, q5, q6, q7, q8⟩
    · have lt : u < sl d := by
        by_cases y : sl d ≤ u
        · exact absurd ⟨by omega, y⟩ nc
        · omega
      have ek : k' = k := by omega
      rw [ek]
      exact ⟨q4 u c.2 lt, fun _ => (q3 (u + 1) (by omega) (by unfold btw; omega)).2, fun e => absurd e (by omega)⟩
    · rw [c.1]
      exact ⟨q8 u c.2 hu, fun h => (q7 (u + 1) h (by omega)).2, fun _ => ⟨q2, q4⟩⟩
  refine ⟨fun k' u hk hu => ?_, fun k' u hk hu => ?_, fun ib hbg hib eib => ⟨fun k' u hk hu hlt => ?_, fun k' hk hlt => ?_⟩⟩
  · rw [st]
    by_cases c : k' = k ∧ sl d ≤ u
    · by_cases c2 : k' = k1 ∧ sl b ≤ u
      · rw [if_pos c, if_pos c2]
        rcases p3 k' u hk hu with y | y
        · exact Or.inl (by omega)
        · exact Or.inr y
      · exact Or.inr (up k' u hu c c2)
    · rw [if_neg c]
      rcases p3 k' u hk hu with y | y
      · refine Or.inl ?_
        split <;> omega
      · exact Or.inr y
  · rw [st]
    have y := p4 k' u hk hu
    by_cases c : k' = k ∧ sl d ≤ u
    · rw [if_pos c]
      split <;> omega
    · rw [if_neg c]
      by_cases c2 : k' = k1 ∧ sl b ≤ u
      · rw [if_pos c2]
        obtain ⟨d1, d2, d3⟩ := dn k' u hu c2 c
        by_cases w : rStk R sl cu Y k' u < rStk R sl cu X k' u
        · by_cases v : u + 1 < S
          · obtain ⟨b', i, b1, b2, b3, b4, b5⟩ := p6 k' u hk v w
            have e : b' = b := by
              have z := d2 v
              omega
            rw [e] at b2 b5
            exact (back i b2 b3 b4 b5).elim
          · have e : u = S - 1 := by omega
            have w2 := w
            rw [e] at w2
            obtain ⟨lk, b', i, b0, b1, b2, b3, b4, b5⟩ := p7 k' hk w2
            obtain ⟨d4, d5⟩ := d3 (by omega)
            have el : lk = k' := by omega
            rw [el, d5] at b1
            have e2 : b' = b := by omega
            rw [e2] at b2 b5
            exact (back i b2 b3 b4 b5).elim
        · omega
      · rw [if_neg c2]
        omega
  · rw [st] at hlt
    by_cases w : rStk R sl cu Y k' u < rStk R sl cu X k' u
    · obtain ⟨b', i, b1, b2, b3, b4, b5⟩ := p6 k' u hk hu w
      exact ⟨b', i, b1, b2, by omega, b4, b5⟩
    · by_cases c : k' = k ∧ sl d ≤ u
      · rw [if_pos c] at hlt
        split at hlt <;> omega
      · rw [if_neg c] at hlt
        by_cases c2 : k' = k1 ∧ sl b ≤ u
        · exact ⟨b, ib, (dn k' u (by omega) c2 c).2.1 hu, eib, Nat.le_refl _, by omega, hbg⟩
        · rw [if_neg c2] at hlt
          omega
  · rw [st] at hlt
    by_cases w : rStk R sl cu Y k' (S - 1) < rStk R sl cu X k' (S - 1)
    · obtain ⟨lk, b', i, b0, b1, b2, b3, b4, b5⟩ := p7 k' hk w
      exact ⟨lk, b', i, b0, b1, b2, by omega, b4, b5⟩
    · by_cases c : k' = k ∧ sl d ≤ S - 1
      · rw [if_pos c] at hlt
        split at hlt <;> omega
      · rw [if_neg c] at hlt
        by_cases c2 : k' = k1 ∧ sl b ≤ S - 1
        · obtain ⟨d4, d5⟩ := (dn k' (S - 1) (by omega) c2 c).2.2 (by omega)
          exact ⟨k', b, ib, d4, d5, eib, Nat.le_refl _, by omega, hbg⟩
        · rw [if_neg c2] at hlt
          omega
/-- a step as the class makes it: row d drops its kind, the taker of its place takes -/
def TnM (fu : Nat) (s s0 : PS) (d i rr : Int) (t : PS) : Prop := ∃ (s22 s31 : PS) (b1 k1 : Int), M_X3_drop s d (s0 84 d.toNat) 0 s22 ∧ M_X3_take s22 b1 k1 0 s31 ∧ ((b1 = s0 81 2 ∧ t = s31) ∨ (¬ b1 = s0 81 2 ∧ It_X9_turn fu b1 (i + 1) s31 rr t)) ∧ ((s0 86 (s0 84 d.toNat * 24 + s0 65 d.toNat).toNat = -2 ∧ b1 = s0 86 (s0 81 13 * 24 + s0 64 2 - 1).toNat ∧ k1 = s0 81 13) ∨ (¬ s0 86 (s0 84 d.toNat * 24 + s0 65 d.toNat).toNat = -2 ∧ b1 = s0 86 (s0 84 d.toNat * 24 + s0 65 d.toNat).toNat ∧ k1 = s0 84 d.toNat))
theorem turn_m {fu : Nat} {r i : Int} (e : ∀ x, ¬ x = 70 → ¬ x = 71 → ¬ x = 73 → s x = s0 x) (m : T_X9_turn_7 (It_X9_turn fu) r i s rr t) (hi : i < 1000000) : (s0 84 r.toNat = -3 ∧ TnM fu s s0 (s0 81 12) i rr t) ∨ (¬ s0 84 r.toNat = -3 ∧ TnM fu s s0 r i rr t) := by
  unfold T_X9_turn_7 at m
  obtain ⟨_, _, _, m⟩ := m
  rw [e 84 (by decide) (by decide) (by decide), e 86 (by decide) (by decide) (by decide), e 81 (by decide) (by decide) (by decide), e 65 (by decide) (by decide) (by decide), e 64 (by decide) (by decide) (by decide)] at m
  rcases m with ⟨c, _⟩ | ⟨_, m⟩
  · exact absurd c (by omega)
  · rcases m with ⟨c, s22, m22, _, _, m⟩ | ⟨c, s6, m6, _, _, m⟩
    · refine Or.inl ⟨c, ?_⟩
      rcases m with ⟨c2, s31, m31, _, _, m⟩ | ⟨c2, s26, m26, _, _, m⟩
      · rcases m with ⟨c3, _, et⟩ | ⟨c3, m⟩
        · exact ⟨s22, s31, _, _, m22, m31, Or.inl ⟨c3, et⟩, Or.inl ⟨c2, rfl, rfl⟩⟩
        · exact ⟨s22, s31, _, _, m22, m31, Or.inr ⟨c3, m⟩, Or.inl ⟨c2, rfl, rfl⟩⟩
      · rcases m with ⟨c3, _, et⟩ | ⟨c3, m⟩
        · exact ⟨s22, s26, _, _, m22, m26, Or.inl ⟨c3, et⟩, Or.inr ⟨c2, rfl, rfl⟩⟩
        · exact ⟨s22, s26, _, _, m22, m26, Or.inr ⟨c3, m⟩, Or.inr ⟨c2, rfl, rfl⟩⟩
    · refine Or.inr ⟨c, ?_⟩
      rcases m with ⟨c2, s15, m15, _, _, m⟩ | ⟨c2, s10, m10, _, _, m⟩
      · rcases m with ⟨c3, _, et⟩ | ⟨c3, m⟩
        · exact ⟨s6, s15, _, _, m6, m15, Or.inl ⟨c3, et⟩, Or.inl ⟨c2, rfl, rfl⟩⟩
        · exact ⟨s6, s15, _, _, m6, m15, Or.inr ⟨c3, m⟩, Or.inl ⟨c2, rfl, rfl⟩⟩
      · rcases m with ⟨c3, _, et⟩ | ⟨c3, m⟩
        · exact ⟨s6, s10, _, _, m6, m10, Or.inl ⟨c3, et⟩, Or.inr ⟨c2, rfl, rfl⟩⟩
        · exact ⟨s6, s10, _, _, m6, m10, Or.inr ⟨c3, m⟩, Or.inr ⟨c2, rfl, rfl⟩⟩
/-- what a row has, besides the row that waits for its kind; at most two rows have one more, one less -/
def TnU (R K : Nat) (D : Nat → Int) (X : Nat → Nat → Int) (g : Nat) (s0 : PS) (Y : Nat → Nat → Int) (r j : Nat) : Prop := (∀ a, a < R → sgN (Y a) K = sgN (X a) K + (if a = r then 1 else 0) - (if a = g then 1 else 0)) ∨ ∃ rd lo il : Nat, rd < R ∧ lo < R ∧ ¬ rd = lo ∧ sgN (X rd) K < D rd ∧ s0 75 rd = s0 74 5 ∧ s0 75 lo = s0 74 5 ∧ 0 < sgN (X lo) K ∧ s0 81 12 = (lo : Int) ∧ s0 87 il = (lo : Int) ∧ (il : Int) < s0 81 11 ∧ j ≤ il ∧ ∀ a, a < R → sgN (Y a) K = sgN (X a) K + (if a = r then 1 else 0) - (if a = g then 1 else 0) + (if a = rd then 1 else 0) - (if a = lo then 1 else 0)
def TnE (R K S : Nat) (sl fr : Nat → Nat) (D : Nat → Int) (al : Nat → Nat → Prop) (pt cu X : Nat → Nat → Int) (g k0 : Nat) (s0 : PS) (Y : Nat → Nat → Int) (t : PS) : Prop := FlS R K S sl fr D al pt cu Y t ∧ (∀ x, ¬ x = 70 → ¬ x = 71 → ¬ x = 73 → t x = s0 x) ∧ (∀ a k, a < R → k < K → Y a k = X a k ∨ (kcX S s0 k (sl a) = s0 75 a - pt a k ∧ (tb (s0 82 a) k = false ∨ (a = g ∧ k = k0)))) ∧ (∀ k u, k < K → u < S → rStk R sl cu Y k u ≤ rStk R sl cu X k u ∨ kcX S s0 k u = kcX S s0 k (u + 1)) ∧ (∀ k u, k < K → u < S → 0 ≤ rStk R sl cu Y k u) ∧ (∃ j, TnU R K D X g s0 Y g j) ∧ (∀ a k, a < R → k < K → Y a k = 1 → al a k) ∧ Y g k0 = 1
theorem turn7 (hO : Old R K S sl D al pt cu X g k0 z s0) (hF0 : FlS R K S sl fr D al pt cu X s0) (hg : g < R) (hk0 : k0 < K) (hX0 : X g k0 = 0) (hfx : tb (s0 82 g) k0 = true) (h2 : s0 81 2 = (g : Int)) : ∀ (fu i r j : Nat) (s : PS) (rr : Int) (t : PS) (Y : Nat → Nat → Int), It_X9_turn fu (r : Int) (i : Int) s rr t → TrI R K S sl fr D al pt cu X g z s0 Y r j s → i + j ≤ 100 → ∃ Y2, TnE R K S sl fr D al pt cu X g k0 s0 Y2 t
  | 0, i, r, j, s, rr, t, Y, m, _, _ => False.elim m
  | fu + 1, i, r, j, s, rr, t, Y, m, hT, hij => by
    have hs := hF0.st.1
    have hLi : LiI R s0 := hO.2.2.1.1
    obtain ⟨⟨hF, hfr⟩, p2, p3, p4, ⟨p5, p5r⟩, p6, p7, p8, p9, hr, hj, hj2, hz⟩ := hT
    have go : ∀ (d jd : Nat), d < R → s0 87 jd = (d : Int) → jd ≤ j → ¬ s0 84 d = -3 → ¬ Vs z d → (∀ k, k < K → X d k = 1 → Y d k = 1) → (∀ a i : Nat, a < R → i < jd → s0 87 i = (a : Int) → ∀ k, k < K → Y a k = X a k) → TnU R K D X g s0 Y d jd → TnM fu s s0 (d : Int) (i : Int) rr t → ∃ Y2, TnE R K S sl fr D al pt cu X g k0 s0 Y2 t := by
      intro d jd hd ejd hjd h3 hzd hkeep hahead hsum mm
      obtain ⟨k, b, k1, l⟩ := hO.lnk hs hd ejd (by omega) hzd h3
      have l0 := l
      obtain ⟨⟨l1, l2, l3, l4, l5⟩, ⟨m1, m2, m3, m4, m5⟩, n, q⟩ := l
      have sd := hs d hd
      obtain ⟨s22, s31, b1, kk1, md, mt, mc, mk⟩ := mm
      rw [Int.toNat_natCast, l2] at md mk
      rw [(hF0.2.2.1 d hd).1] at mk
      have ei : ((k : Int) * 24 + (sl d : Int)).toNat = 24 * k + sl d := by
        clear mk
        omega
      rw [ei] at mk
      have ydk : Y d k = 1 := hkeep k l1 l3
      obtain ⟨F1, fr1⟩ := dropF hF hd l1 ydk md
      have eb : b1 = (b : Int) ∧ kk1 = (k1 : Int) := by
        rcases q with ⟨q1, q2, _⟩ | ⟨q1, q2, q3, q4, _⟩
        · rcases mk with ⟨y, _⟩ | ⟨_, y1, y2⟩
          · omega
          · exact ⟨by rw [y1, q1], by rw [y2, q2]⟩
        · rcases mk with ⟨_, y1, y2⟩ | ⟨y, _⟩
          · rw [q2, hF0.1.2.2] at y1
            have e2 : ((k1 : Int) * 24 + (S : Int) - 1).toNat = 24 * k1 + (S - 1) := by
              clear y1
              omega
            rw [e2, q4] at y1
            exact ⟨y1, by rw [y2, q2]⟩
          · exact absurd q1 y
      rw [eb.1, eb.2] at mt
      rw [eb.1] at mc
      have ybk : Y b k1 = 0 := by
        rcases n with ⟨n1, n2⟩ | ⟨n1, n2, n3, ib, n4, n5⟩
        · rw [n1, n2]
          rcases p2 g k0 hg hk0 with y | ⟨_, y⟩
          · rw [y]
            exact hX0
          · rw [hfx] at y
            exact absurd y (by decide)
        · rw [hahead b ib m1 n4 n5 k1 m2]
          exact m4
      have hne : ¬ (b = d ∧ k1 = k) := fun q => by
        rw [q.1, q.2, ydk] at ybk
        exact absurd ybk (by decide)
      have y1 : upX Y d k 0 b k1 = 0 := by
        rw [upX_ne hne]
        exact ybk
      obtain ⟨F2, fr2⟩ := takeF F1 m1 m2 y1 mt
      obtain ⟨w3, w4, w67⟩ := trn_st hs hLi hd l0 ydk ybk hjd hj2 p3 p4 p6 p7
      have su : ∀ a, sgN (upX (upX Y d k 0) b k1 1 a) K = sgN (Y a) K - (if a = d then 1 else 0) + (if a = b then 1 else 0) := fun a => by
        rw [upX_sum m2]
        by_cases c : a = b
        · rw [if_pos c, if_pos c, upX_sum l1, y1, ydk, c]
          by_cases c2 : b = d
          · rw [if_pos c2, if_pos c2, c2]
            omega
          · rw [if_neg c2, if_neg c2]
            omega
        · rw [if_neg c, if_neg c, upX_sum l1, ydk]
          by_cases c2 : a = d
          · rw [if_pos c2, if_pos c2, c2]
            omega
          · rw [if_neg c2, if_neg c2]
            omega
      have pairs : ∀ a k', a < R → k' < K → upX (upX Y d k 0) b k1 1 a k' = X a k' ∨ (kcX S s0 k' (sl a) = s0 75 a - pt a k' ∧ (tb (s0 82 a) k' = false ∨ (b = g ∧ a = g ∧ k' = k0))) := by
        intro a k' ha hk'
        by_cases c : a = b ∧ k' = k1
        · refine Or.inr ⟨?_, ?_⟩
          · rw [kcX_u (hs a ha), c.1, c.2]
            exact m5
          · rcases n with ⟨n1, n2⟩ | ⟨n1, n2, _⟩
            · exact Or.inr ⟨n1, c.1.trans n1, c.2.trans n2⟩
            · rw [c.1, c.2]
              exact Or.inl n2
        · by_cases c2 : a = d ∧ k' = k
          · refine Or.inr ⟨?_, Or.inl ?_⟩
            · rw [kcX_u (hs a ha), c2.1, c2.2]
              omega
            · rw [c2.1, c2.2]
              exact l4
          · rw [upX_ne c, upX_ne c2]
            rcases p2 a k' ha hk' with y | ⟨y, y2⟩
            · exact Or.inl y
            · exact Or.inr ⟨y, Or.inl y2⟩
      have als : ∀ a k', a < R → k' < K → upX (upX Y d k 0) b k1 1 a k' = 1 → al a k' := by
        intro a k' ha hk' y
        by_cases c : a = b ∧ k' = k1
        · rw [c.1, c.2]
          exact m3
        · rw [upX_ne c] at y
          by_cases c2 : a = d ∧ k' = k
          · rw [c2.1, c2.2, upX_at] at y
            exact absurd y (by decide)
          · rw [upX_ne c2] at y
            exact p9 a k' ha hk' y
      have frs : ∀ x, ¬ x = 70 → ¬ x = 71 → ¬ x = 73 → s31 x = s0 x := fun x x1 x2 x3 => (fr2 x x1 x2 x3).trans ((fr1 x x1 x2 x3).trans (hfr x x1 x2 x3))
      have sums : ∀ jn : Nat, jn ≤ jd → TnU R K D X g s0 (upX (upX Y d k 0) b k1 1) b jn := by
        intro jn hjn
        rcases hsum with y | ⟨rd, lo, il, x1, x2, x3, x4, x5, x6, x7, x8, x9, x10, x11, x12⟩
        · refine Or.inl (fun a ha => ?_)
          rw [su, y a ha]
          omega
        · refine Or.inr ⟨rd, lo, il, x1, x2, x3, x4, x5, x6, x7, x8, x9, x10, by omega, fun a ha => ?_⟩
          rw [su, x12 a ha]
          omega
      rcases mc with ⟨c, et⟩ | ⟨c, m⟩
      · have bg : b = g := by
          rw [h2] at c
          omega
        have kg : k1 = k0 := by
          rcases n with ⟨_, n2⟩ | ⟨n1, _⟩
          · exact n2
          · exact absurd bg n1
        rw [et]
        have sg := sums jd (Nat.le_refl _)
        refine ⟨_, F2, frs, fun a k' ha hk' => ?_, w3, w4, ⟨jd, ?_⟩, als, ?_⟩
        · rcases pairs a k' ha hk' with y | ⟨y, y2 | ⟨_, y3, y4⟩⟩
          · exact Or.inl y
          · exact Or.inr ⟨y, Or.inl y2⟩
          · exact Or.inr ⟨y, Or.inr ⟨y3, y4⟩⟩
        · have e : ∀ v : Nat, v = g → TnU R K D X g s0 (upX (upX Y d k 0) b k1 1) v jd → TnU R K D X g s0 (upX (upX Y d k 0) b k1 1) g jd := fun v hv h => by
            rw [hv] at h
            exact h
          exact e b bg sg
        · rw [← bg, ← kg]
          exact upX_at
      · have bg : ¬ b = g := fun e => c (by rw [h2, e])
        rcases n with ⟨n1, _⟩ | ⟨n1, n2, n3, ib, n4, n5⟩
        · exact absurd n1 bg
        · obtain ⟨w6, w7⟩ := w67 ib bg n4 n5
          have i1 : (i : Int) + 1 = ((i + 1 : Nat) : Int) := rfl
          rw [i1] at m
          have ib2 : (ib : Int) < s0 81 11 := by omega
          have jd2 : (jd : Int) < s0 81 11 := by omega
          have nbd : ¬ b = d := fun e => by
            have y := hLi.un ib2 jd2 (by rw [n5, ejd, e])
            omega
          refine turn7 hO hF0 hg hk0 hX0 hfx h2 fu (i + 1) b ib s31 rr t (upX (upX Y d k 0) b k1 1) m ⟨⟨F2, frs⟩, fun a k' ha hk' => ?_, w3, w4, ⟨fun a i' ha hi' ea k' hk' => ?_, fun k' hk' x1 => ?_⟩, w6, w7, sums ib (by omega), als, m1, n5, ib2, n3⟩ (by omega)
          · rcases pairs a k' ha hk' with y | ⟨y, y2 | ⟨y3, _⟩⟩
            · exact Or.inl y
            · exact Or.inr ⟨y, y2⟩
            · exact absurd y3 bg
          · have i3 : (i' : Int) < s0 81 11 := by omega
            have ab : ¬ a = b := fun e => by
              have y := hLi.un i3 ib2 (by rw [ea, n5, e])
              omega
            have ad : ¬ a = d := fun e => by
              have y := hLi.un i3 jd2 (by rw [ea, ejd, e])
              omega
            rw [upX_ne (fun q => ab q.1), upX_ne (fun q => ad q.1)]
            exact hahead a i' ha (by omega) ea k' hk'
          · have kk : ¬ k' = k1 := fun e => by
              rw [e] at x1
              omega
            rw [upX_ne (fun q => kk q.2), upX_ne (fun q => nbd q.1), hahead b ib m1 n4 n5 k' hk']
            exact x1
    rcases turn_m hfr (ul_X9_turn_7 m) (by omega) with ⟨c, mm⟩ | ⟨c, mm⟩
    · rw [Int.toNat_natCast] at c
      obtain ⟨hC, hM, hI, hG⟩ := hO
      obtain ⟨iL, iR, iP, i12, i13, ⟨i14, i15⟩, iC⟩ := hI
      rcases iR j r hr hj hj2 with ⟨z1, z2, z3, z4, lo, il, z5, z6, z7, z8⟩ | ⟨k', _, z2, _⟩
      · rcases i12 with y | ⟨lo', y1, y2, y3, y4, y5⟩
        · omega
        · have el : lo' = lo := by omega
          rw [el] at y3 y4 y5
          rw [z6] at mm
          have il2 : (il : Int) < s0 81 11 := by omega
          have pos : 0 < sgN (X lo) K := by
            rcases iR il lo z5 z8 il2 with ⟨w, _⟩ | ⟨k', w1, w2, w3, _⟩
            · exact absurd w y4
            · exact sgN_gt w1 (fun k hk => by
                have v := hF0.st.2.2.2 lo k z5 hk
                omega) (by omega)
          refine go lo il z5 z8 (by omega) y4 (fun q => ?_) (fun k hk x1 => ?_) (fun a i' ha hi' ea => p5 a i' ha (by omega) ea) ?_ mm
          · obtain ⟨⟨hIz, hHz, hdu, hle⟩, hend, he12, he13, hng⟩ := hC
            have e75 := hM.2.2.2.2.1 75 (by decide)
            have e74 := hM.2.2.2.2.1 74 (by decide)
            have w := hIz.2.2.2.2.2.2 lo z5 q pos (by rw [← e75, ← e74]; exact y5)
            have w2 : z 81 14 = 1 := by
              rcases he12 with v | v
              · exact absurd v w
              · exact v
            rcases hdu with v | ⟨_, v⟩
            · omega
            · exact hz (v r hr z3 (by rw [← e75, ← e74]; exact z4))
          · rw [p5 lo il z5 z7 z8 k hk]
            exact x1
          · rcases p8 with v | ⟨rd', lo', il', _, _, _, _, _, _, _, v8, v9, v10, v11, _⟩
            · refine Or.inr ⟨r, lo, il, hr, z5, fun e => y4 (by rw [← e]; exact c), z3, z4, y5, pos, z6, z8, il2, Nat.le_refl _, fun a ha => ?_⟩
              rw [v a ha]
              omega
            · have e1 : lo' = lo := by omega
              rw [e1] at v9
              have e2 := iL.un v10 il2 (by rw [v9, z8])
              omega
      · omega
    · rw [Int.toNat_natCast] at c
      exact go r j hr hj (Nat.le_refl _) c hz p5r p5 p8 mm
theorem sgN_ind {n r : Nat} (hr : r < n) : sgN (fun a => if a = r then (1 : Int) else 0) n = 1 := by
  rw [sgN_up (f := fun _ => (0 : Int)) (g := fun a => if a = r then (1 : Int) else 0) n r hr (fun i _ hi => if_neg hi), sgN_0 n (fun _ _ => rfl), if_pos rfl]
  rfl
/-- the goal has got its kind; all that was fixed stands; as large, as many points; the labels are good -/
theorem turnF (hF : FlS R K S sl fr D al pt cu X s0) (hX : RowOk R K S sl D al cu X) (hL : Lab4 (fun _ _ => False) R K S sl al pt cu X (s0 75) (kcX S s0) (s0 74 6)) (hD : LabD R K D X (s0 75) (s0 74 5)) (hO : Old R K S sl D al pt cu X g k0 z s0) (hg : g < R) (hk0 : k0 < K) (hX0 : X g k0 = 0) (hfx : tb (s0 82 g) k0 = true) (h2 : s0 81 2 = (g : Int)) (hv : Vs s0 g) (m : M_X9_turn s0 rr t) : ∃ Y, FlS R K S sl fr D al pt cu Y t ∧ RowOk R K S sl D al cu Y ∧ Lab4 (fun _ _ => False) R K S sl al pt cu Y (t 75) (kcX S t) (t 74 6) ∧ LabD R K D Y (t 75) (t 74 5) ∧ Y g k0 = 1 ∧ (∀ a k, a < R → k < K → ¬ (a = g ∧ k = k0) → tb (s0 82 a) k = true → Y a k = X a k) ∧ dSize R K Y = dSize R K X ∧ dPts R K pt Y = dPts R K pt X ∧ ∀ x, ¬ x = 70 → ¬ x = 71 → ¬ x = 73 → t x = s0 x := by
  have hs := hF.st.1
  have hLi : LiI R s0 := hO.2.2.1.1
  obtain ⟨jg, jg1, jg2⟩ := hLi.ix hg hv
  have hlen := hLi.len
  have hR := hF.2.1.1
  obtain ⟨fu, m⟩ := m
  unfold T_X9_turn_e at m
  obtain ⟨_, m⟩ := m
  rw [h2] at m
  obtain ⟨Y, F2, frs, pairs, w3, w4, ⟨jj, sums⟩, als, yg⟩ := turn7 hO hF hg hk0 hX0 hfx h2 fu 0 g jg s0 rr t X m ⟨⟨hF, fun _ _ _ _ => rfl⟩, fun _ _ _ _ => Or.inl rfl, fun _ _ _ _ => Or.inl (Int.le_refl _), hX.2.2, ⟨fun _ _ _ _ _ _ _ => rfl, fun _ _ q => q⟩, fun _ _ _ _ q => absurd q (Int.lt_irrefl _), fun _ _ q => absurd q (Int.lt_irrefl _), Or.inl (fun a _ => by omega), fun a k ha hk q => (hX.1 a k ha hk).2 q, hg, jg2, jg1, hO.1.2.2.2.2⟩ (by omega)
  have hY : RowOk R K S sl D al cu Y := by
    refine ⟨fun a k ha hk => ⟨F2.st.2.2.2 a k ha hk, als a k ha hk⟩, fun a ha => ?_, w4⟩
    have x := hX.2.1 a ha
    rcases sums with y | ⟨rd, lo, il, x1, x2, x3, x4, x5, x6, x7, x8, x9, x10, x11, x12⟩
    · rw [y a ha]
      omega
    · rw [x12 a ha]
      by_cases c : a = rd
      · rw [← c] at x4
        rw [if_pos c]
        omega
      · rw [if_neg c]
        omega
  have k77 : t 77 = s0 77 := frs 77 (by decide) (by decide) (by decide)
  have k74 : t 74 = s0 74 := frs 74 (by decide) (by decide) (by decide)
  have k75 : t 75 = s0 75 := frs 75 (by decide) (by decide) (by decide)
  have kc : kcX S t = kcX S s0 := by
    funext k u
    unfold kcX
    rw [k77, k74]
  have hL2 : Lab4 (fun _ _ => False) R K S sl al pt cu Y (s0 75) (kcX S s0) (s0 74 6) := hL.ch (fun a k ha hk => (pairs a k ha hk).imp id (fun q => q.1)) w3
  have hD2 : LabD R K D Y (s0 75) (s0 74 5) := by
    rcases sums with y | ⟨rd, lo, il, x1, x2, x3, x4, x5, x6, x7, x8, x9, x10, x11, x12⟩
    · refine ⟨fun r a q => hD.1 r a ?_, fun r a q => hD.2 r a ?_⟩
      · rw [y r a] at q
        omega
      · rw [y r a] at q
        omega
    · refine ⟨fun r a q => ?_, fun r a q => ?_⟩
      · by_cases c : r = rd
        · rw [c, x5]
          exact Int.le_refl _
        · by_cases c2 : r = lo
          · rw [c2, x6]
            exact Int.le_refl _
          · refine hD.1 r a ?_
            rw [x12 r a, if_neg c, if_neg c2] at q
            omega
      · by_cases c : r = rd
        · rw [c, x5]
          exact Int.le_refl _
        · by_cases c2 : r = lo
          · rw [c2, x6]
            exact Int.le_refl _
          · refine hD.2 r a ?_
            rw [x12 r a, if_neg c, if_neg c2] at q
            omega
  have hsz : dSize R K Y = dSize R K X := by
    show sgN (fun a => sgN (fun i => Y a i) K) R = sgN (fun a => sgN (fun i => X a i) K) R
    rcases sums with y | ⟨rd, lo, il, x1, x2, x3, x4, x5, x6, x7, x8, x9, x10, x11, x12⟩
    · refine sgN_cg R (fun a ha => ?_)
      have w := y a ha
      show sgN (Y a) K = sgN (X a) K
      omega
    · have e : ∀ a, a < R → sgN (fun i => Y a i) K = sgN (fun i => X a i) K + ((if a = rd then (1 : Int) else 0) - (if a = lo then (1 : Int) else 0)) := fun a ha => by
        have w := x12 a ha
        show sgN (Y a) K = sgN (X a) K + _
        omega
      rw [sgN_cg R e, sgN_add (f := fun a => sgN (fun i => X a i) K) (g := fun a => (if a = rd then (1 : Int) else 0) - (if a = lo then (1 : Int) else 0)) R, sgN_sub (f := fun a => if a = rd then (1 : Int) else 0) (g := fun a => if a = lo then (1 : Int) else 0) R, sgN_ind x1, sgN_ind x2]
      omega
  refine ⟨Y, F2, hY, by rw [kc, k75, k74]; exact hL2, by rw [k75, k74]; exact hD2, yg, fun a k ha hk hne hb => ?_, hsz, ?_, frs⟩
  · rcases pairs a k ha hk with y | ⟨_, y | y⟩
    · exact y
    · rw [hb] at y
      exact absurd y (by decide)
    · exact absurd y hne
  · have b1 := lab_best hs hL hD hX hY (fun _ _ _ _ q => q.elim)
    have b2 := lab_best hs hL2 hD2 hY hX (fun _ _ _ _ q => q.elim)
    rw [hsz, Int.sub_self, Int.mul_zero] at b1 b2
    omega
end Tr2
