/-! the ranker: rows and places are seen -/
/-- the line: all seen rows, once each -/
def LiI (R : Nat) (s : PS) : Prop := ∃ T : Nat, s 81 11 = (T : Int) ∧ (∀ i, i < T → ∃ r, r < R ∧ s 87 i = (r : Int) ∧ s 83 r = s 81 4) ∧ (∀ i j, i < T → j < T → s 87 i = s 87 j → i = j) ∧ ∀ r, r < R → s 83 r = s 81 4 → ∃ i, i < T ∧ s 87 i = (r : Int)
/-- places I of kind k and rows hit are seen -/
def SpE (R K S k : Nat) (I hit : Nat → Prop) (rw_ kk : Int) (s t : PS) : Prop := (∀ k2 u, k2 < K → u < S → ((k2 = k ∧ I u) → t 85 (24 * k2 + u) = s 81 4 ∧ t 86 (24 * k2 + u) = rw_) ∧ (¬ (k2 = k ∧ I u) → t 85 (24 * k2 + u) = s 85 (24 * k2 + u) ∧ t 86 (24 * k2 + u) = s 86 (24 * k2 + u))) ∧ (∀ r, r < R → (hit r → t 83 r = s 81 4 ∧ t 84 r = kk) ∧ (¬ hit r → t 83 r = s 83 r ∧ t 84 r = s 84 r)) ∧ LiI R t ∧ (∃ T T2 : Nat, s 81 11 = (T : Int) ∧ t 81 11 = (T2 : Int) ∧ T ≤ T2 ∧ ∀ i, i < T → t 87 i = s 87 i) ∧ ((¬ s 81 12 = -1 → t 81 12 = s 81 12) ∧ (s 81 12 = -1 → (t 81 12 = -1 ∧ ∀ r, r < R → hit r → ¬ (¬ kk = -3 ∧ s 75 r = s 74 5)) ∨ ∃ r, r < R ∧ hit r ∧ ¬ kk = -3 ∧ s 75 r = s 74 5 ∧ t 81 12 = (r : Int))) ∧ ((¬ s 81 13 = -1 → t 81 13 = s 81 13) ∧ (s 81 13 = -1 → (t 81 13 = -1 ∧ ¬ (I (S - 1) ∧ 0 < s 73 (24 * k + (S - 1)) ∧ s 77 (24 * k + (S - 1)) = s 74 6)) ∨ ((I (S - 1) ∧ 0 < s 73 (24 * k + (S - 1)) ∧ s 77 (24 * k + (S - 1)) = s 74 6) ∧ t 81 13 = (k : Int)))) ∧ (∀ x, ¬ (81 ≤ x ∧ x ≤ 87) → t x = s x) ∧ t 82 = s 82 ∧ ∀ j, ¬ j = 11 → ¬ j = 12 → ¬ j = 13 → t 81 j = s 81 j
section See
variable {R K S k : Nat} {sl fr : Nat → Nat} {D : Nat → Int} {al : Nat → Nat → Prop} {pt cu X : Nat → Nat → Int} {I I1 I2 hit hit1 hit2 : Nat → Prop} {rw_ kk : Int} {s t u : PS} {rr : Int}
theorem SpE.comp (a : SpE R K S k I1 hit1 rw_ kk s u) (b : SpE R K S k I2 hit2 rw_ kk u t) : SpE R K S k (fun x => I1 x ∨ I2 x) (fun r => hit1 r ∨ hit2 r) rw_ kk s t := by
  obtain ⟨a1, a2, a3, ⟨T, T2, a4, a5, a6, a7⟩, ⟨a8, a9⟩, ⟨a10, a11⟩, a12, a13, a14⟩ := a
  obtain ⟨b1, b2, b3, ⟨T', T3, b4, b5, b6, b7⟩, ⟨b8, b9⟩, ⟨b10, b11⟩, b12, b13, b14⟩ := b
  have est : u 81 4 = s 81 4 := a14 4 (by decide) (by decide) (by decide)
  have eT : T' = T2 := by omega
  rw [a12 75 (by decide), a12 74 (by decide)] at b9
  rw [a12 73 (by decide), a12 77 (by decide), a12 74 (by decide)] at b11
  rw [est] at b1 b2
  refine ⟨fun k2 v p q => ⟨fun z => ?_, fun z => ?_⟩, fun r p => ⟨fun z => ?_, fun z => ?_⟩, b3, ⟨T, T3, a4, b5, by omega, fun i hi => ?_⟩, ⟨fun z => ?_, fun z => ?_⟩, ⟨fun z => ?_, fun z => ?_⟩, fun x hx => (b12 x hx).trans (a12 x hx), b13.trans a13, fun j j1 j2 j3 => (b14 j j1 j2 j3).trans (a14 j j1 j2 j3)⟩
  · by_cases y : k2 = k ∧ I2 v
    · exact (b1 k2 v p q).1 y
    · obtain ⟨w1, w2⟩ := (b1 k2 v p q).2 y
      rw [w1, w2]
      refine (a1 k2 v p q).1 ⟨z.1, ?_⟩
      rcases z.2 with c | c
      · exact c
      · exact absurd ⟨z.1, c⟩ y
  · obtain ⟨w1, w2⟩ := (b1 k2 v p q).2 (fun c => z ⟨c.1, Or.inr c.2⟩)
    rw [w1, w2]
    exact (a1 k2 v p q).2 (fun c => z ⟨c.1, Or.inl c.2⟩)
  · by_cases y : hit2 r
    · exact (b2 r p).1 y
    · obtain ⟨w1, w2⟩ := (b2 r p).2 y
      rw [w1, w2]
      refine (a2 r p).1 ?_
      rcases z with c | c
      · exact c
      · exact absurd c y
  · obtain ⟨w1, w2⟩ := (b2 r p).2 (fun c => z (Or.inr c))
    rw [w1, w2]
    exact (a2 r p).2 (fun c => z (Or.inl c))
  · rw [b7 i (by omega)]
    exact a7 i hi
  · rw [b8 (by rw [a8 z]; exact z), a8 z]
  · rcases a9 z with ⟨y1, y2⟩ | ⟨r, y1, y2, y3, y4, y5⟩
    · rcases b9 y1 with ⟨w1, w2⟩ | ⟨r, w1, w2, w3, w4, w5⟩
      · refine Or.inl ⟨w1, fun r p q => ?_⟩
        rcases q with q | q
        · exact y2 r p q
        · exact w2 r p q
      · exact Or.inr ⟨r, w1, Or.inr w2, w3, w4, w5⟩
    · refine Or.inr ⟨r, y1, Or.inl y2, y3, y4, ?_⟩
      rw [b8 (by rw [y5]; omega)]
      exact y5
  · rw [b10 (by rw [a10 z]; exact z), a10 z]
  · rcases a11 z with ⟨y1, y2⟩ | ⟨y1, y2⟩
    · rcases b11 y1 with ⟨w1, w2⟩ | ⟨w1, w2⟩
      · refine Or.inl ⟨w1, fun q => ?_⟩
        rcases q.1 with c | c
        · exact y2 ⟨c, q.2⟩
        · exact w2 ⟨c, q.2⟩
      · exact Or.inr ⟨⟨Or.inr w1.1, w1.2⟩, w2⟩
    · refine Or.inr ⟨⟨Or.inl y1.1, y1.2⟩, ?_⟩
      rw [b10 (by rw [y2]; omega)]
      exact y2
theorem SpE.ci (a : SpE R K S k I1 hit1 rw_ kk s t) (hS : 0 < S) (hI : ∀ x, x < S → (I1 x ↔ I2 x)) (hh : ∀ r, r < R → (hit1 r ↔ hit2 r)) : SpE R K S k I2 hit2 rw_ kk s t := by
  obtain ⟨a1, a2, a3, a4, ⟨a8, a9⟩, ⟨a10, a11⟩, a12⟩ := a
  have iS := hI (S - 1) (by omega)
  refine ⟨fun k2 v p q => ⟨fun z => (a1 k2 v p q).1 ⟨z.1, (hI v q).mpr z.2⟩, fun z => (a1 k2 v p q).2 (fun c => z ⟨c.1, (hI v q).mp c.2⟩)⟩, fun r p => ⟨fun z => (a2 r p).1 ((hh r p).mpr z), fun z => (a2 r p).2 (fun c => z ((hh r p).mp c))⟩, a3, a4, ⟨a8, fun z => ?_⟩, ⟨a10, fun z => ?_⟩, a12⟩
  · rcases a9 z with ⟨y1, y2⟩ | ⟨r, y1, y2, y3⟩
    · exact Or.inl ⟨y1, fun r p q => y2 r p ((hh r p).mpr q)⟩
    · exact Or.inr ⟨r, y1, (hh r y1).mp y2, y3⟩
  · rcases a11 z with ⟨y1, y2⟩ | ⟨y1, y2⟩
    · exact Or.inl ⟨y1, fun q => y2 ⟨iS.mpr q.1, q.2⟩⟩
    · exact Or.inr ⟨⟨iS.mp y1.1, y1.2⟩, y2⟩
theorem SpE.no (hL : LiI R s) (hI : ∀ x, ¬ I x) (hh : ∀ r, r < R → ¬ hit r) : SpE R K S k I hit rw_ kk s s := by
  obtain ⟨T, t1, t2⟩ := id hL
  refine ⟨fun k2 v _ _ => ⟨fun z => absurd z.2 (hI v), fun _ => ⟨rfl, rfl⟩⟩, fun r p => ⟨fun z => absurd z (hh r p), fun _ => ⟨rfl, rfl⟩⟩, hL, ⟨T, T, t1, t1, Nat.le_refl T, fun _ _ => rfl⟩, ⟨fun _ => rfl, fun z => Or.inl ⟨z, fun r p q => absurd q (hh r p)⟩⟩, ⟨fun _ => rfl, fun z => Or.inl ⟨z, fun q => hI _ q.1⟩⟩, fun _ _ => rfl, rfl, fun _ _ _ _ => rfl⟩
/-- a row is seen -/
theorem seeRowF (hL : LiI R s) (hR : R ≤ 40) {r : Nat} (hr : r < R) (hn : ¬ s 83 r = s 81 4) (m : M_X9_seeRow s (r : Int) kk rr t) : SpE R K S k (fun _ => False) (fun a => a = r) rw_ kk s t ∧ t 85 = s 85 ∧ t 86 = s 86 ∧ t 81 13 = s 81 13 := by
  obtain ⟨T, t1, t2, t3, t4⟩ := hL
  have hT : T + 1 ≤ R := php R (T + 1) (fun i => if i = T then r else (s 87 i).toNat) (fun i hi => by
    show (if i = T then r else (s 87 i).toNat) < R
    by_cases y : i = T
    · rw [if_pos y]
      exact hr
    · obtain ⟨a, a1, a2, _⟩ := t2 i (by omega)
      rw [if_neg y, a2]
      omega) (fun i j hi hj e => by
    have e2 : (if i = T then r else (s 87 i).toNat) = (if j = T then r else (s 87 j).toNat) := e
    by_cases y : i = T
    · by_cases y2 : j = T
      · omega
      · obtain ⟨a, a1, a2, a3⟩ := t2 j (by omega)
        rw [if_pos y, if_neg y2, a2, Int.toNat_natCast] at e2
        rw [← e2] at a3
        exact absurd a3 hn
    · obtain ⟨a, a1, a2, a3⟩ := t2 i (by omega)
      by_cases y2 : j = T
      · rw [if_neg y, if_pos y2, a2, Int.toNat_natCast] at e2
        rw [e2] at a3
        exact absurd a3 hn
      · obtain ⟨b, b1, b2, b3⟩ := t2 j (by omega)
        rw [if_neg y, if_neg y2, a2, b2, Int.toNat_natCast, Int.toNat_natCast] at e2
        exact t3 i j (by omega) (by omega) (by rw [a2, b2, e2]))
  unfold M_X9_seeRow T_X9_seeRow_e at m
  obtain ⟨_, _, _, s1, e1, s2, e2, s3, e3, s4, e4, m⟩ := m
  rw [t1, Int.toNat_natCast] at e3
  rw [Int.toNat_natCast] at e1 e2 m
  rw [t1] at e4
  have k83 : ∀ a, s4 83 a = if a = r then s 81 4 else s 83 a := fun a => by rw [e4, us_k (by decide), e3, us_k (by decide), e2, us_k (by decide), e1, us_if]
  have k84 : ∀ a, s4 84 a = if a = r then kk else s 84 a := fun a => by rw [e4, us_k (by decide), e3, us_k (by decide), e2, us_if, e1, us_k (by decide)]
  have k87 : ∀ a, s4 87 a = if a = T then (r : Int) else s 87 a := fun a => by rw [e4, us_k (by decide), e3, us_if, e2, us_k (by decide), e1, us_k (by decide)]
  have k81 : ∀ a, s4 81 a = if a = 11 then (T : Int) + 1 else s 81 a := fun a => by rw [e4, us_if, e3, us_k (by decide), e2, us_k (by decide), e1, us_k (by decide)]
  have ko : ∀ x, ¬ x = 81 → ¬ x = 83 → ¬ x = 84 → ¬ x = 87 → s4 x = s x := fun x x1 x2 x3 x4 => by rw [e4, us_k x1, e3, us_k x4, e2, us_k x3, e1, us_k x2]
  have body : ∀ t : PS, (∀ x, ¬ x = 81 → t x = s4 x) → (∀ j, ¬ j = 12 → t 81 j = s4 81 j) → ((¬ s 81 12 = -1 → t 81 12 = s 81 12) ∧ (s 81 12 = -1 → (t 81 12 = -1 ∧ ∀ a, a < R → a = r → ¬ (¬ kk = -3 ∧ s 75 a = s 74 5)) ∨ ∃ a, a < R ∧ a = r ∧ ¬ kk = -3 ∧ s 75 a = s 74 5 ∧ t 81 12 = (a : Int))) → SpE R K S k (fun _ => False) (fun a => a = r) rw_ kk s t ∧ t 85 = s 85 ∧ t 86 = s 86 ∧ t 81 13 = s 81 13 := by
    intro t c1 c2 c3
    have q85 : t 85 = s 85 := (c1 85 (by decide)).trans (ko 85 (by decide) (by decide) (by decide) (by decide))
    have q86 : t 86 = s 86 := (c1 86 (by decide)).trans (ko 86 (by decide) (by decide) (by decide) (by decide))
    have q13 : t 81 13 = s 81 13 := by rw [c2 13 (by decide), k81, if_neg (by decide)]
    have st4 : t 81 4 = s 81 4 := by rw [c2 4 (by decide), k81, if_neg (by decide)]
    have tT : t 81 11 = ((T + 1 : Nat) : Int) := by
      rw [c2 11 (by decide), k81, if_pos rfl]
      rfl
    have t83 : ∀ a, t 83 a = if a = r then s 81 4 else s 83 a := fun a => by rw [c1 83 (by decide)]; exact k83 a
    have t87 : ∀ a, t 87 a = if a = T then (r : Int) else s 87 a := fun a => by rw [c1 87 (by decide)]; exact k87 a
    refine ⟨⟨fun k2 v _ _ => ⟨fun z => z.2.elim, fun _ => by rw [q85, q86]; exact ⟨rfl, rfl⟩⟩, fun a _ => ⟨fun z => by rw [t83, c1 84 (by decide), k84, if_pos z, if_pos z]; exact ⟨rfl, rfl⟩, fun z => by rw [t83, c1 84 (by decide), k84, if_neg z, if_neg z]; exact ⟨rfl, rfl⟩⟩, ⟨T + 1, tT, fun i hi => ?_, fun i j hi hj e => ?_, fun a ha q => ?_⟩, ⟨T, T + 1, t1, tT, by omega, fun i hi => by rw [t87, if_neg (by omega)]⟩, c3, ⟨fun _ => q13, fun z => Or.inl ⟨q13.trans z, fun q => q.1⟩⟩, fun x hx => (c1 x (by omega)).trans (ko x (by omega) (by omega) (by omega) (by omega)), (c1 82 (by decide)).trans (ko 82 (by decide) (by decide) (by decide) (by decide)), fun j j1 j2 _ => by rw [c2 j j2, k81, if_neg j1]⟩, q85, q86, q13⟩
    · rw [st4]
      by_cases y : i = T
      · exact ⟨r, hr, by rw [t87, if_pos y], by rw [t83, if_pos rfl]⟩
      · obtain ⟨a, a1, a2, a3⟩ := t2 i (by omega)
        refine ⟨a, a1, by rw [t87, if_neg y]; exact a2, ?_⟩
        rw [t83]
        by_cases y2 : a = r
        · rw [if_pos y2]
        · rw [if_neg y2]
          exact a3
    · rw [t87, t87] at e
      by_cases y : i = T
      · by_cases y2 : j = T
        · omega
        · obtain ⟨a, a1, a2, a3⟩ := t2 j (by omega)
          rw [if_pos y, if_neg y2, a2] at e
          have e3 : a = r := by omega
          rw [e3] at a3
          exact absurd a3 hn
      · obtain ⟨a, a1, a2, a3⟩ := t2 i (by omega)
        by_cases y2 : j = T
        · rw [if_neg y, if_pos y2, a2] at e
          have e3 : a = r := by omega
          rw [e3] at a3
          exact absurd a3 hn
        · rw [if_neg y, if_neg y2] at e
          exact t3 i j (by omega) (by omega) e
    · rw [st4, t83] at q
      by_cases y : a = r
      · exact ⟨T, by omega, by rw [t87, if_pos rfl, y]⟩
      · rw [if_neg y] at q
        obtain ⟨i, i1, i2⟩ := t4 a ha q
        exact ⟨i, by omega, by rw [t87, if_neg (by omega)]; exact i2⟩
  have z12 : s4 81 12 = s 81 12 := by rw [k81, if_neg (by decide)]
  rcases m with ⟨c, m⟩ | ⟨c, _, et⟩
  · rcases m with ⟨c1, _, et⟩ | ⟨c1, m⟩
    · rw [et]
      exact body s4 (fun _ _ => rfl) (fun _ _ => rfl) ⟨fun z => absurd c z, fun _ => Or.inl ⟨z12.trans c, fun _ _ _ q => q.1 c1⟩⟩
    · rcases m with ⟨c2, s10, e10, _, et⟩ | ⟨c2, _, et⟩
      · rw [et]
        exact body s10 (fun x hx => by rw [e10, us_k hx]) (fun j hj => by rw [e10, us_j hj]) ⟨fun z => absurd c z, fun _ => Or.inr ⟨r, hr, rfl, c1, c2, by rw [e10, us_at]⟩⟩
      · rw [et]
        exact body s4 (fun _ _ => rfl) (fun _ _ => rfl) ⟨fun z => absurd c z, fun _ => Or.inl ⟨z12.trans c, fun a _ y q => by rw [y] at q; exact c2 q.2⟩⟩
  · rw [et]
    exact body s4 (fun _ _ => rfl) (fun _ _ => rfl) ⟨fun _ => z12, fun z => absurd z c⟩
end See
