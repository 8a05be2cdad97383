/-! the ranker: a kind spreads over slots -/
theorem tb_all0 {x : Int32} (h : ∀ j, j < 32 → tb x.toInt j = false) : x.toInt = 0 := by
  have e : x.toBitVec = 0#32 := BitVec.eq_of_getLsbD_eq (fun j hj => by
    have z := h j hj
    rw [tb_get _ hj, Int32.ofInt_toInt] at z
    rw [z, BitVec.getLsbD_zero])
  show x.toBitVec.toInt = 0
  rw [e]
  decide
theorem and_shl0 {v : Int} {k : Nat} (hk : k < 32) : iAnd v (iShl 1 (k : Int)) = 0 ↔ tb v k = false := by
  constructor
  · intro h
    have z : tb (iAnd v (iShl 1 (k : Int))) k = false := by
      rw [h]
      exact tb_zero hk
    rw [tb_and2 hk, tb_shl hk hk, decide_eq_true rfl, Bool.and_true] at z
    exact z
  · intro h
    have e : iAnd v (iShl 1 (k : Int)) = (Int32.ofInt v &&& Int32.ofInt (iShl 1 (k : Int))).toInt := rfl
    rw [e]
    refine tb_all0 (fun j hj => ?_)
    rw [← e, tb_and2 hj, tb_shl hk hj]
    by_cases c : k = j
    · rw [← c, h]
      rfl
    · rw [decide_eq_false c, Bool.and_false]
def hitS (sl : Nat → Nat) (pt X : Nat → Nat → Int) (k : Nat) (I : Nat → Prop) (s : PS) (r : Nat) : Prop := X r k = 1 ∧ tb (s 82 r) k = false ∧ I (sl r) ∧ ¬ s 83 r = s 81 4 ∧ s 75 r = s 77 (24 * k + sl r) + pt r k
section Spr
variable {R K S k : Nat} {sl fr : Nat → Nat} {D : Nat → Int} {al : Nat → Nat → Prop} {pt cu X : Nat → Nat → Int} {I I1 I2 hit hit1 hit2 : Nat → Prop} {rw_ kk cost : Int} {s t u : PS} {rr : Int}
theorem SpE.seq (a : SpE R K S k I1 (hitS sl pt X k I1 s) rw_ kk s u) (b : SpE R K S k I2 (hitS sl pt X k I2 u) rw_ kk u t) (hS : 0 < S) (hd : ∀ x, I1 x → I2 x → False) : SpE R K S k (fun x => I1 x ∨ I2 x) (hitS sl pt X k (fun x => I1 x ∨ I2 x) s) rw_ kk s t := by
  refine (a.comp b).ci hS (fun _ _ => Iff.rfl) (fun r hr => ?_)
  obtain ⟨_, a2, _, _, _, _, a12, a13, a14⟩ := a
  have st : u 81 4 = s 81 4 := a14 4 (by decide) (by decide) (by decide)
  constructor
  · intro z
    rcases z with z | z
    · exact ⟨z.1, z.2.1, Or.inl z.2.2.1, z.2.2.2⟩
    · obtain ⟨z1, z2, z3, z4, z5⟩ := z
      rw [a13] at z2
      rw [a12 75 (by decide), a12 77 (by decide)] at z5
      rw [st] at z4
      refine ⟨z1, z2, Or.inr z3, fun q => ?_, z5⟩
      rw [((a2 r hr).2 (fun w => w.2.2.2.1 q)).1] at z4
      exact z4 q
  · intro z
    obtain ⟨z1, z2, z3, z4, z5⟩ := z
    rcases z3 with z3 | z3
    · exact Or.inl ⟨z1, z2, z3, z4, z5⟩
    · refine Or.inr ⟨z1, by rw [a13]; exact z2, z3, ?_, by rw [a12 75 (by decide), a12 77 (by decide)]; exact z5⟩
      rw [st, ((a2 r hr).2 (fun w => hd _ w.2.2.1 z3)).1]
      exact z4
def hitT (slot x : Nat) (sl : Nat → Nat) (pt X : Nat → Nat → Int) (k : Nat) (s : PS) (r : Nat) : Prop := X r k = 1 ∧ tb (s 82 r) k = false ∧ (sl r = slot ∧ x ≤ r) ∧ ¬ s 83 r = s 81 4 ∧ s 75 r = s 77 (24 * k + sl r) + pt r k
/-- the rows of a slot, from x on -/
theorem see102 {slot : Nat} (hkK : k < K) (hslot : slot < S) (hc : -2199023255552 ≤ cost ∧ cost ≤ 2199023255552) {pl : Int} : ∀ fu : Nat, (∀ (x : Nat) (s : PS) (rr : Int) (t : PS), It_X9_see fu 102 rw_ (k : Int) (slot : Int) pl cost (x : Int) 0 s rr t → FlS R K S sl fr D al pt cu X s → LiI R s → s 77 (24 * k + slot) = cost → fr slot ≤ x → (x ≤ fr (slot + 1) ∨ fr (slot + 1) ≤ fr slot) → SpE R K S k (fun _ => False) (hitT slot x sl pt X k s) rw_ (k : Int) s t ∧ t 85 = s 85 ∧ t 86 = s 86 ∧ t 81 13 = s 81 13) ∧ ∀ (x : Nat) (y8 : Int) (s : PS) (rr : Int) (t : PS), It_X9_see fu 206 rw_ (k : Int) (slot : Int) pl cost (x : Int) y8 s rr t → FlS R K S sl fr D al pt cu X s → LiI R s → s 77 (24 * k + slot) = cost → fr slot ≤ x → x < fr (slot + 1) → SpE R K S k (fun _ => False) (hitT slot (x + 1) sl pt X k s) rw_ (k : Int) s t ∧ t 85 = s 85 ∧ t 86 = s 86 ∧ t 81 13 = s 81 13
  | 0 => ⟨fun x s rr t m => False.elim m, fun x y8 s rr t m => False.elim m⟩
  | fu + 1 => by
    have ih := see102 hkK hslot hc (pl := pl) fu
    refine ⟨fun x s rr t m hF hL hcost hx0 hx => ?_, fun x y8 s rr t m hF hL hcost hx0 hx => ?_⟩
    · have hF0 := hF
      obtain ⟨f1, f2, f3, f4, f5, f6, f7, f8⟩ := hF
      have hS : 0 < S := by omega
      replace m := ul_X9_see_102 m
      unfold T_X9_see_102 at m
      obtain ⟨_, _, _, _, _, _, m⟩ := m
      have e66 : ((slot : Int) + 1).toNat = slot + 1 := by
        clear m
        omega
      rw [e66, (f6 (slot + 1) (by omega)).1, Int.toNat_natCast] at m
      rcases m with ⟨c, _, et⟩ | ⟨c, m⟩
      · rw [et]
        refine ⟨SpE.no hL (fun _ q => q) (fun r hr z => ?_), rfl, rfl, rfl⟩
        have y := (f7 r slot hr hslot).mpr z.2.2.1.1
        have y2 := z.2.2.1.2
        omega
      · have hxf : x < fr (slot + 1) := by
          clear m
          omega
        have hxR : x < R := by
          have z := (f6 (slot + 1) (by omega)).2
          clear m
          omega
        have hsx : sl x = slot := (f7 x slot hxR hslot).mp ⟨hx0, hxf⟩
        obtain ⟨g1, g2, g3, g4, g5⟩ := f4 x k hxR hkK
        have bit : iAnd (iAnd (s 70 x) (iXor (s 82 x) (-1))) (iShl 1 (k : Int)) = 0 ↔ ¬ (X x k = 1 ∧ tb (s 82 x) k = false) := by
          rw [and_shl0 (by omega), tb_and2 (by omega), tb_xor2 (by omega), tb_m32 ⟨k, by omega⟩]
          constructor
          · intro z w
            rw [g2.mpr w.1, w.2] at z
            exact absurd z (by decide)
          · intro z
            cases h1 : tb (s 70 x) k with
            | false => rfl
            | true =>
              cases h2 : tb (s 82 x) k with
              | false => exact absurd ⟨g2.mp h1, h2⟩ z
              | true => rfl
        -- row x is no hit
        have skip : ∀ y8 : Int, It_X9_see fu 206 rw_ (k : Int) (slot : Int) pl cost (x : Int) y8 s rr t → ¬ hitT slot x sl pt X k s x → SpE R K S k (fun _ => False) (hitT slot x sl pt X k s) rw_ (k : Int) s t ∧ t 85 = s 85 ∧ t 86 = s 86 ∧ t 81 13 = s 81 13 := by
          intro y8 m2 hn
          obtain ⟨w1, w2⟩ := ih.2 x y8 s rr t m2 hF0 hL hcost hx0 hxf
          refine ⟨w1.ci hS (fun _ _ => Iff.rfl) (fun r hr => ⟨fun z => ⟨z.1, z.2.1, ⟨z.2.2.1.1, by have := z.2.2.1.2; omega⟩, z.2.2.2⟩, fun z => ⟨z.1, z.2.1, ⟨z.2.2.1.1, ?_⟩, z.2.2.2⟩⟩), w2⟩
          by_cases e : r = x
          · rw [e] at z
            exact absurd z hn
          · have := z.2.2.1.2
            omega
        rcases m with ⟨c1, m⟩ | ⟨c1, m⟩
        · exact skip 0 m (fun z => (bit.mp c1) ⟨z.1, z.2.1⟩)
        · have hX : X x k = 1 ∧ tb (s 82 x) k = false := by
            by_cases q : X x k = 1 ∧ tb (s 82 x) k = false
            · exact q
            · exact absurd (bit.mpr q) c1
          rcases m with ⟨c2, m⟩ | ⟨c2, r16, s15, m15, _, _, m⟩
          · exact skip 1 m (fun z => z.2.2.2.1 c2)
          · unfold M_X3_pointsOf T_X3_pointsOf_e at m15
            obtain ⟨_, _, _, er, es⟩ := m15
            have ei : (((x : Int) * 10) + (k : Int)).toNat = 10 * x + k := by
              clear m
              omega
            rw [ei, g3] at er
            rw [er, es, wl_id (by clear m; omega) (by clear m; omega)] at m
            rcases m with ⟨c3, s22, m22, _, _, m⟩ | ⟨c3, m⟩
            · obtain ⟨w1, w2, w3, w4⟩ := seeRowF (K := K) (S := S) (k := k) (rw_ := rw_) hL f2.1 hxR c2 m22
              obtain ⟨_, a2, aL, _, _, _, a12, a13, a14⟩ := id w1
              have st : s22 81 4 = s 81 4 := a14 4 (by decide) (by decide) (by decide)
              obtain ⟨v1, v2, v3, v4⟩ := ih.2 x 1 s22 rr t m (hF0.cg (fun y y1 y2 => a12 y (by omega))) aL (by rw [a12 77 (by decide)]; exact hcost) hx0 hxf
              refine ⟨(w1.comp v1).ci hS (fun _ _ => ⟨fun z => z.elim id id, fun z => Or.inl z⟩) (fun r hr => ⟨fun z => ?_, fun z => ?_⟩), v2.trans w2, v3.trans w3, v4.trans w4⟩
              · rcases z with z | z
                · have e : r = x := z
                  rw [e]
                  exact ⟨hX.1, hX.2, ⟨hsx, Nat.le_refl x⟩, c2, by rw [hsx, hcost]; exact c3⟩
                · obtain ⟨z1, z2, z3, z4, z5⟩ := z
                  have ne : ¬ r = x := by
                    have := z3.2
                    omega
                  rw [a13] at z2
                  rw [st, ((a2 r hr).2 ne).1] at z4
                  rw [a12 75 (by decide), a12 77 (by decide)] at z5
                  exact ⟨z1, z2, ⟨z3.1, by have := z3.2; omega⟩, z4, z5⟩
              · by_cases e : r = x
                · exact Or.inl e
                · obtain ⟨z1, z2, z3, z4, z5⟩ := z
                  refine Or.inr ⟨z1, by rw [a13]; exact z2, ⟨z3.1, by have := z3.2; omega⟩, ?_, by rw [a12 75 (by decide), a12 77 (by decide)]; exact z5⟩
                  rw [st, ((a2 r hr).2 e).1]
                  exact z4
            · exact skip 1 m (fun z => c3 (by have y := z.2.2.2.2; rw [hsx, hcost] at y; exact y))
    · replace m := ul_X9_see_206 m
      unfold T_X9_see_206 at m
      obtain ⟨_, _, _, _, _, _, _, m⟩ := m
      exact ih.1 (x + 1) s rr t m hF hL hcost (by omega) (Or.inl (by omega))
theorem seeF {slot : Nat} (hF : FlS R K S sl fr D al pt cu X s) (hL : LiI R s) (hkK : k < K) (hslot : slot < S) (hc : -2199023255552 ≤ s 77 (24 * k + slot) ∧ s 77 (24 * k + slot) ≤ 2199023255552) (m : M_X9_see s rw_ (k : Int) (slot : Int) rr t) : SpE R K S k (fun x => x = slot) (hitS sl pt X k (fun x => x = slot) s) rw_ (k : Int) s t := by
  have hS : 0 < S := by omega
  have hF0 := hF
  obtain ⟨f1, f2, f3, f4, f5, f6, f7, f8⟩ := hF
  obtain ⟨fu, m⟩ := m
  unfold T_X9_see_e at m
  obtain ⟨_, _, _, _, s28, e28, s29, e29, m⟩ := m
  have ei : (((k : Int) * 24) + (slot : Int)).toNat = 24 * k + slot := by
    clear m
    omega
  rw [ei] at e28 e29 m
  rw [f1.2.2] at m
  have k29 : ∀ x, ¬ x = 85 → ¬ x = 86 → s29 x = s x := fun x x1 x2 => by rw [e29, us_k x2, e28, us_k x1]
  have v85 : ∀ i, s29 85 i = if i = 24 * k + slot then s 81 4 else s 85 i := fun i => by rw [e29, us_k (by decide), e28, us_if]
  have v86 : ∀ i, s29 86 i = if i = 24 * k + slot then rw_ else s 86 i := fun i => by rw [e29, us_if, e28, us_k (by decide)]
  -- behind the left kind: the rows
  have rest : ∀ (s1 : PS) (p5 p6 : Int), It_X9_see fu 91 rw_ (k : Int) (slot : Int) ((k : Int) * 24 + (slot : Int)) (s 77 (24 * k + slot)) p5 p6 s1 rr t → (∀ x, ¬ x = 81 → s1 x = s29 x) → (∀ j, ¬ j = 13 → s1 81 j = s 81 j) → ((¬ s 81 13 = -1 → s1 81 13 = s 81 13) ∧ (s 81 13 = -1 → (s1 81 13 = -1 ∧ ¬ ((S - 1 = slot) ∧ 0 < s 73 (24 * k + (S - 1)) ∧ s 77 (24 * k + (S - 1)) = s 74 6)) ∨ (((S - 1 = slot) ∧ 0 < s 73 (24 * k + (S - 1)) ∧ s 77 (24 * k + (S - 1)) = s 74 6) ∧ s1 81 13 = (k : Int)))) → SpE R K S k (fun x => x = slot) (hitS sl pt X k (fun x => x = slot) s) rw_ (k : Int) s t := by
    intro s1 p5 p6 m1 c1 c2 c3
    cases fu with
    | zero => exact False.elim m1
    | succ fu =>
      replace m1 := ul_X9_see_91 m1
      unfold T_X9_see_91 at m1
      obtain ⟨_, _, _, _, _, m1⟩ := m1
      have kx : ∀ x, ¬ x = 81 → ¬ x = 85 → ¬ x = 86 → s1 x = s x := fun x x1 x2 x3 => (c1 x x1).trans (k29 x x2 x3)
      have F1 : FlS R K S sl fr D al pt cu X s1 := hF0.cg (fun y y1 y2 => kx y (by omega) (by omega) (by omega))
      rw [Int.toNat_natCast, (F1.2.2.2.2.2.1 slot (by omega)).1] at m1
      have L1 : LiI R s1 := by
        unfold LiI at hL ⊢
        rw [c2 11 (by decide), c2 4 (by decide), kx 87 (by decide) (by decide) (by decide), kx 83 (by decide) (by decide) (by decide)]
        exact hL
      obtain ⟨w1, w2, w3, w4⟩ := (see102 hkK hslot hc fu).1 (fr slot) s1 rr t m1 F1 L1 (by rw [kx 77 (by decide) (by decide) (by decide)]) (Nat.le_refl _) (by omega)
      obtain ⟨_, a2, a3, a4, a5, _, a12, a13, a14⟩ := w1
      have st : s1 81 4 = s 81 4 := c2 4 (by decide)
      rw [st] at a2
      have hh : ∀ r, r < R → (hitS sl pt X k (fun x => x = slot) s r ↔ hitT slot (fr slot) sl pt X k s1 r) := fun r hr => by
        unfold hitS hitT
        rw [kx 82 (by decide) (by decide) (by decide), kx 83 (by decide) (by decide) (by decide), kx 75 (by decide) (by decide) (by decide), kx 77 (by decide) (by decide) (by decide), st]
        exact ⟨fun z => ⟨z.1, z.2.1, ⟨z.2.2.1, ((f7 r slot hr hslot).mpr z.2.2.1).1⟩, z.2.2.2⟩, fun z => ⟨z.1, z.2.1, z.2.2.1.1, z.2.2.2⟩⟩
      rw [kx 75 (by decide) (by decide) (by decide), kx 74 (by decide) (by decide) (by decide), c2 12 (by decide)] at a5
      rw [c2 11 (by decide), kx 87 (by decide) (by decide) (by decide)] at a4
      refine ⟨fun k2 v p q => ⟨fun z => ?_, fun z => ?_⟩, fun r p => ⟨fun z => (a2 r p).1 ((hh r p).mp z), fun z => ?_⟩, a3, a4, ⟨a5.1, fun z => ?_⟩, ?_, fun x hx => (a12 x hx).trans (kx x (by omega) (by omega) (by omega)), a13.trans (kx 82 (by decide) (by decide) (by decide)), fun j j1 j2 j3 => (a14 j j1 j2 j3).trans (c2 j j3)⟩
      · have e1 : v = slot := z.2
        rw [w2, w3, c1 85 (by decide), c1 86 (by decide), v85, v86, if_pos (by omega), if_pos (by omega)]
        exact ⟨rfl, rfl⟩
      · have ne : ¬ 24 * k2 + v = 24 * k + slot := fun e => z ⟨by omega, by show v = slot; omega⟩
        rw [w2, w3, c1 85 (by decide), c1 86 (by decide), v85, v86, if_neg ne, if_neg ne]
        exact ⟨rfl, rfl⟩
      · obtain ⟨y1, y2⟩ := (a2 r p).2 (fun c => z ((hh r p).mpr c))
        rw [y1, y2, kx 83 (by decide) (by decide) (by decide), kx 84 (by decide) (by decide) (by decide)]
        exact ⟨rfl, rfl⟩
      · rcases a5.2 z with ⟨y1, y2⟩ | ⟨r, y1, y2, y3⟩
        · exact Or.inl ⟨y1, fun r p q => y2 r p ((hh r p).mp q)⟩
        · exact Or.inr ⟨r, y1, (hh r y1).mpr y2, y3⟩
      · rw [w4]
        exact c3
  have k81 : s29 81 = s 81 := k29 81 (by decide) (by decide)
  have g5 := (f5 k slot hkK hslot).1
  rcases m with ⟨c, m⟩ | ⟨c, m⟩
  · have eS : S - 1 = slot := by
      clear m
      omega
    rcases m with ⟨c1, m⟩ | ⟨c1, m⟩
    · rcases m with ⟨c2, m⟩ | ⟨c2, m⟩
      · exact rest s29 _ _ m (fun _ _ => rfl) (fun j _ => by rw [k81]) ⟨fun z => absurd c1 z, fun _ => Or.inl ⟨by rw [k81]; exact c1, fun q => by
          have y := q.2.1
          rw [eS] at y
          omega⟩⟩
      · rcases m with ⟨c3, s36, e36, m⟩ | ⟨c3, m⟩
        · exact rest s36 _ _ m (fun x hx => by rw [e36, us_k hx]) (fun j hj => by rw [e36, us_j hj, k81]) ⟨fun z => absurd c1 z, fun _ => Or.inr ⟨⟨eS, by rw [eS]; clear m; omega, by rw [eS]; exact c3⟩, by rw [e36, us_at]⟩⟩
        · exact rest s29 _ _ m (fun _ _ => rfl) (fun j _ => by rw [k81]) ⟨fun z => absurd c1 z, fun _ => Or.inl ⟨by rw [k81]; exact c1, fun q => by
            have y := q.2.2
            rw [eS] at y
            exact c3 y⟩⟩
    · exact rest s29 _ _ m (fun _ _ => rfl) (fun j _ => by rw [k81]) ⟨fun _ => by rw [k81], fun z => absurd z c1⟩
  · refine rest s29 _ _ m (fun _ _ => rfl) (fun j _ => by rw [k81]) ⟨fun _ => by rw [k81], fun z => Or.inl ⟨by rw [k81]; exact z, fun q => ?_⟩⟩
    have y := q.1
    clear m
    omega
end Spr
