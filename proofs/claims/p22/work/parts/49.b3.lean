/-! annul, as, report -/
section Acts2
variable {s t u v : PS} {r r2 : Int} {L : LT} {n : Nat}
theorem LOk.void {kn : Int} {x : Nat} {v : Int} (h : LOk kn L) (hv : (x : Int) < v ∧ v ≤ (L.1 : Int)) : LOk kn (L.void x v) := by
  intro a h1 h2
  have g := h a h1 h2
  refine ⟨g.1, g.2.1, g.2.2.1, ?_⟩
  show (if a = x then v else L.2.2.2.1 a) = 0 ∨ ((a : Int) < (if a = x then v else L.2.2.2.1 a) ∧ (if a = x then v else L.2.2.2.1 a) ≤ (L.1 : Int))
  by_cases c : a = x
  · rw [if_pos c, c]
    exact Or.inr hv
  · rw [if_neg c]
    exact g.2.2.2
theorem LX.void {x : Nat} {v : Int} (h : LX L s) : LX (L.void x v) (us s 40 x v) := by
  refine ⟨by rw [us_k (by decide)]; exact h.1, fun a h1 h2 => ?_⟩
  have g := h.2 a h1 h2
  rw [us_k (show ¬ 36 = 40 by decide), us_k (show ¬ 37 = 40 by decide), us_k (show ¬ 38 = 40 by decide), us_k (show ¬ 39 = 40 by decide)]
  refine ⟨g.1, g.2.1, ?_, g.2.2.2⟩
  rw [us_if]
  show (if a = x then v else s 40 a) = (if a = x then v else L.2.2.2.1 a)
  rw [g.2.2.1]
theorem LU.void {x : Nat} {v : Int} (h : LU L s) : LU (L.void x v) (us s 23 x v) := by
  refine ⟨by rw [us_k (by decide)]; exact h.1, fun a h1 h2 => ?_⟩
  have g := h.2 a h1 h2
  rw [us_k (show ¬ 21 = 23 by decide), us_k (show ¬ 22 = 23 by decide), us_k (show ¬ 24 = 23 by decide)]
  refine ⟨g.1, g.2.1, ?_, g.2.2.2⟩
  rw [us_if]
  show (if a = x then v else s 23 a) = (if a = x then v else L.2.2.2.1 a)
  rw [g.2.2.1]
theorem annul2 {p1 : Int} (hX : TyX s) (hL : LG L s u) (h1 : M_X11_annul s p1 r t) (h2 : M_X12_annul u p1 r2 v) : r = r2 ∧ ∃ M : LT, LExt L M ∧ LG M t v := by
  obtain ⟨l1, l2, l3, l4, l5, l6⟩ := hL
  unfold M_X11_annul T_X11_annul_e at h1
  unfold M_X12_annul T_X12_annul_e at h2
  obtain ⟨_, h1⟩ := h1
  obtain ⟨_, h2⟩ := h2
  have n1 := l1.1
  have n2 := l2.1
  have ta := tyX_acts hX
  have same : r = -1 → t = s → r2 = -1 → v = u → r = r2 ∧ ∃ M : LT, LExt L M ∧ LG M t v := by
    intro a1 a2 a3 a4
    rw [a1, a2, a3, a4]
    exact ⟨rfl, L, LExt.refl, l1, l2, l3, l4, l5, l6⟩
  rcases h1 with ⟨c1, er, es⟩ | ⟨c1, h1⟩
  · rcases h2 with ⟨d1, er2, eu⟩ | ⟨d1, -⟩
    · exact same er es er2 eu
    · omega
  · rcases h2 with ⟨d1, -⟩ | ⟨d1, h2⟩
    · try clear h1
      omega
    · rcases h1 with ⟨c2, er, es⟩ | ⟨c2, x4, s4, i4, _, _, _, h1⟩
      · rcases h2 with ⟨d2, er2, eu⟩ | ⟨d2, -⟩
        · exact same er es er2 eu
        · omega
      · rcases h2 with ⟨d2, -⟩ | ⟨d2, h2⟩
        · try clear h1
          omega
        · obtain ⟨x, rfl⟩ : ∃ x : Nat, p1 = (x : Int) := ⟨p1.toNat, by (try clear h1); (try clear h2); omega⟩
          have g1 := l1.2 x (by (try clear h1); (try clear h2); omega) (by (try clear h1); (try clear h2); omega)
          have g2 := l2.2 x (by (try clear h1); (try clear h2); omega) (by (try clear h1); (try clear h2); omega)
          have g3 := (l3 x (by (try clear h1); (try clear h2); omega) (by (try clear h1); (try clear h2); omega)).2.2.2
          rw [Int.toNat_natCast, g1.1, g1.2.2.1] at h1
          rw [Int.toNat_natCast, g2.1, g2.2.2.1] at h2
          obtain ⟨es4, i4⟩ := isFullX i4
          subst es4
          have vz : L.2.2.2.1 x = 0 ∨ 0 < L.2.2.2.1 x := by
            rcases g3 with z | z
            · exact Or.inl z
            · exact Or.inr (by omega)
          rcases h1 with ⟨c3, ⟨c4, er, es⟩ | ⟨c4, ⟨c5, x5, s5, i5, f5, _, _, er, es⟩ | ⟨c5, er, es⟩⟩⟩ | ⟨c3, er, es⟩
          · rcases h2 with ⟨d3, er2, eu⟩ | ⟨d3, -⟩
            · exact same er es er2 eu
            · omega
          · rcases h2 with ⟨d3, -⟩ | ⟨d3, h2⟩
            · try clear h1
              omega
            · rcases h2 with ⟨d4, -⟩ | ⟨d4, h2⟩
              · try clear h1
                omega
              · rcases h2 with ⟨d5, -⟩ | ⟨d5, y5, u5, j5, g5, _, _, u6, e6, er2, eu⟩
                · try clear h1
                  omega
                · unfold M_X7_addVoid T_X7_addVoid_e at i5
                  obtain ⟨_, _, x6, s6, i6, f6, _, _, s7, e7, er3, es3⟩ := i5
                  obtain ⟨a1, a2⟩ := addX i6 n1
                  obtain ⟨b1, b2⟩ := tellsM j5 n2
                  have q1 := l1.add (k := 3) (d := fun i => if i = 0 then (x : Int) else 0) (w := []) a2 rfl rfl rfl (by decide)
                  have q2 := l2.add (k := 3) (d := fun i => if i = 0 then (x : Int) else 0) (w := []) b2 rfl rfl rfl (by decide)
                  have q3 := l3.add (k := 3) (d := fun i => if i = 0 then (x : Int) else 0) (w := []) (Or.inr (Or.inr (Or.inr rfl))) (fun z => absurd z (by decide)) (fun z => absurd z (by decide))
                  have p1 := q1.void (x := x) (v := ((L.1 + 1 : Nat) : Int))
                  have p2 := q2.void (x := x) (v := ((L.1 + 1 : Nat) : Int))
                  have p3 := q3.void (x := x) (v := ((L.1 + 1 : Nat) : Int)) ⟨by (try clear h1); (try clear h2); omega, by
                    show ((L.1 + 1 : Nat) : Int) ≤ ((L.1 + 1 : Nat) : Int)
                    exact Int.le_refl _⟩
                  have et : t = us s6 40 x ((L.1 + 1 : Nat) : Int) := by rw [es, es3, e7, a1, Int.toNat_natCast]
                  have ev : v = us u5 23 x ((L.1 + 1 : Nat) : Int) := by rw [eu, e6, b1]
                  refine ⟨by rw [er, er3, a1, er2, b1], L.add 3 (fun i => if i = 0 then (x : Int) else 0) [] |>.void x ((L.1 + 1 : Nat) : Int), LExt.void c5 (by omega), by rw [et]; exact p1, by rw [ev]; exact p2, ?_, ?_, ?_, ?_⟩
                  · rw [et, us_k (by decide), f6.1 1 (by decide)]
                    exact p3
                  · rw [et, ev, us_k (by decide), us_k (by decide), a2.2.1, b2.2.1 38 (by decide)]
                    exact l4
                  · rw [ev, us_k (by decide), b2.2.1 38 (by decide)]
                    exact l5
                  · rw [ev, us_k (by decide), b2.2.1 38 (by decide)]
                    exact l6
          · rcases h2 with ⟨d3, -⟩ | ⟨d3, h2⟩
            · try clear h1
              omega
            · rcases h2 with ⟨d4, er2, eu⟩ | ⟨d4, -⟩
              · exact same er es er2 eu
              · omega
          · have same2 : r2 = -1 → v = u → r = r2 ∧ ∃ M : LT, LExt L M ∧ LG M t v := fun a b => same er es a b
            rcases h2 with ⟨d3, er2, eu⟩ | ⟨d3, h2⟩
            · exact same2 er2 eu
            · rcases h2 with ⟨d4, er2, eu⟩ | ⟨d4, h2⟩
              · exact same2 er2 eu
              · rcases h2 with ⟨d5, er2, eu⟩ | ⟨d5, -⟩
                · exact same2 er2 eu
                · exfalso
                  omega
/-- as() of both -/
def AS (s u : PS) : Prop := s 0 12 = u 0 39 ∧ -1 ≤ s 0 12 ∧ s 0 12 ≤ s 35 0
theorem as2 {p1 : Int} (hL : LG L s u) (hA : AS s u) (h1 : M_X11_as s p1 r t) (h2 : M_X12_as u p1 r2 v) : r = r2 ∧ AS t v := by
  obtain ⟨l1, l2, _⟩ := hL
  unfold M_X11_as T_X11_as_e at h1
  unfold M_X12_as T_X12_as_e at h2
  obtain ⟨_, h1⟩ := h1
  obtain ⟨_, y, u1, j, _, _, _, h2⟩ := h2
  obtain ⟨eu, j⟩ := isMm j
  subst eu
  have n1 := l1.1
  have n2 := l2.1
  unfold AS at hA ⊢
  rcases h1 with ⟨c1, er, es⟩ | ⟨c1, ⟨c2, s1, e1, er, es⟩ | ⟨c2, er, es⟩⟩
  · rcases h2 with ⟨d1, er2, eu⟩ | ⟨d1, -⟩
    · rw [er, er2, es, eu]
      exact ⟨rfl, hA⟩
    · omega
  · rcases h2 with ⟨d1, -⟩ | ⟨d1, u2, e2, er2, eu⟩
    · try clear h1
      omega
    · rw [er, er2, es, eu, e1, e2, us_at, us_at, us_k (show ¬ 35 = 0 by decide)]
      exact ⟨rfl, rfl, by omega, c2⟩
  · rcases h2 with ⟨d1, er2, eu⟩ | ⟨d1, -⟩
    · rw [er, er2, es, eu]
      exact ⟨rfl, hA⟩
    · omega
/-- the reference's report ahead of a word -/
def KpM (u v : PS) : Prop := (∀ k, ¬ k = 0 → ¬ k = 25 → v k = u k) ∧ ∀ j, (0, j) ∈ intsM → 10 ≤ j → v 0 j = u 0 j
theorem KpM.refl : KpM u u := ⟨fun _ _ _ => rfl, fun _ _ _ => rfl⟩
theorem KpM.trans {w : PS} (h : KpM u v) (k : KpM v w) : KpM u w := ⟨fun a h1 h2 => (k.1 a h1 h2).trans (h.1 a h1 h2), fun j h1 h2 => (k.2 j h1 h2).trans (h.2 j h1 h2)⟩
theorem KpM.fr {fm : List (Nat × Nat)} (hf : Fr intsM [0] fm u v) (h0 : 0 ∈ fm.map Prod.fst) (h : ∀ j, 10 ≤ j → (0, j) ∉ fm) : KpM u v := ⟨fun k h1 _ => hf.1 k (by simp only [List.mem_cons, List.not_mem_nil, or_false]; omega), fun j h1 h2 => hf.2 0 j h0 (h j h2) h1⟩
theorem KpM.nil (hf : Fr intsM [] [] u v) : KpM u v := ⟨fun k _ _ => hf.1 k List.not_mem_nil, fun j _ _ => by rw [hf.1 0 List.not_mem_nil]⟩
theorem KpM.u1 {j : Nat} {z : Int} : KpM u (us u 25 j z) := ⟨fun k _ h => us_k h, fun j _ _ => by rw [us_k (by decide)]⟩
theorem fq9 (j : Nat) (h : 10 ≤ j) : (0, j) ∉ [(0, 3), (0, 4), (0, 5), (0, 6), (0, 7), (0, 8), (0, 9)] := by
  simp only [List.mem_cons, List.not_mem_nil, or_false, Prod.mk.injEq]
  omega
theorem fq89 (j : Nat) (h : 10 ≤ j) : (0, j) ∉ [(0, 8), (0, 9)] := by
  simp only [List.mem_cons, List.not_mem_nil, or_false, Prod.mk.injEq]
  omega
theorem fq19 (j : Nat) (h : 10 ≤ j) : (0, j) ∉ [(0, 1), (0, 2), (0, 3), (0, 4), (0, 5), (0, 6), (0, 7), (0, 8), (0, 9)] := by
  simp only [List.mem_cons, List.not_mem_nil, or_false, Prod.mk.injEq]
  omega
variable {g : Nat → Nat} {N q : Nat}
def WsR (ws : Option (List (List Nat))) (w0 : List (List Nat)) (n : Nat) (x1 x2 x3 x4 x5 : Int) (s : PS) (r : Int) (t : PS) : Prop := ∃ (m : Nat) (s1 : PS) (x6 : Int), It_X12_report m 86 x1 x2 x3 x4 x5 x6 0 0 0 s1 r t ∧ KpM s s1 ∧ ((∃ w, ws = some w ∧ s1 0 8 = 0 ∧ x6 = ((w0 ++ w).length : Int) ∧ ∀ (j : Nat) (h : j < (w0 ++ w).length), s1 25 j = ((c8 (w0 ++ w)[j] : Nat) : Int)) ∨ (ws = none ∧ ¬ s1 0 8 = 0))
theorem rep7f {n : Nat} {x1 x2 x3 x4 x5 x6 : Int} (h : It_X12_report n 7 x1 x2 x3 x4 x5 x6 0 0 0 s r t) (hf : ¬ s 0 8 = 0) : ∃ m, It_X12_report m 86 x1 x2 x3 x4 x5 x6 0 0 0 s r t := by
  cases n with
  | zero => exact False.elim h
  | succ n =>
    replace h := ul_X12_report_7 h
    unfold T_X12_report_7 at h
    obtain ⟨_, _, ⟨c, _⟩ | ⟨_, h⟩⟩ := h
    · exact absurd c hf
    · exact ⟨n, h⟩
theorem repL (hN : N ≤ 1000) (hg : ∀ i, g i ≤ 255) {x1 x2 x3 x4 x5 : Int} : ∀ (n k i q : Nat) (s : PS) (r : Int) (t : PS) (w0 : List (List Nat)), It_X12_report n 7 x1 x2 x3 x4 x5 (i : Int) 0 0 0 s r t → MX g N q s → i + k = 3 → w0.length = i → (∀ (j : Nat) (h : j < w0.length), s 25 j = ((c8 w0[j] : Nat) : Int)) → WsR (wsT g N k q) w0 n x1 x2 x3 x4 x5 s r t
  | 0, k, i, q, s, r, t, w0, h, _, _, _, _ => False.elim h
  | n + 1, k, i, q, s, r, t, w0, h, hM, hk, hl, hw => by
    replace h := ul_X12_report_7 h
    unfold T_X12_report_7 at h
    obtain ⟨ty, _, h⟩ := h
    have f0 : s 0 8 = 0 := hM.2.2.1
    have sg := hM.sg.2.2.2
    have bad : ¬ tkq g N q = 256 → ¬ (tkq g N q = 258 ∧ 1 ≤ k) → wsT g N k q = none := by
      intro e c
      cases k with
      | zero =>
        unfold wsT
        rw [if_neg e]
      | succ k =>
        unfold wsT
        rw [if_neg e, if_neg (fun z => c ⟨z, by omega⟩)]
    have blm : ∀ (s1 s2 : PS) (a b : Int), KpM s s1 → TyM s1 → M_X12_blame s1 a b 0 s2 → Fr intsM [0] [(0, 8), (0, 9)] s1 s2 → It_X12_report n 7 x1 x2 x3 x4 x5 (i : Int) 0 0 0 s2 r t → wsT g N k q = none → WsR (wsT g N k q) w0 (n + 1) x1 x2 x3 x4 x5 s r t := by
      intro s1 s2 a b hk1 ty1 hb hf h hn
      have bf := blameF hb (tyM_flt ty1).1
      obtain ⟨m, h⟩ := rep7f h bf.1
      exact ⟨m, s2, _, h, hk1.trans (KpM.fr hf (by decide) fq89), Or.inr ⟨hn, bf.1⟩⟩
    rcases h with ⟨_, ⟨c1, h⟩ | ⟨c1, h⟩⟩ | ⟨c, _⟩
    · have e : tkq g N q = 256 := by
        rcases sg with z | z | z | z
        · exact z.1
        · exact absurd (c1.symm.trans z.2.2.1) (by decide)
        · exact absurd (c1.symm.trans z.2.1) (by decide)
        · exact absurd (c1.symm.trans z.2.1) (by decide)
      have fin : wsT g N k q = some [] := by
        cases k with
        | zero =>
          unfold wsT
          rw [if_pos e]
        | succ k =>
          unfold wsT
          rw [if_pos e]
      refine ⟨n, s, _, h, KpM.refl, Or.inl ⟨[], fin, f0, ?_, fun j hj => ?_⟩⟩
      · rw [List.append_nil, hl]
      · have hj2 : j < w0.length := by
          rw [List.append_nil] at hj
          exact hj
        rw [hw j hj2]
        simp only [List.append_nil]
    · have e : ¬ tkq g N q = 256 := by
        rcases sg with z | z | z | z
        · exact absurd z.2 c1
        · exact fun y => absurd (y ▸ z.1) (by decide)
        · exact fun y => absurd (y.symm.trans z.1) (by decide)
        · exact fun y => absurd (y ▸ z.1) (by decide)
      rcases h with ⟨c2, r1, s1, hm, hf, ty1, _, h⟩ | ⟨c2, s2, hb, hf, _, _, h⟩
      · obtain ⟨e1, k1⟩ := isOwnM hg hm hM c2
        subst e1
        rcases h with ⟨c3, ⟨c4, s2, hb, hf2, _, _, h⟩ | ⟨c4, _, s2, e2, s3, hm3, hf3, _, h⟩⟩ | ⟨c3, s2, hb, hf2, _, _, h⟩
        · exact blm s1 s2 _ _ KpM.refl ty hb hf2 h (bad e (by omega))
        · have e58 : tkq g N q = 258 := by
            rcases k1 with z | z
            · omega
            · exact z.2
          obtain ⟨k, rfl⟩ : ∃ k2, k = k2 + 1 := ⟨k - 1, by clear h; omega⟩
          have wd := MX.word hg hM c2
          rw [wd.2.2.1, Int.toNat_natCast] at e2
          have hM2 : MX g N q s2 := by
            rw [e2]
            exact hM.cg (us_k (by decide)) (fun j _ _ => by rw [us_k (by decide)])
          have nx := lookX hN hg (hM2.mw e) hm3 hf3
          have un : wsT g N (k + 1) q = (wsT g N k (nxq g N q)).map (fun l => ltq g N q :: l) := by
            show (if tkq g N q = 256 then some [] else if tkq g N q = 258 then (wsT g N k (nxq g N q)).map (fun l => ltq g N q :: l) else none) = _
            rw [if_neg e, if_pos e58]
          have kp : KpM s1 s3 := by
            refine KpM.trans ?_ (KpM.fr hf3 (by decide) fq9)
            rw [e2]
            exact KpM.u1
          rcases nx with ⟨n1, n2⟩ | nx
          · obtain ⟨m, h⟩ := rep7f h n1
            refine ⟨m, s3, _, h, kp, Or.inr ⟨?_, n1⟩⟩
            rw [un]
            have z : wsT g N k (nxq g N q) = none := by
              cases k with
              | zero =>
                unfold wsT
                rw [if_neg (by omega)]
              | succ k =>
                unfold wsT
                rw [if_neg (by omega), if_neg (by omega)]
            rw [z]
            rfl
          · have z := repL hN hg n k (i + 1) (nxq g N q) s3 r t (w0 ++ [ltq g N q]) h nx (by clear h; omega) (by rw [List.length_append, hl]; rfl) (fun j hj => by
              rw [hf3.1 25 (by decide), e2]
              rw [List.length_append] at hj
              have hj2 : j < i + 1 := by
                rw [← hl]
                exact hj
              by_cases y : j = i
              · subst y
                rw [us_at]
                subst hl
                rw [List.getElem_append_right (Nat.le_refl _)]
                simp
              · rw [us_j y, List.getElem_append_left (by omega)]
                exact hw j (by omega))
            obtain ⟨m, s4, x6, z1, z2, z3⟩ := z
            refine ⟨m, s4, x6, z1, kp.trans z2, ?_⟩
            have ea : ∀ l : List (List Nat), w0 ++ [ltq g N q] ++ l = w0 ++ ltq g N q :: l := fun l => by
              rw [List.append_assoc]
              rfl
            rcases z3 with ⟨w, z4, z5, z6, z7⟩ | ⟨z4, z5⟩
            · refine Or.inl ⟨ltq g N q :: w, by rw [un, z4]; rfl, z5, by rw [← ea]; exact z6, fun j hj => ?_⟩
              have hj2 : j < (w0 ++ [ltq g N q] ++ w).length := by
                rw [ea]
                exact hj
              rw [z7 j hj2]
              simp only [ea]
            · exact Or.inr ⟨by rw [un, z4]; rfl, z5⟩
        · exact blm s1 s2 _ _ KpM.refl ty hb hf2 h (bad e (by omega))
      · refine blm s s2 _ _ KpM.refl ty hb hf h (bad e ?_)
        rcases sg with z | z | z | z
        · exact absurd z.1 e
        · exact absurd z.2.2.1 c2
        · omega
        · omega
    · exact absurd f0 c
/-- a report's numbers -/
def RpOk (p1 p2 p3 p4 p5 : Int) : Prop := (0 ≤ p1 ∧ p1 ≤ 9999) ∧ (0 ≤ p2 ∧ p2 ≤ 17) ∧ (0 ≤ p3 ∧ p3 ≤ 99) ∧ (0 ≤ p4 ∧ p4 ≤ 999) ∧ (1 ≤ p5 ∧ p5 ≤ 24)
theorem wish24 {a x6 : Int} {w : List (List Nat)} {x1 x2 x3 x4 x5 : Int} {A : Nat} (ha : a = (A : Int)) (hx : x6 = (w.length : Int)) : ∀ (n i : Nat) (s : PS) (r : Int) (t : PS), It_X12_report n 207 x1 x2 x3 x4 x5 x6 1 a (i : Int) s r t → i ≤ 3 → (∀ (j : Nat) (h : j < w.length), s 25 j = ((c8 w[j] : Nat) : Int)) → r = a ∧ (∀ k, ¬ k = 24 → t k = s k) ∧ (∀ j, j < 3 * A + i ∨ 3 * A + 3 ≤ j → t 24 j = s 24 j) ∧ ∀ j, i ≤ j → j < 3 → (∀ h : j < w.length, t 24 (3 * A + j) = ((c8 w[j] : Nat) : Int)) ∧ (w.length ≤ j → t 24 (3 * A + j) = 0)
  | 0, i, s, r, t, h, _, _ => False.elim h
  | n + 1, i, s, r, t, h, hi, hw => by
    replace h := ul_X12_report_207 h
    unfold T_X12_report_207 at h
    obtain ⟨_, _, _, _, _, _, _, _, _, _, h⟩ := h
    rcases h with ⟨c1, er, es⟩ | ⟨c1, ⟨c2, s1, e1, h⟩ | ⟨c2, s1, e1, h⟩⟩
    · rw [es]
      exact ⟨er, fun _ _ => rfl, fun _ _ => rfl, fun j h1 h2 => absurd h2 (by omega)⟩
    · have ix : (3 * a + (i : Int)).toNat = 3 * A + i := by omega
      rw [ix] at e1
      have z := wish24 (x6 := x6) ha hx n (i + 1) s1 r t h (by clear h; omega) (fun j hj => by rw [e1, us_k (by decide)]; exact hw j hj)
      obtain ⟨z1, z2, z3, z4⟩ := z
      refine ⟨z1, fun k hk => by rw [z2 k hk, e1, us_k hk], fun j hj => ?_, fun j h1 h2 => ?_⟩
      · rw [z3 j (by omega), e1, us_j (by omega)]
      · by_cases y : j = i
        · subst y
          have e : t 24 (3 * A + j) = 0 := by rw [z3 _ (by omega), e1, us_at]
          exact ⟨fun hh => absurd hh (by omega), fun _ => e⟩
        · exact z4 j (by omega) h2
    · have ix : (3 * a + (i : Int)).toNat = 3 * A + i := by omega
      have hi2 : i < w.length := by clear h; omega
      rw [ix, Int.toNat_natCast, hw i hi2] at e1
      have z := wish24 (x6 := x6) ha hx n (i + 1) s1 r t h (by clear h; omega) (fun j hj => by rw [e1, us_k (by decide)]; exact hw j hj)
      obtain ⟨z1, z2, z3, z4⟩ := z
      refine ⟨z1, fun k hk => by rw [z2 k hk, e1, us_k hk], fun j hj => ?_, fun j h1 h2 => ?_⟩
      · rw [z3 j (by omega), e1, us_j (by omega)]
      · by_cases y : j = i
        · subst y
          have e : t 24 (3 * A + j) = ((c8 w[j] : Nat) : Int) := by rw [z3 _ (by omega), e1, us_at]
          exact ⟨fun _ => e, fun hh => absurd hh (by omega)⟩
        · exact z4 j (by omega) h2
/-- the reference's state behind a report that is told -/
def RdM (n : Nat) (p1 p2 p3 p4 p5 : Int) (w : List (List Nat)) (u v : PS) : Prop := v 0 37 = ((n + 1 : Nat) : Int) ∧ v 0 38 = u 0 38 + 1 ∧ (∀ j, v 21 j = if j = n + 1 then 0 else u 21 j) ∧ (∀ j, v 23 j = if j = n + 1 then 0 else u 23 j) ∧ (∀ j, v 22 j = if j = 5 * (n + 1) + 4 then p5 else if j = 5 * (n + 1) + 3 then p4 else if j = 5 * (n + 1) + 2 then p3 else if j = 5 * (n + 1) + 1 then p2 else if j = 5 * (n + 1) then p1 else u 22 j) ∧ (∀ j, j < 3 * (n + 1) ∨ 3 * (n + 1) + 3 ≤ j → v 24 j = u 24 j) ∧ (∀ j, j < 3 → (∀ h : j < w.length, v 24 (3 * (n + 1) + j) = ((c8 w[j] : Nat) : Int)) ∧ (w.length ≤ j → v 24 (3 * (n + 1) + j) = 0))
theorem rep86 {n m : Nat} {p1 p2 p3 p4 p5 x6 : Int} {w : List (List Nat)} (hn : u 0 37 = (n : Int)) (hr : 0 ≤ u 0 38 ∧ u 0 38 ≤ 80) (h : It_X12_report m 86 p1 p2 p3 p4 p5 x6 0 0 0 u r v) (f0 : u 0 8 = 0) (hx : x6 = (w.length : Int)) (hw : ∀ (j : Nat) (h : j < w.length), u 25 j = ((c8 w[j] : Nat) : Int)) : (r = -1 ∧ v = u ∧ ¬ (RpOk p1 p2 p3 p4 p5 ∧ ¬ u 0 37 = 200 ∧ ¬ u 0 38 = 80)) ∨ (r = ((n + 1 : Nat) : Int) ∧ RpOk p1 p2 p3 p4 p5 ∧ (¬ u 0 37 = 200 ∧ ¬ u 0 38 = 80) ∧ RdM n p1 p2 p3 p4 p5 w u v) := by
  cases m with
  | zero => exact False.elim h
  | succ m =>
    replace h := ul_X12_report_86 h
    unfold T_X12_report_86 at h
    obtain ⟨_, _, ⟨_, y1, u1, j1, _, _, _, h⟩ | ⟨c, _⟩⟩ := h
    · obtain ⟨e1, j1⟩ := isMm j1
      subst e1
      unfold RpOk
      rcases h with ⟨d1, er, es⟩ | ⟨d1, y2, u2, j2, _, _, _, h⟩
      · exact Or.inl ⟨er, es, by omega⟩
      obtain ⟨e2, j2⟩ := isMm j2
      subst e2
      rcases h with ⟨d2, er, es⟩ | ⟨d2, y3, u3, j3, _, _, _, h⟩
      · exact Or.inl ⟨er, es, by omega⟩
      obtain ⟨e3, j3⟩ := isMm j3
      subst e3
      rcases h with ⟨d3, er, es⟩ | ⟨d3, y4, u4, j4, _, _, _, h⟩
      · exact Or.inl ⟨er, es, by omega⟩
      obtain ⟨e4, j4⟩ := isMm j4
      subst e4
      rcases h with ⟨d4, er, es⟩ | ⟨d4, y5, u5, j5, _, _, _, h⟩
      · exact Or.inl ⟨er, es, by omega⟩
      obtain ⟨e5', j5⟩ := isMm j5
      subst e5'
      rcases h with ⟨d5, er, es⟩ | ⟨d5, h⟩
      · exact Or.inl ⟨er, es, by omega⟩
      rcases h with ⟨d6, er, es⟩ | ⟨d6, h⟩
      · exact Or.inl ⟨er, es, by omega⟩
      rcases h with ⟨d7, er, es⟩ | ⟨d7, u6, e6, y7, u7, j7, f7, _, _, h⟩
      · exact Or.inl ⟨er, es, by omega⟩
      rw [wi_id (by clear h; omega) (by clear h; omega)] at e6
      have n6 : u6 0 37 = (n : Int) := by rw [e6, us_j (by decide), hn]
      obtain ⟨b1, b2⟩ := tellsM j7 n6
      have h2 : It_X12_report m 207 p1 p2 p3 p4 p5 x6 1 y7 ((0 : Nat) : Int) u7 r v := h
      have z := wish24 (A := n + 1) (w := w) b1 hx m 0 u7 r v h2 (by decide) (fun j hj => by
        rw [b2.2.2.2.2.2 25 (by decide) (by decide) (by decide) (by decide), e6, us_k (by decide)]
        exact hw j hj)
      obtain ⟨z1, z2, z3, z4⟩ := z
      refine Or.inr ⟨z1.trans b1, by clear h h2 z1 z2 z3 z4 b2 hw; omega, ⟨d6, d7⟩, ?_, ?_, fun j => ?_, fun j => ?_, fun j => ?_, fun j hj => ?_, fun j hj => ?_⟩
      · rw [z2 0 (by decide)]
        exact b2.1
      · rw [z2 0 (by decide), b2.2.1 38 (by decide), e6, us_at]
      · rw [z2 21 (by decide), b2.2.2.1, e6, us_k (by decide)]
      · rw [z2 23 (by decide), b2.2.2.2.1, e6, us_k (by decide)]
      · rw [z2 22 (by decide), b2.2.2.2.2.1, e6, us_k (by decide)]
      · rw [z3 j (by omega), b2.2.2.2.2.2 24 (by decide) (by decide) (by decide) (by decide), e6, us_k (by decide)]
      · exact z4 j (Nat.zero_le _) hj
    · exact absurd f0 c
end Acts2
