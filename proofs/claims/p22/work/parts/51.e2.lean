/-! other statements in the class: their rows and codes -/
def whX (k : Nat) : Int := if k = 0 then 6 else if k = 1 then 8 else if k = 2 then 10 else 11
def Ro1 (i : Nat) (o : OT) (C : List OPc) (s : PS) : Prop := s 23 i = whX o.1 ∧ ∃ C1 C2 : List OPc, C = C1 ++ (o.2.1.1 ++ (o.2.1.2.1 ++ (o.2.1.2.2 ++ C2))) ∧ s 24 i = (C1.length : Int) ∧ s 25 i = ((C1.length + o.2.1.1.length : Nat) : Int) ∧ s 26 i = ((C1.length + o.2.1.1.length + o.2.1.2.1.length : Nat) : Int) ∧ s 27 i = ((C1.length + o.2.1.1.length + o.2.1.2.1.length + o.2.1.2.2.length : Nat) : Int)
def RoX (OL : List OT) (C : List OPc) (s : PS) : Prop := ∀ (i : Nat) (o : OT), OL[i]? = some o → Ro1 i o C s
section ClauseC
variable {g : Nat → Nat} {N q d : Nat} {K M : List (List Nat)} {s t u : PS} {r : Int} {C D : List OPc} {OL : List OT} {o : OT} {ms : List Nat} {fm : List (Nat × Nat)} {b : BST}
theorem RoX.ext (h : RoX OL C s) : RoX OL (C ++ D) s := by
  intro i o ho
  obtain ⟨h1, C1, C2, h2, h3⟩ := h i o ho
  refine ⟨h1, C1, C2 ++ D, ?_, h3⟩
  rw [h2]
  simp only [List.append_assoc]
theorem RoX.cgj (h : RoX OL C s) (e : ∀ i, i < OL.length → t 23 i = s 23 i ∧ t 24 i = s 24 i ∧ t 25 i = s 25 i ∧ t 26 i = s 26 i ∧ t 27 i = s 27 i) : RoX OL C t := by
  intro i o ho
  obtain ⟨e1, e2, e3, e4, e5'⟩ := e i (List.getElem?_eq_some_iff.mp ho).1
  obtain ⟨h1, C1, C2, h2, h3, h4, h5, h6⟩ := h i o ho
  exact ⟨e1.trans h1, C1, C2, h2, e2.trans h3, e3.trans h4, e4.trans h5, e5'.trans h6⟩
theorem RoX.fr (h : RoX OL C s) (hf : Fr intsX ms fm s t) (c : 23 ∉ ms ∧ 24 ∉ ms ∧ 25 ∉ ms ∧ 26 ∉ ms ∧ 27 ∉ ms) : RoX OL C t := h.cgj (fun i _ => ⟨by rw [hf.1 23 c.1], by rw [hf.1 24 c.2.1], by rw [hf.1 25 c.2.2.1], by rw [hf.1 26 c.2.2.2.1], by rw [hf.1 27 c.2.2.2.2]⟩)
theorem RoX.add (h : RoX OL C s) (e : ∀ i, i < OL.length → t 23 i = s 23 i ∧ t 24 i = s 24 i ∧ t 25 i = s 25 i ∧ t 26 i = s 26 i ∧ t 27 i = s 27 i) (k : Ro1 OL.length o C t) : RoX (OL ++ [o]) C t := by
  intro i o2 ho
  rw [app_get] at ho
  by_cases c : i = OL.length
  · rw [if_pos c] at ho
    rw [← Option.some.inj ho, c]
    exact k
  · rw [if_neg c] at ho
    exact h.cgj e i o2 ho
theorem cdx_us16 {j : Nat} {v : Int} (h : CdX C s) (c : ¬ 17 = j ∧ ¬ 19 = j) : CdX C (us s 16 j v) := by
  obtain ⟨h1, A, h2, h3, h4, h5, h6⟩ := h
  exact ⟨by rw [us_j c.1]; exact h1, A, by rw [us_j c.2]; exact h2, h3, by rw [us_k (by decide)]; exact h4, h5, by rw [us_k (by decide)]; exact h6⟩
/-- wish has four letters -/
theorem wish4 (hg : ∀ i, g i ≤ 255) (h : tkq g N q = 277) : q + 4 ≤ nxq g N q := by
  have s1 : q ≤ stq g N q := rn_ge
  obtain ⟨e1, e2, e3⟩ := tk_wtl (N := N) (q := q) hg (by omega) (by omega)
  have e4 := (wtl_own (l := ltq g N q) (i := 16) (by decide)).mp (by omega)
  have l4 : (ltq g N q).length = 4 := by
    rw [e4]
    rfl
  rw [e3, lts_len] at l4
  have g1 : stq g N q ≤ rn bL g N (stq g N q) := rn_ge
  have yes : stq g N q < N ∧ bL (g (stq g N q)) = true := by
    by_cases c : stq g N q < N ∧ bL (g (stq g N q)) = true
    · exact c
    · have z := rn_st c
      omega
  unfold nxq
  rw [if_neg (by omega), if_pos yes.2]
  omega
theorem tk290 (hg : ∀ i, g i ≤ 255) (q : Nat) : tkq g N q ≤ 282 := tk_bnd (N := N) (q := q) hg
theorem nv23 (hg : ∀ i, g i ≤ 255) (q : Nat) (h : tkq g N q = 259) : nvq g N q ≤ 2300000 := nvq_le hg h
theorem ltW (hg : ∀ i, g i ≤ 255) (q : Nat) (h : tkq g N q = 258) : LW (ltq g N q) := ltq_LW hg (by omega) (by omega)
theorem etX_0 (q : Nat) : etX g N 1001 K M 0 8 q = etE (tkq g N) (nxq g N) 1001 ntX (atT (tkq g N) (nxq g N) 1001) (atE (tkq g N) (nxq g N) 1001 (nvq g N) (ltq g N)) 8 q := by
  have e1 : AX g N 1001 K M 0 = atT (tkq g N) (nxq g N) 1001 := by
    unfold AX
    rw [if_pos rfl]
  have e2 : AXE g N 1001 K M 0 = atE (tkq g N) (nxq g N) 1001 (nvq g N) (ltq g N) := by
    unfold AXE
    rw [if_pos rfl]
  unfold etX
  rw [e1, e2]
theorem etX_1 (q : Nat) : etX g N 1001 K M 1 8 q = etE (tkq g N) (nxq g N) 1001 ntX (atW (tkq g N) (nxq g N) (knK (ltq g N) K M)) (awE (tkq g N) (ltq g N) K M) 8 q := by
  have e1 : AX g N 1001 K M 1 = atW (tkq g N) (nxq g N) (knK (ltq g N) K M) := by
    unfold AX
    rw [if_neg (by decide)]
  have e2 : AXE g N 1001 K M 1 = awE (tkq g N) (ltq g N) K M := by
    unfold AXE
    rw [if_neg (by decide)]
  unfold etX
  rw [e1, e2]
theorem addOther_at {p y z x : Int} {O : Nat} (h : M_X1_addOther_at16 s p y z x r t) (hO : s 16 8 = (O : Int)) : t = us (us (us (us (us (us s 23 O p) 24 O y) 25 O z) 26 O x) 27 O (s 16 17)) 16 8 ((O : Int) + 1) := by
  unfold M_X1_addOther_at16 T_X1_addOther_at16_e at h
  obtain ⟨_, _, _, _, _, _, t2, u2, t3, u3, t4, u4, t5, u5, t6, u6, t7, u7, _, us7⟩ := h
  rw [hO, Int.toNat_natCast] at u2 u3 u4 u5 u6
  rw [hO] at u7
  rw [us7, u7, u6, u5, u4, u3, u2]
/-- a row is written -/
theorem rowC {p y z x : Int} {O : Nat} {A1 A2 A3 A4 : List OPc} (h : M_X1_addOther_at16 s p y z x r t) (hO : s 16 8 = (O : Int)) (hl : OL.length = O) (hC : CdX (A1 ++ (A2 ++ (A3 ++ A4))) s) (hX : RoX OL (A1 ++ (A2 ++ (A3 ++ A4))) s) (hp : p = whX o.1) (hy : y = (A1.length : Int)) (hz : z = ((A1.length + A2.length : Nat) : Int)) (hx : x = ((A1.length + A2.length + A3.length : Nat) : Int)) (ho : o.2.1 = (A2, A3, A4)) : CdX (A1 ++ (A2 ++ (A3 ++ A4))) t ∧ RoX (OL ++ [o]) (A1 ++ (A2 ++ (A3 ++ A4))) t := by
  have e := addOther_at h hO
  have e17 : s 16 17 = ((A1.length + A2.length + A3.length + A4.length : Nat) : Int) := by
    rw [hC.1]
    simp only [List.length_append]
    omega
  have o1 : o.2.1.1 = A2 := by rw [ho]
  have o2 : o.2.1.2.1 = A3 := by rw [ho]
  have o3 : o.2.1.2.2 = A4 := by rw [ho]
  have a1 : t 23 = fun j => if j = O then p else s 23 j := by
    rw [e, us_k (by decide), us_k (by decide), us_k (by decide), us_k (by decide), us_k (by decide)]
    exact us_f
  have a2 : t 24 = fun j => if j = O then y else s 24 j := by
    rw [e, us_k (by decide), us_k (by decide), us_k (by decide), us_k (by decide)]
    have z : (us s 23 O p) 24 = s 24 := us_k (by decide)
    rw [← z]
    exact us_f
  have a3 : t 25 = fun j => if j = O then z else s 25 j := by
    rw [e, us_k (by decide), us_k (by decide), us_k (by decide)]
    have w : (us (us s 23 O p) 24 O y) 25 = s 25 := by rw [us_k (by decide), us_k (by decide)]
    rw [← w]
    exact us_f
  have a4 : t 26 = fun j => if j = O then x else s 26 j := by
    rw [e, us_k (by decide), us_k (by decide)]
    have w : (us (us (us s 23 O p) 24 O y) 25 O z) 26 = s 26 := by rw [us_k (by decide), us_k (by decide), us_k (by decide)]
    rw [← w]
    exact us_f
  have a5 : t 27 = fun j => if j = O then s 16 17 else s 27 j := by
    rw [e, us_k (by decide)]
    have w : (us (us (us (us s 23 O p) 24 O y) 25 O z) 26 O x) 27 = s 27 := by rw [us_k (by decide), us_k (by decide), us_k (by decide), us_k (by decide)]
    rw [← w]
    exact us_f
  refine ⟨?_, hX.add (fun i hi => ?_) ⟨?_, A1, [], ?_, ?_, ?_, ?_, ?_⟩⟩
  · rw [e]
    exact cdx_us16 (CdX.us (CdX.us (CdX.us (CdX.us (CdX.us hC (by decide)) (by decide)) (by decide)) (by decide)) (by decide)) (by decide)
  · have ne : ¬ i = O := by omega
    rw [a1, a2, a3, a4, a5]
    exact ⟨if_neg ne, if_neg ne, if_neg ne, if_neg ne, if_neg ne⟩
  · rw [a1, hl]
    exact (if_pos rfl).trans hp
  · rw [o1, o2, o3, List.append_nil]
  · rw [a2, hl]
    exact (if_pos rfl).trans hy
  · rw [a3, hl, o1]
    exact (if_pos rfl).trans hz
  · rw [a4, hl, o1, o2]
    exact (if_pos rfl).trans hx
  · rw [a5, hl, o1, o2, o3]
    exact (if_pos rfl).trans e17
abbrev OO (g : Nat → Nat) (N : Nat) (K M : List (List Nat)) (q : Nat) : OT := oO (tkq g N) (nxq g N) 1001 (nvq g N) (ltq g N) K M q
theorem clauseC (hN : N ≤ 1000) (hg : ∀ i, g i ≤ 255) {p : Int} (h : M_X8_readsClause s p 1 t) (hp : p = (tkq g N q : Int) - 260) (hS : SX g N b q s) (h1 : ¬ tkq g N q = 261) (h2 : ¬ tkq g N q = 271) (hC : CdX C s) (hl : wtE C ≤ q) (hX : RoX OL C s) (hO : OL.length = b.2.2.2.2.1) : ∃ C2, CdX C2 t ∧ RoX (OL ++ [OO g N b.1 b.2.1 q]) C2 t ∧ ∀ x, stS (tkq g N) (nxq g N) 1001 (nvq g N) (ltq g N) b q = some x → wtE C2 ≤ x.2 := by
  obtain ⟨K, M, Ck, W, O, E⟩ := b
  obtain ⟨hP, hA, lC, lW⟩ := hS
  have hP : PX g N K M 8 q s := hP
  have hA : AxX M Ck W O E s := hA
  have hO : OL.length = O := hO
  have hF : N < 1001 := by omega
  have hWs : ∀ q, q ≤ N → tkq g N q = 277 → q + 4 ≤ nxq g N q := fun q _ h => wish4 hg h
  show ∃ C2, CdX C2 t ∧ RoX (OL ++ [OO g N K M q]) C2 t ∧ ∀ x, stS (tkq g N) (nxq g N) 1001 (nvq g N) (ltq g N) (K, M, Ck, W, O, E) q = some x → wtE C2 ≤ x.2
  have hq := hP.2.2.2.1
  obtain ⟨n, h⟩ := h
  unfold T_X8_readsClause_e at h
  obtain ⟨ty, h⟩ := h
  have tk := hP.tk
  have hK : K.length ≤ 20 := by
    have y := tyX_kinds ty
    have z := hP.2.2.1.1
    omega
  have hM : M.length ≤ 20 := by
    have y := tyX_marks ty
    have z := hP.2.2.1.2.1
    omega
  have un : stS (tkq g N) (nxq g N) 1001 (nvq g N) (ltq g N) (K, M, Ck, W, O, E) q = if O < 24 then (clS (tkq g N) (nxq g N) 1001 (ltq g N) K M q).bind fun e => some ((K, M, Ck, W, O + 1, E), e) else none := by
    unfold stS
    rw [if_neg h1, if_neg h2, if_neg h2]
  -- the end: what must be shown
  have fin : ∀ C2 q6, pE (tkq g N) (nxq g N) 1001 (ltq g N) K M q = some q6 → (tkq g N q = 266 ∨ tkq g N q = 268 ∨ tkq g N q = 270) → wtE C2 ≤ q6 → q6 ≤ N → ∀ x, stS (tkq g N) (nxq g N) 1001 (nvq g N) (ltq g N) (K, M, Ck, W, O, E) q = some x → wtE C2 ≤ x.2 := by
    intro C2 q6 e hk hw hn x hx
    rw [un] at hx
    split at hx
    · rw [clS_pE hk, e, Option.bind_some] at hx
      cases e2 : psK (tkq g N) (nxq g N) 59 q6 with
      | none =>
        rw [e2] at hx
        cases hx
      | some z =>
        rw [e2, Option.bind_some] at hx
        have pg := psK_pg (c := 59) (ngr hg) (by decide) _ _ hn e2
        rw [← Option.some.inj hx]
        show wtE C2 ≤ z
        omega
    · cases hx
  -- the last part
  have k114 : ∀ (n : Nat) (y z : Int) (q4 : Nat) (s4 : PS) (A2 A3 : List OPc), It_X8_readsClause n 114 p y z s4 1 t → PX g N K M 8 q4 s4 → AxX M Ck W O E s4 → CdX (C ++ (A2 ++ A3)) s4 → wtE (C ++ (A2 ++ A3)) ≤ q4 → RoX OL C s4 → (tkq g N q = 266 ∨ tkq g N q = 268 ∨ tkq g N q = 270) → pC (tkq g N) (nxq g N) 1001 (ltq g N) K M q = some q4 → y = (C.length : Int) → z = ((C.length + A2.length : Nat) : Int) → (OO g N K M q).2.1.1 = A2 → (OO g N K M q).2.1.2.1 = A3 → ∃ C2, CdX C2 t ∧ RoX (OL ++ [OO g N K M q]) C2 t ∧ ∀ x, stS (tkq g N) (nxq g N) 1001 (nvq g N) (ltq g N) (K, M, Ck, W, O, E) q = some x → wtE C2 ≤ x.2 := by
    intro n y z q4 s4 A2 A3 h p4 a4 C4 w4 x4 hk eC hy hz o2 o3
    cases n with
    | zero => exact False.elim h
    | succ n =>
      have h := ul_X8_readsClause_114 h
      unfold T_X8_readsClause_114 at h
      obtain ⟨_, _, _, _, r5, s5, hm5, hf5, _, _, h⟩ := h
      have n5 := passX (c := 267) hN hg (by decide) (by decide) hm5 p4
      rcases h with ⟨c5, hr, _⟩ | ⟨c5, r6, s6, hm6, hf6, _, _, h⟩
      · exact absurd hr (by decide)
      · rcases n5 with ⟨_, q5, w5, p5⟩ | ⟨w, _⟩
        · have pg5 := psK_pg (c := 267) (ngr hg) (by decide) _ _ p4.2.2.2.1 w5
          have n6 := eitX (F := 1001) hN hg hF 8 q5 s5 0 r6 s6 hm6 p5
          rcases h with ⟨c6, hr, _⟩ | ⟨c6, s7, hm7, hf7, _, r8, s8, hm8, hf8, _, _, hr, hs⟩
          · exact absurd hr (by decide)
          · rcases n6 with ⟨r61, q6, w6, p6⟩ | ⟨w, _⟩
            · rw [r61] at hm6
              have C5 : CdX (C ++ (A2 ++ A3)) s5 := C4.fr hf5 (by decide)
              have C6 := eitC (F := 1001) hN hg hF hWs hK hM 8 q5 s5 0 s6 _ hm6 p5 C5 (by omega)
              have lw := etX_ln (F := 1001) (K := K) (M := M) (p := 0) hg hWs 8 _ _ p5.2.2.2.1 w6
              rw [etX_0] at C6 lw
              have eD : pD (tkq g N) (nxq g N) 1001 (ltq g N) K M q = some q5 := by
                unfold pD
                rw [eC, Option.bind_some]
                exact w5
              have ea : AX g N 1001 K M 0 = atT (tkq g N) (nxq g N) 1001 := by
                unfold AX
                rw [if_pos rfl]
              rw [ea] at w6
              have eE : pE (tkq g N) (nxq g N) 1001 (ltq g N) K M q = some q6 := by
                unfold pE
                rw [eD, Option.bind_some]
                exact w6
              have o4 : (OO g N K M q).2.1.2.2 = etE (tkq g N) (nxq g N) 1001 ntX (atT (tkq g N) (nxq g N) 1001) (atE (tkq g N) (nxq g N) 1001 (nvq g N) (ltq g N)) 8 q5 := by
                show oTe (tkq g N) (nxq g N) 1001 (nvq g N) (ltq g N) K M ntX q = _
                unfold oTe
                rw [if_neg h2, eD]
                rfl
              rw [← o4] at C6 lw
              have e16 : s4 16 17 = ((C.length + A2.length + A3.length : Nat) : Int) := by
                rw [C4.1]
                simp only [List.length_append]
                omega
              have x6 : RoX OL (C ++ (A2 ++ (A3 ++ (OO g N K M q).2.1.2.2))) s6 := ((x4.fr hf5 (by decide)).fr hf6 (by decide)).ext
              have C6b : CdX (C ++ (A2 ++ (A3 ++ (OO g N K M q).2.1.2.2))) s6 := by
                simp only [List.append_assoc] at C6
                exact C6
              have a6 : AxX M Ck W O E s6 := (a4.fr hf5 (by decide)).fr hf6 (by decide)
              have k := rowC (o := OO g N K M q) hm7 a6.2.2.1 hO C6b x6 (by
                rw [hp]
                show _ = whX (oSo (tkq g N) q)
                unfold oSo
                rcases hk with e | e | e
                · rw [if_pos e, e]
                  decide
                · rw [if_neg (by omega), if_pos e, e]
                  decide
                · rw [if_neg (by omega), if_neg (by omega), if_pos e, e]
                  decide) hy hz e16 (by rw [← o2, ← o3])
              refine ⟨C ++ (A2 ++ (A3 ++ (OO g N K M q).2.1.2.2)), ?_, ?_, ?_⟩
              · rw [hs]
                exact k.1.fr hf8 (by decide)
              · rw [hs]
                exact k.2.fr hf8 (by decide)
              · refine fin _ q6 eE hk ?_ p6.2.2.2.1
                rw [wtE_app, wtE_app, wtE_app]
                rw [wtE_app, wtE_app] at w4
                omega
            · omega
        · exact absurd w c5
  have k98 : ∀ (n : Nat) (y z : Int) (q3 : Nat) (s3 : PS) (A2 : List OPc), It_X8_readsClause n 98 p y z s3 1 t → PX g N K M 8 q3 s3 → AxX M Ck W O E s3 → CdX (C ++ A2) s3 → wtE (C ++ A2) ≤ q3 → RoX OL C s3 → (tkq g N q = 266 ∨ tkq g N q = 268 ∨ tkq g N q = 270) → pB (tkq g N) (nxq g N) 1001 q = some q3 → y = (C.length : Int) → z = ((C.length + A2.length : Nat) : Int) → (OO g N K M q).2.1.1 = A2 → ∃ C2, CdX C2 t ∧ RoX (OL ++ [OO g N K M q]) C2 t ∧ ∀ x, stS (tkq g N) (nxq g N) 1001 (nvq g N) (ltq g N) (K, M, Ck, W, O, E) q = some x → wtE C2 ≤ x.2 := by
    intro n y z q3 s3 A2 h p3 a3 C3 w3 x3 hk eB hy hz o2
    cases n with
    | zero => exact False.elim h
    | succ n =>
      have h := ul_X8_readsClause_98 h
      unfold T_X8_readsClause_98 at h
      obtain ⟨_, _, _, _, ⟨c, h⟩ | ⟨c, r4, s4, hm4, hf4, _, _, h⟩⟩ := h
      · have e70 : tkq g N q = 270 := by omega
        refine k114 n y z q3 s3 A2 [] h p3 a3 (by rw [List.append_nil]; exact C3) (by rw [List.append_nil]; exact w3) x3 hk ?_ hy hz o2 ?_
        · unfold pC
          rw [eB, Option.bind_some, if_pos e70]
        · show oWw (tkq g N) (nxq g N) 1001 (ltq g N) K M ntX q = []
          unfold oWw
          rw [if_neg (by omega)]
      · have n4 := eitX (F := 1001) hN hg hF 8 q3 s3 1 r4 s4 hm4 p3
        rcases h with ⟨c4, hr, _⟩ | ⟨c4, h⟩
        · exact absurd hr (by decide)
        · rcases n4 with ⟨r41, q4, w4, p4⟩ | ⟨w, _⟩
          · rw [r41] at hm4
            have C4 := eitC (F := 1001) hN hg hF hWs hK hM 8 q3 s3 1 s4 _ hm4 p3 C3 w3
            have lw := etX_ln (F := 1001) (K := K) (M := M) (p := 1) hg hWs 8 _ _ p3.2.2.2.1 w4
            rw [etX_1] at C4 lw
            have ea : AX g N 1001 K M 1 = atW (tkq g N) (nxq g N) (knK (ltq g N) K M) := by
              unfold AX
              rw [if_neg (by decide)]
            rw [ea] at w4
            have o3 : (OO g N K M q).2.1.2.1 = etE (tkq g N) (nxq g N) 1001 ntX (atW (tkq g N) (nxq g N) (knK (ltq g N) K M)) (awE (tkq g N) (ltq g N) K M) 8 q3 := by
              show oWw (tkq g N) (nxq g N) 1001 (ltq g N) K M ntX q = _
              unfold oWw
              rw [if_pos (by omega), eB]
              rfl
            rw [← o3] at C4 lw
            rw [List.append_assoc] at C4
            refine k114 n y z q4 s4 A2 (OO g N K M q).2.1.2.1 h p4 (a3.fr hf4 (by decide)) C4 ?_ (x3.fr hf4 (by decide)) hk ?_ hy hz o2 rfl
            · rw [wtE_app, wtE_app]
              rw [wtE_app] at w3
              omega
            · unfold pC
              rw [eB, Option.bind_some, if_neg (by omega)]
              exact w4
          · omega
  have k72 : ∀ (n : Nat) (y z : Int) (q2 : Nat) (s2 : PS) (A2 : List OPc), It_X8_readsClause n 72 p y z s2 1 t → PX g N K M 8 q2 s2 → AxX M Ck W O E s2 → CdX (C ++ A2) s2 → wtE (C ++ A2) ≤ q2 → RoX OL C s2 → (tkq g N q = 266 ∨ tkq g N q = 268 ∨ tkq g N q = 270) → pA (tkq g N) (nxq g N) 1001 q = some q2 → y = (C.length : Int) → (OO g N K M q).2.1.1 = A2 → ∃ C2, CdX C2 t ∧ RoX (OL ++ [OO g N K M q]) C2 t ∧ ∀ x, stS (tkq g N) (nxq g N) 1001 (nvq g N) (ltq g N) (K, M, Ck, W, O, E) q = some x → wtE C2 ≤ x.2 := by
    intro n y z q2 s2 A2 h p2 a2 C2 w2 x2 hk eA hy o2
    have e17 : s2 16 17 = ((C.length + A2.length : Nat) : Int) := by
      rw [C2.1, List.length_append]
    cases n with
    | zero => exact False.elim h
    | succ n =>
      have h := ul_X8_readsClause_72 h
      unfold T_X8_readsClause_72 at h
      obtain ⟨_, _, _, ⟨c, r3, s3, hm3, hf3, _, _, h⟩ | ⟨c, h⟩⟩ := h
      · have n3 := passX (c := 269) hN hg (by decide) (by decide) hm3 p2
        rcases h with ⟨c3, hr, _⟩ | ⟨c3, h⟩
        · exact absurd hr (by decide)
        · rcases n3 with ⟨_, q3, w3, p3⟩ | ⟨w, _⟩
          · have pg := psK_pg (c := 269) (ngr hg) (by decide) _ _ p2.2.2.2.1 w3
            refine k98 n y _ q3 s3 A2 h p3 (a2.fr hf3 (by decide)) (C2.fr hf3 (by decide)) (by omega) (x2.fr hf3 (by decide)) hk ?_ hy e17 o2
            unfold pB
            rw [eA, Option.bind_some, if_pos (by omega)]
            exact w3
          · omega
      · refine k98 n y _ q2 s2 A2 h p2 a2 C2 w2 x2 hk ?_ hy e17 o2
        unfold pB
        rw [eA, Option.bind_some, if_neg (by omega)]
  have k24 : ∀ (n : Nat) (y z : Int), It_X8_readsClause n 24 p y z s 1 t → (tkq g N q = 266 ∨ tkq g N q = 268 ∨ tkq g N q = 270) → ∃ C2, CdX C2 t ∧ RoX (OL ++ [OO g N K M q]) C2 t ∧ ∀ x, stS (tkq g N) (nxq g N) 1001 (nvq g N) (ltq g N) (K, M, Ck, W, O, E) q = some x → wtE C2 ≤ x.2 := by
    intro n y z h hk
    cases n with
    | zero => exact False.elim h
    | succ n =>
      have h := ul_X8_readsClause_24 h
      unfold T_X8_readsClause_24 at h
      obtain ⟨_, _, h⟩ := h
      rcases h with ⟨c1, s1, hm1, hf1, _, h⟩ | ⟨c1, r1, s1, _, _, _, _, hr, _⟩
      · have p1 := hP.step hN hg hm1 hf1 (by omega) (by omega)
        have a1 : AxX M Ck W O E s1 := hA.fr hf1 (by decide)
        have C1 := stepC hf1 hC
        have gt := ngr hg q hq (by omega)
        rcases h with ⟨c2, h⟩ | ⟨c2, r2, s2, hm2, hf2, _, _, h⟩
        · refine k72 n _ 0 _ s1 [] h p1 a1 (by rw [List.append_nil]; exact C1) (by rw [List.append_nil]; omega) (hX.fr hf1 (by decide)) hk ?_ hC.1 ?_
          · unfold pA
            rw [if_pos (by omega)]
          · show oS (tkq g N) (nxq g N) 1001 (nvq g N) q = []
            unfold oS
            rw [if_neg (by omega)]
        · have n2 := sumX (F := 1001) hN hg hF 8 _ s1 r2 s2 hm2 p1
          rcases h with ⟨c3, hr, _⟩ | ⟨c3, h⟩
          · exact absurd hr (by decide)
          · rcases n2 with ⟨r21, q2, w2, p2⟩ | ⟨w, _⟩
            · rw [r21] at hm2
              have C2 := sumC (F := 1001) hN hg hF 8 _ s1 s2 _ hm2 p1 C1 (by omega)
              have lw := (smE_ln (F := 1001) (V := nvq g N) (ngr hg) 8).1 _ _ p1.2.2.2.1 w2
              refine k72 n _ 0 q2 s2 _ h p2 (a1.fr hf2 (by decide)) C2 ?_ ((hX.fr hf1 (by decide)).fr hf2 (by decide)) hk ?_ hC.1 ?_
              · rw [wtE_app]
                omega
              · unfold pA
                rw [if_neg (by omega)]
                exact w2
              · show oS (tkq g N) (nxq g N) 1001 (nvq g N) q = _
                unfold oS
                rw [if_pos (by omega)]
            · omega
      · exact absurd hr (by decide)
  rcases h with ⟨c, h⟩ | ⟨c, ⟨c2, h⟩ | ⟨c2, ⟨c3, h⟩ | ⟨c3, r3, s3, _, _, _, _, hr, _⟩⟩⟩
  · exact k24 n _ _ h (by omega)
  · exact k24 n _ _ h (by omega)
  · exact k24 n _ _ h (by omega)
  · exact absurd hr (by decide)
theorem evenC (hN : N ≤ 1000) (hg : ∀ i, g i ≤ 255) (h : M_X8_readsEven s 1 t) (hS : SX g N b q s) (h2 : tkq g N q = 271) (hC : CdX C s) (hX : RoX OL C s) (hO : OL.length = b.2.2.2.2.1) : CdX C t ∧ RoX (OL ++ [OO g N b.1 b.2.1 q]) C t := by
  obtain ⟨K, M, Ck, W, O, E⟩ := b
  obtain ⟨hP, hA, lC, lW⟩ := hS
  have hP : PX g N K M 8 q s := hP
  have hA : AxX M Ck W O E s := hA
  have hO : OL.length = O := hO
  show CdX C t ∧ RoX (OL ++ [OO g N K M q]) C t
  unfold M_X8_readsEven T_X8_readsEven_e at h
  obtain ⟨_, h⟩ := h
  rw [hA.2.2.1] at h
  rcases h with ⟨c1, r1, s1, hm1, hf1, _, _, h⟩ | ⟨c1, r1, s1, _, _, _, _, hr, _⟩
  · have n1 := numX_24 (cw := 271) (lo := 0) (hi := 1000) (i := O) hN hg (by decide) (by rw [show (((271 : Nat) : Int) - 260) = 11 from by decide]; exact hm1) hP
    rcases h with ⟨c2, hr, _⟩ | ⟨c2, s2, f2, s3, hm3, hf3, _, r4, s4, hm4, hf4, _, _, hr, hs⟩
    · exact absurd hr (by decide)
    · rcases n1 with ⟨_, q1, z1, p1, v1, w1⟩ | ⟨z, _⟩
      · have C1 : CdX C s1 := hC.fr hf1 (by decide)
        have C2 : CdX (C ++ ([] ++ ([] ++ []))) s2 := by
          rw [f2]
          have z := cdx_us16 (j := 9) (v := s1 24 ((O : Int)).toNat) C1 (by decide)
          simp only [List.append_nil]
          exact z
        have X1 : RoX OL C s1 := hX.cgj (fun i hi => ⟨by rw [hf1.1 23 (by decide)], w1 i (by omega), by rw [hf1.1 25 (by decide)], by rw [hf1.1 26 (by decide)], by rw [hf1.1 27 (by decide)]⟩)
        have X2 : RoX OL (C ++ ([] ++ ([] ++ []))) s2 := by
          simp only [List.append_nil]
          exact X1.cgj (fun i _ => ⟨by rw [f2, us_k (by decide)], by rw [f2, us_k (by decide)], by rw [f2, us_k (by decide)], by rw [f2, us_k (by decide)], by rw [f2, us_k (by decide)]⟩)
        have a2 : s2 16 8 = (O : Int) := by
          rw [f2, us_j (by decide), hf1.f (by decide) (by decide)]
          exact hA.2.2.1
        have e17 : s 16 17 = (C.length : Int) := hC.1
        have k := rowC (o := OO g N K M q) hm3 a2 hO C2 X2 (by
          show _ = whX (oSo (tkq g N) q)
          unfold oSo
          rw [if_neg (by omega), if_neg (by omega), if_neg (by omega)]
          decide) e17 (by rw [e17]; rfl) (by rw [e17]; rfl) (by
          show (oS (tkq g N) (nxq g N) 1001 (nvq g N) q, oWw (tkq g N) (nxq g N) 1001 (ltq g N) K M ntX q, oTe (tkq g N) (nxq g N) 1001 (nvq g N) (ltq g N) K M ntX q) = ([], [], [])
          unfold oS oWw oTe
          rw [if_neg (by omega), if_neg (by omega), if_pos h2])
        simp only [List.append_nil] at k
        rw [hs]
        exact ⟨k.1.fr hf4 (by decide), k.2.fr hf4 (by decide)⟩
      · omega
  · exact absurd hr (by decide)
/-- the whole text -/
theorem allLC (hN : N ≤ 1000) (hg : ∀ i, g i ≤ 255) : ∀ (n i k q : Nat) (b : BST) (OL : List OT) (C : List OPc) (s t : PS), It_X8_readsAll_16 n (i : Int) s 1 t → SX g N b q s → i ≤ q → N < q + k → CdX C s → wtE C ≤ q → RoX OL C s → GO b OL → ∃ b2 OL2 C2 q2, alO (tkq g N) (nxq g N) 1001 (nvq g N) (ltq g N) k b OL q = some (b2, OL2) ∧ SX g N b2 q2 t ∧ CdX C2 t ∧ RoX OL2 C2 t ∧ GO b2 OL2
  | 0, i, k, q, b, OL, C, s, t, h, _, _, _, _, _, _, _ => False.elim h
  | n + 1, i, k, q, b, OL, C, s, t, h, hS, hi, hk, hC, hw, hX, hG => by
    have h := ul_X8_readsAll_16_36 h
    unfold T_X8_readsAll_16_36 at h
    obtain ⟨_, _, h⟩ := h
    have tk := hS.1.tk
    have hq := hS.1.2.2.2.1
    obtain ⟨k, rfl⟩ : ∃ k2, k = k2 + 1 := ⟨k - 1, by omega⟩
    have un : alO (tkq g N) (nxq g N) 1001 (nvq g N) (ltq g N) (k + 1) b OL q = if tkq g N q = 256 then some (b, OL) else (stS (tkq g N) (nxq g N) 1001 (nvq g N) (ltq g N) b q).bind fun r => alO (tkq g N) (nxq g N) 1001 (nvq g N) (ltq g N) k r.1 (if tkq g N q = 261 then OL else OL ++ [OO g N b.1 b.2.1 q]) r.2 := rfl
    rw [un]
    have go : ∀ (r1 : Int) (s1 : PS), ¬ tkq g N q = 256 → ((r1 = 1 ∧ ∃ x, stS (tkq g N) (nxq g N) 1001 (nvq g N) (ltq g N) b q = some x ∧ SX g N x.1 x.2 s1) ∨ (r1 = 0 ∧ stS (tkq g N) (nxq g N) 1001 (nvq g N) (ltq g N) b q = none)) → (r1 = 1 → ∃ C2, CdX C2 s1 ∧ RoX (if tkq g N q = 261 then OL else OL ++ [OO g N b.1 b.2.1 q]) C2 s1 ∧ ∀ x, stS (tkq g N) (nxq g N) 1001 (nvq g N) (ltq g N) b q = some x → wtE C2 ≤ x.2) → ((r1 = 0 ∧ ((1 : Int) = 0 ∧ t = s1)) ∨ (¬ r1 = 0 ∧ It_X8_readsAll_16 n ((i : Int) + 1) s1 1 t)) → ∃ b2 OL2 C2 q2, ((stS (tkq g N) (nxq g N) 1001 (nvq g N) (ltq g N) b q).bind fun r => alO (tkq g N) (nxq g N) 1001 (nvq g N) (ltq g N) k r.1 (if tkq g N q = 261 then OL else OL ++ [OO g N b.1 b.2.1 q]) r.2) = some (b2, OL2) ∧ SX g N b2 q2 t ∧ CdX C2 t ∧ RoX OL2 C2 t ∧ GO b2 OL2 := by
      intro r1 s1 h0 k1 kc k2
      rcases k2 with ⟨c, hr, _⟩ | ⟨c, h⟩
      · exact absurd hr (by decide)
      · rcases k1 with ⟨y, x, z, sx⟩ | ⟨z, _⟩
        · obtain ⟨C2, c1, c2, c3⟩ := kc y
          have pg := stS_pg (ngr hg) hq h0 z
          have g2 := hG.st (tk290 hg) (nv23 hg) (ltW hg) z
          rw [z, Option.bind_some]
          have h2 : It_X8_readsAll_16 n ((i + 1 : Nat) : Int) s1 1 t := h
          exact allLC hN hg n (i + 1) k x.2 x.1 _ C2 s1 t h2 sx (by omega) (by omega) c1 (c3 x z) c2 g2
        · omega
    rcases h with ⟨c1, _⟩ | ⟨c1, ⟨c2, hr, hs⟩ | ⟨c2, ⟨c3, r1, s1, hm, hf, _, _, h⟩ | ⟨c3, ⟨c4, r1, s1, hm, hf, _, _, h⟩ | ⟨c4, r1, s1, hm, hf, _, _, h⟩⟩⟩⟩
    · omega
    · rw [if_pos (by omega)]
      exact ⟨b, OL, C, q, rfl, by rw [hs]; exact hS, by rw [hs]; exact hC, by rw [hs]; exact hX, hG⟩
    · rw [if_neg (by omega)]
      refine go r1 s1 (by omega) (kindS hN hg hm hS (by omega)) (fun _ => ⟨C, hC.fr hf (by decide), ?_, fun x hx => ?_⟩) h
      · rw [if_pos (by omega)]
        exact hX.fr hf (by decide)
      · have pg := stS_pg (ngr hg) hq (by omega) hx
        omega
    · rw [if_neg (by omega)]
      refine go r1 s1 (by omega) (evenS hN hg hm hS (by omega)) (fun y => ?_) h
      rw [y] at hm
      have k := evenC hN hg hm hS (by omega) hC hX hG.1
      refine ⟨C, k.1, ?_, fun x hx => ?_⟩
      · rw [if_neg (by omega)]
        exact k.2
      · have pg := stS_pg (ngr hg) hq (by omega) hx
        omega
    · rw [if_neg (by omega)]
      have bd := tk_bnd (N := N) (q := q) hg
      rw [tk, wi_id (by omega) (by omega)] at hm
      refine go r1 s1 (by omega) (clauseS hN hg hm rfl hS (by omega) (by omega)) (fun y => ?_) h
      rw [y] at hm
      rw [if_neg (by omega)]
      exact clauseC hN hg hm rfl hS (by omega) (by omega) hC hw hX hG.1
end ClauseC
