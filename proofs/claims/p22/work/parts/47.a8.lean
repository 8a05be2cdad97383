/-! the class's reader: kinds, others, the whole text -/
def AxX (M : List (List Nat)) (C : List (List (List Nat))) (W : List (Nat × Nat × Nat)) (O E : Nat) (s : PS) : Prop := BtX M C s ∧ NmX W s ∧ s 16 8 = (O : Int) ∧ s 16 9 = (E : Int)
abbrev okAx (ms : List Nat) (fm : List (Nat × Nat)) : Prop := 18 ∉ ms ∧ 19 ∉ ms ∧ 20 ∉ ms ∧ 22 ∉ ms ∧ (16 ∉ ms ∨ (16 ∈ fm.map Prod.fst ∧ (16, 8) ∉ fm ∧ (16, 9) ∉ fm))
def SX (g : Nat → Nat) (N : Nat) (b : BST) (q : Nat) (s : PS) : Prop := PX g N b.1 b.2.1 8 q s ∧ AxX b.2.1 b.2.2.1 b.2.2.2.1 b.2.2.2.2.1 b.2.2.2.2.2 s ∧ b.2.2.1.length = b.1.length ∧ b.2.2.2.1.length = b.1.length
section PureS
variable {T Nx V : Nat → Nat} {L : Nat → List Nat} {n F : Nat}
theorem nmK_pg (hN : NGr T Nx n) {c lo hi : Nat} (hc : ¬ c = 256) : PGr n (nmK T Nx V c lo hi) := by
  intro q r h e
  rw [nmK_un] at e
  by_cases h1 : T q = c
  · rw [if_pos h1] at e
    have g1 := hN q h (by omega)
    by_cases h2 : T (Nx q) = 259 ∧ lo ≤ V (Nx q) ∧ V (Nx q) ≤ hi
    · rw [if_pos h2] at e
      have g2 := hN (Nx q) g1.2 (by omega)
      have := Option.some.inj e
      omega
    · rw [if_neg h2] at e
      cases e
  · rw [if_neg h1] at e
    cases e
theorem mkF_pg (hN : NGr T Nx n) {K : List (List Nat)} : ∀ (k : Nat) (M cur : List (List Nat)) (q : Nat) (x : (List (List Nat) × List (List Nat)) × Nat), q ≤ n → ¬ T q = 256 → mkF T Nx L K k M cur q = some x → q ≤ x.2 ∧ x.2 ≤ n
  | 0, M, cur, q, x, h, _, e => by
    have e2 : some ((M, cur), q) = some x := e
    have e3 := Option.some.inj e2
    rw [← e3]
    exact ⟨Nat.le_refl _, h⟩
  | k + 1, M, cur, q, x, h, h0, e => by
    have e2 : (if T (Nx q) = 258 ∧ ¬ L (Nx q) ∈ K ∧ ¬ L (Nx q) ∈ cur ∧ (L (Nx q) ∈ M ∨ M.length < 8) then (if T (Nx (Nx q)) = 44 then mkF T Nx L K k (if L (Nx q) ∈ M then M else M ++ [L (Nx q)]) (cur ++ [L (Nx q)]) (Nx (Nx q)) else some ((if L (Nx q) ∈ M then M else M ++ [L (Nx q)], cur ++ [L (Nx q)]), Nx (Nx q))) else none) = some x := e
    have g1 := hN q h h0
    split at e2
    · rename_i c
      have g2 := hN (Nx q) g1.2 (by omega)
      split at e2
      · rename_i c2
        have ih := mkF_pg hN k _ _ _ x g2.2 (by omega) e2
        omega
      · have e3 := Option.some.inj e2
        rw [← e3]
        show q ≤ Nx (Nx q) ∧ Nx (Nx q) ≤ n
        omega
    · cases e2
theorem kdS_pg (hN : NGr T Nx n) {K M : List (List Nat)} {q : Nat} {x : (List (List Nat) × List (List Nat) × (Nat × Nat × Nat)) × Nat} (h : q ≤ n) (h0 : ¬ T q = 256) (e : kdS T Nx F V L K M q = some x) : q < x.2 ∧ x.2 ≤ n := by
  unfold kdS at e
  split at e
  · rename_i c
    have g1 := hN q h h0
    have g2 := hN (Nx q) g1.2 (by omega)
    cases e1 : nmK T Nx V 262 1 500 (Nx (Nx q)) with
    | none =>
      rw [e1] at e
      cases e
    | some a =>
      rw [e1] at e
      have p1 := nmK_pg hN (by decide) _ _ g2.2 e1
      cases e2 : nmK T Nx V 263 0 1000 a with
      | none =>
        rw [Option.bind_some, e2] at e
        cases e
      | some b =>
        rw [Option.bind_some, e2] at e
        have p2 := nmK_pg hN (by decide) _ _ p1.2 e2
        cases e3 : nmK T Nx V 264 0 200 b with
        | none =>
          rw [Option.bind_some, e3] at e
          cases e
        | some c =>
          rw [Option.bind_some, e3, Option.bind_some] at e
          have p3 := nmK_pg hN (by decide) _ _ p2.2 e3
          cases e4 : (if T c = 265 then mkF T Nx L (K ++ [L (Nx q)]) F M [] c else some ((M, []), c)) with
          | none =>
            rw [e4] at e
            cases e
          | some m =>
            rw [e4, Option.bind_some] at e
            have p4 : c ≤ m.2 ∧ m.2 ≤ n := by
              by_cases c5 : T c = 265
              · rw [if_pos c5] at e4
                exact mkF_pg hN _ _ _ _ _ p3.2 (by omega) e4
              · rw [if_neg c5] at e4
                have e5 := Option.some.inj e4
                rw [← e5]
                exact ⟨Nat.le_refl _, p3.2⟩
            cases e6 : psK T Nx 59 m.2 with
            | none =>
              rw [e6] at e
              cases e
            | some z =>
              rw [e6, Option.bind_some] at e
              have p5 := psK_pg (c := 59) hN (by decide) _ _ p4.2 e6
              have e7 := Option.some.inj e
              rw [← e7]
              show q < z ∧ z ≤ n
              omega
  · cases e
theorem clS_pg (hN : NGr T Nx n) {K M : List (List Nat)} {q r : Nat} (h : q ≤ n) (e : clS T Nx F L K M q = some r) : q < r ∧ r ≤ n := by
  unfold clS at e
  split at e
  · rename_i c
    have g1 := hN q h (by omega)
    cases e1 : (if T q = 266 then some (Nx q) else sumD T Nx F 8 (Nx q)) with
    | none =>
      rw [e1] at e
      cases e
    | some a =>
      rw [e1, Option.bind_some] at e
      have p1 : q < a ∧ a ≤ n := by
        by_cases c1 : T q = 266
        · rw [if_pos c1] at e1
          have := Option.some.inj e1
          omega
        · rw [if_neg c1] at e1
          have := sumD_pg (F := F) hN 8 _ _ g1.2 e1
          omega
      cases e2 : (if T q = 268 then psK T Nx 269 a else some a) with
      | none =>
        rw [e2] at e
        cases e
      | some b =>
        rw [e2, Option.bind_some] at e
        have p2 : q < b ∧ b ≤ n := by
          by_cases c1 : T q = 268
          · rw [if_pos c1] at e2
            have := psK_pg (c := 269) hN (by decide) _ _ p1.2 e2
            omega
          · rw [if_neg c1] at e2
            have := Option.some.inj e2
            omega
        cases e3 : (if T q = 270 then some b else eitD T Nx F (atW T Nx (knK L K M)) 8 b) with
        | none =>
          rw [e3] at e
          cases e
        | some c2 =>
          rw [e3, Option.bind_some] at e
          have p3 : q < c2 ∧ c2 ≤ n := by
            by_cases c1 : T q = 270
            · rw [if_pos c1] at e3
              have := Option.some.inj e3
              omega
            · rw [if_neg c1] at e3
              have := eitD_pg (F := F) hN (fun d => atW_pg (kn := knK L K M) hN d) 8 _ _ p2.2 e3
              omega
          cases e4 : psK T Nx 267 c2 with
          | none =>
            rw [e4] at e
            cases e
          | some d2 =>
            rw [e4, Option.bind_some] at e
            have p4 := psK_pg (c := 267) hN (by decide) _ _ p3.2 e4
            cases e5 : eitD T Nx F (atT T Nx F) 8 d2 with
            | none =>
              rw [e5] at e
              cases e
            | some f =>
              rw [e5, Option.bind_some] at e
              have p5 := eitD_pg (F := F) hN (fun d => atT_pg hN d) 8 _ _ p4.2 e5
              have p6 := psK_pg (c := 59) hN (by decide) _ _ p5.2 e
              omega
  · cases e
theorem stS_pg (hN : NGr T Nx n) {b : BST} {q : Nat} {x : BST × Nat} (h : q ≤ n) (h0 : ¬ T q = 256) (e : stS T Nx F V L b q = some x) : q < x.2 ∧ x.2 ≤ n := by
  unfold stS at e
  split at e
  · cases e1 : kdS T Nx F V L b.1 b.2.1 q with
    | none =>
      rw [e1] at e
      cases e
    | some y =>
      rw [e1, Option.bind_some] at e
      have p := kdS_pg hN h h0 e1
      have e2 := Option.some.inj e
      rw [← e2]
      exact p
  · split at e
    · cases e1 : (if T q = 271 then (nmK T Nx V 271 0 1000 q).bind (psK T Nx 59) else clS T Nx F L b.1 b.2.1 q) with
      | none =>
        rw [e1] at e
        cases e
      | some y =>
        rw [e1, Option.bind_some] at e
        have p : q < y ∧ y ≤ n := by
          by_cases c : T q = 271
          · rw [if_pos c] at e1
            cases e3 : nmK T Nx V 271 0 1000 q with
            | none =>
              rw [e3] at e1
              cases e1
            | some z =>
              rw [e3, Option.bind_some] at e1
              have p1 := nmK_pg hN (by decide) _ _ h e3
              have p2 := psK_pg (c := 59) hN (by decide) _ _ p1.2 e1
              omega
          · rw [if_neg c] at e1
            exact clS_pg hN h e1
        have e2 := Option.some.inj e
        rw [← e2]
        exact p
    · cases e
end PureS
section AllX
variable {g : Nat → Nat} {N q d : Nat} {K M : List (List Nat)} {C : List (List (List Nat))} {W : List (Nat × Nat × Nat)} {O E : Nat} {s t u : PS} {r : Int} {ms : List Nat} {fm : List (Nat × Nat)} {b : BST}
theorem AxX.fr (h : AxX M C W O E s) (hf : Fr intsX ms fm s t) (c : okAx ms fm) : AxX M C W O E t := by
  obtain ⟨h1, h2, h3, h4⟩ := h
  refine ⟨h1.cg (hf.1 22 c.2.2.2.1), h2.cg (hf.1 18 c.1) (hf.1 19 c.2.1) (hf.1 20 c.2.2.1), (hf.f (by decide) ?_).trans h3, (hf.f (by decide) ?_).trans h4⟩
  · rcases c.2.2.2.2 with c | c
    · exact Or.inl c
    · exact Or.inr ⟨c.1, c.2.1⟩
  · rcases c.2.2.2.2 with c | c
    · exact Or.inl c
    · exact Or.inr ⟨c.1, c.2.2⟩
theorem BtX.nil (h : BtX M C s) : BtX M (C ++ [[]]) s := by
  refine ⟨h.1, fun c hc x hx => ?_, fun m l hm j hj => ?_⟩
  · rcases List.mem_append.mp hc with z | z
    · exact h.2.1 c z x hx
    · rw [List.mem_singleton.mp z] at hx
      exact absurd hx List.not_mem_nil
  · rw [h.2.2 m l hm j hj, app_get]
    by_cases e : j = C.length
    · rw [if_pos e, e, List.getElem?_eq_none (Nat.le_refl _)]
      constructor
      · rintro ⟨c, hc, _⟩
        cases hc
      · rintro ⟨c, hc, hl⟩
        have := Option.some.inj hc
        rw [← this] at hl
        exact absurd hl List.not_mem_nil
    · rw [if_neg e]
theorem AxX.cg2 (h : AxX M C W O E s) (e22 : t 22 = s 22) (e8 : t 16 8 = s 16 8) (e9 : t 16 9 = s 16 9) (hn : ∀ j, j < W.length → t 18 j = s 18 j ∧ t 19 j = s 19 j ∧ t 20 j = s 20 j) : AxX M C W O E t := by
  obtain ⟨h1, h2, h3, h4⟩ := h
  refine ⟨h1.cg e22, fun i hi => ?_, e8.trans h3, e9.trans h4⟩
  have k := hn i hi
  rw [k.1, k.2.1, k.2.2]
  exact h2 i hi
theorem Fr.w {k : Nat} (h : Fr intsX ms fm s t) (c : k ∉ ms) (j : Nat) : t k j = s k j := by rw [h.1 k c]
/-- marks, if there are any -/
theorem marksS (hN : N ≤ 1000) (hg : ∀ i, g i ≤ 255) {kd : Nat} (h : M_X8_readsMarks s (kd : Int) r t) (hP : PX g N K M d q s) (hC : C.length = kd) (hk : kd < 10) (hB : BtX M C s) : (r = 1 ∧ ∃ M2 cur2 q2, (if tkq g N q = 265 then mkF (tkq g N) (nxq g N) (ltq g N) K 1001 M [] q else some ((M, []), q)) = some ((M2, cur2), q2) ∧ PX g N K M2 d q2 t ∧ BtX M2 (C ++ [cur2]) t) ∨ (r = 0 ∧ (if tkq g N q = 265 then mkF (tkq g N) (nxq g N) (ltq g N) K 1001 M [] q else some ((M, []), q)) = none) := by
  obtain ⟨n, h⟩ := h
  unfold T_X8_readsMarks_e at h
  obtain ⟨_, _, h⟩ := h
  have tk := hP.tk
  rcases h with ⟨c, h⟩ | ⟨c, hr, hs⟩
  · rw [if_pos (by omega)]
    exact marksL hN hg hC hk n 0 1001 q M [] s r t h hP hB.nil (by omega) (by omega) (by omega) (by omega)
  · rw [if_neg (by omega)]
    exact Or.inl ⟨hr, M, [], q, rfl, by rw [hs]; exact hP, by rw [hs]; exact hB.nil⟩
theorem kdS_no {T Nx V : Nat → Nat} {L : Nat → List Nat} {F : Nat} (h : ¬ (K.length < 10 ∧ T (Nx q) = 258 ∧ ¬ L (Nx q) ∈ K ∧ ¬ L (Nx q) ∈ M)) : kdS T Nx F V L K M q = none := by
  unfold kdS
  rw [if_neg h]
theorem kdS_yes {T Nx V : Nat → Nat} {L : Nat → List Nat} {F : Nat} (h : K.length < 10 ∧ T (Nx q) = 258 ∧ ¬ L (Nx q) ∈ K ∧ ¬ L (Nx q) ∈ M) : kdS T Nx F V L K M q = (nmK T Nx V 262 1 500 (Nx (Nx q))).bind fun a => (nmK T Nx V 263 0 1000 a).bind fun b => (nmK T Nx V 264 0 200 b).bind fun c => (if T c = 265 then mkF T Nx L (K ++ [L (Nx q)]) F M [] c else some ((M, []), c)).bind fun m => (psK T Nx 59 m.2).bind fun e => some ((m.1.1, m.1.2, (V (Nx (Nx (Nx q))), V (Nx a), V (Nx b))), e) := by
  unfold kdS
  rw [if_pos h]
/-- a kind -/
theorem kindS (hN : N ≤ 1000) (hg : ∀ i, g i ≤ 255) (h : M_X8_readsKind s r t) (hS : SX g N b q s) (hk : tkq g N q = 261) : (r = 1 ∧ ∃ x, stS (tkq g N) (nxq g N) 1001 (nvq g N) (ltq g N) b q = some x ∧ SX g N x.1 x.2 t) ∨ (r = 0 ∧ stS (tkq g N) (nxq g N) 1001 (nvq g N) (ltq g N) b q = none) := by
  obtain ⟨K, M, C, W, O, E⟩ := b
  obtain ⟨hP, hA, lC, lW⟩ := hS
  have hP : PX g N K M 8 q s := hP
  have hA : AxX M C W O E s := hA
  have lC : C.length = K.length := lC
  have lW : W.length = K.length := lW
  have un : stS (tkq g N) (nxq g N) 1001 (nvq g N) (ltq g N) (K, M, C, W, O, E) q = (kdS (tkq g N) (nxq g N) 1001 (nvq g N) (ltq g N) K M q).bind fun r => some ((K ++ [ltq g N (nxq g N q)], r.1.1, C ++ [r.1.2.1], W ++ [r.1.2.2], O, E), r.2) := by
    unfold stS
    rw [if_pos hk]
  rw [un]
  unfold M_X8_readsKind T_X8_readsKind_e at h
  obtain ⟨ty, h⟩ := h
  have hBk := hP.2.2.1
  have hq := hP.2.2.2.1
  have tk := hP.tk
  have no : r = 0 → ¬ (K.length < 10 ∧ tkq g N (nxq g N q) = 258 ∧ ¬ ltq g N (nxq g N q) ∈ K ∧ ¬ ltq g N (nxq g N q) ∈ M) → (r = 1 ∧ ∃ x, ((kdS (tkq g N) (nxq g N) 1001 (nvq g N) (ltq g N) K M q).bind fun r => some ((K ++ [ltq g N (nxq g N q)], r.1.1, C ++ [r.1.2.1], W ++ [r.1.2.2], O, E), r.2)) = some x ∧ SX g N x.1 x.2 t) ∨ (r = 0 ∧ ((kdS (tkq g N) (nxq g N) 1001 (nvq g N) (ltq g N) K M q).bind fun r => some ((K ++ [ltq g N (nxq g N q)], r.1.1, C ++ [r.1.2.1], W ++ [r.1.2.2], O, E), r.2)) = none) := fun hr hn => Or.inr ⟨hr, by rw [kdS_no hn]; rfl⟩
  rcases h with ⟨c1, s1, hm, hf, _, h⟩ | ⟨c1, r1, s1, hm, hf, _, _, hr, _⟩
  · have lK : K.length < 10 := by
      have := hBk.1
      omega
    have p1 := hP.step hN hg hm hf (by omega) (by omega)
    have a1 : AxX M C W O E s1 := hA.fr hf (by decide)
    have tk1 := p1.tk
    have gt1 := ngr hg q hq (by omega)
    rcases h with ⟨c2, r2, s2, hm2, hf2, _, _, h⟩ | ⟨c2, r2, s2, hm2, hf2, _, _, hr, _⟩
    · have e58 : tkq g N (nxq g N q) = 258 := by omega
      have lw := ltq_LW hg (N := N) (q := nxq g N q) (by omega) (by omega)
      have ew := (p1.2.2.2.2.2.2 (by omega)).2.1 e58
      rw [ew] at hm2 h
      obtain ⟨x2, k2⟩ := kindX2 lw hm2 p1.2.2.1
      rw [x2] at h
      rcases h with ⟨c3, r3, s3, hm3, hf3, _, _, h⟩ | ⟨c3, r3, s3, hm3, hf3, _, _, hr, _⟩
      · have nK : ¬ ltq g N (nxq g N q) ∈ K := by
          rcases k2 with k | k
          · exact k.2
          · exact absurd k.1 (by omega)
        obtain ⟨x3, k3⟩ := markX2 lw hm3 p1.2.2.1
        rw [x3] at h
        rcases h with ⟨c4, s4, f4, s5, f5, s6, hm6, hf6, _, r7, s7, hm7, hf7, _, _, h⟩ | ⟨c4, r4, s4, hm4, hf4, _, _, hr, _⟩
        · have nM : ¬ ltq g N (nxq g N q) ∈ M := by
            rcases k3 with k | ⟨j, k, _⟩
            · exact k.2
            · exact absurd (k.symm.trans c4) (nat_m1 j)
          clear k3 k2 no
          rw [kdS_yes ⟨lK, e58, nK, nM⟩]
          rw [hBk.1] at f4 f5 hm7 h
          rw [Int.toNat_natCast] at f4
          have es : s5 = us (us s1 17 K.length ((e5 (ltq g N (nxq g N q)) : Nat) : Int)) 16 0 ((K.length : Int) + 1) := by rw [f5, f4]
          have b5 : BkX (K ++ [ltq g N (nxq g N q)]) M s5 := by
            refine p1.2.2.1.addK lw ?_ ?_ ?_ (fun i hi => ?_) ?_
            · rw [es, us_at]
            · rw [es, us_j (by decide), us_k (by decide)]
            · rw [es, us_k (by decide), us_at]
            · rw [es, us_k (by decide), us_j hi]
            · rw [es, us_k (by decide), us_k (by decide)]
          have p5 : PX g N (K ++ [ltq g N (nxq g N q)]) M 8 (nxq g N q) s5 := by
            refine p1.bk b5 ?_ ?_ ?_ ?_ <;> rw [es, us_k (by decide), us_k (by decide)]
          have a5 : AxX M C W O E s5 := by
            refine a1.cg2 ?_ ?_ ?_ (fun j _ => ⟨?_, ?_, ?_⟩)
            · rw [es, us_k (by decide), us_k (by decide)]
            · rw [es, us_j (by decide), us_k (by decide)]
            · rw [es, us_j (by decide), us_k (by decide)]
            · rw [es, us_k (by decide), us_k (by decide)]
            · rw [es, us_k (by decide), us_k (by decide)]
            · rw [es, us_k (by decide), us_k (by decide)]
          have p6 := p5.step hN hg hm6 hf6 (by omega) (by omega)
          have a6 : AxX M C W O E s6 := a5.fr hf6 (by decide)
          have n7 := numX_18 (cw := 262) (lo := 1) (hi := 500) (i := K.length) hN hg (by decide) (by rw [show (((262 : Nat) : Int) - 260) = 2 from by decide]; exact hm7) p6
          rcases h with ⟨c7, hr, _⟩ | ⟨c7, r8, s8, hm8, hf8, _, _, h⟩
          · rcases n7 with ⟨z, _⟩ | ⟨_, z⟩
            · omega
            · exact Or.inr ⟨hr, by rw [z]; rfl⟩
          · rcases n7 with ⟨_, q7, z7, p7, v7, w7⟩ | ⟨z, _⟩
            · have a7 : AxX M C W O E s7 := a6.cg2 (hf7.1 22 (by decide)) (hf7.f (by decide) (by decide)) (hf7.f (by decide) (by decide)) (fun j hj => ⟨w7 j (by omega), hf7.w (by decide) j, hf7.w (by decide) j⟩)
              rw [z7, Option.bind_some]
              have n8 := numX_19 (cw := 263) (lo := 0) (hi := 1000) (i := K.length) hN hg (by decide) (by rw [show (((263 : Nat) : Int) - 260) = 3 from by decide]; exact hm8) p7
              rcases h with ⟨c8, hr, _⟩ | ⟨c8, r9, s9, hm9, hf9, _, _, h⟩
              · rcases n8 with ⟨z, _⟩ | ⟨_, z⟩
                · omega
                · exact Or.inr ⟨hr, by rw [z]; rfl⟩
              · rcases n8 with ⟨_, q8, z8, p8, v8, w8⟩ | ⟨z, _⟩
                · have a8 : AxX M C W O E s8 := a7.cg2 (hf8.1 22 (by decide)) (hf8.f (by decide) (by decide)) (hf8.f (by decide) (by decide)) (fun j hj => ⟨hf8.w (by decide) j, w8 j (by omega), hf8.w (by decide) j⟩)
                  rw [z8, Option.bind_some]
                  have n9 := numX_20 (cw := 264) (lo := 0) (hi := 200) (i := K.length) hN hg (by decide) (by rw [show (((264 : Nat) : Int) - 260) = 4 from by decide]; exact hm9) p8
                  rcases h with ⟨c9, hr, _⟩ | ⟨c9, r10, s10, hm10, hf10, _, _, h⟩
                  · rcases n9 with ⟨z, _⟩ | ⟨_, z⟩
                    · omega
                    · exact Or.inr ⟨hr, by rw [z]; rfl⟩
                  · rcases n9 with ⟨_, q9, z9, p9, v9, w9⟩ | ⟨z, _⟩
                    · have a9 : AxX M C W O E s9 := a8.cg2 (hf9.1 22 (by decide)) (hf9.f (by decide) (by decide)) (hf9.f (by decide) (by decide)) (fun j hj => ⟨hf9.w (by decide) j, hf9.w (by decide) j, w9 j (by omega)⟩)
                      rw [z9, Option.bind_some]
                      have n10 := marksS (C := C) (kd := K.length) hN hg hm10 p9 lC lK a9.1
                      rcases h with ⟨c10, hr, _⟩ | ⟨c10, r11, s11, hm11, hf11, _, _, h⟩
                      · rcases n10 with ⟨z, _⟩ | ⟨_, z⟩
                        · omega
                        · exact Or.inr ⟨hr, by rw [z]; rfl⟩
                      · rcases n10 with ⟨_, M2, cur2, q10, z10, p10, b10⟩ | ⟨z, _⟩
                        · rw [z10, Option.bind_some]
                          have n11 := passX (c := 59) hN hg (by decide) (by decide) hm11 p10
                          rcases h with ⟨c11, hr, _⟩ | ⟨c11, hr, hs⟩
                          · rcases n11 with ⟨z, _⟩ | ⟨_, z⟩
                            · omega
                            · refine Or.inr ⟨hr, ?_⟩
                              have zz : psK (tkq g N) (nxq g N) 59 (((M2, cur2), q10) : (List (List Nat) × List (List Nat)) × Nat).2 = none := z
                              rw [zz]
                              rfl
                          · rcases n11 with ⟨_, q11, z11, p11⟩ | ⟨z, _⟩
                            · have zz : psK (tkq g N) (nxq g N) 59 (((M2, cur2), q10) : (List (List Nat) × List (List Nat)) × Nat).2 = some q11 := z11
                              rw [zz, Option.bind_some, Option.bind_some]
                              refine Or.inl ⟨hr, _, rfl, ?_⟩
                              rw [hs]
                              refine ⟨p11, ⟨b10.cg (hf11.1 22 (by decide)), fun i hi => ?_, ?_, ?_⟩, ?_, ?_⟩
                              · show s11 18 i = _ ∧ s11 19 i = _ ∧ s11 20 i = _
                                rw [hf11.w (by decide) i, hf11.w (by decide) i, hf11.w (by decide) i, hf10.w (by decide) i, hf10.w (by decide) i, hf10.w (by decide) i]
                                by_cases ei : i = K.length
                                · subst ei
                                  have g1 : s9 18 K.length = (nvq g N (nxq g N (nxq g N (nxq g N q))) : Int) := by rw [hf9.w (by decide), hf8.w (by decide), v7]
                                  have g2 : s9 19 K.length = (nvq g N (nxq g N q7) : Int) := by rw [hf9.w (by decide), v8]
                                  rw [g1, g2, v9]
                                  have el : (W ++ [(nvq g N (nxq g N (nxq g N (nxq g N q))), nvq g N (nxq g N q7), nvq g N (nxq g N q8))])[K.length]? = some (nvq g N (nxq g N (nxq g N (nxq g N q))), nvq g N (nxq g N q7), nvq g N (nxq g N q8)) := by rw [app_get, if_pos lW.symm]
                                  have e2 := (List.getElem?_eq_some_iff.mp el).2
                                  rw [show (W ++ [(nvq g N (nxq g N (nxq g N (nxq g N q))), nvq g N (nxq g N q7), nvq g N (nxq g N q8))])[K.length]'hi = _ from e2]
                                  exact ⟨rfl, rfl, rfl⟩
                                · have hi2 : i < W.length := by
                                    have hi3 : i < (W ++ [(nvq g N (nxq g N (nxq g N (nxq g N q))), nvq g N (nxq g N q7), nvq g N (nxq g N q8))]).length := hi
                                    rw [List.length_append, List.length_singleton] at hi3
                                    omega
                                  rw [show (W ++ [(nvq g N (nxq g N (nxq g N (nxq g N q))), nvq g N (nxq g N q7), nvq g N (nxq g N q8))])[i]'hi = W[i] from List.getElem_append_left hi2]
                                  exact a9.2.1 i hi2
                              · rw [hf11.f (by decide) (by decide), hf10.f (by decide) (by decide)]
                                exact a9.2.2.1
                              · rw [hf11.f (by decide) (by decide), hf10.f (by decide) (by decide)]
                                exact a9.2.2.2
                              · show (C ++ [cur2]).length = (K ++ [ltq g N (nxq g N q)]).length
                                rw [List.length_append, List.length_append, lC]
                                rfl
                              · show (W ++ [_]).length = (K ++ [ltq g N (nxq g N q)]).length
                                rw [List.length_append, List.length_append, lW]
                                rfl
                            · omega
                        · omega
                    · exact absurd z c9
                · exact absurd z c8
            · exact absurd z c7
        · refine no hr ?_
          rintro ⟨_, _, _, z⟩
          rcases k3 with k | ⟨j, _, _, k⟩
          · exact absurd k.1 c4
          · exact z (List.mem_of_getElem? k)
      · refine no hr ?_
        rintro ⟨_, _, z, _⟩
        rcases k2 with k | k
        · exact absurd k.1 c3
        · exact z k.2
    · exact no hr (fun z => by have := z.2.1; omega)
  · exact no hr (fun z => by have := hBk.1; omega)
/-- others -/
theorem clauseS (hN : N ≤ 1000) (hg : ∀ i, g i ≤ 255) {p : Int} (h : M_X8_readsClause s p r t) (hp : p = (tkq g N q : Int) - 260) (hS : SX g N b q s) (h1 : ¬ tkq g N q = 261) (h2 : ¬ tkq g N q = 271) : (r = 1 ∧ ∃ x, stS (tkq g N) (nxq g N) 1001 (nvq g N) (ltq g N) b q = some x ∧ SX g N x.1 x.2 t) ∨ (r = 0 ∧ stS (tkq g N) (nxq g N) 1001 (nvq g N) (ltq g N) b q = none) := by
  obtain ⟨K, M, C, W, O, E⟩ := b
  obtain ⟨hP, hA, lC, lW⟩ := hS
  have hP : PX g N K M 8 q s := hP
  have hA : AxX M C W O E s := hA
  have lC : C.length = K.length := lC
  have lW : W.length = K.length := lW
  have hF : N < 1001 := by omega
  have un : stS (tkq g N) (nxq g N) 1001 (nvq g N) (ltq g N) (K, M, C, W, O, E) q = if O < 24 then (clS (tkq g N) (nxq g N) 1001 (ltq g N) K M q).bind fun e => some ((K, M, C, W, O + 1, E), e) else none := by
    unfold stS
    rw [if_neg h1, if_neg h2, if_neg h2]
  obtain ⟨n, h⟩ := h
  unfold T_X8_readsClause_e at h
  obtain ⟨_, h⟩ := h
  have tk := hP.tk
  -- the last part
  have k114 : ∀ (n : Nat) (x y z : Int) (q4 : Nat) (s4 : PS), It_X8_readsClause n 114 x y z s4 r t → PX g N K M 8 q4 s4 → AxX M C W O E s4 → (r = 1 ∧ ∃ q5, ((psK (tkq g N) (nxq g N) 267 q4).bind fun d => (eitD (tkq g N) (nxq g N) 1001 (atT (tkq g N) (nxq g N) 1001) 8 d).bind fun e => psK (tkq g N) (nxq g N) 59 e) = some q5 ∧ PX g N K M 8 q5 t ∧ AxX M C W (O + 1) E t) ∨ (r = 0 ∧ ((psK (tkq g N) (nxq g N) 267 q4).bind fun d => (eitD (tkq g N) (nxq g N) 1001 (atT (tkq g N) (nxq g N) 1001) 8 d).bind fun e => psK (tkq g N) (nxq g N) 59 e) = none) := by
    intro n x y z q4 s4 h p4 a4
    cases n with
    | zero => exact False.elim h
    | succ n =>
      have h := ul_X8_readsClause_114 h
      unfold T_X8_readsClause_114 at h
      obtain ⟨_, _, _, _, r5, s5, hm5, hf5, _, _, h⟩ := h
      have n5 := passX (c := 267) hN hg (by decide) (by decide) hm5 p4
      have a5 : AxX M C W O E s5 := a4.fr hf5 (by decide)
      rcases h with ⟨c5, hr, _⟩ | ⟨c5, r6, s6, hm6, hf6, _, _, h⟩
      · rcases n5 with ⟨w, _⟩ | ⟨_, w⟩
        · omega
        · exact Or.inr ⟨hr, by rw [w]; rfl⟩
      · rcases n5 with ⟨_, q5, w5, p5⟩ | ⟨w, _⟩
        · rw [w5, Option.bind_some]
          have n6 := eitX (F := 1001) hN hg hF 8 q5 s5 0 r6 s6 hm6 p5
          have ea : AX g N 1001 K M 0 = atT (tkq g N) (nxq g N) 1001 := by
            unfold AX
            rw [if_pos rfl]
          rw [ea] at n6
          have a6 : AxX M C W O E s6 := a5.fr hf6 (by decide)
          rcases h with ⟨c6, hr, _⟩ | ⟨c6, s7, hm7, hf7, _, r8, s8, hm8, hf8, _, _, hr, hs⟩
          · rcases n6 with ⟨w, _⟩ | ⟨_, w⟩
            · omega
            · exact Or.inr ⟨hr, by rw [w]; rfl⟩
          · rcases n6 with ⟨_, q6, w6, p6⟩ | ⟨w, _⟩
            · rw [w6, Option.bind_some]
              unfold M_X1_addOther_at16 T_X1_addOther_at16_e at hm7
              obtain ⟨_, _, _, _, _, _, t2, u2, t3, u3, t4, u4, t5, u5, t6, u6, t7, u7, _, us7⟩ := hm7
              have p7 : PX g N K M 8 q6 s7 := by
                rw [us7, u7, u6, u5, u4, u3, u2]
                exact (((((p6.usk (by decide)).usk (by decide)).usk (by decide)).usk (by decide)).usk (by decide)).us16 (by decide)
              have a7 : AxX M C W (O + 1) E s7 := by
                obtain ⟨i1, i2, i3, i4⟩ := a6
                refine ⟨i1.cg (hf7.1 22 (by decide)), i2.cg (hf7.1 18 (by decide)) (hf7.1 19 (by decide)) (hf7.1 20 (by decide)), ?_, (hf7.f (by decide) (by decide)).trans i4⟩
                rw [us7, u7, us_at, i3]
                omega
              have n8 := passX (c := 59) hN hg (by decide) (by decide) hm8 p7
              have a8 : AxX M C W (O + 1) E s8 := a7.fr hf8 (by decide)
              rcases n8 with ⟨w, q8, w8, p8⟩ | ⟨w, w8⟩
              · exact Or.inl ⟨hr.trans w, q8, w8, by rw [hs]; exact p8, by rw [hs]; exact a8⟩
              · exact Or.inr ⟨hr.trans w, w8⟩
            · omega
        · exact absurd w c5
  -- behind of
  have k98 : ∀ (n : Nat) (y z : Int) (q3 : Nat) (s3 : PS), It_X8_readsClause n 98 p y z s3 r t → PX g N K M 8 q3 s3 → AxX M C W O E s3 → (r = 1 ∧ ∃ q5, ((if tkq g N q = 270 then some q3 else eitD (tkq g N) (nxq g N) 1001 (atW (tkq g N) (nxq g N) (knK (ltq g N) K M)) 8 q3).bind fun c => (psK (tkq g N) (nxq g N) 267 c).bind fun d => (eitD (tkq g N) (nxq g N) 1001 (atT (tkq g N) (nxq g N) 1001) 8 d).bind fun e => psK (tkq g N) (nxq g N) 59 e) = some q5 ∧ PX g N K M 8 q5 t ∧ AxX M C W (O + 1) E t) ∨ (r = 0 ∧ ((if tkq g N q = 270 then some q3 else eitD (tkq g N) (nxq g N) 1001 (atW (tkq g N) (nxq g N) (knK (ltq g N) K M)) 8 q3).bind fun c => (psK (tkq g N) (nxq g N) 267 c).bind fun d => (eitD (tkq g N) (nxq g N) 1001 (atT (tkq g N) (nxq g N) 1001) 8 d).bind fun e => psK (tkq g N) (nxq g N) 59 e) = none) := by
    intro n y z q3 s3 h p3 a3
    cases n with
    | zero => exact False.elim h
    | succ n =>
      have h := ul_X8_readsClause_98 h
      unfold T_X8_readsClause_98 at h
      obtain ⟨_, _, _, _, ⟨c, h⟩ | ⟨c, r4, s4, hm4, hf4, _, _, h⟩⟩ := h
      · rw [if_pos (by omega), Option.bind_some]
        exact k114 n _ _ _ q3 s3 h p3 a3
      · rw [if_neg (by omega)]
        have n4 := eitX (F := 1001) hN hg hF 8 q3 s3 1 r4 s4 hm4 p3
        have ea : AX g N 1001 K M 1 = atW (tkq g N) (nxq g N) (knK (ltq g N) K M) := by
          unfold AX
          rw [if_neg (by decide)]
        rw [ea] at n4
        rcases h with ⟨c4, hr, _⟩ | ⟨c4, h⟩
        · rcases n4 with ⟨w, _⟩ | ⟨_, w⟩
          · omega
          · exact Or.inr ⟨hr, by rw [w]; rfl⟩
        · rcases n4 with ⟨_, q4, w4, p4⟩ | ⟨w, _⟩
          · rw [w4, Option.bind_some]
            exact k114 n _ _ _ q4 s4 h p4 (a3.fr hf4 (by decide))
          · omega
  have k72 : ∀ (n : Nat) (y z : Int) (q2 : Nat) (s2 : PS), It_X8_readsClause n 72 p y z s2 r t → PX g N K M 8 q2 s2 → AxX M C W O E s2 → (r = 1 ∧ ∃ q5, ((if tkq g N q = 268 then psK (tkq g N) (nxq g N) 269 q2 else some q2).bind fun b => (if tkq g N q = 270 then some b else eitD (tkq g N) (nxq g N) 1001 (atW (tkq g N) (nxq g N) (knK (ltq g N) K M)) 8 b).bind fun c => (psK (tkq g N) (nxq g N) 267 c).bind fun d => (eitD (tkq g N) (nxq g N) 1001 (atT (tkq g N) (nxq g N) 1001) 8 d).bind fun e => psK (tkq g N) (nxq g N) 59 e) = some q5 ∧ PX g N K M 8 q5 t ∧ AxX M C W (O + 1) E t) ∨ (r = 0 ∧ ((if tkq g N q = 268 then psK (tkq g N) (nxq g N) 269 q2 else some q2).bind fun b => (if tkq g N q = 270 then some b else eitD (tkq g N) (nxq g N) 1001 (atW (tkq g N) (nxq g N) (knK (ltq g N) K M)) 8 b).bind fun c => (psK (tkq g N) (nxq g N) 267 c).bind fun d => (eitD (tkq g N) (nxq g N) 1001 (atT (tkq g N) (nxq g N) 1001) 8 d).bind fun e => psK (tkq g N) (nxq g N) 59 e) = none) := by
    intro n y z q2 s2 h p2 a2
    cases n with
    | zero => exact False.elim h
    | succ n =>
      have h := ul_X8_readsClause_72 h
      unfold T_X8_readsClause_72 at h
      obtain ⟨_, _, _, ⟨c, r3, s3, hm3, hf3, _, _, h⟩ | ⟨c, h⟩⟩ := h
      · rw [if_pos (by omega)]
        have n3 := passX (c := 269) hN hg (by decide) (by decide) hm3 p2
        rcases h with ⟨c3, hr, _⟩ | ⟨c3, h⟩
        · rcases n3 with ⟨w, _⟩ | ⟨_, w⟩
          · omega
          · exact Or.inr ⟨hr, by rw [w]; rfl⟩
        · rcases n3 with ⟨_, q3, w3, p3⟩ | ⟨w, _⟩
          · rw [w3, Option.bind_some]
            exact k98 n _ _ q3 s3 h p3 (a2.fr hf3 (by decide))
          · omega
      · rw [if_neg (by omega), Option.bind_some]
        exact k98 n _ _ q2 s2 h p2 a2
  have k24 : ∀ (n : Nat) (y z : Int), It_X8_readsClause n 24 p y z s r t → (tkq g N q = 266 ∨ tkq g N q = 268 ∨ tkq g N q = 270) → (r = 1 ∧ ∃ x, stS (tkq g N) (nxq g N) 1001 (nvq g N) (ltq g N) (K, M, C, W, O, E) q = some x ∧ SX g N x.1 x.2 t) ∨ (r = 0 ∧ stS (tkq g N) (nxq g N) 1001 (nvq g N) (ltq g N) (K, M, C, W, O, E) q = none) := by
    intro n y z h hk
    rw [un]
    cases n with
    | zero => exact False.elim h
    | succ n =>
      have h := ul_X8_readsClause_24 h
      unfold T_X8_readsClause_24 at h
      obtain ⟨_, _, h⟩ := h
      rw [hA.2.2.1] at h
      rcases h with ⟨c1, s1, hm1, hf1, _, h⟩ | ⟨c1, r1, s1, _, _, _, _, hr, _⟩
      · rw [if_pos (by omega)]
        have cl : clS (tkq g N) (nxq g N) 1001 (ltq g N) K M q = (if tkq g N q = 266 then some (nxq g N q) else sumD (tkq g N) (nxq g N) 1001 8 (nxq g N q)).bind fun a => (if tkq g N q = 268 then psK (tkq g N) (nxq g N) 269 a else some a).bind fun b => (if tkq g N q = 270 then some b else eitD (tkq g N) (nxq g N) 1001 (atW (tkq g N) (nxq g N) (knK (ltq g N) K M)) 8 b).bind fun c => (psK (tkq g N) (nxq g N) 267 c).bind fun d => (eitD (tkq g N) (nxq g N) 1001 (atT (tkq g N) (nxq g N) 1001) 8 d).bind fun e => psK (tkq g N) (nxq g N) 59 e := by
          unfold clS
          rw [if_pos hk]
        rw [cl]
        have p1 := hP.step hN hg hm1 hf1 (by omega) (by omega)
        have a1 : AxX M C W O E s1 := hA.fr hf1 (by decide)
        have fin : ∀ (S : Option Nat), ((r = 1 ∧ ∃ q5, S = some q5 ∧ PX g N K M 8 q5 t ∧ AxX M C W (O + 1) E t) ∨ (r = 0 ∧ S = none)) → (r = 1 ∧ ∃ x, (S.bind fun e => some (((K, M, C, W, O + 1, E), e) : BST × Nat)) = some x ∧ SX g N x.1 x.2 t) ∨ (r = 0 ∧ (S.bind fun e => some (((K, M, C, W, O + 1, E), e) : BST × Nat)) = none) := by
          intro S k
          rcases k with ⟨k1, q5, k2, k3, k4⟩ | ⟨k1, k2⟩
          · refine Or.inl ⟨k1, _, by rw [k2]; rfl, k3, k4, lC, lW⟩
          · exact Or.inr ⟨k1, by rw [k2]; rfl⟩
        rcases h with ⟨c2, h⟩ | ⟨c2, r2, s2, hm2, hf2, _, _, h⟩
        · rw [if_pos (by omega), Option.bind_some]
          exact fin _ (k72 n _ _ _ s1 h p1 a1)
        · rw [if_neg (by omega)]
          have n2 := sumX (F := 1001) hN hg hF 8 _ s1 r2 s2 hm2 p1
          rcases h with ⟨c3, hr, _⟩ | ⟨c3, h⟩
          · rcases n2 with ⟨w, _⟩ | ⟨_, w⟩
            · omega
            · exact Or.inr ⟨hr, by rw [w]; rfl⟩
          · rcases n2 with ⟨_, q2, w2, p2⟩ | ⟨w, _⟩
            · rw [w2, Option.bind_some]
              exact fin _ (k72 n _ _ q2 s2 h p2 (a1.fr hf2 (by decide)))
            · omega
      · rw [if_neg (by omega)]
        exact Or.inr ⟨hr, rfl⟩
  rcases h with ⟨c, h⟩ | ⟨c, ⟨c2, h⟩ | ⟨c2, ⟨c3, h⟩ | ⟨c3, r3, s3, _, _, _, _, hr, _⟩⟩⟩
  · exact k24 n _ _ h (by omega)
  · exact k24 n _ _ h (by omega)
  · exact k24 n _ _ h (by omega)
  · refine Or.inr ⟨hr, ?_⟩
    rw [un]
    split
    · have cl : clS (tkq g N) (nxq g N) 1001 (ltq g N) K M q = none := by
        unfold clS
        rw [if_neg (by omega)]
      rw [cl]
      rfl
    · rfl
theorem evenS (hN : N ≤ 1000) (hg : ∀ i, g i ≤ 255) (h : M_X8_readsEven s r t) (hS : SX g N b q s) (h2 : tkq g N q = 271) : (r = 1 ∧ ∃ x, stS (tkq g N) (nxq g N) 1001 (nvq g N) (ltq g N) b q = some x ∧ SX g N x.1 x.2 t) ∨ (r = 0 ∧ stS (tkq g N) (nxq g N) 1001 (nvq g N) (ltq g N) b q = none) := by
  obtain ⟨K, M, C, W, O, E⟩ := b
  obtain ⟨hP, hA, lC, lW⟩ := hS
  have hP : PX g N K M 8 q s := hP
  have hA : AxX M C W O E s := hA
  have lC : C.length = K.length := lC
  have lW : W.length = K.length := lW
  have un : stS (tkq g N) (nxq g N) 1001 (nvq g N) (ltq g N) (K, M, C, W, O, E) q = if O < 24 then ((nmK (tkq g N) (nxq g N) (nvq g N) 271 0 1000 q).bind (psK (tkq g N) (nxq g N) 59)).bind fun e => some ((K, M, C, W, O + 1, nvq g N (nxq g N q)), e) else none := by
    unfold stS
    rw [if_neg (by omega), if_pos h2, if_pos h2]
  rw [un]
  unfold M_X8_readsEven T_X8_readsEven_e at h
  obtain ⟨_, h⟩ := h
  rw [hA.2.2.1] at h
  rcases h with ⟨c1, r1, s1, hm1, hf1, _, _, h⟩ | ⟨c1, r1, s1, _, _, _, _, hr, _⟩
  · rw [if_pos (by omega)]
    have n1 := numX_24 (cw := 271) (lo := 0) (hi := 1000) (i := O) hN hg (by decide) (by rw [show (((271 : Nat) : Int) - 260) = 11 from by decide]; exact hm1) hP
    have a1 : AxX M C W O E s1 := hA.fr hf1 (by decide)
    rcases h with ⟨c2, hr, _⟩ | ⟨c2, s2, f2, s3, hm3, hf3, _, r4, s4, hm4, hf4, _, _, hr, hs⟩
    · rcases n1 with ⟨z, _⟩ | ⟨_, z⟩
      · omega
      · exact Or.inr ⟨hr, by rw [z]; rfl⟩
    · rcases n1 with ⟨_, q1, z1, p1, v1, w1⟩ | ⟨z, _⟩
      · rw [z1, Option.bind_some]
        rw [Int.toNat_natCast, v1] at f2
        have p2 : PX g N K M 8 q1 s2 := by
          rw [f2]
          exact p1.us16 (by decide)
        have a2 : AxX M C W O (nvq g N (nxq g N q)) s2 := by
          obtain ⟨i1, i2, i3, i4⟩ := a1
          refine ⟨i1.cg (by rw [f2, us_k (by decide)]), i2.cg (by rw [f2, us_k (by decide)]) (by rw [f2, us_k (by decide)]) (by rw [f2, us_k (by decide)]), by rw [f2, us_j (by decide), i3], by rw [f2, us_at]⟩
        unfold M_X1_addOther_at16 T_X1_addOther_at16_e at hm3
        obtain ⟨_, _, _, _, _, _, t2, u2, t3, u3, t4, u4, t5, u5, t6, u6, t7, u7, _, us7⟩ := hm3
        have p3 : PX g N K M 8 q1 s3 := by
          rw [us7, u7, u6, u5, u4, u3, u2]
          exact (((((p2.usk (by decide)).usk (by decide)).usk (by decide)).usk (by decide)).usk (by decide)).us16 (by decide)
        have a3 : AxX M C W (O + 1) (nvq g N (nxq g N q)) s3 := by
          obtain ⟨i1, i2, i3, i4⟩ := a2
          refine ⟨i1.cg (hf3.1 22 (by decide)), i2.cg (hf3.1 18 (by decide)) (hf3.1 19 (by decide)) (hf3.1 20 (by decide)), ?_, (hf3.f (by decide) (by decide)).trans i4⟩
          rw [us7, u7, us_at, i3]
          omega
        have n4 := passX (c := 59) hN hg (by decide) (by decide) hm4 p3
        have a4 : AxX M C W (O + 1) (nvq g N (nxq g N q)) s4 := a3.fr hf4 (by decide)
        rcases n4 with ⟨w, q4, w4, p4⟩ | ⟨w, w4⟩
        · rw [w4, Option.bind_some]
          exact Or.inl ⟨hr.trans w, _, rfl, by rw [hs]; exact p4, by rw [hs]; exact a4, lC, lW⟩
        · exact Or.inr ⟨hr.trans w, by rw [w4]; rfl⟩
      · omega
  · rw [if_neg (by omega)]
    exact Or.inr ⟨hr, rfl⟩
/-- the whole text -/
theorem allL (hN : N ≤ 1000) (hg : ∀ i, g i ≤ 255) : ∀ (n i k q : Nat) (b : BST) (s : PS) (r : Int) (t : PS), It_X8_readsAll_16 n (i : Int) s r t → SX g N b q s → i ≤ q → N < q + k → (r = 1 ∧ ∃ b2 q2, alF (tkq g N) (nxq g N) 1001 (nvq g N) (ltq g N) k b q = some b2 ∧ SX g N b2 q2 t) ∨ (r = 0 ∧ alF (tkq g N) (nxq g N) 1001 (nvq g N) (ltq g N) k b q = none)
  | 0, i, k, q, b, s, r, t, h, _, _, _ => False.elim h
  | n + 1, i, k, q, b, s, r, t, h, hS, hi, hk => by
    have h := ul_X8_readsAll_16_36 h
    unfold T_X8_readsAll_16_36 at h
    obtain ⟨_, _, h⟩ := h
    have tk := hS.1.tk
    have hq := hS.1.2.2.2.1
    obtain ⟨k, rfl⟩ : ∃ k2, k = k2 + 1 := ⟨k - 1, by omega⟩
    have un : alF (tkq g N) (nxq g N) 1001 (nvq g N) (ltq g N) (k + 1) b q = if tkq g N q = 256 then some b else (stS (tkq g N) (nxq g N) 1001 (nvq g N) (ltq g N) b q).bind fun r => alF (tkq g N) (nxq g N) 1001 (nvq g N) (ltq g N) k r.1 r.2 := rfl
    rw [un]
    have go : ∀ (r1 : Int) (s1 : PS), ¬ tkq g N q = 256 → ((r1 = 1 ∧ ∃ x, stS (tkq g N) (nxq g N) 1001 (nvq g N) (ltq g N) b q = some x ∧ SX g N x.1 x.2 s1) ∨ (r1 = 0 ∧ stS (tkq g N) (nxq g N) 1001 (nvq g N) (ltq g N) b q = none)) → ((r1 = 0 ∧ (r = 0 ∧ t = s1)) ∨ (¬ r1 = 0 ∧ It_X8_readsAll_16 n ((i : Int) + 1) s1 r t)) → (r = 1 ∧ ∃ b2 q2, ((stS (tkq g N) (nxq g N) 1001 (nvq g N) (ltq g N) b q).bind fun r => alF (tkq g N) (nxq g N) 1001 (nvq g N) (ltq g N) k r.1 r.2) = some b2 ∧ SX g N b2 q2 t) ∨ (r = 0 ∧ ((stS (tkq g N) (nxq g N) 1001 (nvq g N) (ltq g N) b q).bind fun r => alF (tkq g N) (nxq g N) 1001 (nvq g N) (ltq g N) k r.1 r.2) = none) := by
      intro r1 s1 h0 k1 k2
      rcases k2 with ⟨c, hr, _⟩ | ⟨c, h⟩
      · rcases k1 with ⟨z, _⟩ | ⟨_, z⟩
        · omega
        · exact Or.inr ⟨hr, by rw [z]; rfl⟩
      · rcases k1 with ⟨_, x, z, sx⟩ | ⟨z, _⟩
        · have pg := stS_pg (ngr hg) hq h0 z
          rw [z, Option.bind_some]
          have h2 : It_X8_readsAll_16 n ((i + 1 : Nat) : Int) s1 r t := h
          exact allL hN hg n (i + 1) k x.2 x.1 s1 r t h2 sx (by omega) (by omega)
        · omega
    rcases h with ⟨c1, _⟩ | ⟨c1, ⟨c2, hr, hs⟩ | ⟨c2, ⟨c3, r1, s1, hm, hf, _, _, h⟩ | ⟨c3, ⟨c4, r1, s1, hm, hf, _, _, h⟩ | ⟨c4, r1, s1, hm, hf, _, _, h⟩⟩⟩⟩
    · omega
    · rw [if_pos (by omega)]
      exact Or.inl ⟨hr, b, q, rfl, by rw [hs]; exact hS⟩
    · rw [if_neg (by omega)]
      exact go r1 s1 (by omega) (kindS hN hg hm hS (by omega)) h
    · rw [if_neg (by omega)]
      exact go r1 s1 (by omega) (evenS hN hg hm hS (by omega)) h
    · rw [if_neg (by omega)]
      have bd := tk_bnd (N := N) (q := q) hg
      rw [tk, wi_id (by omega) (by omega)] at hm
      exact go r1 s1 (by omega) (clauseS hN hg hm rfl hS (by omega) (by omega)) h
end AllX
theorem cwq_0x {g : Nat → Nat} : ¬ cwq g 0 = true := by
  unfold cwq
  have e : Nat.ble 1 0 = false := rfl
  rw [e, Bool.false_and]
  decide
/-- the class's whole reader: what the tape tells -/
theorem allX {g : Nat → Nat} {N : Nat} {s t : PS} {r : Int} (hN : N ≤ 1000) (hg : ∀ i, g i ≤ 255) (h : M_X8_readsAll_16 s r t) (hT : TpX g N s) (hO : OWX s) : (r = 1 ∧ ∃ b q, rdT g N = some b ∧ SX g N b q t) ∨ (r = 0 ∧ rdT g N = none) := by
  obtain ⟨n, h⟩ := h
  unfold T_X8_readsAll_16_e at h
  obtain ⟨_, s0, f0, s1, f1, s2, f2, s3, f3, s4, hm4, hf4, _, s5, hm5, hf5, _, h⟩ := h
  unfold M_X1_empty_at16 T_X1_empty_at16_e at hm4
  obtain ⟨_, t1, u1, t2, u2, t3, u3, t4, u4, t5, u5, t6, u6, _, us6⟩ := hm4
  have e3 : s3 = us (us (us s 34 2 0) 34 3 (-1)) 34 4 0 := by rw [f3, f2, f1, f0]
  have e4 : s4 = us (us (us (us (us (us s3 16 0 0) 16 5 0) 16 8 0) 16 9 1000) 16 17 0) 16 19 0 := by rw [us6, u6, u5, u4, u3, u2, u1]
  have T4 : TpX g N s4 := hT.cg (by rw [e4, e3]; simp only [us_k (show ¬ 32 = 16 by decide), us_k (show ¬ 32 = 34 by decide)]) (by rw [e4, e3]; simp only [us_k (show ¬ 31 = 16 by decide), us_k (show ¬ 31 = 34 by decide)])
  have O4 : OWX s4 := hO.cg (by rw [e4, e3]; simp only [us_k (show ¬ 33 = 16 by decide), us_k (show ¬ 33 = 34 by decide)])
  have z0 : s4 16 0 = 0 := by rw [e4, us_j (by decide), us_j (by decide), us_j (by decide), us_j (by decide), us_j (by decide), us_at]
  have z5 : s4 16 5 = 0 := by rw [e4, us_j (by decide), us_j (by decide), us_j (by decide), us_j (by decide), us_at]
  have z8 : s4 16 8 = 0 := by rw [e4, us_j (by decide), us_j (by decide), us_j (by decide), us_at]
  have z9 : s4 16 9 = 1000 := by rw [e4, us_j (by decide), us_j (by decide), us_at]
  have z34 : s4 34 4 = 0 := by rw [e4, us_k (by decide), us_k (by decide), us_k (by decide), us_k (by decide), us_k (by decide), us_k (by decide), e3, us_at]
  unfold M_X10_rewind T_X10_rewind_e at hm5
  obtain ⟨_, v1, w1, v2, w2, v3, hm6, hf6, _, _, es5⟩ := hm5
  have ev : v2 = us (us s4 31 3 0) 31 4 256 := by rw [w2, w1]
  have T6 : TpX g N v2 := T4.cg (by rw [ev, us_k (by decide), us_k (by decide)]) (by rw [ev, us_j (by decide), us_j (by decide)])
  have O6 : OWX v2 := O4.cg (by rw [ev, us_k (by decide), us_k (by decide)])
  have st := stepX (q := 0) hN hg hm6 T6 O6 (by rw [ev, us_j (by decide), us_at]; rfl) (Nat.zero_le _) (by rw [ev, us_at]; exact ⟨fun z => absurd z (by decide), fun z => absurd z cwq_0x⟩)
  have sx : SX g N ([], [], [], [], 0, 1000) 0 s5 := by
    rw [es5]
    have k16 : v3 16 = s4 16 := by rw [hf6.1 16 (by decide), ev, us_k (by decide), us_k (by decide)]
    have k34 : v3 34 = s4 34 := by rw [hf6.1 34 (by decide), ev, us_k (by decide), us_k (by decide)]
    refine ⟨⟨T6.cg (hf6.1 32 (by decide)) (hf6.f (by decide) (by decide)), O6.cg (hf6.1 33 (by decide)), ⟨by rw [k16, z0]; rfl, by rw [k16, z5]; rfl, fun i hi => absurd hi (Nat.not_lt_zero _), fun i hi => absurd hi (Nat.not_lt_zero _), fun l hl => absurd hl List.not_mem_nil, fun l hl => absurd hl List.not_mem_nil⟩, Nat.zero_le _, ⟨by rw [k34, z34]; rfl, by decide⟩, st⟩, ⟨⟨List.nodup_nil, fun c hc => absurd hc List.not_mem_nil, fun m l hm => ?_⟩, fun i hi => absurd hi (Nat.not_lt_zero _), by rw [k16, z8]; rfl, by rw [k16, z9]; rfl⟩, rfl, rfl⟩
    cases hm
  have k := allL hN hg n 0 1001 0 _ s5 r t h sx (by omega) (by omega)
  rcases k with ⟨k1, b, q, k2, k3⟩ | ⟨k1, k2⟩
  · exact Or.inl ⟨k1, b, q, k2, k3⟩
  · exact Or.inr ⟨k1, k2⟩
