/-! the reference's reader: a statement -/
theorem clP_bad {T Nx : Nat → Nat} {F : Nat} {L : Nat → List Nat} {K M : List (List Nat)} {q : Nat} (c : T q = 266 ∨ T q = 268 ∨ T q = 270) (h : T (Nx q) = 257) : clP T Nx F L K M q = none := by
  unfold clP
  rcases c with c | c | c
  · rw [if_pos c, Option.bind_some, if_neg (by omega), Option.bind_some, if_neg (by omega), bad_which h]
    rfl
  · rw [if_neg (by omega), bad_sum h]
    rfl
  · rw [if_neg (by omega), bad_sum h]
    rfl
theorem tyM_oth {s : PS} (h : TyM s) (i : Nat) : 0 ≤ s 4 i ∧ s 4 i ≤ 24 := h.2 (4, 0, 24) (by decide) i
section StatM
variable {g : Nat → Nat} {N q : Nat} {s s1 t u : PS} {r : Int} {K M : List (List Nat)} {C : List (List (List Nat))} {W : List (Nat × Nat × Nat)} {O E O2 E2 : Nat} {b : BST} {S : Option Nat}
/-- never, likes, gifts -/
theorem ruleM (hN : N ≤ 1000) (hg : ∀ i, g i ≤ 255) {p : Int} (hp : (p = 0 ∧ tkq g N q = 266) ∨ (p = 1 ∧ tkq g N q = 268) ∨ (p = 2 ∧ tkq g N q = 270)) (h : M_X12_rule s p r t) (hR : RsM g N K M C W O E q s) : RuR g N K M C W (O + 1) E (if O < 24 then clP (tkq g N) (nxq g N) 1001 (ltq g N) K M q else none) t := by
  have hc : tkq g N q = 266 ∨ tkq g N q = 268 ∨ tkq g N q = 270 := by omega
  have h256 : ¬ tkq g N q = 256 := by omega
  have hp3 : ¬ p = 3 := by omega
  have hp2 : p = 0 ∨ p = 1 ∨ p = 2 := by omega
  have e : clP (tkq g N) (nxq g N) 1001 (ltq g N) K M q = ((if p = 0 then some (nxq g N q) else sumD (tkq g N) (nxq g N) 1001 8 (nxq g N q)).bind fun a => (if p = 1 then psK (tkq g N) (nxq g N) 269 a else some a).bind fun b => (if 2 ≤ p then some b else eitD (tkq g N) (nxq g N) 1001 (atW (tkq g N) (nxq g N) (knK (ltq g N) K M)) 8 b).bind fun c => (psK (tkq g N) (nxq g N) 267 c).bind fun d => eitD (tkq g N) (nxq g N) 1001 (atT (tkq g N) (nxq g N) 1001) 8 d) := by
    unfold clP
    rcases hp with ⟨c1, c2⟩ | ⟨c1, c2⟩ | ⟨c1, c2⟩
    · simp only [if_pos c1, if_pos c2, if_neg (show ¬ tkq g N q = 268 by omega), if_neg (show ¬ tkq g N q = 270 by omega), if_neg (show ¬ p = 1 by omega), if_neg (show ¬ 2 ≤ p by omega)]
    · simp only [if_pos c1, if_pos c2, if_neg (show ¬ tkq g N q = 266 by omega), if_neg (show ¬ tkq g N q = 270 by omega), if_neg (show ¬ p = 0 by omega), if_neg (show ¬ 2 ≤ p by omega)]
    · simp only [if_pos c2, if_neg (show ¬ tkq g N q = 266 by omega), if_neg (show ¬ tkq g N q = 268 by omega), if_neg (show ¬ p = 0 by omega), if_neg (show ¬ p = 1 by omega), if_pos (show 2 ≤ p by omega)]
  obtain ⟨n, h⟩ := h
  unfold T_X12_rule_e at h
  obtain ⟨ty, _, h⟩ := h
  obtain ⟨a, a1, a2, a3, a4⟩ := id hR.2.2
  have ea : (s 0 13).toNat = a := by rw [a2]; rfl
  have o24 := (tyM_oth ty a).2
  rw [a3] at o24
  rw [ea, a3] at h
  rcases h with ⟨c1, s1, hb, _, _, _, e2⟩ | ⟨c1, s1, hl, hf, _, h⟩
  · rw [e2]
    refine Or.inl ⟨(blameF hb (tyM_flt ty).1).1, ?_⟩
    have no : ¬ O < 24 := by clear hb; omega
    rw [if_neg no]
    exact Bd.non rfl
  · have yes : O < 24 := by clear h hl hf; omega
    rw [if_pos yes]
    rcases lookX hN hg (hR.1.mw h256) hl hf with ⟨j1, j2⟩ | j1
    · refine Or.inl ⟨?_, Bd.non (clP_bad hc j2)⟩
      rcases h with ⟨c3, _⟩ | ⟨_, h⟩
      · exact absurd c3 hp3
      · exact g88 h j1
    · rcases h with ⟨c3, _⟩ | ⟨_, h⟩
      · exact absurd c3 hp3
      · have R1 : RsM g N K M C W O E (nxq g N q) s1 := ⟨j1, hR.2.1.fr hf (by decide), hR.2.2.fr hf (by decide)⟩
        have k := h88 hN hg hp2 h R1
        rw [e]
        exact k
theorem AxM.even (h : AxM M C W O E s) {v : Int} {E2 a : Nat} (ha : s 0 13 = (a : Int)) (hv : v = (E2 : Int)) : AxM M C W O E2 (us s 5 a v) := by
  obtain ⟨a', h1, h2, h3, _, h5, h6, h7, h8⟩ := h
  have e : a' = a := by omega
  rw [e] at h1 h2 h3 h7 h8
  exact ⟨a, h1, by rw [us_k (by decide)]; exact h2, by rw [us_k (by decide)]; exact h3, by rw [us_at, hv], h5, h6, fun i c hc => by rw [us_k (by decide)]; exact h7 i c hc, fun i x hx => by rw [us_k (by decide), us_k (by decide), us_k (by decide)]; exact h8 i x hx⟩
/-- even -/
theorem ruleE (hN : N ≤ 1000) (hg : ∀ i, g i ≤ 255) (h0 : tkq g N q = 271) (h : M_X12_rule s 3 r t) (hR : RsM g N K M C W O E q s) : RuR g N K M C W (O + 1) (nvq g N (nxq g N q)) (if O < 24 then nmK (tkq g N) (nxq g N) (nvq g N) 271 0 1000 q else none) t := by
  have e : nmK (tkq g N) (nxq g N) (nvq g N) 271 0 1000 q = nuK (tkq g N) (nxq g N) (nvq g N) 0 1000 (nxq g N q) := by
    rw [nmK_nu]
    unfold psK
    rw [if_pos h0, Option.bind_some]
  have h256 : ¬ tkq g N q = 256 := by omega
  rw [e]
  obtain ⟨n, h⟩ := h
  unfold T_X12_rule_e at h
  obtain ⟨ty, _, h⟩ := h
  obtain ⟨a, a1, a2, a3, a4⟩ := id hR.2.2
  have ea : (s 0 13).toNat = a := by rw [a2]; rfl
  have o24 := (tyM_oth ty a).2
  rw [a3] at o24
  rw [ea, a3] at h
  rcases h with ⟨c1, s1, hb, _, _, _, e2⟩ | ⟨c1, s1, hl, hf, _, h⟩
  · rw [e2]
    refine Or.inl ⟨(blameF hb (tyM_flt ty).1).1, ?_⟩
    have no : ¬ O < 24 := by clear hb; omega
    rw [if_neg no]
    exact Bd.non rfl
  · have yes : O < 24 := by clear h hl hf; omega
    rw [if_pos yes]
    rcases lookX hN hg (hR.1.mw h256) hl hf with ⟨j1, j2⟩ | j1
    · refine Or.inl ⟨?_, Bd.non (bad_nu j2)⟩
      rcases h with ⟨_, ⟨c3, _⟩ | ⟨_, _, h⟩⟩ | ⟨c3, _⟩
      · exact absurd c3 j1
      · exact g88 h j1
      · exact absurd rfl c3
    · have R1 : RsM g N K M C W O E (nxq g N q) s1 := ⟨j1, hR.2.1.fr hf (by decide), hR.2.2.fr hf (by decide)⟩
      rcases h with ⟨_, ⟨_, r2, s2, hm, hf2, _, h⟩ | ⟨c3, _⟩⟩ | ⟨c3, _⟩
      · rcases numberM (lo := 0) (hi := 1000) hN hg hm j1 with ⟨k1, k2⟩ | ⟨k1, k2, k3⟩
        · refine Or.inl ⟨?_, k2⟩
          rcases h with ⟨c3, _⟩ | ⟨_, h⟩
          · exact absurd c3 k1
          · exact g88 h k1
        · have A2 := R1.2.2.fr hf2 (by decide)
          have B2 := R1.2.1.fr hf2 (by decide)
          rcases h with ⟨_, s3, e3, h⟩ | ⟨c3, _⟩
          · have e13 : s2 0 13 = (a : Int) := by
              obtain ⟨a', _, z2, _⟩ := id A2
              rw [hf2.f (by decide) (by decide), hf.f (by decide) (by decide)]
              exact a2
            have A3 : AxM M C W O (nvq g N (nxq g N q)) s3 := by
              rw [e3]
              exact A2.even e13 k3
            have R3 : RsM g N K M C W O (nvq g N (nxq g N q)) (nxq g N (nxq g N q)) s3 := by
              refine ⟨?_, ?_, A3⟩
              · rw [e3]
                exact k2.cell (by decide)
              · rw [e3]
                exact B2.cg (by rw [us_k (by decide)]) (us_k (by decide)) (us_k (by decide)) (us_k (by decide)) (us_k (by decide))
            exact Or.inr ⟨_, k1, h88e h R3⟩
          · exact absurd k2.2.2.1 c3
      · exact absurd j1.2.2.1 c3
      · exact absurd rfl c3
def MsE (s1 : PS) (r : Int) (t : PS) : Prop := (s1 0 8 = 0 ∧ ∃ s2, M_X12_must s1 59 0 s2 ∧ Fr intsM [0] [(0, 3), (0, 4), (0, 5), (0, 6), (0, 7), (0, 8), (0, 9)] s1 s2 ∧ TyM s2 ∧ r = 0 ∧ t = s2) ∨ (¬ s1 0 8 = 0 ∧ r = 0 ∧ t = s1)
/-- the sign at a statement's end -/
theorem endM (hN : N ≤ 1000) (hg : ∀ i, g i ≤ 255) (k : RuR g N K M C W O2 E2 S s1) (c : MsE s1 r t) : RuR g N K M C W O2 E2 (S.bind (psK (tkq g N) (nxq g N) 59)) t := by
  rcases k with ⟨k1, k2⟩ | ⟨q2, k1, k2⟩
  · rcases c with ⟨c, _⟩ | ⟨_, _, e⟩
    · exact absurd c k1
    · rw [e]
      refine Or.inl ⟨k1, k2.bind (fun z hz => ?_)⟩
      rw [bad_ps (by decide) hz]
      exact Bd.non rfl
  · rcases c with ⟨_, s2, hm, hf, _, _, e⟩ | ⟨c, _⟩
    · rw [e, k1, Option.bind_some]
      rcases mustM (c := 59) hN hg (by decide) hm k2.1 with ⟨j1, j2⟩ | ⟨q3, j1, j2⟩
      · exact Or.inl ⟨j1, j2⟩
      · exact Or.inr ⟨q3, j1, j2, k2.2.1.fr hf (by decide), k2.2.2.fr hf (by decide)⟩
    · exact absurd k2.1.2.2.1 c
/-- the reference's reader between two statements -/
def SM (g : Nat → Nat) (N : Nat) (b : BST) (q : Nat) (s : PS) : Prop := RsM g N b.1 b.2.1 b.2.2.1 b.2.2.2.1 b.2.2.2.2.1 b.2.2.2.2.2 q s ∧ b.2.2.1.length = b.1.length ∧ b.2.2.2.1.length = b.1.length
abbrev StS (g : Nat → Nat) (N : Nat) (b : BST) (q : Nat) := stS (tkq g N) (nxq g N) 1001 (nvq g N) (ltq g N) b q
def StR (g : Nat → Nat) (N : Nat) (b : BST) (q : Nat) (t : PS) : Prop := (¬ t 0 8 = 0 ∧ ∀ x, StS g N b q = some x → tkq g N x.2 = 257) ∨ (∃ x, StS g N b q = some x ∧ SM g N x.1 x.2 t)
theorem othM (hS : SM g N b q s) (h1 : ¬ tkq g N q = 261) (hE : E2 = if tkq g N q = 271 then nvq g N (nxq g N q) else b.2.2.2.2.2) (hc : tkq g N q = 266 ∨ tkq g N q = 268 ∨ tkq g N q = 270 ∨ tkq g N q = 271) (hs : S = if b.2.2.2.2.1 < 24 then (if tkq g N q = 271 then nmK (tkq g N) (nxq g N) (nvq g N) 271 0 1000 q else clP (tkq g N) (nxq g N) 1001 (ltq g N) b.1 b.2.1 q) else none) (k : RuR g N b.1 b.2.1 b.2.2.1 b.2.2.2.1 (b.2.2.2.2.1 + 1) E2 (S.bind (psK (tkq g N) (nxq g N) 59)) t) : StR g N b q t := by
  have e : StS g N b q = (S.bind (psK (tkq g N) (nxq g N) 59)).bind fun e => some ((b.1, b.2.1, b.2.2.1, b.2.2.2.1, b.2.2.2.2.1 + 1, E2), e) := by
    show stS _ _ _ _ _ _ _ = _
    unfold stS
    rw [if_neg h1, hs]
    by_cases c : b.2.2.2.2.1 < 24
    · rw [if_pos c, if_pos c, ← hE]
      by_cases c2 : tkq g N q = 271
      · rw [if_pos c2, if_pos c2]
      · rw [if_neg c2, if_neg c2, clS_P _ _ _ _ _ _ _ (by omega)]
    · rw [if_neg c, if_neg c]
      rfl
  rcases k with ⟨k1, k2⟩ | ⟨q2, k1, k2⟩
  · refine Or.inl ⟨k1, fun x hx => ?_⟩
    rw [e] at hx
    cases e2 : S.bind (psK (tkq g N) (nxq g N) 59) with
    | none =>
      rw [e2] at hx
      cases hx
    | some z =>
      rw [e2, Option.bind_some] at hx
      have e3 := Option.some.inj hx
      rw [← e3]
      exact k2 z e2
  · refine Or.inr ⟨((b.1, b.2.1, b.2.2.1, b.2.2.2.1, b.2.2.2.2.1 + 1, E2), q2), ?_, k2, hS.2.1, hS.2.2⟩
    rw [e, k1, Option.bind_some]
theorem kinM (hN : N ≤ 1000) (hg : ∀ i, g i ≤ 255) (hS : SM g N b q s) (h1 : tkq g N q = 261) (h : M_X12_kind s 0 s1) (c : MsE s1 r t) : StR g N b q t := by
  obtain ⟨hR, lC, lW⟩ := id hS
  have k := kindM hN hg h hR.1 hR.2.1 hR.2.2 lC lW (by omega)
  have e : StS g N b q = (KdP g N b.1 b.2.1 q).bind fun x => (psK (tkq g N) (nxq g N) 59 x.2).bind fun e => some ((b.1 ++ [ltq g N (nxq g N q)], x.1.1, b.2.2.1 ++ [x.1.2.1], b.2.2.2.1 ++ [x.1.2.2], b.2.2.2.2.1, b.2.2.2.2.2), e) := by
    show stS _ _ _ _ _ _ _ = _
    unfold stS
    rw [if_pos h1, kdS_P, Option.bind_assoc]
    congr 1
    funext x
    rw [Option.bind_assoc]
    rfl
  rcases k with ⟨k1, k2⟩ | ⟨x, k1, k2⟩
  · rcases c with ⟨c, _⟩ | ⟨_, _, et⟩
    · exact absurd c k1
    · rw [et]
      refine Or.inl ⟨k1, fun y hy => ?_⟩
      rw [e] at hy
      cases e2 : KdP g N b.1 b.2.1 q with
      | none =>
        rw [e2] at hy
        cases hy
      | some z =>
        rw [e2, Option.bind_some, bad_ps (by decide) (k2 z e2)] at hy
        cases hy
  · rw [k1, Option.bind_some] at e
    rcases c with ⟨_, s2, hm, hf, _, _, et⟩ | ⟨c, _⟩
    · rw [et]
      rcases mustM (c := 59) hN hg (by decide) hm k2.1 with ⟨j1, j2⟩ | ⟨q3, j1, j2⟩
      · refine Or.inl ⟨j1, fun y hy => ?_⟩
        rw [e] at hy
        cases e2 : psK (tkq g N) (nxq g N) 59 x.2 with
        | none =>
          rw [e2] at hy
          cases hy
        | some z =>
          rw [e2, Option.bind_some] at hy
          have e3 := Option.some.inj hy
          rw [← e3]
          exact j2 z e2
      · rw [j1, Option.bind_some] at e
        refine Or.inr ⟨_, e, ⟨j2, k2.2.1.fr hf (by decide), k2.2.2.fr hf (by decide)⟩, ?_, ?_⟩
        · show (b.2.2.1 ++ [x.1.2.1]).length = (b.1 ++ [ltq g N (nxq g N q)]).length
          rw [List.length_append, List.length_append, lC]
          rfl
        · show (b.2.2.2.1 ++ [x.1.2.2]).length = (b.1 ++ [ltq g N (nxq g N q)]).length
          rw [List.length_append, List.length_append, lW]
          rfl
    · exact absurd k2.1.2.2.1 c
theorem statementM (hN : N ≤ 1000) (hg : ∀ i, g i ≤ 255) (h : M_X12_statement s r t) (hS : SM g N b q s) : StR g N b q t := by
  have hM := hS.1.1
  unfold M_X12_statement T_X12_statement_e at h
  obtain ⟨ty, r2, s1, hm1, _, _, _, h⟩ := h
  obtain ⟨e1, k1⟩ := isWordM (i := 0) hg (by decide) (by decide) hm1 hM
  rw [e1] at h
  rcases h with ⟨c1, r3, s2, hm2, _, _, _, h⟩ | ⟨c1, s5, hk, _, _, h⟩
  · have n1 : ¬ tkq g N q = 261 := by
      rcases k1 with k | k
      · exact absurd (c1.symm.trans k.1) (by decide)
      · exact k.2
    obtain ⟨e2, k2⟩ := isWordM (i := 5) hg (by decide) (by decide) hm2 hM
    rw [e2] at h
    rcases h with ⟨c2, r4, s3, hm3, _, _, _, h⟩ | ⟨c2, s5, hk, _, _, h⟩
    · have n2 : ¬ tkq g N q = 266 := by
        rcases k2 with k | k
        · exact absurd (c2.symm.trans k.1) (by decide)
        · exact k.2
      obtain ⟨e3, k3⟩ := isWordM (i := 7) hg (by decide) (by decide) hm3 hM
      rw [e3] at h
      rcases h with ⟨c3, r5, s4, hm4, _, _, _, h⟩ | ⟨c3, s5, hk, _, _, h⟩
      · have n3 : ¬ tkq g N q = 268 := by
          rcases k3 with k | k
          · exact absurd (c3.symm.trans k.1) (by decide)
          · exact k.2
        obtain ⟨e4, k4⟩ := isWordM (i := 9) hg (by decide) (by decide) hm4 hM
        rw [e4] at h
        rcases h with ⟨c4, r6, s6, hm5, _, _, _, h⟩ | ⟨c4, s5, hk, _, _, h⟩
        · have n4 : ¬ tkq g N q = 270 := by
            rcases k4 with k | k
            · exact absurd (c4.symm.trans k.1) (by decide)
            · exact k.2
          obtain ⟨e5', k5⟩ := isWordM (i := 10) hg (by decide) (by decide) hm5 hM
          rw [e5'] at h
          rcases h with ⟨c5, s7, hb, _, _, _, _, et⟩ | ⟨c5, s5, hk, _, _, h⟩
          · have n5 : ¬ tkq g N q = 271 := by
              rcases k5 with k | k
              · exact absurd (c5.symm.trans k.1) (by decide)
              · exact k.2
            rw [et]
            refine Or.inl ⟨(blameF hb (tyM_flt ty).1).1, fun x hx => ?_⟩
            have en : StS g N b q = none := by
              show stS _ _ _ _ _ _ _ = _
              unfold stS
              rw [if_neg n1]
              by_cases c : b.2.2.2.2.1 < 24
              · rw [if_pos c, if_neg n5]
                unfold clS
                rw [if_neg (fun z => z.elim n2 (fun z => z.elim n3 n4))]
                rfl
              · rw [if_neg c]
            rw [en] at hx
            cases hx
          · have y5 : tkq g N q = 271 := by
              rcases k5 with k | k
              · exact k.2
              · exact absurd k.1 c5
            exact othM hS n1 (by rw [if_pos y5]) (Or.inr (Or.inr (Or.inr y5))) (by rw [if_pos y5]) (endM hN hg (ruleE hN hg y5 hk hS.1) h)
        · have y4 : tkq g N q = 270 := by
            rcases k4 with k | k
            · exact k.2
            · exact absurd k.1 c4
          have y5 : ¬ tkq g N q = 271 := by clear h; omega
          exact othM hS n1 (by rw [if_neg y5]) (Or.inr (Or.inr (Or.inl y4))) (by rw [if_neg y5]) (endM hN hg (ruleM hN hg (Or.inr (Or.inr ⟨rfl, y4⟩)) hk hS.1) h)
      · have y4 : tkq g N q = 268 := by
          rcases k3 with k | k
          · exact k.2
          · exact absurd k.1 c3
        have y5 : ¬ tkq g N q = 271 := by clear h; omega
        exact othM hS n1 (by rw [if_neg y5]) (Or.inr (Or.inl y4)) (by rw [if_neg y5]) (endM hN hg (ruleM hN hg (Or.inr (Or.inl ⟨rfl, y4⟩)) hk hS.1) h)
    · have y4 : tkq g N q = 266 := by
        rcases k2 with k | k
        · exact k.2
        · exact absurd k.1 c2
      have y5 : ¬ tkq g N q = 271 := by clear h; omega
      exact othM hS n1 (by rw [if_neg y5]) (Or.inl y4) (by rw [if_neg y5]) (endM hN hg (ruleM hN hg (Or.inl ⟨rfl, y4⟩) hk hS.1) h)
  · have y1 : tkq g N q = 261 := by
      rcases k1 with k | k
      · exact k.2
      · exact absurd k.1 c1
    exact kinM hN hg hS y1 hk h
end StatM
