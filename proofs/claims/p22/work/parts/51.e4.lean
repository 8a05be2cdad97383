/-! the reference's statements, the whole text, with codes -/
def CdMa (a : Nat) (C : List OPc) (s : PS) : Prop := s 14 a = (C.length : Int) ∧ ∀ (i : Nat) (h : i < C.length), OpM a s i C[i]
/-- what a text tells, with its other statements -/
def rdO (g : Nat → Nat) (n : Nat) : Option (BST × List OT) := alO (tkq g n) (nxq g n) 1001 (nvq g n) (ltq g n) 1001 ([], [], [], [], 0, 1000) [] 0
theorem rdO_fst (g : Nat → Nat) (n : Nat) : (rdO g n).map Prod.fst = rdT g n := alO_fst 1001 _ _ 0
section StatC
variable {g : Nat → Nat} {N q a : Nat} {s s1 t u : PS} {r : Int} {C : List OPc} {OL : List OT} {b : BST} {ms : List Nat} {fm : List (Nat × Nat)}
theorem CdM.bk (h : CdM C s) (e : s 0 13 = (a : Int)) : CdMa a C s := by
  obtain ⟨a2, h1, h2, h3⟩ := h
  have z : a2 = a := by omega
  rw [← z]
  exact h3
theorem OtM.bk (h : OtM OL C s) (e : s 0 13 = (a : Int)) : OtMa a OL C s := by
  obtain ⟨a2, h1, h2, h3⟩ := h
  have z : a2 = a := by omega
  rw [← z]
  exact h3
theorem OtM.fr (h : OtM OL C s) (hf : Fr intsM ms fm s t) (c : 12 ∉ ms ∧ (0 ∉ ms ∨ (0 ∈ fm.map Prod.fst ∧ (0, 13) ∉ fm))) : OtM OL C t := by
  obtain ⟨a, h1, h2, h3⟩ := h
  exact ⟨a, h1, (hf.f (by decide) c.2).trans h2, h3.cg (hf.1 12 c.1)⟩
/-- behind a statement's last sign -/
theorem mseC (c : MsE s1 r t) (hz : t 0 8 = 0) (k : s1 0 8 = 0 → CdM C s1 ∧ OtM OL C s1) : CdM C t ∧ OtM OL C t := by
  rcases c with ⟨c, s2, hm, hf, _, _, e⟩ | ⟨c, _, e⟩
  · have z := k c
    rw [e]
    exact ⟨z.1.fr hf (by decide), z.2.fr hf (by decide)⟩
  · rw [e] at hz
    exact absurd hz c
theorem statementC (hN : N ≤ 1000) (hg : ∀ i, g i ≤ 255) (h : M_X12_statement s r t) (hz : t 0 8 = 0) (hS : SM g N b q s) (hC : CdM C s) (hX : OtM OL C s) (hO : OL.length = b.2.2.2.2.1) : ∃ C2, CdM C2 t ∧ OtM (if tkq g N q = 261 then OL else OL ++ [OO g N b.1 b.2.1 q]) C2 t := by
  have hM := hS.1.1
  unfold M_X12_statement T_X12_statement_e at h
  obtain ⟨ty, r2, s1, hm1, _, _, _, h⟩ := h
  obtain ⟨e1, k1⟩ := isWordM (i := 0) hg (by decide) (by decide) hm1 hM
  rw [e1] at h
  rcases h with ⟨c1, r3, s2, hm2, _, _, _, h⟩ | ⟨c1, s5, hk, hf, _, h⟩
  · have n1 : ¬ tkq g N q = 261 := by
      rcases k1 with k | k
      · exact absurd (c1.symm.trans k.1) (by decide)
      · exact k.2
    rw [if_neg n1]
    obtain ⟨e2, k2⟩ := isWordM (i := 5) hg (by decide) (by decide) hm2 hM
    rw [e2] at h
    have go : ∀ (p : Int) (s5 : PS), ((p = 0 ∧ tkq g N q = 266) ∨ (p = 1 ∧ tkq g N q = 268) ∨ (p = 2 ∧ tkq g N q = 270)) → M_X12_rule s p 0 s5 → MsE s5 r t → ∃ C2, CdM C2 t ∧ OtM (OL ++ [OO g N b.1 b.2.1 q]) C2 t := by
      intro p s5 hp hk h
      exact ⟨_, mseC h hz (fun z => ruleC hN hg hp hk z hS.1 hC hX hO)⟩
    rcases h with ⟨c2, r4, s3, hm3, _, _, _, h⟩ | ⟨c2, s5, hk, _, _, h⟩
    · obtain ⟨e3, k3⟩ := isWordM (i := 7) hg (by decide) (by decide) hm3 hM
      rw [e3] at h
      rcases h with ⟨c3, r5, s4, hm4, _, _, _, h⟩ | ⟨c3, s5, hk, _, _, h⟩
      · obtain ⟨e4, k4⟩ := isWordM (i := 9) hg (by decide) (by decide) hm4 hM
        rw [e4] at h
        rcases h with ⟨c4, r6, s6, hm5, _, _, _, h⟩ | ⟨c4, s5, hk, _, _, h⟩
        · obtain ⟨e5', k5⟩ := isWordM (i := 10) hg (by decide) (by decide) hm5 hM
          rw [e5'] at h
          rcases h with ⟨c5, s7, hb, _, _, _, _, et⟩ | ⟨c5, s5, hk, _, _, h⟩
          · rw [et] at hz
            exact absurd hz (blameF hb (tyM_flt ty).1).1
          · have y5 : tkq g N q = 271 := by
              rcases k5 with k | k
              · exact k.2
              · exact absurd k.1 c5
            exact ⟨C, mseC h hz (fun z => evenMC hN hg y5 hk z hS.1 hC hX hO)⟩
        · have y4 : tkq g N q = 270 := by
            rcases k4 with k | k
            · exact k.2
            · exact absurd k.1 c4
          exact go 2 s5 (Or.inr (Or.inr ⟨rfl, y4⟩)) hk h
      · have y4 : tkq g N q = 268 := by
          rcases k3 with k | k
          · exact k.2
          · exact absurd k.1 c3
        exact go 1 s5 (Or.inr (Or.inl ⟨rfl, y4⟩)) hk h
    · have y4 : tkq g N q = 266 := by
        rcases k2 with k | k
        · exact k.2
        · exact absurd k.1 c2
      exact go 0 s5 (Or.inl ⟨rfl, y4⟩) hk h
  · have y1 : tkq g N q = 261 := by
      rcases k1 with k | k
      · exact k.2
      · exact absurd k.1 c1
    rw [if_pos y1]
    exact ⟨C, mseC h hz (fun _ => ⟨hC.fr hf (by decide), hX.fr hf (by decide)⟩)⟩
theorem ruLC (hN : N ≤ 1000) (hg : ∀ i, g i ≤ 255) : ∀ (n k q : Nat) (b : BST) (OL : List OT) (C : List OPc) (s : PS) (r : Int) (t : PS), It_X12_rules n (((b.1.length + b.2.2.2.2.1 : Nat) : Int)) s r t → SM g N b q s → N < q + k → CdM C s → OtM OL C s → OL.length = b.2.2.2.2.1 → r = -1 ∨ ∃ b2 OL2 C2, alO (tkq g N) (nxq g N) 1001 (nvq g N) (ltq g N) k b OL q = some (b2, OL2) ∧ ∃ a : Nat, a ≤ 1 ∧ t 0 12 = (a : Int) ∧ CdMa a C2 t ∧ OtMa a OL2 C2 t
  | 0, k, q, b, OL, C, s, r, t, h, _, _, _, _, _ => False.elim h
  | n + 1, k, q, b, OL, C, s, r, t, h, hS, hk, hC, hX, hO => by
    replace h := ul_X12_rules_68 h
    unfold T_X12_rules_68 at h
    obtain ⟨ty, h⟩ := h
    have hM := hS.1.1
    have hq : q ≤ N := hM.2.1
    obtain ⟨k, rfl⟩ : ∃ k2, k = k2 + 1 := ⟨k - 1, by clear h; omega⟩
    have un : alO (tkq g N) (nxq g N) 1001 (nvq g N) (ltq g N) (k + 1) b OL q = if tkq g N q = 256 then some (b, OL) else (stS (tkq g N) (nxq g N) 1001 (nvq g N) (ltq g N) b q).bind fun r => alO (tkq g N) (nxq g N) 1001 (nvq g N) (ltq g N) k r.1 (if tkq g N q = 261 then OL else OL ++ [OO g N b.1 b.2.1 q]) r.2 := rfl
    have cn := sm_cnt hS ty
    have sg := hM.sg.2.2.2
    rcases h with ⟨_, ⟨c1, h⟩ | ⟨c1, s1, hm, hf, _, h⟩⟩ | ⟨c, _⟩
    · have e : tkq g N q = 256 := by
        rcases sg with z | z | z | z
        · exact z.1
        · exact absurd (c1.symm.trans z.2.2.1) (by decide)
        · exact absurd (c1.symm.trans z.2.1) (by decide)
        · exact absurd (c1.symm.trans z.2.1) (by decide)
      rw [un, if_pos e]
      obtain ⟨s6, e6, s7, e7, _, s9, e9, s10, e10, s11, e11, s12, e12, s13, e13, er, es⟩ := h
      obtain ⟨a, x1, x2, x3⟩ := hX
      have kk : ∀ k, ¬ k = 0 → t k = s k := by
        intro k hk
        rw [es, e13, us_k hk, e12, us_k hk, e11, us_k hk, e10, us_k hk, e9, us_k hk, e7, us_k hk, e6, us_k hk]
      have cm := hC.bk x2
      refine Or.inr ⟨b, OL, C, rfl, a, x1, ?_, ⟨by rw [kk 14 (by decide)]; exact cm.1, fun i hi => ?_⟩, x3.cg (kk 12 (by decide))⟩
      · rw [es, e13, us_j (by decide), e12, us_j (by decide), e11, us_j (by decide), e10, us_j (by decide), e9, us_at]
        exact x2
      · have z := cm.2 i hi
        unfold OpM at z ⊢
        rw [kk 13 (by decide), kk 15 (by decide)]
        exact z
    · have e : ¬ tkq g N q = 256 := by
        rcases sg with z | z | z | z
        · exact absurd z.2 c1
        · exact fun y => absurd (y ▸ z.1) (by decide)
        · exact fun y => absurd (y.symm.trans z.1) (by decide)
        · exact fun y => absurd (y ▸ z.1) (by decide)
      by_cases hz : s1 0 8 = 0
      · have k1 := statementM hN hg hm hS
        obtain ⟨C2, y1, y2⟩ := statementC hN hg hm hz hS hC hX hO
        have ew : wi ((((b.1.length + b.2.2.2.2.1 : Nat) : Int)) + 1) = ((b.1.length + b.2.2.2.2.1 + 1 : Nat) : Int) := by
          rw [wi_id (by omega) (by omega)]
          rfl
        rw [ew] at h
        rw [un, if_neg e]
        rcases k1 with ⟨k1, _⟩ | ⟨x, k1, k2⟩
        · exact absurd hz k1
        · have pg := stS_pg (ngr hg) hq e k1
          have ct := st_cnt k1
          have k3 : stS (tkq g N) (nxq g N) 1001 (nvq g N) (ltq g N) b q = some x := k1
          rw [k3, Option.bind_some]
          rw [← ct] at h
          refine ruLC hN hg n k x.2 x.1 _ C2 s1 r t h k2 (by clear h; omega) y1 y2 ?_
          unfold stS at k3
          by_cases c : tkq g N q = 261
          · rw [if_pos c] at k3 ⊢
            cases e3 : kdS (tkq g N) (nxq g N) 1001 (nvq g N) (ltq g N) b.1 b.2.1 q with
            | none =>
              rw [e3] at k3
              cases k3
            | some y =>
              rw [e3, Option.bind_some] at k3
              rw [← Option.some.inj k3]
              exact hO
          · rw [if_neg c] at k3 ⊢
            split at k3
            · cases e3 : (if tkq g N q = 271 then (nmK (tkq g N) (nxq g N) (nvq g N) 271 0 1000 q).bind (psK (tkq g N) (nxq g N) 59) else clS (tkq g N) (nxq g N) 1001 (ltq g N) b.1 b.2.1 q) with
              | none =>
                rw [e3] at k3
                cases k3
              | some y =>
                rw [e3, Option.bind_some] at k3
                rw [← Option.some.inj k3]
                show (OL ++ [OO g N b.1 b.2.1 q]).length = b.2.2.2.2.1 + 1
                rw [List.length_append, hO]
                rfl
            · cases k3
      · exact Or.inl (bad68B h hz).1
    · exact absurd hM.2.2.1 c
/-- rules of the reference: its codes -/
theorem rulesMC (hN : N ≤ 1000) (hg : ∀ i, g i ≤ 255) (h : M_X12_rules s r t) (hb : ∀ i, s 1 i = (g i : Int)) (hl : s 0 1 = (N : Int)) : r = -1 ∨ ∃ b OL C, rdO g N = some (b, OL) ∧ ∃ a : Nat, a ≤ 1 ∧ t 0 12 = (a : Int) ∧ CdMa a C t ∧ OtMa a OL C t := by
  obtain ⟨n, h⟩ := h
  unfold T_X12_rules_e at h
  obtain ⟨ty, s0, f0, s1, f1, s2, f2, s3, f3, s4, f4, s5, f5, s6, hm, hf, _, h⟩ := h
  have bk := tyM_bank ty
  obtain ⟨a, ha, ea⟩ : ∃ a : Nat, a ≤ 1 ∧ 1 - s 0 12 = (a : Int) := ⟨(1 - s 0 12).toNat, by clear h hm hf f0 f1 f2 f3 f4 f5; omega, by clear h hm hf f0 f1 f2 f3 f4 f5; omega⟩
  rw [ea] at f0 f1 f2 f3 f4 f5
  have et : ((a : Nat) : Int).toNat = a := rfl
  rw [et] at f1 f2 f3 f4 f5
  have es : s5 = us (us (us (us (us (us s 0 13 a) 2 a 0) 3 a 0) 4 a 0) 5 a 1000) 14 a 0 := by rw [f5, f4, f3, f2, f1, f0]
  unfold M_X12_starts T_X12_starts_e at hm
  obtain ⟨_, v1, w1, v2, w2, v3, w3, v4, w4, v5, w5, v6, hm6, hf6, _, _, e6⟩ := hm
  have ev : v5 = us (us (us (us (us s5 0 2 (s5 0 1)) 0 1 0) 0 5 0) 0 8 0) 0 9 (-1) := by rw [w5, w4, w3, w2, w1]
  have q1 : v5 1 = s 1 := by
    rw [ev, es]
    simp only [us_k (show ¬ 1 = 0 by decide), us_k (show ¬ 1 = 2 by decide), us_k (show ¬ 1 = 3 by decide), us_k (show ¬ 1 = 4 by decide), us_k (show ¬ 1 = 5 by decide), us_k (show ¬ 1 = 14 by decide)]
  have q01 : s5 0 1 = s 0 1 := by
    rw [es, us_k (by decide), us_k (by decide), us_k (by decide), us_k (by decide), us_k (by decide), us_j (by decide)]
  have q02 : v5 0 2 = (N : Int) := by
    rw [ev, us_j (by decide), us_j (by decide), us_j (by decide), us_j (by decide), us_at, q01, hl]
  have q05 : v5 0 5 = 0 := by
    rw [ev, us_j (by decide), us_j (by decide), us_at]
  have q08 : v5 0 8 = 0 := by
    rw [ev, us_j (by decide), us_at]
  have q013 : v5 0 13 = (a : Int) := by
    rw [ev, us_j (by decide), us_j (by decide), us_j (by decide), us_j (by decide), us_j (by decide), es, us_k (by decide), us_k (by decide), us_k (by decide), us_k (by decide), us_k (by decide), us_at]
  have kk : ∀ k : Nat, ¬ k = 0 → v5 k = s5 k := by
    intro k hk
    rw [ev, us_k hk, us_k hk, us_k hk, us_k hk, us_k hk]
  have T5 : TpM g N v5 := ⟨fun i => by rw [q1]; exact hb i, q02⟩
  have k := looksM (q := 0) hN hg hm6 T5 q05 (Nat.zero_le _) q08
  rw [e6] at h hf
  have x2 : v6 2 a = 0 := by
    rw [hf6.1 2 (by decide), kk 2 (by decide), es, us_k (by decide), us_k (by decide), us_k (by decide), us_k (by decide), us_at]
  have x3 : v6 3 a = 0 := by
    rw [hf6.1 3 (by decide), kk 3 (by decide), es, us_k (by decide), us_k (by decide), us_k (by decide), us_at]
  have x4 : v6 4 a = 0 := by
    rw [hf6.1 4 (by decide), kk 4 (by decide), es, us_k (by decide), us_k (by decide), us_at]
  have x5 : v6 5 a = 1000 := by
    rw [hf6.1 5 (by decide), kk 5 (by decide), es, us_k (by decide), us_at]
  have x14 : v6 14 a = 0 := by
    rw [hf6.1 14 (by decide), kk 14 (by decide), es, us_at]
  have x13 : v6 0 13 = (a : Int) := by rw [hf6.f (by decide) (by decide), q013]
  rcases k with ⟨k1, k2⟩ | ⟨k1, k2⟩
  · exact Or.inl (bad68B h k2).1
  · have hS : SM g N ([], [], [], [], 0, 1000) 0 v6 := by
      refine ⟨⟨⟨T5.cg (hf6.1 1 (by decide)) (hf6.f (by decide) (by decide)), Nat.zero_le _, k1, k2⟩, ⟨a, ha, x13, by rw [x2]; rfl, by rw [x3]; rfl, fun i hi => absurd hi (Nat.not_lt_zero _), fun i hi => absurd hi (Nat.not_lt_zero _), fun l hl => absurd hl List.not_mem_nil, fun l hl => absurd hl List.not_mem_nil⟩, ⟨a, ha, x13, by rw [x4]; rfl, by rw [x5]; rfl, List.nodup_nil, fun c hc => absurd hc List.not_mem_nil, fun i c hc => ?_, fun i x hx => ?_⟩⟩, rfl, rfl⟩
      · cases hc
      · cases hx
    have hC : CdM [] v6 := ⟨a, ha, x13, x14, fun i hi => absurd hi (Nat.not_lt_zero _)⟩
    have hX : OtM [] [] v6 := ⟨a, ha, x13, fun i o ho => by cases ho⟩
    have k := ruLC hN hg n 1001 0 ([], [], [], [], 0, 1000) [] [] v6 r t h hS (by clear h; omega) hC hX rfl
    rcases k with k | ⟨b, OL, C, k1, k2⟩
    · exact Or.inl k
    · exact Or.inr ⟨b, OL, C, k1, k2⟩
end StatC
