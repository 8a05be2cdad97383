/-! the reference's reader: the whole text -/
section RulesM
variable {g : Nat → Nat} {N q : Nat} {s t u : PS} {r : Int} {b : BST}
theorem tyM_bank (h : TyM s) : 0 ≤ s 0 12 ∧ s 0 12 ≤ 1 := h.1 (0, 12, 0, 1) (by decide)
/-- a text that can't be read on -/
theorem al_bad {k : Nat} (h : tkq g N q = 257) : alF (tkq g N) (nxq g N) 1001 (nvq g N) (ltq g N) (k + 1) b q = none := by
  have un : alF (tkq g N) (nxq g N) 1001 (nvq g N) (ltq g N) (k + 1) b q = if tkq g N q = 256 then some b else (stS (tkq g N) (nxq g N) 1001 (nvq g N) (ltq g N) b q).bind fun r => alF (tkq g N) (nxq g N) 1001 (nvq g N) (ltq g N) k r.1 r.2 := rfl
  rw [un, if_neg (by omega)]
  have e : stS (tkq g N) (nxq g N) 1001 (nvq g N) (ltq g N) b q = none := by
    unfold stS
    rw [if_neg (by omega)]
    split
    · rw [if_neg (by omega)]
      unfold clS
      rw [if_neg (by omega)]
      rfl
    · rfl
  rw [e]
  rfl
theorem bad68 {n : Nat} {x : Int} (h : It_X12_rules n x s r t) (hf : ¬ s 0 8 = 0) : r = -1 := by
  cases n with
  | zero => exact False.elim h
  | succ n =>
    have h := ul_X12_rules_68 h
    unfold T_X12_rules_68 at h
    obtain ⟨_, ⟨c, _⟩ | ⟨_, _, _, _, _, _, e, _⟩⟩ := h
    · exact absurd c hf
    · exact e
theorem st_cnt {T Nx : Nat → Nat} {F : Nat} {V : Nat → Nat} {L : Nat → List Nat} {x : BST × Nat} (e : stS T Nx F V L b q = some x) : x.1.1.length + x.1.2.2.2.2.1 = b.1.length + b.2.2.2.2.1 + 1 := by
  unfold stS at e
  split at e
  · cases e2 : kdS T Nx F V L b.1 b.2.1 q with
    | none =>
      rw [e2] at e
      cases e
    | some z =>
      rw [e2, Option.bind_some] at e
      have e3 := Option.some.inj e
      rw [← e3]
      show (b.1 ++ [L (Nx q)]).length + b.2.2.2.2.1 = _
      rw [List.length_append]
      show b.1.length + 1 + b.2.2.2.2.1 = _
      omega
  · split at e
    · cases e2 : (if T q = 271 then (nmK T Nx V 271 0 1000 q).bind (psK T Nx 59) else clS T Nx F L b.1 b.2.1 q) with
      | none =>
        rw [e2] at e
        cases e
      | some z =>
        rw [e2, Option.bind_some] at e
        have e3 := Option.some.inj e
        rw [← e3]
        show b.1.length + (b.2.2.2.2.1 + 1) = _
        omega
    · cases e
theorem sm_cnt (h : SM g N b q s) (ty : TyM s) : b.1.length ≤ 10 ∧ b.2.2.2.2.1 ≤ 24 := by
  obtain ⟨⟨_, hB, hA⟩, _, _⟩ := h
  obtain ⟨a, _, _, h3, _⟩ := hB
  obtain ⟨a', _, _, h4, _⟩ := hA
  have k1 := ty.2 (2, 0, 10) (by decide) a
  have k2 := tyM_oth ty a'
  rw [h4] at k2
  have k3 : 0 ≤ s 2 a ∧ s 2 a ≤ 10 := k1
  rw [h3] at k3
  omega
theorem ruL (hN : N ≤ 1000) (hg : ∀ i, g i ≤ 255) : ∀ (n k q : Nat) (b : BST) (s : PS) (r : Int) (t : PS), It_X12_rules n (((b.1.length + b.2.2.2.2.1 : Nat) : Int)) s r t → SM g N b q s → N < q + k → (r = -1 ∧ alF (tkq g N) (nxq g N) 1001 (nvq g N) (ltq g N) k b q = none) ∨ ∃ b2, alF (tkq g N) (nxq g N) 1001 (nvq g N) (ltq g N) k b q = some b2 ∧ r = ((b2.1.length + b2.2.2.2.2.1 : Nat) : Int)
  | 0, k, q, b, s, r, t, h, _, _ => False.elim h
  | n + 1, k, q, b, s, r, t, h, hS, hk => by
    have h := ul_X12_rules_68 h
    unfold T_X12_rules_68 at h
    obtain ⟨ty, h⟩ := h
    have hM := hS.1.1
    have hq : q ≤ N := hM.2.1
    obtain ⟨k, rfl⟩ : ∃ k2, k = k2 + 1 := ⟨k - 1, by clear h; omega⟩
    have un : alF (tkq g N) (nxq g N) 1001 (nvq g N) (ltq g N) (k + 1) b q = if tkq g N q = 256 then some b else (stS (tkq g N) (nxq g N) 1001 (nvq g N) (ltq g N) b q).bind fun r => alF (tkq g N) (nxq g N) 1001 (nvq g N) (ltq g N) k r.1 r.2 := rfl
    have cn := sm_cnt hS ty
    have sg := hM.sg.2.2.2
    rcases h with ⟨_, ⟨c1, h⟩ | ⟨c1, s1, hm, hf, _, h⟩⟩ | ⟨c, _⟩
    · have e : tkq g N q = 256 := by
        rcases sg with z | z | z | z
        · exact z.1
        · exact absurd (c1.symm.trans z.2.2.1) (by decide)
        · exact absurd (c1.symm.trans z.2.1) (by decide)
        · exact absurd (c1.symm.trans z.2.1) (by decide)
      rw [un, if_pos e]
      obtain ⟨_, _, _, _, _, _, _, _, _, _, _, _, _, _, _, er, _⟩ := h
      exact Or.inr ⟨b, rfl, er⟩
    · have e : ¬ tkq g N q = 256 := by
        rcases sg with z | z | z | z
        · exact absurd z.2 c1
        · exact fun y => absurd (y ▸ z.1) (by decide)
        · exact fun y => absurd (y.symm.trans z.1) (by decide)
        · exact fun y => absurd (y ▸ z.1) (by decide)
      have k1 := statementM hN hg hm hS
      have ew : wi ((((b.1.length + b.2.2.2.2.1 : Nat) : Int)) + 1) = ((b.1.length + b.2.2.2.2.1 + 1 : Nat) : Int) := by
        rw [wi_id (by omega) (by omega)]
        rfl
      rw [ew] at h
      rw [un, if_neg e]
      rcases k1 with ⟨k1, k2⟩ | ⟨x, k1, k2⟩
      · refine Or.inl ⟨bad68 h k1, ?_⟩
        cases e2 : stS (tkq g N) (nxq g N) 1001 (nvq g N) (ltq g N) b q with
        | none => rfl
        | some x =>
          rw [Option.bind_some]
          have pg := stS_pg (ngr hg) hq e e2
          obtain ⟨k, rfl⟩ : ∃ k2, k = k2 + 1 := ⟨k - 1, by clear h; omega⟩
          exact al_bad (k2 x e2)
      · have pg := stS_pg (ngr hg) hq e k1
        have ct := st_cnt k1
        have k3 : stS (tkq g N) (nxq g N) 1001 (nvq g N) (ltq g N) b q = some x := k1
        rw [k3, Option.bind_some]
        rw [← ct] at h
        exact ruL hN hg n k x.2 x.1 s1 r t h k2 (by clear h; omega)
    · exact absurd hM.2.2.1 c
/-- rules of the reference: its answer -/
theorem rulesM (hN : N ≤ 1000) (hg : ∀ i, g i ≤ 255) (h : M_X12_rules s r t) (hb : ∀ i, s 1 i = (g i : Int)) (hl : s 0 1 = (N : Int)) : r = rlA g N := by
  obtain ⟨n, h⟩ := h
  unfold T_X12_rules_e at h
  obtain ⟨ty, s0, f0, s1, f1, s2, f2, s3, f3, s4, f4, s5, f5, s6, hm, hf, _, h⟩ := h
  have bk := tyM_bank ty
  obtain ⟨a, ha, ea⟩ : ∃ a : Nat, a ≤ 1 ∧ 1 - s 0 12 = (a : Int) := ⟨(1 - s 0 12).toNat, by clear h hm hf f0 f1 f2 f3 f4 f5; omega, by clear h hm hf f0 f1 f2 f3 f4 f5; omega⟩
  rw [ea] at f0 f1 f2 f3 f4 f5
  have et : ((a : Nat) : Int).toNat = a := rfl
  rw [et] at f1 f2 f3 f4 f5
  have es : s5 = us (us (us (us (us (us s 0 13 a) 2 a 0) 3 a 0) 4 a 0) 5 a 1000) 14 a 0 := by rw [f5, f4, f3, f2, f1, f0]
  unfold M_X12_starts T_X12_starts_e at hm
  obtain ⟨_, v1, w1, v2, w2, v3, w3, v4, w4, v5, w5, v6, hm6, hf6, _, _, e6⟩ := hm
  have ev : v5 = us (us (us (us (us s5 0 2 (s5 0 1)) 0 1 0) 0 5 0) 0 8 0) 0 9 (-1) := by rw [w5, w4, w3, w2, w1]
  have q1 : v5 1 = s 1 := by
    rw [ev, es]
    simp only [us_k (show ¬ 1 = 0 by decide), us_k (show ¬ 1 = 2 by decide), us_k (show ¬ 1 = 3 by decide), us_k (show ¬ 1 = 4 by decide), us_k (show ¬ 1 = 5 by decide), us_k (show ¬ 1 = 14 by decide)]
  have q01 : s5 0 1 = s 0 1 := by
    rw [es, us_k (by decide), us_k (by decide), us_k (by decide), us_k (by decide), us_k (by decide), us_j (by decide)]
  have q02 : v5 0 2 = (N : Int) := by
    rw [ev, us_j (by decide), us_j (by decide), us_j (by decide), us_j (by decide), us_at, q01, hl]
  have q05 : v5 0 5 = 0 := by
    rw [ev, us_j (by decide), us_j (by decide), us_at]
  have q08 : v5 0 8 = 0 := by
    rw [ev, us_j (by decide), us_at]
  have q013 : v5 0 13 = (a : Int) := by
    rw [ev, us_j (by decide), us_j (by decide), us_j (by decide), us_j (by decide), us_j (by decide), es, us_k (by decide), us_k (by decide), us_k (by decide), us_k (by decide), us_k (by decide), us_at]
  have kk : ∀ k : Nat, ¬ k = 0 → v5 k = s5 k := by
    intro k hk
    rw [ev, us_k hk, us_k hk, us_k hk, us_k hk, us_k hk]
  have T5 : TpM g N v5 := ⟨fun i => by rw [q1]; exact hb i, q02⟩
  have k := looksM (q := 0) hN hg hm6 T5 q05 (Nat.zero_le _) q08
  rw [e6] at h hf
  have x2 : v6 2 a = 0 := by
    rw [hf6.1 2 (by decide), kk 2 (by decide), es, us_k (by decide), us_k (by decide), us_k (by decide), us_k (by decide), us_at]
  have x3 : v6 3 a = 0 := by
    rw [hf6.1 3 (by decide), kk 3 (by decide), es, us_k (by decide), us_k (by decide), us_k (by decide), us_at]
  have x4 : v6 4 a = 0 := by
    rw [hf6.1 4 (by decide), kk 4 (by decide), es, us_k (by decide), us_k (by decide), us_at]
  have x5 : v6 5 a = 1000 := by
    rw [hf6.1 5 (by decide), kk 5 (by decide), es, us_k (by decide), us_at]
  have x13 : v6 0 13 = (a : Int) := by rw [hf6.f (by decide) (by decide), q013]
  rcases k with ⟨k1, k2⟩ | ⟨k1, k2⟩
  · rw [bad68 h k2]
    unfold rlA rdT
    rw [al_bad k1]
  · have hS : SM g N ([], [], [], [], 0, 1000) 0 v6 := by
      refine ⟨⟨⟨T5.cg (hf6.1 1 (by decide)) (hf6.f (by decide) (by decide)), Nat.zero_le _, k1, k2⟩, ⟨a, ha, x13, by rw [x2]; rfl, by rw [x3]; rfl, fun i hi => absurd hi (Nat.not_lt_zero _), fun i hi => absurd hi (Nat.not_lt_zero _), fun l hl => absurd hl List.not_mem_nil, fun l hl => absurd hl List.not_mem_nil⟩, ⟨a, ha, x13, by rw [x4]; rfl, by rw [x5]; rfl, List.nodup_nil, fun c hc => absurd hc List.not_mem_nil, fun i c hc => ?_, fun i x hx => ?_⟩⟩, rfl, rfl⟩
      · cases hc
      · cases hx
    have k := ruL hN hg n 1001 0 ([], [], [], [], 0, 1000) v6 r t h hS (by clear h; omega)
    unfold rlA rdT
    rcases k with ⟨k1, k2⟩ | ⟨b2, k1, k2⟩
    · rw [k2]
      exact k1
    · rw [k1, k2]
      show ((b2.1.length + b2.2.2.2.2.1 : Nat) : Int) = (b2.1.length : Int) + b2.2.2.2.2.1
      omega
end RulesM
