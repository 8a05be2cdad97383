/-! the books of both, between two calls -/
def sgw (k : Nat) : Nat := match (Nat.ble 1 k && Nat.ble k 15) with
  | true => k + 15
  | false => match (Nat.ble 16 k && Nat.ble k 30) with
    | true => k - 15
    | false => k
/-- the class's state, its two books in each other's place -/
def sw (s : PS) : PS := fun k => s (sgw k)
theorem sgw_2 (k : Nat) : sgw (sgw k) = k := by
  by_cases h1 : 1 ≤ k ∧ k ≤ 15
  · have a : (Nat.ble 1 k && Nat.ble k 15) = true := by rw [Nat.ble_eq_true_of_le h1.1, Nat.ble_eq_true_of_le h1.2]; rfl
    have e : sgw k = k + 15 := by unfold sgw; rw [a]
    rw [e]
    have b : (Nat.ble 1 (k + 15) && Nat.ble (k + 15) 15) = false := by
      have : ¬ (k + 15 ≤ 15) := by omega
      rw [show Nat.ble (k + 15) 15 = false from by cases q : Nat.ble (k + 15) 15 with | true => exact absurd (Nat.le_of_ble_eq_true q) this | false => rfl, Bool.and_false]
    have c : (Nat.ble 16 (k + 15) && Nat.ble (k + 15) 30) = true := by rw [Nat.ble_eq_true_of_le (by omega), Nat.ble_eq_true_of_le (by omega)]; rfl
    unfold sgw
    rw [b, c]
    show k + 15 - 15 = k
    omega
  · by_cases h2 : 16 ≤ k ∧ k ≤ 30
    · have a : (Nat.ble 1 k && Nat.ble k 15) = false := by
        have : ¬ (k ≤ 15) := by omega
        rw [show Nat.ble k 15 = false from by cases q : Nat.ble k 15 with | true => exact absurd (Nat.le_of_ble_eq_true q) this | false => rfl, Bool.and_false]
      have c : (Nat.ble 16 k && Nat.ble k 30) = true := by rw [Nat.ble_eq_true_of_le (by omega), Nat.ble_eq_true_of_le (by omega)]; rfl
      have e : sgw k = k - 15 := by unfold sgw; rw [a, c]
      rw [e]
      have b : (Nat.ble 1 (k - 15) && Nat.ble (k - 15) 15) = true := by rw [Nat.ble_eq_true_of_le (by omega), Nat.ble_eq_true_of_le (by omega)]; rfl
      unfold sgw
      rw [b]
      show k - 15 + 15 = k
      omega
    · have e : sgw k = k := by
        have a : (Nat.ble 1 k && Nat.ble k 15) = false := by
          cases q : (Nat.ble 1 k && Nat.ble k 15) with
          | false => rfl
          | true =>
            rw [Bool.and_eq_true] at q
            exact absurd ⟨Nat.le_of_ble_eq_true q.1, Nat.le_of_ble_eq_true q.2⟩ h1
        have b : (Nat.ble 16 k && Nat.ble k 30) = false := by
          cases q : (Nat.ble 16 k && Nat.ble k 30) with
          | false => rfl
          | true =>
            rw [Bool.and_eq_true] at q
            exact absurd ⟨Nat.le_of_ble_eq_true q.1, Nat.le_of_ble_eq_true q.2⟩ h2
        unfold sgw
        rw [a, b]
      rw [e, e]
theorem sw_2 (s : PS) : sw (sw s) = s := by
  funext k
  unfold sw
  rw [sgw_2]
def BX (b : BST) (s : PS) : Prop := BrX b (sw s)
def BMa (b : BST) (a : Nat) (s : PS) : Prop := s 2 a = (b.1.length : Int) ∧ s 3 a = (b.2.1.length : Int) ∧ (∀ i : Nat, (h : i < b.1.length) → s 6 (10 * a + i) = ((c8 b.1[i] : Nat) : Int)) ∧ (∀ i : Nat, (h : i < b.2.1.length) → s 7 (8 * a + i) = ((c8 b.2.1[i] : Nat) : Int)) ∧ s 4 a = (b.2.2.2.2.1 : Int) ∧ s 5 a = (b.2.2.2.2.2 : Int) ∧ (∀ (i : Nat) (c : List (List Nat)), b.2.2.1[i]? = some c → BiM b.2.1 c (s 11 (10 * a + i))) ∧ (∀ (i : Nat) (x : Nat × Nat × Nat), b.2.2.2.1[i]? = some x → s 8 (10 * a + i) = (x.1 : Int) ∧ s 9 (10 * a + i) = (x.2.1 : Int) ∧ s 10 (10 * a + i) = (x.2.2 : Int)) ∧ b.2.2.1.length = b.1.length ∧ b.2.2.2.1.length = b.1.length
def BM (b : BST) (s : PS) : Prop := ∃ a : Nat, a ≤ 1 ∧ s 0 12 = (a : Int) ∧ BMa b a s
/-- one and the same book -/
def BK (s u : PS) : Prop := ∃ b : BST, BX b s ∧ BM b u
section Books
variable {g : Nat → Nat} {N q : Nat} {s t u v : PS} {r r2 : Int} {b : BST} {a : Nat}
theorem BrX.cg (h : BrX b s) (e : ∀ k, 16 ≤ k → k ≤ 22 → t k = s k) : BrX b t := by
  obtain ⟨h1, h2, h3, h4, h5, h6, h7⟩ := h
  have e16 := e 16 (by decide) (by decide)
  have e17 := e 17 (by decide) (by decide)
  have e18 := e 18 (by decide) (by decide)
  have e19 := e 19 (by decide) (by decide)
  have e20 := e 20 (by decide) (by decide)
  have e21 := e 21 (by decide) (by decide)
  have e22 := e 22 (by decide) (by decide)
  exact ⟨h1.cg (by rw [e16]) (by rw [e16]) e17 e21, h2.cg e22, h3, h4, h5.cg e18 e19 e20, by rw [e16]; exact h6, by rw [e16]; exact h7⟩
theorem BX.cg (h : BX b s) (e : ∀ k, 1 ≤ k → k ≤ 7 → t k = s k) : BX b t := by
  refine BrX.cg h (fun k h1 h2 => ?_)
  have c : k = 16 ∨ k = 17 ∨ k = 18 ∨ k = 19 ∨ k = 20 ∨ k = 21 ∨ k = 22 := by omega
  rcases c with c | c | c | c | c | c | c <;> subst c
  · exact e 1 (by decide) (by decide)
  · exact e 2 (by decide) (by decide)
  · exact e 3 (by decide) (by decide)
  · exact e 4 (by decide) (by decide)
  · exact e 5 (by decide) (by decide)
  · exact e 6 (by decide) (by decide)
  · exact e 7 (by decide) (by decide)
theorem BMa.ob (h : BMa b a s) (ty : TyM s) (k : OKB a s t) : BMa b a t := by
  obtain ⟨h1, h2, h3, h4, h5, h6, h7, h8, h9, h10⟩ := h
  have l1 := (tyM_k2 ty a).2
  have l2 := (tyM_k3 ty a).2
  obtain ⟨_, k2, k3, k4, k5, k6, k7⟩ := k
  refine ⟨k2.trans h1, k3.trans h2, fun i hi => ((k6 i (by omega)).1).trans (h3 i hi), fun i hi => (k7 i (by omega)).trans (h4 i hi), k4.trans h5, k5.trans h6, fun i c hc => ?_, fun i x hx => ?_, h9, h10⟩
  · have hi := (List.getElem?_eq_some_iff.mp hc).1
    rw [(k6 i (by omega)).2.2.2.2]
    exact h7 i c hc
  · have hi := (List.getElem?_eq_some_iff.mp hx).1
    have y := h8 i x hx
    have z := k6 i (by omega)
    exact ⟨z.2.1.trans y.1, z.2.2.1.trans y.2.1, z.2.2.2.1.trans y.2.2⟩
theorem BMa.cg (h : BMa b a s) (e : ∀ k, 2 ≤ k → k ≤ 11 → t k = s k) : BMa b a t := by
  obtain ⟨h1, h2, h3, h4, h5, h6, h7, h8, h9, h10⟩ := h
  refine ⟨by rw [e 2 (by decide) (by decide)]; exact h1, by rw [e 3 (by decide) (by decide)]; exact h2, fun i hi => by rw [e 6 (by decide) (by decide)]; exact h3 i hi, fun i hi => by rw [e 7 (by decide) (by decide)]; exact h4 i hi, by rw [e 4 (by decide) (by decide)]; exact h5, by rw [e 5 (by decide) (by decide)]; exact h6, fun i c hc => by rw [e 11 (by decide) (by decide)]; exact h7 i c hc, fun i x hx => by rw [e 8 (by decide) (by decide), e 9 (by decide) (by decide), e 10 (by decide) (by decide)]; exact h8 i x hx, h9, h10⟩
theorem BM.cg (h : BM b s) (e : ∀ k, 2 ≤ k → k ≤ 11 → t k = s k) (e0 : t 0 12 = s 0 12) : BM b t := by
  obtain ⟨a, h1, h2, h3⟩ := h
  exact ⟨a, h1, e0.trans h2, h3.cg e⟩
theorem SM.bma (h : SM g N b q s) : ∃ a : Nat, a ≤ 1 ∧ s 0 13 = (a : Int) ∧ BMa b a s := by
  obtain ⟨⟨_, hB, hA⟩, l1, l2⟩ := h
  obtain ⟨a, b1, b2, b3, b4, b5, b6, b7, b8⟩ := hB
  obtain ⟨a2, c1, c2, c3, c4, c5, c6, c7, c8⟩ := hA
  have e : a2 = a := by omega
  subst e
  exact ⟨a2, b1, b2, b3, b4, b5, b6, c3, c4, c7, c8, l1, l2⟩
/-- rules of the class -/
theorem rulesXB (hN : N ≤ 1000) (hg : ∀ i, g i ≤ 255) (h : M_X11_rules s r t) (hT : TpX g N s) (hO : OWX s) : (r = -1 ∧ rdT g N = none ∧ ∀ k, 1 ≤ k → k ≤ 15 → t k = s k) ∨ (∃ b, rdT g N = some b ∧ r = ((b.1.length + b.2.2.2.2.1 : Nat) : Int) ∧ BrX b t) := by
  unfold M_X11_rules T_X11_rules_e at h
  obtain ⟨_, r1, s1, hm, hf, _, _, s2, e2, h⟩ := h
  have k := allX hN hg hm hT hO
  rcases h with ⟨c, er, es⟩ | ⟨c, s3, e3, s4, e4, s5, _, f5, _, s6, _, f6, _, s7, e7, s8, _, f8, _, s9, e9, er, es⟩
  · rcases k with ⟨k1, _⟩ | ⟨_, k2⟩
    · exact absurd (c.symm.trans k1) (by decide)
    · refine Or.inl ⟨er, k2, fun k h1 h2 => ?_⟩
      rw [es, e2, us_k (by omega), hf.1 k (by simp only [List.mem_cons, List.not_mem_nil, or_false]; omega)]
  · rcases k with ⟨_, b, q, k2, k3⟩ | ⟨k1, _⟩
    · refine Or.inr ⟨b, k2, ?_, ?_⟩
      · obtain ⟨⟨_, _, k4, _⟩, ⟨_, _, k5, _⟩, _, _⟩ := k3
        rw [er, k4.1, k5]
        omega
      · obtain ⟨⟨_, _, k4, _⟩, ⟨k6, k7, k8, k9⟩, l1, l2⟩ := k3
        have hb : BrX b s1 := ⟨k4, k6, l1, l2, k7, k8, k9⟩
        refine hb.cg (fun k h1 h2 => ?_)
        rw [es, e9, us_k (by omega), f8.1 k (by simp only [List.mem_cons, List.not_mem_nil, or_false]; omega), e7, us_k (by omega), f6.1 k (by simp only [List.mem_cons, List.not_mem_nil, or_false]; omega), f5.1 k (by simp only [List.mem_cons, List.not_mem_nil, or_false]; omega), e4, e3, e2, us_k (by omega)]
    · exact absurd k1 c
theorem bad68B {n : Nat} {x : Int} (h : It_X12_rules n x s r t) (hf : ¬ s 0 8 = 0) : r = -1 ∧ t 0 12 = s 0 12 := by
  cases n with
  | zero => exact False.elim h
  | succ n =>
    replace h := ul_X12_rules_68 h
    unfold T_X12_rules_68 at h
    obtain ⟨_, ⟨c, _⟩ | ⟨_, s1, e1, s2, e2, _, e, es⟩⟩ := h
    · exact absurd c hf
    · refine ⟨e, ?_⟩
      rw [es, e2, us_j (by decide), e1, us_j (by decide)]
theorem rulesOBL {o : Nat} (ho : o ≤ 1) : ∀ (n : Nat) (x : Int) (s : PS) (r : Int) (t : PS), It_X12_rules n x s r t → s 0 13 = 1 - (o : Int) → OKB o s t
  | 0, _, _, _, _, h, _ => False.elim h
  | n + 1, x, s, r, t, h, h13 => by
    replace h := ul_X12_rules_68 h
    unfold T_X12_rules_68 at h
    obtain ⟨ty, h⟩ := h
    rcases h with ⟨_, ⟨c1, s6, e6, s7, e7, _, s9, e9, s10, e10, s11, e11, s12, e12, s13, e13, _, es⟩ | ⟨c1, s1, hm, hf, _, h⟩⟩ | ⟨c, s2, e2, s3, e3, _, _, es⟩
    · rw [es, e13, e12, e11, e10, e9, e7, e6]
      exact (OKB.us0 (by decide)).trans ((OKB.us0 (by decide)).trans ((OKB.us0 (by decide)).trans ((OKB.us0 (by decide)).trans ((OKB.us0 (by decide)).trans ((OKB.us0 (by decide)).trans (OKB.us0 (by decide)))))))
    · have k := stmtOB hm ho h13
      exact k.trans (rulesOBL ho n _ s1 r t h (k.1.trans h13))
    · rw [es, e3, e2]
      exact (OKB.us0 (by decide)).trans (OKB.us0 (by decide))
theorem ruLB (hN : N ≤ 1000) (hg : ∀ i, g i ≤ 255) : ∀ (n k q : Nat) (b : BST) (s : PS) (r : Int) (t : PS), It_X12_rules n (((b.1.length + b.2.2.2.2.1 : Nat) : Int)) s r t → SM g N b q s → N < q + k → (r = -1 ∧ alF (tkq g N) (nxq g N) 1001 (nvq g N) (ltq g N) k b q = none ∧ t 0 12 = s 0 12) ∨ ∃ b2, alF (tkq g N) (nxq g N) 1001 (nvq g N) (ltq g N) k b q = some b2 ∧ r = ((b2.1.length + b2.2.2.2.2.1 : Nat) : Int) ∧ BM b2 t
  | 0, k, q, b, s, r, t, h, _, _ => False.elim h
  | n + 1, k, q, b, s, r, t, h, hS, hk => by
    replace h := ul_X12_rules_68 h
    unfold T_X12_rules_68 at h
    obtain ⟨ty, h⟩ := h
    have hM := hS.1.1
    have hq : q ≤ N := hM.2.1
    obtain ⟨k, rfl⟩ : ∃ k2, k = k2 + 1 := ⟨k - 1, by clear h; omega⟩
    have un : alF (tkq g N) (nxq g N) 1001 (nvq g N) (ltq g N) (k + 1) b q = if tkq g N q = 256 then some b else (stS (tkq g N) (nxq g N) 1001 (nvq g N) (ltq g N) b q).bind fun r => alF (tkq g N) (nxq g N) 1001 (nvq g N) (ltq g N) k r.1 r.2 := rfl
    have cn := sm_cnt hS ty
    have sg := hM.sg.2.2.2
    rcases h with ⟨_, ⟨c1, h⟩ | ⟨c1, s1, hm, hf, _, h⟩⟩ | ⟨c, _⟩
    · have e : tkq g N q = 256 := by
        rcases sg with z | z | z | z
        · exact z.1
        · exact absurd (c1.symm.trans z.2.2.1) (by decide)
        · exact absurd (c1.symm.trans z.2.1) (by decide)
        · exact absurd (c1.symm.trans z.2.1) (by decide)
      rw [un, if_pos e]
      obtain ⟨s6, e6, s7, e7, _, s9, e9, s10, e10, s11, e11, s12, e12, s13, e13, er, es⟩ := h
      refine Or.inr ⟨b, rfl, er, ?_⟩
      obtain ⟨a, a1, a2, a3⟩ := hS.bma
      refine ⟨a, a1, ?_, a3.cg (fun k h1 _ => ?_)⟩
      · rw [es, e13, us_j (by decide), e12, us_j (by decide), e11, us_j (by decide), e10, us_j (by decide), e9, us_at]
        exact a2
      · rw [es, e13, us_k (by omega), e12, us_k (by omega), e11, us_k (by omega), e10, us_k (by omega), e9, us_k (by omega), e7, us_k (by omega), e6, us_k (by omega)]
    · have e : ¬ tkq g N q = 256 := by
        rcases sg with z | z | z | z
        · exact absurd z.2 c1
        · exact fun y => absurd (y ▸ z.1) (by decide)
        · exact fun y => absurd (y.symm.trans z.1) (by decide)
        · exact fun y => absurd (y ▸ z.1) (by decide)
      have k1 := statementM hN hg hm hS
      have f12 : s1 0 12 = s 0 12 := hf.f (by decide) (by decide)
      have ew : wi ((((b.1.length + b.2.2.2.2.1 : Nat) : Int)) + 1) = ((b.1.length + b.2.2.2.2.1 + 1 : Nat) : Int) := by
        rw [wi_id (by omega) (by omega)]
        rfl
      rw [ew] at h
      rw [un, if_neg e]
      rcases k1 with ⟨k1, k2⟩ | ⟨x, k1, k2⟩
      · have z := bad68B h k1
        refine Or.inl ⟨z.1, ?_, z.2.trans f12⟩
        cases e2 : stS (tkq g N) (nxq g N) 1001 (nvq g N) (ltq g N) b q with
        | none => rfl
        | some x =>
          rw [Option.bind_some]
          have pg := stS_pg (ngr hg) hq e e2
          obtain ⟨k, rfl⟩ : ∃ k2, k = k2 + 1 := ⟨k - 1, by clear h; omega⟩
          exact al_bad (k2 x e2)
      · have pg := stS_pg (ngr hg) hq e k1
        have ct := st_cnt k1
        have k3 : stS (tkq g N) (nxq g N) 1001 (nvq g N) (ltq g N) b q = some x := k1
        rw [k3, Option.bind_some]
        rw [← ct] at h
        have z := ruLB hN hg n k x.2 x.1 s1 r t h k2 (by clear h; omega)
        rw [f12] at z
        exact z
    · exact absurd hM.2.2.1 c
/-- rules of the reference -/
theorem rulesMB (hN : N ≤ 1000) (hg : ∀ i, g i ≤ 255) (h : M_X12_rules s r t) (hb : ∀ i, s 1 i = (g i : Int)) (hl : s 0 1 = (N : Int)) : (r = -1 ∧ rdT g N = none ∧ t 0 12 = s 0 12 ∧ ∀ o : Nat, s 0 12 = (o : Int) → ∃ s0 : PS, (∀ k, ¬ k = 0 → s0 k = s k) ∧ OKB o s0 t) ∨ (∃ b, rdT g N = some b ∧ r = ((b.1.length + b.2.2.2.2.1 : Nat) : Int) ∧ BM b t) := by
  obtain ⟨n, h⟩ := h
  unfold T_X12_rules_e at h
  obtain ⟨ty, s0, f0, s1, f1, s2, f2, s3, f3, s4, f4, s5, f5, s6, hm, hf, _, h⟩ := h
  have bk := tyM_bank ty
  obtain ⟨a, ha, ea⟩ : ∃ a : Nat, a ≤ 1 ∧ 1 - s 0 12 = (a : Int) := ⟨(1 - s 0 12).toNat, by clear h hm hf f0 f1 f2 f3 f4 f5; omega, by clear h hm hf f0 f1 f2 f3 f4 f5; omega⟩
  rw [ea] at f0 f1 f2 f3 f4 f5
  have et : ((a : Nat) : Int).toNat = a := rfl
  have es : s5 = us (us (us (us (us (us s 0 13 a) 2 a 0) 3 a 0) 4 a 0) 5 a 1000) 14 a 0 := by rw [f5, f4, f3, f2, f1, f0, et]
  have hob : ∀ o : Nat, s 0 12 = (o : Int) → ∃ s0 : PS, (∀ k, ¬ k = 0 → s0 k = s k) ∧ OKB o s0 t := by
    intro o ho
    have ho1 : o ≤ 1 := by clear h hm hf f0 f1 f2 f3 f4 f5; omega
    have ha2 : ((a : Nat) : Int) = 1 - (o : Int) := by clear h hm hf f0 f1 f2 f3 f4 f5; omega
    refine ⟨us s 0 13 a, fun k hk => us_k hk, ?_⟩
    have x13 : (us s 0 13 ((a : Nat) : Int)) 0 13 = 1 - (o : Int) := us_at.trans ha2
    have y1 : OKB o (us s 0 13 ((a : Nat) : Int)) s5 := by
      rw [es]
      exact (OKB.u1 (k := 2) (c := ((a : Nat) : Int)) (by decide) ho1 ha2).trans ((OKB.u1 (k := 3) (c := ((a : Nat) : Int)) (by decide) ho1 ha2).trans ((OKB.u1 (k := 4) (c := ((a : Nat) : Int)) (by decide) ho1 ha2).trans ((OKB.u1 (k := 5) (c := ((a : Nat) : Int)) (by decide) ho1 ha2).trans (OKB.usk (by decide)))))
    have y2 : OKB o s5 s6 := OKB.fr hf (by decide)
    have y3 := y1.trans y2
    exact y3.trans (rulesOBL ho1 n _ s6 r t h (y3.1.trans x13))
  unfold M_X12_starts T_X12_starts_e at hm
  obtain ⟨_, v1, w1, v2, w2, v3, w3, v4, w4, v5, w5, v6, hm6, hf6, _, _, e6⟩ := hm
  have ev : v5 = us (us (us (us (us s5 0 2 (s5 0 1)) 0 1 0) 0 5 0) 0 8 0) 0 9 (-1) := by rw [w5, w4, w3, w2, w1]
  have q1 : v5 1 = s 1 := by
    rw [ev, es]
    simp only [us_k (show ¬ 1 = 0 by decide), us_k (show ¬ 1 = 2 by decide), us_k (show ¬ 1 = 3 by decide), us_k (show ¬ 1 = 4 by decide), us_k (show ¬ 1 = 5 by decide), us_k (show ¬ 1 = 14 by decide)]
  have q01 : s5 0 1 = s 0 1 := by
    rw [es, us_k (by decide), us_k (by decide), us_k (by decide), us_k (by decide), us_k (by decide), us_j (by decide)]
  have q02 : v5 0 2 = (N : Int) := by
    rw [ev, us_j (by decide), us_j (by decide), us_j (by decide), us_j (by decide), us_at, q01, hl]
  have q05 : v5 0 5 = 0 := by
    rw [ev, us_j (by decide), us_j (by decide), us_at]
  have q08 : v5 0 8 = 0 := by
    rw [ev, us_j (by decide), us_at]
  have q013 : v5 0 13 = (a : Int) := by
    rw [ev, us_j (by decide), us_j (by decide), us_j (by decide), us_j (by decide), us_j (by decide), es, us_k (by decide), us_k (by decide), us_k (by decide), us_k (by decide), us_k (by decide), us_at]
  have q012 : v5 0 12 = s 0 12 := by
    rw [ev, us_j (by decide), us_j (by decide), us_j (by decide), us_j (by decide), us_j (by decide), es, us_k (by decide), us_k (by decide), us_k (by decide), us_k (by decide), us_k (by decide), us_j (by decide)]
  have kk : ∀ k : Nat, ¬ k = 0 → v5 k = s5 k := by
    intro k hk
    rw [ev, us_k hk, us_k hk, us_k hk, us_k hk, us_k hk]
  have T5 : TpM g N v5 := ⟨fun i => by rw [q1]; exact hb i, q02⟩
  have k := looksM (q := 0) hN hg hm6 T5 q05 (Nat.zero_le _) q08
  rw [e6] at h hf
  have x2 : v6 2 a = 0 := by
    rw [hf6.1 2 (by decide), kk 2 (by decide), es, us_k (by decide), us_k (by decide), us_k (by decide), us_k (by decide), us_at]
  have x3 : v6 3 a = 0 := by
    rw [hf6.1 3 (by decide), kk 3 (by decide), es, us_k (by decide), us_k (by decide), us_k (by decide), us_at]
  have x4 : v6 4 a = 0 := by
    rw [hf6.1 4 (by decide), kk 4 (by decide), es, us_k (by decide), us_k (by decide), us_at]
  have x5 : v6 5 a = 1000 := by
    rw [hf6.1 5 (by decide), kk 5 (by decide), es, us_k (by decide), us_at]
  have x13 : v6 0 13 = (a : Int) := by rw [hf6.f (by decide) (by decide), q013]
  have x12 : v6 0 12 = s 0 12 := by rw [hf6.f (by decide) (by decide), q012]
  rcases k with ⟨k1, k2⟩ | ⟨k1, k2⟩
  · have z := bad68B h k2
    refine Or.inl ⟨z.1, ?_, z.2.trans x12, hob⟩
    unfold rdT
    exact al_bad k1
  · have hS : SM g N ([], [], [], [], 0, 1000) 0 v6 := by
      refine ⟨⟨⟨T5.cg (hf6.1 1 (by decide)) (hf6.f (by decide) (by decide)), Nat.zero_le _, k1, k2⟩, ⟨a, ha, x13, by rw [x2]; rfl, by rw [x3]; rfl, fun i hi => absurd hi (Nat.not_lt_zero _), fun i hi => absurd hi (Nat.not_lt_zero _), fun l hl => absurd hl List.not_mem_nil, fun l hl => absurd hl List.not_mem_nil⟩, ⟨a, ha, x13, by rw [x4]; rfl, by rw [x5]; rfl, List.nodup_nil, fun c hc => absurd hc List.not_mem_nil, fun i c hc => ?_, fun i x hx => ?_⟩⟩, rfl, rfl⟩
      · cases hc
      · cases hx
    have k := ruLB hN hg n 1001 0 ([], [], [], [], 0, 1000) v6 r t h hS (by clear h; omega)
    unfold rdT
    rcases k with ⟨k1, k2, k3⟩ | ⟨b2, k1, k2, k3⟩
    · exact Or.inl ⟨k1, k2, k3.trans x12, hob⟩
    · exact Or.inr ⟨b2, k1, k2, k3⟩
/-- rules of both: their answers, their books -/
theorem rules3 (hT : TT s u) (hO : OWX s) (hM : TyM u) (h1 : M_X11_rules s r t) (h2 : M_X12_rules u r2 v) (hB : BK s u) : r = r2 ∧ ((r = -1 ∧ BK t v) ∨ (¬ r = -1 ∧ BK (sw t) v)) := by
  have ba : ∀ i, 0 ≤ u 1 i ∧ u 1 i ≤ 255 := fun i => tyM_byt hM i
  have ln : 0 ≤ u 0 1 ∧ u 0 1 ≤ 1000 := hM.1 (0, 1, 0, 1000) (by decide)
  have hb : ∀ i, u 1 i = (((u 1 i).toNat : Nat) : Int) := fun i => by
    have := ba i
    omega
  have hl : u 0 1 = (((u 0 1).toNat : Nat) : Int) := by omega
  have hg : ∀ i, (fun i => (u 1 i).toNat) i ≤ 255 := fun i => by
    have := ba i
    show (u 1 i).toNat ≤ 255
    omega
  have hN : (u 0 1).toNat ≤ 1000 := by omega
  have x := rulesXB (g := fun i => (u 1 i).toNat) hN hg h1 ⟨fun i => by rw [hT.1]; exact hb i, by rw [hT.2]; exact hl⟩ hO
  have y := rulesMB (g := fun i => (u 1 i).toNat) hN hg h2 hb hl
  obtain ⟨b, hX, hY⟩ := hB
  rcases x with ⟨x1, x2, x3⟩ | ⟨b1, x1, x2, x3⟩
  · rcases y with ⟨y1, _, y3, y4⟩ | ⟨b2, y1, _⟩
    · refine ⟨x1.trans y1.symm, Or.inl ⟨x1, b, hX.cg (fun k k1 k2 => x3 k k1 (by omega)), ?_⟩⟩
      obtain ⟨a, a1, a2, a3⟩ := hY
      obtain ⟨s0, z1, z2⟩ := y4 a a2
      have l1 := tyM_k2 hM a
      have l2 := tyM_k3 hM a
      refine ⟨a, a1, y3.trans a2, ?_⟩
      have z3 : OKB a u t → True := fun _ => trivial
      obtain ⟨_, w2, w3, w4, w5, w6, w7⟩ := z2
      rw [z1 2 (by decide)] at w2
      rw [z1 3 (by decide)] at w3
      rw [z1 4 (by decide)] at w4
      rw [z1 5 (by decide)] at w5
      have w : OKB a (us u 0 13 (v 0 13)) v := ⟨us_at.symm, by rw [us_k (by decide)]; exact w2, by rw [us_k (by decide)]; exact w3, by rw [us_k (by decide)]; exact w4, by rw [us_k (by decide)]; exact w5, fun i hi => by
        have p := w6 i hi
        rw [z1 6 (by decide), z1 8 (by decide), z1 9 (by decide), z1 10 (by decide), z1 11 (by decide)] at p
        rw [us_k (by decide), us_k (by decide), us_k (by decide), us_k (by decide), us_k (by decide)]
        exact p, fun i hi => by
        have p := w7 i hi
        rw [z1 7 (by decide)] at p
        rw [us_k (by decide)]
        exact p⟩
      have m := a3.cg (t := us u 0 13 (v 0 13)) (fun k k1 _ => us_k (by omega))
      obtain ⟨m1, m2, m3, m4, m5, m6, m7, m8, m9, m10⟩ := m
      obtain ⟨_, k2, k3, k4, k5, k6, k7⟩ := w
      have e2 : (us u 0 13 (v 0 13)) 2 a = u 2 a := by rw [us_k (by decide)]
      have e3 : (us u 0 13 (v 0 13)) 3 a = u 3 a := by rw [us_k (by decide)]
      have n1 : b.1.length ≤ 10 := by omega
      have n2 : b.2.1.length ≤ 8 := by omega
      refine ⟨k2.trans m1, k3.trans m2, fun i hi => ((k6 i (by omega)).1).trans (m3 i hi), fun i hi => (k7 i (by omega)).trans (m4 i hi), k4.trans m5, k5.trans m6, fun i c hc => ?_, fun i x hx => ?_, m9, m10⟩
      · have hi := (List.getElem?_eq_some_iff.mp hc).1
        rw [(k6 i (by omega)).2.2.2.2]
        exact m7 i c hc
      · have hi := (List.getElem?_eq_some_iff.mp hx).1
        have y := m8 i x hx
        have z := k6 i (by omega)
        exact ⟨z.2.1.trans y.1, z.2.2.1.trans y.2.1, z.2.2.2.1.trans y.2.2⟩
    · exact absurd (x2.symm.trans y1) (by intro e; cases e)
  · rcases y with ⟨_, y2, _⟩ | ⟨b2, y1, y2, y3⟩
    · exact absurd (y2.symm.trans x1) (by intro e; cases e)
    · have e : b1 = b2 := Option.some.inj (x1.symm.trans y1)
      subst e
      refine ⟨x2.trans y2.symm, Or.inr ⟨by omega, b1, ?_, y3⟩⟩
      unfold BX
      rw [sw_2]
      exact x3
/-- which of both has a letter, a mark -/
theorem tb_val (v : Int) {k : Nat} (hk : k < 32) : iAnd (iShr v (k : Int)) 1 = if tb v k = true then 1 else 0 := by
  have e : iAnd (iShr v (k : Int)) 1 = 0 ∨ iAnd (iShr v (k : Int)) 1 = 1 := by
    have q : iAnd (iShr v (k : Int)) 1 = (Int32.ofInt (iShr v (k : Int)) &&& 1).toInt := rfl
    rw [q]
    show ((Int32.ofInt (iShr v (k : Int))).toBitVec &&& 1#32).toInt = 0 ∨ ((Int32.ofInt (iShr v (k : Int))).toBitVec &&& 1#32).toInt = 1
    rw [bit_and1]
    split
    · exact Or.inr rfl
    · exact Or.inl rfl
  unfold tb
  rcases e with e | e
  · rw [e]
    rfl
  · rw [e]
    rfl
theorem name2 {p1 p2 p3 : Int} (hX : TyX s) (hB : BK s u) (h1 : M_X11_name s p1 p2 p3 r t) (h2 : M_X12_name u p1 p2 p3 r2 v) : r = r2 := by
  obtain ⟨b, hb, a, a1, a2, hm⟩ := hB
  have x0 : s 1 0 = (b.1.length : Int) := hb.1.1
  have x5 : s 1 5 = (b.2.1.length : Int) := hb.1.2.1
  have xk : ∀ i : Nat, (h : i < b.1.length) → s 2 i = ((e5 b.1[i] : Nat) : Int) := hb.1.2.2.1
  have xm : ∀ i : Nat, (h : i < b.2.1.length) → s 6 i = ((e5 b.2.1[i] : Nat) : Int) := hb.1.2.2.2.1
  have lk : ∀ l ∈ b.1, LW l := hb.1.2.2.2.2.1
  have lm : ∀ l ∈ b.2.1, LW l := hb.1.2.2.2.2.2
  obtain ⟨m1, m2, m3, m4, _⟩ := hm
  have ea : (u 0 12).toNat = a := by omega
  unfold M_X11_name T_X11_name_e at h1
  unfold M_X12_name T_X12_name_e at h2
  obtain ⟨_, _, h1⟩ := h1
  obtain ⟨_, _, h2⟩ := h2
  rw [x0, x5] at h1
  rw [ea, m1, m2, a2] at h2
  rcases h1 with ⟨c1, e1, _⟩ | ⟨c1, h1⟩
  · rcases h2 with ⟨d1, e2, _⟩ | ⟨d1, _⟩
    · rw [e1, e2]
    · exact absurd c1 d1
  · rcases h2 with ⟨d1, _⟩ | ⟨_, h2⟩
    · exact absurd d1 c1
    · obtain ⟨i, rfl⟩ : ∃ i : Nat, p2 = (i : Int) := ⟨p2.toNat, by clear h1 h2; omega⟩
      rcases h1 with ⟨c2, h1⟩ | ⟨c2, h1⟩
      · rcases h2 with ⟨_, h2⟩ | ⟨d2, _⟩
        · rcases h1 with ⟨c3, _, z, _, h1, _, _, _, e1, _⟩ | ⟨c3, e1, _⟩
          · rcases h2 with ⟨_, _, y, _, h2, _, _, e2, _⟩ | ⟨d3, _⟩
            · have hi : i < b.1.length := by omega
              have ix : ((10 * (a : Int)) + (i : Int)).toNat = 10 * a + i := by omega
              rw [Int.toNat_natCast, xk i hi] at h1
              rw [ix, m3 i hi] at h2
              have lw := lk _ (List.getElem_mem hi)
              rw [e1, e2, (letX lw h1).2, (letM8 lw h2).2]
            · exact absurd c3 d3
          · rcases h2 with ⟨d3, _⟩ | ⟨_, e2, _⟩
            · exact absurd d3 c3
            · rw [e1, e2]
        · exact absurd c2 d2
      · rcases h2 with ⟨d2, _⟩ | ⟨_, h2⟩
        · exact absurd d2 c2
        · rcases h1 with ⟨c3, _, z, _, h1, _, _, _, e1, _⟩ | ⟨c3, e1, _⟩
          · rcases h2 with ⟨_, _, y, _, h2, _, _, e2, _⟩ | ⟨d3, _⟩
            · have hi : i < b.2.1.length := by omega
              have ix : ((8 * (a : Int)) + (i : Int)).toNat = 8 * a + i := by omega
              rw [Int.toNat_natCast, xm i hi] at h1
              rw [ix, m4 i hi] at h2
              have lw := lm _ (List.getElem_mem hi)
              rw [e1, e2, (letX lw h1).2, (letM8 lw h2).2]
            · exact absurd c3 d3
          · rcases h2 with ⟨d3, _⟩ | ⟨_, e2, _⟩
            · exact absurd d3 c3
            · rw [e1, e2]
theorem isKindX {p : Int} (h : M_X11_isKind s p r t) : t = s ∧ ((r = 1 ∧ 0 ≤ p ∧ p < s 1 0) ∨ (r = 0 ∧ ¬ (0 ≤ p ∧ p < s 1 0))) := by
  unfold M_X11_isKind T_X11_isKind_e at h
  obtain ⟨_, ⟨c, er, es⟩ | ⟨c, ⟨d, er, es⟩ | ⟨d, er, es⟩⟩⟩ := h
  · exact ⟨es, Or.inr ⟨er, by omega⟩⟩
  · exact ⟨es, Or.inr ⟨er, by omega⟩⟩
  · exact ⟨es, Or.inl ⟨er, by omega, by omega⟩⟩
theorem isKindM {p : Int} (h : M_X12_isKind s p r t) : t = s ∧ ((r = 1 ∧ 0 ≤ p ∧ p < s 2 (s 0 12).toNat) ∨ (r = 0 ∧ ¬ (0 ≤ p ∧ p < s 2 (s 0 12).toNat))) := by
  unfold M_X12_isKind T_X12_isKind_e at h
  obtain ⟨_, ⟨c, er, es⟩ | ⟨c, ⟨d, er, es⟩ | ⟨d, er, es⟩⟩⟩ := h
  · exact ⟨es, Or.inr ⟨er, by omega⟩⟩
  · exact ⟨es, Or.inr ⟨er, by omega⟩⟩
  · exact ⟨es, Or.inl ⟨er, by omega, by omega⟩⟩
theorem BK.kinds (hB : BK s u) : s 1 0 = u 2 (u 0 12).toNat := by
  obtain ⟨b, hb, a, a1, a2, hm⟩ := hB
  have x0 : s 1 0 = (b.1.length : Int) := hb.1.1
  have ea : (u 0 12).toNat = a := by omega
  rw [x0, ea, hm.1]
theorem tyX_kb (h : TyX s) : 0 ≤ s 1 0 ∧ s 1 0 ≤ 10 := h.1 (1, 0, 0, 10) (by decide)
theorem tyX_mb (h : TyX s) : 0 ≤ s 1 5 ∧ s 1 5 ≤ 8 := h.1 (1, 5, 0, 8) (by decide)
theorem marked2 {p1 p2 : Int} (hX : TyX s) (hB : BK s u) (h1 : M_X11_marked s p1 p2 r t) (h2 : M_X12_marked u p1 p2 r2 v) : r = r2 := by
  have hk := hB.kinds
  obtain ⟨b, hb, a, a1, a2, hm⟩ := hB
  have x0 : s 1 0 = (b.1.length : Int) := hb.1.1
  have x5 : s 1 5 = (b.2.1.length : Int) := hb.1.2.1
  have xt : ∀ (m : Nat) (l : List Nat), b.2.1[m]? = some l → ∀ j : Nat, j < 10 → (tb (s 7 m) j = true ↔ ∃ c, b.2.2.1[j]? = some c ∧ l ∈ c) := hb.2.1.2.2
  obtain ⟨m1, m2, m3, m4, m5, m6, m7, m8, m9, m10⟩ := hm
  have ea : (u 0 12).toNat = a := by omega
  have l10 := (tyX_kb hX).2
  have l8 := (tyX_mb hX).2
  unfold M_X11_marked T_X11_marked_e at h1
  unfold M_X12_marked T_X12_marked_e at h2
  obtain ⟨_, z1, s1, i1, _, _, _, h1⟩ := h1
  obtain ⟨_, z2, u1, i2, _, _, _, h2⟩ := h2
  obtain ⟨es, i1⟩ := isKindX i1
  obtain ⟨eu, i2⟩ := isKindM i2
  rw [← hk] at i2
  rw [x5] at h1
  rw [ea, m2, a2] at h2
  rcases h1 with ⟨c1, e1, _⟩ | ⟨c1, h1⟩
  · rcases h2 with ⟨d1, e2, _⟩ | ⟨d1, _⟩
    · rw [e1, e2]
    · rcases i1 with i1 | i1
      · omega
      · rcases i2 with i2 | i2
        · exact absurd i2.2 i1.2
        · omega
  · rcases h2 with ⟨d1, _⟩ | ⟨_, h2⟩
    · rcases i1 with i1 | i1
      · rcases i2 with i2 | i2
        · omega
        · exact absurd i1.2 i2.2
      · omega
    · have hp : 0 ≤ p1 ∧ p1 < s 1 0 := by
        rcases i1 with i1 | i1
        · exact i1.2
        · omega
      obtain ⟨k, rfl⟩ : ∃ k : Nat, p1 = (k : Int) := ⟨p1.toNat, by clear h1 h2; omega⟩
      have hk2 : k < b.1.length := by omega
      rcases h1 with ⟨c2, e1, _⟩ | ⟨c2, h1⟩
      · rcases h2 with ⟨d2, e2, _⟩ | ⟨d2, _⟩
        · rw [e1, e2]
        · exact absurd c2 d2
      · rcases h2 with ⟨d2, _⟩ | ⟨_, h2⟩
        · exact absurd d2 c2
        · obtain ⟨m, rfl⟩ : ∃ m : Nat, p2 = (m : Int) := ⟨p2.toNat, by clear h1 h2; omega⟩
          rcases h1 with ⟨c3, e1, _⟩ | ⟨c3, e1, _⟩
          · rcases h2 with ⟨_, e2, _⟩ | ⟨d3, _⟩
            · have hm2 : m < b.2.1.length := by omega
              have ix : ((10 * (a : Int)) + (k : Int)).toNat = 10 * a + k := by omega
              rw [Int.toNat_natCast] at e1
              rw [ix] at e2
              rw [e1, e2, tb_val _ (by omega), tb_val _ (by omega)]
              have hc : k < b.2.2.1.length := by omega
              have g1 := xt m b.2.1[m] (List.getElem?_eq_getElem hm2) k (by omega)
              have g2 := m7 k b.2.2.1[k] (List.getElem?_eq_getElem hc) m (by omega)
              have iff : tb (s 7 m) k = true ↔ tb (u 11 (10 * a + k)) m = true := by
                rw [g1, g2]
                constructor
                · rintro ⟨c, h1, h2⟩
                  rw [List.getElem?_eq_getElem hc] at h1
                  exact ⟨b.2.1[m], List.getElem?_eq_getElem hm2, by rw [Option.some.inj h1]; exact h2⟩
                · rintro ⟨l, h1, h2⟩
                  rw [List.getElem?_eq_getElem hm2] at h1
                  exact ⟨b.2.2.1[k], List.getElem?_eq_getElem hc, by rw [Option.some.inj h1]; exact h2⟩
              by_cases q : tb (s 7 m) k = true
              · rw [if_pos q, if_pos (iff.mp q)]
              · rw [if_neg q, if_neg (fun y => q (iff.mpr y))]
            · exact absurd c3 d3
          · rcases h2 with ⟨d3, _⟩ | ⟨_, e2, _⟩
            · exact absurd d3 c3
            · rw [e1, e2]
end Books
