/-! the codes of both, between two calls -/
def CK1 (b : BST) (OL : List OT) (s : PS) : Prop := ∃ C, CdX C (sw s) ∧ RoX OL C (sw s) ∧ Wh28 b OL (sw s)
def CM1 (OL : List OT) (u : PS) : Prop := ∃ (C : List OPc) (a : Nat), a ≤ 1 ∧ u 0 12 = (a : Int) ∧ CdMa a C u ∧ OtMa a OL C u
def CKb (b : BST) (OL : List OT) (s u : PS) : Prop := BX b s ∧ BM b u ∧ GO b OL ∧ CK1 b OL s ∧ CM1 OL u
def CK (s u : PS) : Prop := ∃ (b : BST) (OL : List OT), CKb b OL s u
section Codes2
variable {g : Nat → Nat} {N a : Nat} {s t u v : PS} {r r2 : Int} {C : List OPc} {OL : List OT} {b : BST} {ms ms2 : List Nat} {fm fm2 : List (Nat × Nat)}
theorem CdX.cgk (h : CdX C s) (e : ∀ k, 16 ≤ k → k ≤ 30 → t k = s k) : CdX C t := by
  obtain ⟨h1, A, h2, h3, h4, h5, h6⟩ := h
  refine ⟨by rw [e 16 (by decide) (by decide)]; exact h1, A, by rw [e 16 (by decide) (by decide)]; exact h2, h3, by rw [e 30 (by decide) (by decide)]; exact h4, h5, by rw [e 29 (by decide) (by decide)]; exact h6⟩
theorem CK1.cg (h : CK1 b OL s) (e : ∀ k, 1 ≤ k → k ≤ 15 → t k = s k) : CK1 b OL t := by
  have e2 : ∀ k, 16 ≤ k → k ≤ 30 → sw t k = sw s k := by
    intro k h1 h2
    have z : sgw k = k - 15 := by
      have a : (Nat.ble 1 k && Nat.ble k 15) = false := by
        have : ¬ (k ≤ 15) := by omega
        rw [show Nat.ble k 15 = false from by cases q : Nat.ble k 15 with | true => exact absurd (Nat.le_of_ble_eq_true q) this | false => rfl, Bool.and_false]
      have c : (Nat.ble 16 k && Nat.ble k 30) = true := by rw [Nat.ble_eq_true_of_le h1, Nat.ble_eq_true_of_le h2]; rfl
      unfold sgw
      rw [a, c]
    show t (sgw k) = s (sgw k)
    rw [z]
    exact e _ (by omega) (by omega)
  obtain ⟨C, h1, h2, h3⟩ := h
  refine ⟨C, h1.cgk e2, h2.cgj (fun i _ => ⟨by rw [e2 23 (by decide) (by decide)], by rw [e2 24 (by decide) (by decide)], by rw [e2 25 (by decide) (by decide)], by rw [e2 26 (by decide) (by decide)], by rw [e2 27 (by decide) (by decide)]⟩), fun j o ho hs kd hk fc gr => ?_⟩
  rw [e2 28 (by decide) (by decide)]
  exact h3 j o ho hs kd hk fc gr
theorem CM1.cg (h : CM1 OL u) (e0 : v 0 12 = u 0 12) (e : ∀ k, 12 ≤ k → k ≤ 15 → v k = u k) : CM1 OL v := by
  obtain ⟨C, a, h1, h2, h3, h4⟩ := h
  refine ⟨C, a, h1, e0.trans h2, ⟨by rw [e 14 (by decide) (by decide)]; exact h3.1, fun i hi => ?_⟩, h4.cg (e 12 (by decide) (by decide))⟩
  have z := h3.2 i hi
  unfold OpM at z ⊢
  rw [e 13 (by decide) (by decide), e 15 (by decide) (by decide)]
  exact z
abbrev okKX (ms : List Nat) : Prop := ∀ k ∈ [1, 2, 3, 4, 5, 6, 7, 8, 9, 10, 11, 12, 13, 14, 15], k ∉ ms
abbrev okKU (ms : List Nat) (fm : List (Nat × Nat)) : Prop := (∀ k ∈ [2, 3, 4, 5, 6, 7, 8, 9, 10, 11, 12, 13, 14, 15], k ∉ ms) ∧ (0 ∉ ms ∨ (0 ∈ fm.map Prod.fst ∧ (0, 12) ∉ fm))
theorem CKb.fr (h : CKb b OL s u) (hF : Fr intsX ms fm s t) (c : okKX ms) (hG : Fr intsM ms2 fm2 u v) (c2 : okKU ms2 fm2) : CKb b OL t v := by
  obtain ⟨h1, h2, h3, h4, h5⟩ := h
  have cx : ∀ k, 1 ≤ k → k ≤ 15 → t k = s k := fun k k1 k2 => hF.1 k (c k (by simp only [List.mem_cons, List.not_mem_nil, or_false]; omega))
  have cu : ∀ k, 2 ≤ k → k ≤ 15 → v k = u k := fun k k1 k2 => hG.1 k (c2.1 k (by simp only [List.mem_cons, List.not_mem_nil, or_false]; omega))
  have e12 : v 0 12 = u 0 12 := hG.f (by decide) c2.2
  exact ⟨h1.cg (fun k k1 k2 => cx k k1 (by omega)), h2.cg (fun k k1 k2 => cu k k1 (by omega)) e12, h3, h4.cg cx, h5.cg e12 (fun k k1 k2 => cu k (by omega) k2)⟩
theorem CK.fr (h : CK s u) (hF : Fr intsX ms fm s t) (c : okKX ms) (hG : Fr intsM ms2 fm2 u v) (c2 : okKU ms2 fm2) : CK t v := by
  obtain ⟨b, OL, h⟩ := h
  exact ⟨b, OL, h.fr hF c hG c2⟩
theorem OKC.keep (k : OKC a s t) (hC : CdMa a C s) (hX : OtMa a OL C s) (ty : TyM s) (h24 : OL.length ≤ 24) : CdMa a C t ∧ OtMa a OL C t := by
  obtain ⟨_, k12, k13, k14, k15⟩ := k
  have l := (tyM_cds ty a).2
  rw [hC.1] at l
  refine ⟨⟨k14.trans hC.1, fun i hi => ?_⟩, hX.cgj (fun j h1 h2 => k12 j h2 (by omega))⟩
  obtain ⟨z1, z2, z3⟩ := hC.2 i hi
  exact ⟨(k13 _ (by omega) (by omega)).trans z1, (k13 _ (by omega) (by omega)).trans z2, fun e => (k15 _ (by omega) (by omega)).trans (z3 e)⟩
theorem rulesOCL {o : Nat} (ho : o ≤ 1) : ∀ (n : Nat) (x : Int) (s : PS) (r : Int) (t : PS), It_X12_rules n x s r t → s 0 13 = 1 - (o : Int) → OKC o s t
  | 0, _, _, _, _, h, _ => False.elim h
  | n + 1, x, s, r, t, h, h13 => by
    replace h := ul_X12_rules_68 h
    unfold T_X12_rules_68 at h
    obtain ⟨ty, h⟩ := h
    rcases h with ⟨_, ⟨c1, s6, e6, s7, e7, _, s9, e9, s10, e10, s11, e11, s12, e12, s13, e13, _, es⟩ | ⟨c1, s1, hm, hf, t1, h⟩⟩ | ⟨c, s2, e2, s3, e3, _, _, es⟩
    · rw [es, e13, e12, e11, e10, e9, e7, e6]
      exact (OKC.us0 (by decide)).trans ((OKC.us0 (by decide)).trans ((OKC.us0 (by decide)).trans ((OKC.us0 (by decide)).trans ((OKC.us0 (by decide)).trans ((OKC.us0 (by decide)).trans (OKC.us0 (by decide)))))))
    · have k := stmtOC hm t1 ho h13
      exact k.trans (rulesOCL ho n _ s1 r t h (k.1.trans h13))
    · rw [es, e3, e2]
      exact (OKC.us0 (by decide)).trans (OKC.us0 (by decide))
theorem rulesOCM {o : Nat} (h : M_X12_rules s r t) (ho : s 0 12 = (o : Int)) : ∃ s0 : PS, (∀ k, ¬ k = 0 → s0 k = s k) ∧ OKC o s0 t := by
  obtain ⟨n, h⟩ := h
  unfold T_X12_rules_e at h
  obtain ⟨ty, s0, f0, s1, f1, s2, f2, s3, f3, s4, f4, s5, f5, s6, hm, hf, _, h⟩ := h
  have bk := tyM_bank ty
  obtain ⟨a, ha, ea⟩ : ∃ a : Nat, a ≤ 1 ∧ 1 - s 0 12 = (a : Int) := ⟨(1 - s 0 12).toNat, by clear h hm hf f0 f1 f2 f3 f4 f5; omega, by clear h hm hf f0 f1 f2 f3 f4 f5; omega⟩
  rw [ea] at f0 f1 f2 f3 f4 f5
  have et : ((a : Nat) : Int).toNat = a := rfl
  have es : s5 = us (us (us (us (us (us s 0 13 a) 2 a 0) 3 a 0) 4 a 0) 5 a 1000) 14 a 0 := by rw [f5, f4, f3, f2, f1, f0, et]
  have ho1 : o ≤ 1 := by clear h hm hf f0 f1 f2 f3 f4 f5; omega
  have ha2 : ((a : Nat) : Int) = 1 - (o : Int) := by clear h hm hf f0 f1 f2 f3 f4 f5; omega
  refine ⟨us s 0 13 a, fun k hk => us_k hk, ?_⟩
  have x13 : (us s 0 13 ((a : Nat) : Int)) 0 13 = 1 - (o : Int) := us_at.trans ha2
  have y1 : OKC o (us s 0 13 ((a : Nat) : Int)) s5 := by
    rw [es]
    exact (OKC.usk (by decide)).trans ((OKC.usk (by decide)).trans ((OKC.usk (by decide)).trans ((OKC.usk (by decide)).trans (OKC.u14 (c := ((a : Nat) : Int)) ho1 ha2))))
  have y2 : OKC o s5 s6 := OKC.fr hf (by decide)
  have y3 := y1.trans y2
  exact y3.trans (rulesOCL ho1 n _ s6 r t h (y3.1.trans x13))
/-- rules() of both -/
theorem rulesCK (hT : TT s u) (hO : OWX s) (hM : TyM u) (hK : CKb b OL s u) (h1 : M_X11_rules s r t) (h2 : M_X12_rules u r2 v) : (r = -1 ∧ CKb b OL t v) ∨ (¬ r = -1 ∧ CK (sw t) v) := by
  have ba : ∀ i, 0 ≤ u 1 i ∧ u 1 i ≤ 255 := fun i => tyM_byt hM i
  have ln : 0 ≤ u 0 1 ∧ u 0 1 ≤ 1000 := hM.1 (0, 1, 0, 1000) (by decide)
  have hb : ∀ i, u 1 i = (((u 1 i).toNat : Nat) : Int) := fun i => by
    have := ba i
    omega
  have hl : u 0 1 = (((u 0 1).toNat : Nat) : Int) := by omega
  have hg : ∀ i, (fun i => (u 1 i).toNat) i ≤ 255 := fun i => by
    have := ba i
    show (u 1 i).toNat ≤ 255
    omega
  have hN : (u 0 1).toNat ≤ 1000 := by omega
  have hTp : TpX (fun i => (u 1 i).toNat) (u 0 1).toNat s := ⟨fun i => by rw [hT.1]; exact hb i, by rw [hT.2]; exact hl⟩
  have x1 := rulesXB (g := fun i => (u 1 i).toNat) hN hg h1 hTp hO
  have x2 := rulesXC (g := fun i => (u 1 i).toNat) hN hg h1 hTp hO
  have y1 := rulesMB (g := fun i => (u 1 i).toNat) hN hg h2 hb hl
  have y2 := rulesMC (g := fun i => (u 1 i).toNat) hN hg h2 hb hl
  have fst := rdO_fst (fun i => (u 1 i).toNat) (u 0 1).toNat
  rcases x1 with ⟨c1, c2, c3⟩ | ⟨b1, c1, c2, c3⟩
  · rcases y1 with ⟨d1, d2, d3, d4⟩ | ⟨b2, d1, _⟩
    · refine Or.inl ⟨c1, ?_⟩
      obtain ⟨k1, k2, k3, k4, k5⟩ := hK
      obtain ⟨a, a1, a2, a3⟩ := k2
      obtain ⟨s0, f1, f2⟩ := d4 a a2
      obtain ⟨s0', g1, g2⟩ := rulesOCM h2 a2
      obtain ⟨C, a', m1, m2, m3, m4⟩ := k5
      have ea : a' = a := by omega
      subst ea
      have h24 : OL.length ≤ 24 := by
        have z := (tyM_oth hM a').2
        rw [a3.2.2.2.2.1, ← k3.1] at z
        omega
      -- the codes are kept
      have kp : CdMa a' C v ∧ OtMa a' OL C v := by
        have cu : CdMa a' C s0' := ⟨by rw [g1 14 (by decide)]; exact m3.1, fun i hi => by
          have z := m3.2 i hi
          unfold OpM at z ⊢
          rw [g1 13 (by decide), g1 15 (by decide)]
          exact z⟩
        have ru : OtMa a' OL C s0' := m4.cg (g1 12 (by decide))
        obtain ⟨_, k12, k13, k14, k15⟩ := g2
        have l := (tyM_cds hM a').2
        rw [m3.1] at l
        refine ⟨⟨k14.trans cu.1, fun i hi => ?_⟩, ru.cgj (fun j h1 h2 => k12 j h2 (by omega))⟩
        obtain ⟨z1, z2, z3⟩ := cu.2 i hi
        exact ⟨(k13 _ (by omega) (by omega)).trans z1, (k13 _ (by omega) (by omega)).trans z2, fun e => (k15 _ (by omega) (by omega)).trans (z3 e)⟩
      have bm : BMa b a' v := by
        have b0 : BMa b a' s0 := a3.cg (fun k h1 h2 => f1 k (by omega))
        obtain ⟨h1, h2, h3, h4, h5, h6, h7, h8, h9, h10⟩ := b0
        have l1 : s0 2 a' ≤ 10 := by
          rw [f1 2 (by decide)]
          exact (tyM_k2 hM a').2
        have l2 : s0 3 a' ≤ 8 := by
          rw [f1 3 (by decide)]
          exact (tyM_k3 hM a').2
        obtain ⟨_, k2, k3, k4, k5, k6, k7⟩ := f2
        refine ⟨k2.trans h1, k3.trans h2, fun i hi => ((k6 i (by omega)).1).trans (h3 i hi), fun i hi => (k7 i (by omega)).trans (h4 i hi), k4.trans h5, k5.trans h6, fun i c hc => ?_, fun i x hx => ?_, h9, h10⟩
        · have hi := (List.getElem?_eq_some_iff.mp hc).1
          rw [(k6 i (by omega)).2.2.2.2]
          exact h7 i c hc
        · have hi := (List.getElem?_eq_some_iff.mp hx).1
          have y := h8 i x hx
          have z := k6 i (by omega)
          exact ⟨z.2.1.trans y.1, z.2.2.1.trans y.2.1, z.2.2.2.1.trans y.2.2⟩
      exact ⟨k1.cg (fun k h1 h2 => c3 k h1 (by omega)), ⟨a', a1, d3.trans a2, bm⟩, k3, k4.cg c3, C, a', m1, d3.trans m2, kp.1, kp.2⟩
    · rw [c2] at d1
      cases d1
  · rcases y1 with ⟨_, d2, _⟩ | ⟨b2, d1, d2, d3⟩
    · rw [c1] at d2
      cases d2
    · have nr : ¬ r = -1 := by omega
      have nr2 : ¬ r2 = -1 := by omega
      rcases x2 with z | ⟨b3, OL, C, z1, z2, z3, z4, z5, z6⟩
      · exact absurd z nr
      · rcases y2 with w | ⟨b4, OL2, C2, w1, a, w2, w3, w4, w5⟩
        · exact absurd w nr2
        · rw [z1] at w1 fst
          have e1 : (b3, OL) = (b4, OL2) := Option.some.inj w1
          have e2 : OL2 = OL := congrArg Prod.snd e1.symm
          have e3 : some b3 = rdT (fun i => (u 1 i).toNat) (u 0 1).toNat := fst
          rw [d1] at e3
          have e4 : b3 = b2 := Option.some.inj e3
          subst e2
          subst e4
          refine Or.inr ⟨nr, b3, OL2, ?_, d3, z4, ⟨C, ?_, ?_, ?_⟩, C2, a, w2, w3, w4, w5⟩
          · show BrX b3 (sw (sw t))
            rw [sw_2]
            exact z6
          · rw [sw_2]
            exact z2
          · rw [sw_2]
            exact z3
          · rw [sw_2]
            exact z5
end Codes2
