/-! other statements in the reference: their rows and codes -/
def OtM1 (a i : Nat) (o : OT) (C : List OPc) (s : PS) : Prop := s 12 (168 * a + 7 * i) = (o.1 : Int) ∧ ∃ C1 C2 : List OPc, C = C1 ++ (o.2.2.1 ++ (o.2.2.2.1 ++ (o.2.2.2.2 ++ C2))) ∧ s 12 (168 * a + 7 * i + 1) = (C1.length : Int) ∧ s 12 (168 * a + 7 * i + 2) = ((C1.length + o.2.2.1.length : Nat) : Int) ∧ s 12 (168 * a + 7 * i + 3) = ((C1.length + o.2.2.1.length : Nat) : Int) ∧ s 12 (168 * a + 7 * i + 4) = ((C1.length + o.2.2.1.length + o.2.2.2.1.length : Nat) : Int) ∧ s 12 (168 * a + 7 * i + 5) = ((C1.length + o.2.2.1.length + o.2.2.2.1.length : Nat) : Int) ∧ s 12 (168 * a + 7 * i + 6) = ((C1.length + o.2.2.1.length + o.2.2.2.1.length + o.2.2.2.2.length : Nat) : Int)
def OtMa (a : Nat) (OL : List OT) (C : List OPc) (s : PS) : Prop := ∀ (i : Nat) (o : OT), OL[i]? = some o → OtM1 a i o C s
def OtM (OL : List OT) (C : List OPc) (s : PS) : Prop := ∃ a : Nat, a ≤ 1 ∧ s 0 13 = (a : Int) ∧ OtMa a OL C s
/-- the row that is being written -/
def RwM (a : Nat) (OL : List OT) (C : List OPc) (rv : Nat → Int) (k : Nat) (s : PS) : Prop := OtMa a OL C s ∧ ∀ j, j < k → s 12 (168 * a + 7 * OL.length + j) = rv j
def rvO (C : List OPc) (o : OT) (j : Nat) : Int := if j = 0 then (o.1 : Int) else if j = 1 then (C.length : Int) else if j ≤ 3 then ((C.length + o.2.2.1.length : Nat) : Int) else if j ≤ 5 then ((C.length + o.2.2.1.length + o.2.2.2.1.length : Nat) : Int) else ((C.length + o.2.2.1.length + o.2.2.2.1.length + o.2.2.2.2.length : Nat) : Int)
section RuleC
variable {g : Nat → Nat} {N q a k : Nat} {K M : List (List Nat)} {s t u : PS} {r a0 a1 a2 : Int} {C D : List OPc} {OL : List OT} {o : OT} {ms : List Nat} {fm : List (Nat × Nat)} {b : BST} {rv : Nat → Int} {Ck : List (List (List Nat))} {W : List (Nat × Nat × Nat)} {O E : Nat}
theorem OtMa.ext (h : OtMa a OL C s) : OtMa a OL (C ++ D) s := by
  intro i o ho
  obtain ⟨h1, C1, C2, h2, h3⟩ := h i o ho
  refine ⟨h1, C1, C2 ++ D, ?_, h3⟩
  rw [h2]
  simp only [List.append_assoc]
theorem OtMa.cgj (h : OtMa a OL C s) (e : ∀ j, j < 168 * a + 7 * OL.length → 168 * a ≤ j → t 12 j = s 12 j) : OtMa a OL C t := by
  intro i o ho
  have hi := (List.getElem?_eq_some_iff.mp ho).1
  obtain ⟨h1, C1, C2, h2, h3, h4, h5, h6, h7, h8⟩ := h i o ho
  exact ⟨(e _ (by omega) (by omega)).trans h1, C1, C2, h2, (e _ (by omega) (by omega)).trans h3, (e _ (by omega) (by omega)).trans h4, (e _ (by omega) (by omega)).trans h5, (e _ (by omega) (by omega)).trans h6, (e _ (by omega) (by omega)).trans h7, (e _ (by omega) (by omega)).trans h8⟩
theorem OtMa.cg (h : OtMa a OL C s) (e : t 12 = s 12) : OtMa a OL C t := h.cgj (fun j _ _ => by rw [e])
theorem RwM.cg (h : RwM a OL C rv k s) (e : t 12 = s 12) : RwM a OL C rv k t := ⟨h.1.cg e, fun j hj => by rw [e]; exact h.2 j hj⟩
theorem RwM.put (h : RwM a OL C rv k s) : RwM a OL C rv (k + 1) (us s 12 (168 * a + 7 * OL.length + k) (rv k)) := by
  refine ⟨h.1.cgj (fun j hj _ => us_j (by omega) 12), fun j hj => ?_⟩
  by_cases c : j = k
  · rw [c, us_at]
  · rw [us_j (by omega)]
    exact h.2 j (by omega)
theorem RwM.fin (h : RwM a OL C (rvO C o) 7 s) : OtMa a (OL ++ [o]) (C ++ (o.2.2.1 ++ (o.2.2.2.1 ++ o.2.2.2.2))) s := by
  intro i o2 ho
  rw [app_get] at ho
  by_cases c : i = OL.length
  · rw [if_pos c] at ho
    have e := Option.some.inj ho
    subst e
    subst c
    have z := h.2
    refine ⟨(z 0 (by decide)).trans rfl, C, [], ?_, (z 1 (by decide)).trans rfl, (z 2 (by decide)).trans rfl, (z 3 (by decide)).trans rfl, (z 4 (by decide)).trans rfl, (z 5 (by decide)).trans rfl, (z 6 (by decide)).trans rfl⟩
    rw [List.append_nil]
  · rw [if_neg c] at ho
    exact h.1.ext i o2 ho
theorem CdM.len (h : CdM C s) (e : s 0 13 = (a : Int)) : s 14 a = (C.length : Int) := by
  obtain ⟨a2, h1, h2, h3, _⟩ := h
  have z : a2 = a := by omega
  rw [← z]
  exact h3
/-- one number of the row is written -/
theorem putR {j : Nat} {s1 : PS} {x : Int} (hR : RwM a OL D rv j s) (ha : a2 = ((168 * a + 7 * OL.length : Nat) : Int)) (h13 : s 0 13 = (a : Int)) (hC : CdM C s) (hv : rv j = (C.length : Int)) (hx : x = ((168 * a + 7 * OL.length + j : Nat) : Int)) (e : s1 = us s 12 x.toNat (s 14 (s 0 13).toNat)) : RwM a OL D rv (j + 1) s1 ∧ s1 0 13 = (a : Int) ∧ CdM C s1 := by
  have ea : (s 0 13).toNat = a := by omega
  have ex : x.toNat = 168 * a + 7 * OL.length + j := by omega
  rw [ea, hC.len h13, ex, ← hv] at e
  rw [e]
  exact ⟨hR.put, by rw [us_k (by decide)]; exact h13, hC.uk (by decide)⟩
theorem h274C {n : Nat} (h : It_X12_rule n 274 a0 a1 a2 s r t) (ha : a2 = ((168 * a + 7 * OL.length : Nat) : Int)) (h13 : s 0 13 = (a : Int)) (hC : CdM C s) (hR : RwM a OL D rv 6 s) (hv : rv 6 = (C.length : Int)) : CdM C t ∧ RwM a OL D rv 7 t ∧ t 0 13 = (a : Int) := by
  cases n with
  | zero => exact False.elim h
  | succ n =>
    have h := ul_X12_rule_274 h
    unfold T_X12_rule_274 at h
    obtain ⟨_, _, _, _, s1, e1, s2, e2, _, ht⟩ := h
    obtain ⟨k1, k2, k3⟩ := putR hR ha h13 hC hv (by omega) e1
    rw [ht, e2]
    exact ⟨k3.uk (by decide), k1.cg (us_k (by decide)), by rw [us_k (by decide)]; exact k2⟩
theorem ruleC (hN : N ≤ 1000) (hg : ∀ i, g i ≤ 255) {p : Int} (hp : (p = 0 ∧ tkq g N q = 266) ∨ (p = 1 ∧ tkq g N q = 268) ∨ (p = 2 ∧ tkq g N q = 270)) (h : M_X12_rule s p r t) (hz : t 0 8 = 0) (hR : RsM g N K M Ck W O E q s) (hC : CdM C s) (hX : OtM OL C s) (hO : OL.length = O) : CdM (C ++ ((OO g N K M q).2.2.1 ++ ((OO g N K M q).2.2.2.1 ++ (OO g N K M q).2.2.2.2))) t ∧ OtM (OL ++ [OO g N K M q]) (C ++ ((OO g N K M q).2.2.1 ++ ((OO g N K M q).2.2.2.1 ++ (OO g N K M q).2.2.2.2))) t := by
  have h256 : ¬ tkq g N q = 256 := by omega
  have hp3 : ¬ p = 3 := by omega
  have hp33 : ¬ 3 ≤ p := by omega
  have so : (OO g N K M q).1 = oSo (tkq g N) q := rfl
  have eso : ((OO g N K M q).1 : Int) = p := by
    rw [so]
    unfold oSo
    rcases hp with ⟨c1, c2⟩ | ⟨c1, c2⟩ | ⟨c1, c2⟩
    · rw [if_pos c2, c1]
      rfl
    · rw [if_neg (by omega), if_pos c2, c1]
      rfl
    · rw [if_neg (by omega), if_neg (by omega), if_pos c2, c1]
      rfl
  obtain ⟨n, h⟩ := h
  unfold T_X12_rule_e at h
  obtain ⟨ty, _, h⟩ := h
  obtain ⟨a', a1', a2', a3', a4'⟩ := id hR.2.2
  obtain ⟨a, x1, x2, x3⟩ := hX
  have eaa : a' = a := by omega
  rw [eaa] at a3'
  have ea : (s 0 13).toNat = a := by omega
  have o24 := (tyM_oth ty a).2
  rw [a3'] at o24
  rw [ea, a3', x2] at h
  have hb : ((168 * (a : Int)) + (7 * (O : Int))) = ((168 * a + 7 * OL.length : Nat) : Int) := by omega
  rw [hb] at h
  have rv0 : rvO C (OO g N K M q) 0 = p := eso
  -- the test
  have k240 : ∀ (n : Nat) (x : Int) (q5 : Nat) (s5 : PS), It_X12_rule n 240 p x ((168 * a + 7 * OL.length : Nat) : Int) s5 r t → RsM g N K M Ck W O E q5 s5 → CdM (C ++ ((OO g N K M q).2.2.1 ++ (OO g N K M q).2.2.2.1)) s5 → RwM a OL C (rvO C (OO g N K M q)) 5 s5 → s5 0 13 = (a : Int) → pD (tkq g N) (nxq g N) 1001 (ltq g N) K M q = some q5 → CdM (C ++ ((OO g N K M q).2.2.1 ++ ((OO g N K M q).2.2.2.1 ++ (OO g N K M q).2.2.2.2))) t ∧ OtM (OL ++ [OO g N K M q]) (C ++ ((OO g N K M q).2.2.1 ++ ((OO g N K M q).2.2.2.1 ++ (OO g N K M q).2.2.2.2))) t := by
    intro n x q5 s5 h R5 C5 W5 z5 eD
    cases n with
    | zero => exact False.elim h
    | succ n =>
      have h := ul_X12_rule_240 h
      unfold T_X12_rule_240 at h
      obtain ⟨_, _, _, _, s1, e1, ⟨c, _⟩ | ⟨_, ⟨_, s2, hm, hf, _, h⟩ | ⟨c, _⟩⟩⟩ := h
      · exact absurd c hp33
      · obtain ⟨k1, k2, k3⟩ := putR (j := 5) W5 rfl z5 C5 (by
          rw [List.length_append, List.length_append, ← Nat.add_assoc]
          rfl) (by omega) e1
        have R1 : RsM g N K M Ck W O E q5 s1 := by
          rw [e1]
          exact R5.c12
        by_cases z : s2 0 8 = 0
        · obtain ⟨q6, _, _, _, C6⟩ := readsTestC hN hg hm R1.1 R1.2.1 k3 z
          have o4 : (OO g N K M q).2.2.2.2 = teR g N q5 := by
            show oTe (tkq g N) (nxq g N) 1001 (nvq g N) (ltq g N) K M ntR q = _
            unfold oTe
            rw [if_neg (by omega), eD]
            rfl
          rw [← o4] at C6
          simp only [List.append_assoc] at C6
          have fin := h274C h rfl (by rw [hf.f (by decide) (by decide)]; exact k2) C6 (k1.cg (hf.1 12 (by decide))) (by
            simp only [List.length_append]
            rw [← Nat.add_assoc, ← Nat.add_assoc]
            rfl)
          exact ⟨fin.1, a, x1, fin.2.2, fin.2.1.fin⟩
        · exact absurd hz (g274 h z)
      · exact absurd R5.1.2.2.1 c
  have k204 : ∀ (n : Nat) (x : Int) (q4 : Nat) (s4 : PS), It_X12_rule n 204 p x ((168 * a + 7 * OL.length : Nat) : Int) s4 r t → RsM g N K M Ck W O E q4 s4 → CdM (C ++ ((OO g N K M q).2.2.1 ++ (OO g N K M q).2.2.2.1)) s4 → RwM a OL C (rvO C (OO g N K M q)) 4 s4 → s4 0 13 = (a : Int) → pC (tkq g N) (nxq g N) 1001 (ltq g N) K M q = some q4 → CdM (C ++ ((OO g N K M q).2.2.1 ++ ((OO g N K M q).2.2.2.1 ++ (OO g N K M q).2.2.2.2))) t ∧ OtM (OL ++ [OO g N K M q]) (C ++ ((OO g N K M q).2.2.1 ++ ((OO g N K M q).2.2.2.1 ++ (OO g N K M q).2.2.2.2))) t := by
    intro n x q4 s4 h R4 C4 W4 z4 eC
    cases n with
    | zero => exact False.elim h
    | succ n =>
      have h := ul_X12_rule_204 h
      unfold T_X12_rule_204 at h
      obtain ⟨_, _, _, _, s1, e1, ⟨c, _⟩ | ⟨_, ⟨_, s2, hm, hf, _, h⟩ | ⟨c, _⟩⟩⟩ := h
      · exact absurd c hp33
      · obtain ⟨k1, k2, k3⟩ := putR (j := 4) W4 rfl z4 C4 (by
          rw [List.length_append, List.length_append, ← Nat.add_assoc]
          rfl) (by omega) e1
        have R1 : RsM g N K M Ck W O E q4 s1 := by
          rw [e1]
          exact R4.c12
        rcases mustWordM (i := 6) hN hg (by decide) (by decide) hm R1.1 with ⟨j1, _⟩ | ⟨q5, j1, j2⟩
        · exact absurd hz (g240 h j1)
        · have j3 : psK (tkq g N) (nxq g N) 267 q4 = some q5 := j1
          refine k240 n x q5 s2 h ⟨j2, R1.2.1.fr hf (by decide), R1.2.2.fr hf (by decide)⟩ (k3.fr hf (by decide)) (k1.cg (hf.1 12 (by decide))) (by rw [hf.f (by decide) (by decide)]; exact k2) ?_
          unfold pD
          rw [eC, Option.bind_some]
          exact j3
      · exact absurd R4.1.2.2.1 c
  have k170 : ∀ (n : Nat) (x : Int) (q3 : Nat) (s3 : PS), It_X12_rule n 170 p x ((168 * a + 7 * OL.length : Nat) : Int) s3 r t → RsM g N K M Ck W O E q3 s3 → CdM (C ++ (OO g N K M q).2.2.1) s3 → RwM a OL C (rvO C (OO g N K M q)) 3 s3 → s3 0 13 = (a : Int) → pB (tkq g N) (nxq g N) 1001 q = some q3 → CdM (C ++ ((OO g N K M q).2.2.1 ++ ((OO g N K M q).2.2.2.1 ++ (OO g N K M q).2.2.2.2))) t ∧ OtM (OL ++ [OO g N K M q]) (C ++ ((OO g N K M q).2.2.1 ++ ((OO g N K M q).2.2.2.1 ++ (OO g N K M q).2.2.2.2))) t := by
    intro n x q3 s3 h R3 C3 W3 z3 eB
    cases n with
    | zero => exact False.elim h
    | succ n =>
      have h := ul_X12_rule_170 h
      unfold T_X12_rule_170 at h
      obtain ⟨_, _, _, _, s1, e1, h⟩ := h
      obtain ⟨k1, k2, k3⟩ := putR (j := 3) W3 rfl z3 C3 (by
        rw [List.length_append]
        rfl) (by omega) e1
      have R1 : RsM g N K M Ck W O E q3 s1 := by
        rw [e1]
        exact R3.c12
      rcases h with ⟨c, h⟩ | ⟨c, ⟨_, s2, hm, hf, _, h⟩ | ⟨c2, _⟩⟩
      · have e70 : tkq g N q = 270 := by omega
        have o3 : (OO g N K M q).2.2.2.1 = [] := by
          show oWw (tkq g N) (nxq g N) 1001 (ltq g N) K M ntR q = []
          unfold oWw
          rw [if_neg (by omega)]
        refine k204 n x q3 s1 h R1 (by rw [o3, List.append_nil]; exact k3) k1 k2 ?_
        unfold pC
        rw [eB, Option.bind_some, if_pos e70]
      · have n70 : ¬ tkq g N q = 270 := by omega
        by_cases z : s2 0 8 = 0
        · obtain ⟨q4, j1, j2, j3, C4⟩ := readsWhichC hN hg hm R1.1 R1.2.1 k3 z
          have o3 : (OO g N K M q).2.2.2.1 = whR g N K M q3 := by
            show oWw (tkq g N) (nxq g N) 1001 (ltq g N) K M ntR q = _
            unfold oWw
            rw [if_pos (by omega), eB]
            rfl
          rw [← o3, List.append_assoc] at C4
          refine k204 n x q4 s2 h ⟨j2, j3, R1.2.2.fr hf (by decide)⟩ C4 (k1.cg (hf.1 12 (by decide))) (by rw [hf.f (by decide) (by decide)]; exact k2) ?_
          unfold pC
          rw [eB, Option.bind_some, if_neg n70]
          exact j1
        · exact absurd hz (g204 h z)
      · exact absurd R3.1.2.2.1 c2
  have k134 : ∀ (n : Nat) (x : Int) (q2 : Nat) (s2 : PS), It_X12_rule n 134 p x ((168 * a + 7 * OL.length : Nat) : Int) s2 r t → RsM g N K M Ck W O E q2 s2 → CdM (C ++ (OO g N K M q).2.2.1) s2 → RwM a OL C (rvO C (OO g N K M q)) 2 s2 → s2 0 13 = (a : Int) → pA (tkq g N) (nxq g N) 1001 q = some q2 → CdM (C ++ ((OO g N K M q).2.2.1 ++ ((OO g N K M q).2.2.2.1 ++ (OO g N K M q).2.2.2.2))) t ∧ OtM (OL ++ [OO g N K M q]) (C ++ ((OO g N K M q).2.2.1 ++ ((OO g N K M q).2.2.2.1 ++ (OO g N K M q).2.2.2.2))) t := by
    intro n x q2 s2 h R2 C2 W2 z2 eA
    cases n with
    | zero => exact False.elim h
    | succ n =>
      have h := ul_X12_rule_134 h
      unfold T_X12_rule_134 at h
      obtain ⟨_, _, _, _, s1, e1, h⟩ := h
      obtain ⟨k1, k2, k3⟩ := putR (j := 2) W2 rfl z2 C2 (by
        rw [List.length_append]
        rfl) (by omega) e1
      have R1 : RsM g N K M Ck W O E q2 s1 := by
        rw [e1]
        exact R2.c12
      rcases h with ⟨c, ⟨_, s3, hm, hf, _, h⟩ | ⟨c2, _⟩⟩ | ⟨c, h⟩
      · rcases mustWordM (i := 8) hN hg (by decide) (by decide) hm R1.1 with ⟨j1, _⟩ | ⟨q3, j1, j2⟩
        · exact absurd hz (g170 h j1)
        · have j3 : psK (tkq g N) (nxq g N) 269 q2 = some q3 := j1
          refine k170 n x q3 s3 h ⟨j2, R1.2.1.fr hf (by decide), R1.2.2.fr hf (by decide)⟩ (k3.fr hf (by decide)) (k1.cg (hf.1 12 (by decide))) (by rw [hf.f (by decide) (by decide)]; exact k2) ?_
          unfold pB
          rw [eA, Option.bind_some, if_pos (by omega)]
          exact j3
      · exact absurd R2.1.2.2.1 c2
      · refine k170 n x q2 s1 h R1 k3 k1 k2 ?_
        unfold pB
        rw [eA, Option.bind_some, if_neg (by omega)]
  have k88 : ∀ (n : Nat) (x : Int) (s1 : PS), It_X12_rule n 88 p x ((168 * a + 7 * OL.length : Nat) : Int) s1 r t → RsM g N K M Ck W O E (nxq g N q) s1 → CdM C s1 → OtMa a OL C s1 → s1 0 13 = (a : Int) → CdM (C ++ ((OO g N K M q).2.2.1 ++ ((OO g N K M q).2.2.2.1 ++ (OO g N K M q).2.2.2.2))) t ∧ OtM (OL ++ [OO g N K M q]) (C ++ ((OO g N K M q).2.2.1 ++ ((OO g N K M q).2.2.2.1 ++ (OO g N K M q).2.2.2.2))) t := by
    intro n x s1 h R1 C1 X1 z1
    cases n with
    | zero => exact False.elim h
    | succ n =>
      have h := ul_X12_rule_88 h
      unfold T_X12_rule_88 at h
      obtain ⟨_, _, _, _, s2, e2, s3, e3, h⟩ := h
      have W0 : RwM a OL C (rvO C (OO g N K M q)) 0 s1 := ⟨X1, fun j hj => absurd hj (Nat.not_lt_zero _)⟩
      rw [Int.toNat_natCast] at e2
      have W1 : RwM a OL C (rvO C (OO g N K M q)) 1 s2 := by
        rw [e2]
        have z := W0.put
        rw [rv0] at z
        exact z
      have C2 : CdM C s2 := by
        rw [e2]
        exact C1.uk (by decide)
      have z2 : s2 0 13 = (a : Int) := by
        rw [e2, us_k (by decide)]
        exact z1
      have q14 : s1 14 = s2 14 := by rw [e2, us_k (by decide)]
      have q13 : s1 0 13 = s2 0 13 := by rw [z1, z2]
      rw [q14, q13] at e3
      obtain ⟨k1, k2, k3⟩ := putR (j := 1) W1 rfl z2 C2 rfl (by omega) e3
      have R3 : RsM g N K M Ck W O E (nxq g N q) s3 := by
        rw [e3, e2]
        exact R1.c12.c12
      have sm : ∀ s4 : PS, ¬ p = 0 → M_X12_reads s3 0 0 s4 → Fr intsM [0, 13, 14, 15, 16, 17, 18, 19, 20] [(0, 3), (0, 4), (0, 5), (0, 6), (0, 7), (0, 8), (0, 9), (0, 32), (0, 33), (0, 35), (0, 36)] s3 s4 → It_X12_rule n 134 p x ((168 * a + 7 * OL.length : Nat) : Int) s4 r t → CdM (C ++ ((OO g N K M q).2.2.1 ++ ((OO g N K M q).2.2.2.1 ++ (OO g N K M q).2.2.2.2))) t ∧ OtM (OL ++ [OO g N K M q]) (C ++ ((OO g N K M q).2.2.1 ++ ((OO g N K M q).2.2.2.1 ++ (OO g N K M q).2.2.2.2))) t := by
        intro s4 c hm hf h
        by_cases z : s4 0 8 = 0
        · obtain ⟨q2, j1, j2, j3, C4⟩ := readsSumC hN hg hm R3.1 R3.2.1 k3 z
          have o2 : (OO g N K M q).2.2.1 = smR g N (nxq g N q) := by
            show oS (tkq g N) (nxq g N) 1001 (nvq g N) q = _
            unfold oS
            rw [if_pos (by omega)]
          rw [← o2] at C4
          refine k134 n x q2 s4 h ⟨j2, j3, R3.2.2.fr hf (by decide)⟩ C4 (k1.cg (hf.1 12 (by decide))) (by rw [hf.f (by decide) (by decide)]; exact k2) ?_
          unfold pA
          rw [if_neg (by omega)]
          exact j1
        · exact absurd hz (g134 h z)
      rcases h with ⟨c, ⟨_, s4, hm, hf, _, h⟩ | ⟨c2, _⟩⟩ | ⟨c, ⟨c1, ⟨_, s4, hm, hf, _, h⟩ | ⟨c2, _⟩⟩ | ⟨c1, h⟩⟩
      · exact sm s4 (by omega) hm hf h
      · exact absurd R1.1.2.2.1 c2
      · exact sm s4 (by omega) hm hf h
      · exact absurd R1.1.2.2.1 c2
      · have e66 : tkq g N q = 266 := by omega
        have o2 : (OO g N K M q).2.2.1 = [] := by
          show oS (tkq g N) (nxq g N) 1001 (nvq g N) q = []
          unfold oS
          rw [if_neg (by omega)]
        refine k134 n x (nxq g N q) s3 h R3 (by rw [o2, List.append_nil]; exact k3) k1 k2 ?_
        unfold pA
        rw [if_pos e66]
  rcases h with ⟨c1, s1, hb2, _, _, _, e2⟩ | ⟨c1, s1, hl, hf, _, h⟩
  · exact absurd hz (by rw [e2]; exact (blameF hb2 (tyM_flt ty).1).1)
  · rcases h with ⟨c3, _⟩ | ⟨_, h⟩
    · exact absurd c3 hp3
    · rcases lookX hN hg (hR.1.mw h256) hl hf with ⟨j1, _⟩ | j1
      · exact absurd hz (g88 h j1)
      · exact k88 n _ s1 h ⟨j1, hR.2.1.fr hf (by decide), hR.2.2.fr hf (by decide)⟩ (hC.fr hf (by decide)) (x3.cg (hf.1 12 (by decide))) (by rw [hf.f (by decide) (by decide)]; exact x2)
/-- even: nothing is written -/
theorem h88C {n : Nat} (h : It_X12_rule n 88 3 a1 ((168 * a + 7 * OL.length : Nat) : Int) s r t) (h13 : s 0 13 = (a : Int)) (hC : CdM C s) (hX : OtMa a OL C s) (ho : o.1 = 3) (ho2 : o.2.2 = ([], [], [])) : CdM C t ∧ RwM a OL C (rvO C o) 7 t ∧ t 0 13 = (a : Int) := by
  have v : ∀ j, 1 ≤ j → rvO C o j = (C.length : Int) := by
    intro j hj
    unfold rvO
    rw [if_neg (by omega), ho2]
    split
    · rfl
    · split
      · rfl
      · split <;> rfl
  cases n with
  | zero => exact False.elim h
  | succ n =>
    have h := ul_X12_rule_88 h
    unfold T_X12_rule_88 at h
    obtain ⟨_, _, _, _, s2, e2, s3, e3, ⟨c, _⟩ | ⟨_, ⟨c, _⟩ | ⟨_, h⟩⟩⟩ := h
    · exact absurd c (by decide)
    · exact absurd c (by decide)
    · have W0 : RwM a OL C (rvO C o) 0 s := ⟨hX, fun j hj => absurd hj (Nat.not_lt_zero _)⟩
      rw [Int.toNat_natCast] at e2
      have rv0 : rvO C o 0 = 3 := by
        show (o.1 : Int) = 3
        rw [ho]
        rfl
      have W1 : RwM a OL C (rvO C o) 1 s2 := by
        rw [e2]
        have z := W0.put
        rw [rv0] at z
        exact z
      have C2 : CdM C s2 := by
        rw [e2]
        exact hC.uk (by decide)
      have z2 : s2 0 13 = (a : Int) := by
        rw [e2, us_k (by decide)]
        exact h13
      have q14 : s 14 = s2 14 := by rw [e2, us_k (by decide)]
      have q13 : s 0 13 = s2 0 13 := by rw [h13, z2]
      rw [q14, q13] at e3
      obtain ⟨k1, k2, k3⟩ := putR (j := 1) W1 rfl z2 C2 (v 1 (by decide)) (by omega) e3
      cases n with
      | zero => exact False.elim h
      | succ n =>
        have h := ul_X12_rule_134 h
        unfold T_X12_rule_134 at h
        obtain ⟨_, _, _, _, s4, e4, ⟨c, _⟩ | ⟨_, h⟩⟩ := h
        · exact absurd c (by decide)
        · obtain ⟨k1, k2, k3⟩ := putR (j := 2) k1 rfl k2 k3 (v 2 (by decide)) (by omega) e4
          cases n with
          | zero => exact False.elim h
          | succ n =>
            have h := ul_X12_rule_170 h
            unfold T_X12_rule_170 at h
            obtain ⟨_, _, _, _, s5, e5', ⟨_, h⟩ | ⟨c, _⟩⟩ := h
            · obtain ⟨k1, k2, k3⟩ := putR (j := 3) k1 rfl k2 k3 (v 3 (by decide)) (by omega) e5'
              cases n with
              | zero => exact False.elim h
              | succ n =>
                have h := ul_X12_rule_204 h
                unfold T_X12_rule_204 at h
                obtain ⟨_, _, _, _, s6, e6, ⟨_, h⟩ | ⟨c, _⟩⟩ := h
                · obtain ⟨k1, k2, k3⟩ := putR (j := 4) k1 rfl k2 k3 (v 4 (by decide)) (by omega) e6
                  cases n with
                  | zero => exact False.elim h
                  | succ n =>
                    have h := ul_X12_rule_240 h
                    unfold T_X12_rule_240 at h
                    obtain ⟨_, _, _, _, s7, e7, ⟨_, h⟩ | ⟨c, _⟩⟩ := h
                    · obtain ⟨k1, k2, k3⟩ := putR (j := 5) k1 rfl k2 k3 (v 5 (by decide)) (by omega) e7
                      exact h274C h rfl k2 k3 k1 (v 6 (by decide))
                    · exact absurd (by decide) c
                · exact absurd (by decide) c
            · exact absurd (by decide) c
theorem evenMC (hN : N ≤ 1000) (hg : ∀ i, g i ≤ 255) (h0 : tkq g N q = 271) (h : M_X12_rule s 3 r t) (hz : t 0 8 = 0) (hR : RsM g N K M Ck W O E q s) (hC : CdM C s) (hX : OtM OL C s) (hO : OL.length = O) : CdM C t ∧ OtM (OL ++ [OO g N K M q]) C t := by
  have h256 : ¬ tkq g N q = 256 := by omega
  have so : (OO g N K M q).1 = 3 := by
    show oSo (tkq g N) q = 3
    unfold oSo
    rw [if_neg (by omega), if_neg (by omega), if_neg (by omega)]
  have so2 : (OO g N K M q).2.2 = ([], [], []) := by
    show (oS (tkq g N) (nxq g N) 1001 (nvq g N) q, oWw (tkq g N) (nxq g N) 1001 (ltq g N) K M ntR q, oTe (tkq g N) (nxq g N) 1001 (nvq g N) (ltq g N) K M ntR q) = ([], [], [])
    unfold oS oWw oTe
    rw [if_neg (by omega), if_neg (by omega), if_pos h0]
  obtain ⟨n, h⟩ := h
  unfold T_X12_rule_e at h
  obtain ⟨ty, _, h⟩ := h
  obtain ⟨a', a1', a2', a3', a4'⟩ := id hR.2.2
  obtain ⟨a, x1, x2, x3⟩ := hX
  have eaa : a' = a := by omega
  rw [eaa] at a3'
  have ea : (s 0 13).toNat = a := by omega
  rw [ea, a3', x2] at h
  have hb : ((168 * (a : Int)) + (7 * (O : Int))) = ((168 * a + 7 * OL.length : Nat) : Int) := by omega
  rw [hb] at h
  have fin : ∀ (s3 : PS) (x : Int), It_X12_rule n 88 3 x ((168 * a + 7 * OL.length : Nat) : Int) s3 r t → s3 0 13 = (a : Int) → CdM C s3 → OtMa a OL C s3 → CdM C t ∧ OtM (OL ++ [OO g N K M q]) C t := by
    intro s3 x h z3 c3 w3
    have k := h88C (o := OO g N K M q) h z3 c3 w3 so so2
    have f := k.2.1.fin
    rw [so2] at f
    simp only [List.append_nil] at f
    exact ⟨k.1, a, x1, k.2.2, f⟩
  rcases h with ⟨c1, s1, hb2, _, _, _, e2⟩ | ⟨c1, s1, hl, hf, _, h⟩
  · exact absurd hz (by rw [e2]; exact (blameF hb2 (tyM_flt ty).1).1)
  · have z1 : s1 0 13 = (a : Int) := by
      rw [hf.f (by decide) (by decide)]
      exact x2
    have C1 := hC.fr hf (by decide)
    have w1 := x3.cg (hf.1 12 (by decide))
    rcases h with ⟨_, ⟨_, r2, s2, hm, hf2, _, h⟩ | ⟨c3, _, h⟩⟩ | ⟨c3, _⟩
    · have z2 : s2 0 13 = (a : Int) := by
        rw [hf2.f (by decide) (by decide)]
        exact z1
      rcases h with ⟨_, s3, e3, h⟩ | ⟨c3, h⟩
      · refine fin s3 _ h ?_ ?_ ?_
        · rw [e3, us_k (by decide)]
          exact z2
        · rw [e3]
          exact (C1.fr hf2 (by decide)).uk (by decide)
        · refine (w1.cg (hf2.1 12 (by decide))).cg ?_
          rw [e3, us_k (by decide)]
      · exact absurd hz (g88 h c3)
    · exact absurd hz (g88 h c3)
    · exact absurd rfl c3
end RuleC
