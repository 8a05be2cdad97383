/-! due, may, points in the reference -/
section DueM
variable {b : BST} {S : KS} {k kd a n : Nat} {o : OT} {s t u : PS} {r : Int} {C : List OPc} {OL : List OT}
theorem drop_at {l : List OT} {i : Nat} {o : OT} (h : l[i]? = some o) : l.drop i = o :: l.drop (i + 1) := by
  obtain ⟨hi, e⟩ := List.getElem?_eq_some_iff.mp h
  rw [List.drop_eq_getElem_cons hi, e]
theorem dueF_in {nK nM : Nat} (hS : KsOk n S) (hk : k < S.1) : ∀ (l : List OT) (v : Int), (∀ o ∈ l, PO nK nM o) → -2300000 ≤ v → v ≤ 2300000 → -2300000 ≤ dueF b S k l v ∧ dueF b S k l v ≤ 2300000
  | [], v, _, h1, h2 => ⟨h1, h2⟩
  | o :: l, v, h, h1, h2 => by
    show -2300000 ≤ dueF b S k l _ ∧ dueF b S k l _ ≤ 2300000
    have po := h o List.mem_cons_self
    refine dueF_in hS hk l _ (fun x hx => h x (List.mem_cons_of_mem _ hx)) ?_ ?_
    · split
      · rename_i c
        exact (sm_all (b := b) hS hk po (Or.inr c.1) (fun _ => 0) 0).1.1
      · exact h1
    · split
      · rename_i c
        exact (sm_all (b := b) hS hk po (Or.inr c.1) (fun _ => 0) 0).1.2
      · exact h2
/-- a statement's test in the reference -/
theorem isForM {p : Int} {i : Nat} (hS : KsOk n S) (hk : k < S.1) (hG : GO b OL) (h8 : b.2.1.length ≤ 8) (hE : ME b OL S s) (ho : OL[i]? = some o) (h3 : o.1 ≤ 2) (hp : p = (i : Int)) (h : M_X12_isFor s p (k : Int) r t) : ((r = 1 ∧ tsT b S k o = true) ∨ (r = 0 ∧ ¬ tsT b S k o = true)) ∧ ∀ k, ¬ k = 37 → t k = s k := by
  unfold M_X12_isFor T_X12_isFor_e at h
  obtain ⟨_, _, _, r2, s1, m1, _, _, _, r7, s6, m6, _, _, _, r12, s11, m11, _, _, h⟩ := h
  obtain ⟨C, a, a1, a2, hB, hC, hX, hK⟩ := hE
  obtain ⟨e1, q1⟩ := rowM m1 hp a2
  subst q1
  obtain ⟨e7, q7⟩ := rowM m6 hp a2
  subst q7
  obtain ⟨_, C1, C2, x0, x1, x2, x3, x4, x5, x6⟩ := hX i o ho
  have i5 : (r2 + 5).toNat = 168 * a + 7 * i + 5 := by omega
  have i6 : (r7 + 6).toNat = 168 * a + 7 * i + 6 := by omega
  rw [i5, i6, x5, x6] at m11
  have po := hG.2 o (List.mem_of_getElem? ho)
  obtain ⟨u, u1, u2, _, u4⟩ := ts_all (b := b) hS hk po h3 (fun _ => 0) 0
  have e : C = (C1 ++ (o.2.2.1 ++ o.2.2.2.1)) ++ (o.2.2.2.2 ++ C2) := by
    rw [x0]
    simp only [List.append_assoc]
  have w := worksM (kd := 0) hS hk (Or.inl rfl) h8 a2 hB hC hK e (by simp only [List.length_append]; omega) (by simp only [List.length_append]; omega) po.2.2.2.2.2.2.1 u4 m11
  refine ⟨?_, fun k hk => ?_⟩
  · rcases h with ⟨c, hr, _⟩ | ⟨c, hr, _⟩
    · exact Or.inl ⟨hr, u2.mpr (by omega)⟩
    · exact Or.inr ⟨hr, fun z => c (w.1.trans (u2.mp z))⟩
  · rcases h with ⟨_, _, ht⟩ | ⟨_, _, ht⟩
    · rw [ht]
      exact w.2 k hk
    · rw [ht]
      exact w.2 k hk
/-- its which -/
theorem isOfM {p : Int} {i : Nat} (hS : KsOk n S) (hk : k < S.1) (hG : GO b OL) (h8 : b.2.1.length ≤ 8) (h28 : ∀ o ∈ OL, o.1 = 0 ∨ o.1 = 1 → ∀ kd, kd < b.1.length → ∃ u : Int, (u = 0 ∨ u = 1) ∧ ∀ fc gr, evR (lrF b fc gr kd) o.2.2.2.1 [] = some [u]) (hE : ME b OL S s) (ho : OL[i]? = some o) (h3 : o.1 = 0 ∨ o.1 = 1) (hkd : kd < b.1.length) (hp : p = (i : Int)) (h : M_X12_isOf s p (k : Int) (kd : Int) r t) : ((r = 1 ∧ ifK b kd o = true) ∨ (r = 0 ∧ ¬ ifK b kd o = true)) ∧ ∀ k, ¬ k = 37 → t k = s k := by
  unfold M_X12_isOf T_X12_isOf_e at h
  obtain ⟨_, _, _, _, r2, s1, m1, _, _, _, r7, s6, m6, _, _, _, r12, s11, m11, _, _, h⟩ := h
  obtain ⟨C, a, a1, a2, hB, hC, hX, hK⟩ := hE
  obtain ⟨e1, q1⟩ := rowM m1 hp a2
  subst q1
  obtain ⟨e7, q7⟩ := rowM m6 hp a2
  subst q7
  obtain ⟨_, C1, C2, x0, x1, x2, x3, x4, x5, x6⟩ := hX i o ho
  have i5 : (r2 + 3).toNat = 168 * a + 7 * i + 3 := by omega
  have i6 : (r7 + 4).toNat = 168 * a + 7 * i + 4 := by omega
  rw [i5, i6, x3, x4] at m11
  have po := hG.2 o (List.mem_of_getElem? ho)
  obtain ⟨u, u1, u2⟩ := h28 o (List.mem_of_getElem? ho) h3 kd hkd
  have e : C = (C1 ++ o.2.2.1) ++ (o.2.2.2.1 ++ (o.2.2.2.2 ++ C2)) := by
    rw [x0]
    simp only [List.append_assoc]
  have w := worksM (kd := kd) (nM := b.2.1.length) hS hk (Or.inr ⟨rfl, hkd⟩) h8 a2 hB hC hK e (by simp only [List.length_append]) (by simp only [List.length_append]) (po.2.2.2.2.2.1.imp (fun _ k => k.2)) (u2 _ _) m11
  have ei : ifK b kd o = true ↔ u = 1 := by
    unfold ifK
    rw [decide_eq_true_eq, vR_of (u2 _ _)]
  refine ⟨?_, fun k hk => ?_⟩
  · rcases h with ⟨c, hr, _⟩ | ⟨c, hr, _⟩
    · exact Or.inl ⟨hr, ei.mpr (by omega)⟩
    · exact Or.inr ⟨hr, fun z => c (w.1.trans (ei.mp z))⟩
  · rcases h with ⟨_, _, ht⟩ | ⟨_, _, ht⟩
    · rw [ht]
      exact w.2 k hk
    · rw [ht]
      exact w.2 k hk
/-- its sum -/
theorem sumMw {p1 p2 : Int} {i : Nat} (hS : KsOk n S) (hk : k < S.1) (hG : GO b OL) (h8 : b.2.1.length ≤ 8) (hE : ME b OL S s) (ho : OL[i]? = some o) (h3 : o.1 = 1 ∨ o.1 = 2) (h1 : ∀ a : Nat, s 0 12 = (a : Int) → p1 = s 12 (168 * a + 7 * i + 1)) (h2 : ∀ a : Nat, s 0 12 = (a : Int) → p2 = s 12 (168 * a + 7 * i + 2)) (h : M_X12_works s p1 p2 (k : Int) (kd : Int) r t) : r = smV b S k o ∧ ∀ k, ¬ k = 37 → t k = s k := by
  obtain ⟨C, a, a1, a2, hB, hC, hX, hK⟩ := hE
  obtain ⟨_, C1, C2, x0, x1, x2, x3, x4, x5, x6⟩ := hX i o ho
  rw [h1 a a2, h2 a a2, x1, x2] at h
  have po := hG.2 o (List.mem_of_getElem? ho)
  have u := sm_all (b := b) hS hk po h3 (fun _ => 0) kd
  exact worksM (kd := kd) hS hk (Or.inl rfl) h8 a2 hB hC hK x0 rfl rfl po.2.2.2.2.1 u.2.2 h
/-- what a statement is -/
theorem sortM {p : Int} {i : Nat} (hE : ME b OL S s) (ho : OL[i]? = some o) (hp : p = (i : Int)) (h : M_X12_row s p r t) : t = s ∧ s 12 r.toNat = (o.1 : Int) ∧ (∀ a : Nat, s 0 12 = (a : Int) → r = ((168 * a + 7 * i : Nat) : Int)) := by
  obtain ⟨C, a, a1, a2, hB, hC, hX, hK⟩ := hE
  obtain ⟨e1, q1⟩ := rowM h hp a2
  refine ⟨q1, ?_, fun a' h' => ?_⟩
  · rw [e1, Int.toNat_natCast]
    exact (hX i o ho).1
  · have : a' = a := by omega
    rw [this]
    exact e1
theorem ME.oth (hE : ME b OL S s) (hG : GO b OL) : s 4 (s 0 12).toNat = (OL.length : Int) := by
  obtain ⟨C, a, a1, a2, hB, _⟩ := hE
  rw [a2, Int.toNat_natCast, hB.2.2.2.2.1, hG.1]
theorem due5M (hS : KsOk n S) (hk : k < S.1) (hG : GO b OL) (h8 : b.2.1.length ≤ 8) : ∀ (m i : Nat) (v z : Int) (s : PS) (r : Int) (t : PS), It_X12_due m 5 (k : Int) v (i : Int) z s r t → ME b OL S s → i ≤ OL.length → -2300000 ≤ v → v ≤ 2300000 → r = max 0 (min 3 (dueF b S k (OL.drop i) v)) ∧ ∀ k, ¬ k = 37 → t k = s k := by
  intro m
  induction m using Nat.strongRecOn with
  | ind m ih =>
  intro i v z s r t h hE hi v1 v2
  cases m with
  | zero => exact False.elim h
  | succ m =>
    replace h := ul_X12_due_5 h
    unfold T_X12_due_5 at h
    obtain ⟨_, _, _, h⟩ := h
    rw [hE.oth hG] at h
    rcases h with ⟨c, h⟩ | ⟨c, h⟩
    · have e : i = OL.length := by omega
      rw [e, List.drop_length]
      show r = max 0 (min 3 v) ∧ _
      rcases h with ⟨c1, ⟨c2, hr, ht⟩ | ⟨c2, hr, ht⟩⟩ | ⟨c1, hr, ht⟩
      · rw [wi_id (by omega) (by omega)] at hr
        exact ⟨by omega, fun k _ => by rw [ht]⟩
      · exact ⟨by omega, fun k _ => by rw [ht]⟩
      · exact ⟨by omega, fun k _ => by rw [ht]⟩
    · have hi2 : i < OL.length := by
        clear h
        omega
      have ho : OL[i]? = some OL[i] := List.getElem?_eq_getElem hi2
      rw [drop_at ho]
      have po := hG.2 _ (List.mem_of_getElem? ho)
      obtain ⟨r9, s8, m8, _, _, _, h⟩ := h
      obtain ⟨q8, e8', e9⟩ := sortM hE ho rfl m8
      subst q8
      rw [e8'] at h
      -- behind the choice
      have go80 : ∀ (m' : Nat) (y : Int) (s3 : PS), m' ≤ m → It_X12_due m' 80 (k : Int) v (i : Int) y s3 r t → ME b OL S s3 → (∀ k, ¬ k = 37 → s3 k = s8 k) → y = (if OL[i].1 = 2 ∧ tsT b S k OL[i] = true then smV b S k OL[i] else v) → r = max 0 (min 3 (dueF b S k (OL[i] :: OL.drop (i + 1)) v)) ∧ ∀ k, ¬ k = 37 → t k = s8 k := by
        intro m' y s3 hm' h E3 k3 hy
        cases m' with
        | zero => exact False.elim h
        | succ m' =>
          replace h := ul_X12_due_80 h
          unfold T_X12_due_80 at h
          obtain ⟨_, _, _, h⟩ := h
          have hyb : -2300000 ≤ y ∧ y ≤ 2300000 := by
            rw [hy]
            split
            · rename_i c
              exact (sm_all (b := b) hS hk po (Or.inr c.1) (fun _ => 0) 0).1
            · exact ⟨v1, v2⟩
          have w := ih m' (by omega) (i + 1) y 0 s3 r t h E3 (by omega) hyb.1 hyb.2
          rw [hy] at w
          exact ⟨w.1, fun k hk => (w.2 k hk).trans (k3 k hk)⟩
      have go79 : ∀ (m' : Nat) (y : Int) (s3 : PS), m' ≤ m → It_X12_due m' 79 (k : Int) v (i : Int) y s3 r t → ME b OL S s3 → (∀ k, ¬ k = 37 → s3 k = s8 k) → ¬ (OL[i].1 = 2 ∧ tsT b S k OL[i] = true) → r = max 0 (min 3 (dueF b S k (OL[i] :: OL.drop (i + 1)) v)) ∧ ∀ k, ¬ k = 37 → t k = s8 k := by
        intro m' y s3 hm' h E3 k3 hn
        cases m' with
        | zero => exact False.elim h
        | succ m' =>
          replace h := ul_X12_due_79 h
          unfold T_X12_due_79 at h
          obtain ⟨_, _, _, h⟩ := h
          exact go80 m' v s3 (by omega) h E3 k3 (by rw [if_neg hn])
      rcases h with ⟨c2, r15, s14, m14, _, _, _, h⟩ | ⟨c2, h⟩
      · have s2 : OL[i].1 = 2 := by omega
        obtain ⟨f1, f2⟩ := isForM hS hk hG h8 hE ho (by omega) rfl m14
        have E14 := hE.cg f2
        rcases h with ⟨c3, h⟩ | ⟨c3, r19, s18, m18, _, _, _, r24, s23, m23, _, _, _, r29, s28, m28, _, _, h⟩
        · refine go79 m 0 s14 (Nat.le_refl _) h E14 f2 (fun y => ?_)
          rcases f1 with ⟨x, _⟩ | ⟨_, x⟩
          · omega
          · exact x y.2
        · have yes : tsT b S k OL[i] = true := by
            rcases f1 with ⟨_, x⟩ | ⟨x, _⟩
            · exact x
            · exact absurd x c3
          obtain ⟨q18, _, e18⟩ := sortM E14 ho rfl m18
          subst q18
          obtain ⟨q23, _, e23⟩ := sortM E14 ho rfl m23
          subst q23
          obtain ⟨g1, g2⟩ := sumMw (kd := 0) hS hk hG h8 E14 ho (Or.inr s2) (fun a ha => by
            have z := e18 a ha
            have z2 : (r19 + 1).toNat = 168 * a + 7 * i + 1 := by omega
            rw [z2, f2 12 (by decide)]) (fun a ha => by
            have z := e23 a ha
            have z2 : (r24 + 2).toNat = 168 * a + 7 * i + 2 := by omega
            rw [z2, f2 12 (by decide)]) m28
          exact go80 m r29 s28 (Nat.le_refl _) h (E14.cg g2) (fun k hk => (g2 k hk).trans (f2 k hk)) (by rw [if_pos ⟨s2, yes⟩]; exact g1)
      · exact go79 m 0 s8 (Nat.le_refl _) h hE (fun _ _ => rfl) (fun y => c2 (by omega))
/-- due in the reference -/
theorem dueM (hS : KsOk n S) (hk : k < S.1) (hG : GO b OL) (h8 : b.2.1.length ≤ 8) (hE : ME b OL S s) (h : M_X12_due s (k : Int) r t) : r = max 0 (min 3 (dueF b S k OL 1)) ∧ ∀ k, ¬ k = 37 → t k = s k := by
  obtain ⟨m, h⟩ := h
  unfold T_X12_due_e at h
  obtain ⟨_, _, h⟩ := h
  exact due5M hS hk hG h8 m 0 1 0 s r t h hE (Nat.zero_le _) (by decide) (by decide)
end DueM
