/-! other statements, pure: their codes, the class's and the reference's -/
abbrev OT : Type := Nat × (List OPc × List OPc × List OPc) × (List OPc × List OPc × List OPc)
section OthP
variable (T N : Nat → Nat) (F : Nat) (V : Nat → Nat) (Lw : Nat → List Nat) (K M : List (List Nat))
def pA (q : Nat) : Option Nat := if T q = 266 then some (N q) else sumD T N F 8 (N q)
def pB (q : Nat) : Option Nat := (pA T N F q).bind fun a => if T q = 268 then psK T N 269 a else some a
def pC (q : Nat) : Option Nat := (pB T N F q).bind fun b => if T q = 270 then some b else eitD T N F (atW T N (knK Lw K M)) 8 b
def pD (q : Nat) : Option Nat := (pC T N F Lw K M q).bind (psK T N 267)
def pE (q : Nat) : Option Nat := (pD T N F Lw K M q).bind (eitD T N F (atT T N F) 8)
def oS (q : Nat) : List OPc := if T q = 268 ∨ T q = 270 then smE T N F V 8 (N q) else []
def oWw (nt : Nat → List OPc) (q : Nat) : List OPc := if T q = 266 ∨ T q = 268 then ctn (pB T N F q) (etE T N F nt (atW T N (knK Lw K M)) (awE T Lw K M) 8) else []
def oTe (nt : Nat → List OPc) (q : Nat) : List OPc := if T q = 271 then [] else ctn (pD T N F Lw K M q) (etE T N F nt (atT T N F) (atE T N F V Lw) 8)
def oSo (q : Nat) : Nat := if T q = 266 then 0 else if T q = 268 then 1 else if T q = 270 then 2 else 3
def oO (q : Nat) : OT := (oSo T q, (oS T N F V q, oWw T N F Lw K M ntX q, oTe T N F V Lw K M ntX q), (oS T N F V q, oWw T N F Lw K M ntR q, oTe T N F V Lw K M ntR q))
/-- the whole text with its other statements -/
def alO : Nat → BST → List OT → Nat → Option (BST × List OT)
  | 0, s, l, _ => some (s, l)
  | k + 1, s, l, q => if T q = 256 then some (s, l) else (stS T N F V Lw s q).bind fun r => alO k r.1 (if T q = 261 then l else l ++ [oO T N F V Lw s.1 s.2.1 q]) r.2
end OthP
section OthL
variable {T N : Nat → Nat} {F n : Nat} {V : Nat → Nat} {Lw : Nat → List Nat} {K M : List (List Nat)}
theorem clS_pE {q : Nat} (h : T q = 266 ∨ T q = 268 ∨ T q = 270) : clS T N F Lw K M q = (pE T N F Lw K M q).bind (psK T N 59) := by
  unfold clS pE pD pC pB pA
  rw [if_pos h]
  simp only [Option.bind_assoc]
theorem alO_fst : ∀ (k : Nat) (s : BST) (l : List OT) (q : Nat), (alO T N F V Lw k s l q).map Prod.fst = alF T N F V Lw k s q
  | 0, s, l, q => rfl
  | k + 1, s, l, q => by
    show (if T q = 256 then some (s, l) else (stS T N F V Lw s q).bind fun r => alO T N F V Lw k r.1 (if T q = 261 then l else l ++ [oO T N F V Lw s.1 s.2.1 q]) r.2).map Prod.fst = (if T q = 256 then some s else (stS T N F V Lw s q).bind fun r => alF T N F V Lw k r.1 r.2)
    by_cases c : T q = 256
    · rw [if_pos c, if_pos c]
      rfl
    · rw [if_neg c, if_neg c]
      cases stS T N F V Lw s q with
      | none => rfl
      | some r => exact alO_fst k r.1 _ r.2
/-- all codes are such -/
def AP (P : OPc → Prop) (l : List OPc) : Prop := ∀ o ∈ l, P o
theorem AP.nil {P : OPc → Prop} : AP P [] := fun o h => absurd h List.not_mem_nil
theorem AP.app {P : OPc → Prop} {a b : List OPc} (h : AP P a) (k : AP P b) : AP P (a ++ b) := fun o ho => (List.mem_append.mp ho).elim (h o) (k o)
theorem AP.one {P : OPc → Prop} {o : OPc} (h : P o) : AP P [o] := fun x hx => by
  rw [List.mem_singleton.mp hx]
  exact h
theorem AP.cons {P : OPc → Prop} {o : OPc} {l : List OPc} (h : P o) (k : AP P l) : AP P (o :: l) := (AP.one h).app k
theorem AP.ct {P : OPc → Prop} {o : Option Nat} {f : Nat → List OPc} (h : ∀ r, AP P (f r)) : AP P (ctn o f) := by
  cases o with
  | none => exact AP.nil
  | some r => exact h r
theorem AP.imp {P Q : OPc → Prop} {l : List OPc} (h : AP P l) (k : ∀ o, P o → Q o) : AP Q l := fun o ho => k _ (h o ho)
/-- a code that can be -/
def OkO (nM : Nat) (o : OPc) : Prop := o.1 ≤ 18 ∧ (o.1 = 7 → LW o.2.2) ∧ (o.1 = 9 → ∃ m : Nat, m < nM ∧ o.2.1 = (m : Int))
theorem OkO.of {nM : Nat} {o : OPc} (h : o.1 ≤ 18) (h7 : ¬ o.1 = 7) (h9 : ¬ o.1 = 9) : OkO nM o := ⟨h, fun e => absurd e h7, fun e => absurd e h9⟩
theorem OkO.mono {nM nM2 : Nat} {o : OPc} (h : OkO nM o) (h2 : nM ≤ nM2) : OkO nM2 o := ⟨h.1, h.2.1, fun e => by
  obtain ⟨m, m1, m2⟩ := h.2.2 e
  exact ⟨m, by omega, m2⟩⟩
theorem opP_k (nM c : Nat) : OkO nM (opP c) := by
  have e : (opP c).1 = 10 ∨ (opP c).1 = 11 ∨ (opP c).1 = 12 := by
    unfold opP
    show (if c = 43 then 10 else if c = 45 then 11 else 12) = 10 ∨ (if c = 43 then 10 else if c = 45 then 11 else 12) = 11 ∨ (if c = 43 then 10 else if c = 45 then 11 else 12) = 12
    split
    · exact Or.inl rfl
    · split
      · exact Or.inr (Or.inl rfl)
      · exact Or.inr (Or.inr rfl)
  exact OkO.of (by omega) (by omega) (by omega)
theorem opC_k (nM c : Nat) : OkO nM (opC c) := by
  have e : (opC c).1 = 13 ∨ (opC c).1 = 14 ∨ (opC c).1 = 15 := by
    unfold opC
    show (if c = 60 then 13 else if c = 62 then 14 else 15) = 13 ∨ (if c = 60 then 13 else if c = 62 then 14 else 15) = 14 ∨ (if c = 60 then 13 else if c = 62 then 14 else 15) = 15
    split
    · exact Or.inl rfl
    · split
      · exact Or.inr (Or.inl rfl)
      · exact Or.inr (Or.inr rfl)
  exact OkO.of (by omega) (by omega) (by omega)
theorem lpE_AP {P : OPc → Prop} {ok : Nat → Bool} {Pr : Nat → Option Nat} {E : Nat → List OPc} {op : Nat → OPc} (hE : ∀ q, AP P (E q)) (hop : ∀ c, P (op c)) : ∀ k q, AP P (lpE T N ok Pr E op k q)
  | 0, q => AP.nil
  | k + 1, q => by
    show AP P (if ok (T q) = true then E (N q) ++ ctn (Pr (N q)) (fun r => op (T q) :: lpE T N ok Pr E op k r) else [])
    split
    · exact (hE _).app (AP.ct (fun r => AP.cons (hop _) (lpE_AP hE hop k r)))
    · exact AP.nil
theorem prtE_k {nM : Nat} (hT : ∀ q, T q ≤ 282) {ES : Nat → List OPc} (hE : ∀ q, AP (OkO nM) (ES q)) (q : Nat) : AP (OkO nM) (prtE T N V ES q) := by
  unfold prtE
  split
  · exact hE _
  · split
    · exact AP.one (OkO.of (Nat.zero_le _) (show ¬ (0 : Nat) = 7 by decide) (show ¬ (0 : Nat) = 9 by decide))
    · have := hT q
      exact AP.one (OkO.of (show T q - 277 ≤ 18 by omega) (show ¬ T q - 277 = 7 by omega) (show ¬ T q - 277 = 9 by omega))
theorem smE_k {nM : Nat} (hT : ∀ q, T q ≤ 282) : ∀ d q, AP (OkO nM) (smE T N F V d q) ∧ AP (OkO nM) (prE T N F V d q)
  | 0, q => by
    have p : ∀ q, AP (OkO nM) (prE T N F V 0 q) := prtE_k (N := N) (ES := fun _ => []) hT (fun _ => AP.nil)
    refine ⟨?_, p q⟩
    rw [smE_eq]
    exact AP.app (p q) (AP.ct (fun r => lpE_AP p (opP_k nM) F r))
  | d + 1, q => by
    have p : ∀ q, AP (OkO nM) (prE T N F V (d + 1) q) := prtE_k (N := N) hT (fun q => (smE_k hT d q).1)
    refine ⟨?_, p q⟩
    rw [smE_eq]
    exact AP.app (p q) (AP.ct (fun r => lpE_AP p (opP_k nM) F r))
theorem lpE_APc {P : OPc → Prop} {ok : Nat → Bool} {Pr : Nat → Option Nat} {E : Nat → List OPc} {op : Nat → OPc} (hE : ∀ q r, Pr q = some r → AP P (E q)) (hop : ∀ c, P (op c)) : ∀ k q z, lpF T N ok Pr k q = some z → AP P (lpE T N ok Pr E op k q)
  | 0, q, z, _ => AP.nil
  | k + 1, q, z, e => by
    have e2 : (if ok (T q) = true then (Pr (N q)).bind (lpF T N ok Pr k) else some q) = some z := e
    show AP P (if ok (T q) = true then E (N q) ++ ctn (Pr (N q)) (fun r => op (T q) :: lpE T N ok Pr E op k r) else [])
    by_cases c : ok (T q) = true
    · rw [if_pos c] at e2 ⊢
      cases e4 : Pr (N q) with
      | none =>
        rw [e4] at e2
        cases e2
      | some y =>
        rw [e4] at e2
        exact (hE _ _ e4).app (AP.cons (hop _) (lpE_APc hE hop k y z e2))
    · rw [if_neg c]
      exact AP.nil
theorem etE_APc {P : OPc → Prop} {nt : Nat → List OPc} {A : Nat → Nat → Option Nat} {EA : Nat → Nat → List OPc} (h16 : P (16, 0, [])) (h17 : P (17, 0, [])) (hnt : ∀ k, AP P (nt k)) (hA : ∀ d q r, A d q = some r → AP P (EA d q)) : ∀ d : Nat, (∀ q r, eitD T N F A d q = some r → AP P (etE T N F nt A EA d q)) ∧ (∀ q r, sngD T N F A d q = some r → AP P (sgE T N F nt A EA d q)) := by
  have eit : ∀ d, (∀ q r, sngD T N F A d q = some r → AP P (sgE T N F nt A EA d q)) → ∀ q r, eitD T N F A d q = some r → AP P (etE T N F nt A EA d q) := by
    intro d hs q r e
    have bo : ∀ q r, botN T N F (sngD T N F A d) q = some r → AP P (btnE T N F (sngD T N F A d) (sgE T N F nt A EA d) q) := by
      intro q r e
      have e2 : (sngD T N F A d q).bind (lpF T N tkA (sngD T N F A d) F) = some r := e
      unfold btnE
      cases e3 : sngD T N F A d q with
      | none =>
        rw [e3] at e2
        cases e2
      | some y =>
        rw [e3] at e2
        exact (hs q y e3).app (lpE_APc (op := opA) hs (fun _ => h16) F y r e2)
    rw [eitD_eq] at e
    rw [etE_eq]
    have e2 : (botN T N F (sngD T N F A d) q).bind (lpF T N tkO (botN T N F (sngD T N F A d)) F) = some r := e
    unfold etnE
    cases e3 : botN T N F (sngD T N F A d) q with
    | none =>
      rw [e3] at e2
      cases e2
    | some y =>
      rw [e3] at e2
      exact (bo q y e3).app (lpE_APc (op := opO) bo (fun _ => h17) F y r e2)
  have sng : ∀ d, (∀ (d' : Nat) q r, d = d' + 1 → eitD T N F A d' q = some r → AP P (etE T N F nt A EA d' q)) → ∀ q r, sngD T N F A d q = some r → AP P (sgE T N F nt A EA d q) := by
    intro d hd q r e
    rw [sgE_eq]
    refine AP.app ?_ (hnt _)
    unfold coE
    cases d with
    | zero =>
      rw [sngD_z] at e
      unfold sngN at e
      by_cases c : T (ntF T N F q) = 91
      · rw [if_pos c] at e
        cases e
      · rw [if_neg c] at e
        rw [if_neg c]
        exact hA 0 _ _ e
    | succ d =>
      rw [sngD_s] at e
      unfold sngN at e
      by_cases c : T (ntF T N F q) = 91
      · rw [if_pos c] at e
        rw [if_pos c]
        cases e3 : eitD T N F A d (N (ntF T N F q)) with
        | none =>
          rw [e3] at e
          cases e
        | some y => exact hd d _ _ rfl e3
      · rw [if_neg c] at e
        rw [if_neg c]
        exact hA (d + 1) _ _ e
  intro d
  induction d with
  | zero =>
    have s := sng 0 (fun d' q r h => absurd h (by omega))
    exact ⟨eit 0 s, s⟩
  | succ d ih =>
    have s := sng (d + 1) (fun d' q r h e => by
      obtain rfl : d' = d := by omega
      exact ih.1 q r e)
    exact ⟨eit (d + 1) s, s⟩
theorem ntX_AP {P : OPc → Prop} (h : P opN) (k : Nat) : AP P (ntX k) := by
  unfold ntX
  split
  · exact AP.one h
  · exact AP.nil
theorem ntR_AP {P : OPc → Prop} (h : P opN) (k : Nat) : AP P (ntR k) := by
  intro o ho
  unfold ntR at ho
  rw [List.eq_of_mem_replicate ho]
  exact h
/-- sorts of a which -/
def wS (o : OPc) : Prop := o.1 = 6 ∨ o.1 = 8 ∨ o.1 = 9 ∨ (16 ≤ o.1 ∧ o.1 ≤ 18)
def WkO (nM : Nat) (o : OPc) : Prop := wS o ∧ OkO nM o
theorem wk_op {nM n : Nat} (h : n = 16 ∨ n = 17 ∨ n = 18) : WkO nM (n, 0, []) := ⟨Or.inr (Or.inr (Or.inr ⟨show 16 ≤ n by omega, show n ≤ 18 by omega⟩)), OkO.of (show n ≤ 18 by omega) (show ¬ n = 7 by omega) (show ¬ n = 9 by omega)⟩
theorem idx_lt {l : List (List Nat)} {w : List Nat} (h : w ∈ l) : idx l w < l.length := by
  unfold idx
  exact List.findIdx_lt_length_of_exists ⟨w, h, by simp⟩
theorem awE_k (d q r : Nat) (e : atW T N (knK Lw K M) d q = some r) : AP (WkO M.length) (awE T Lw K M d q) := by
  unfold atW at e
  unfold awE
  by_cases c : T q = 275
  · rw [if_pos c]
    exact AP.one ⟨Or.inl rfl, OkO.of (show (6 : Nat) ≤ 18 by decide) (show ¬ (6 : Nat) = 7 by decide) (show ¬ (6 : Nat) = 9 by decide)⟩
  · rw [if_neg c] at e ⊢
    by_cases c2 : T q = 258 ∧ knK Lw K M q = true
    · by_cases c3 : Lw q ∈ K
      · rw [if_pos c3]
        exact AP.one ⟨Or.inr (Or.inl rfl), OkO.of (show (8 : Nat) ≤ 18 by decide) (show ¬ (8 : Nat) = 7 by decide) (show ¬ (8 : Nat) = 9 by decide)⟩
      · have c4 : Lw q ∈ M := by
          have z := c2.2
          unfold knK at z
          rw [Bool.or_eq_true, decide_eq_true_eq, decide_eq_true_eq] at z
          rcases z with z | z
          · exact absurd z c3
          · exact z
        rw [if_neg c3]
        exact AP.one ⟨Or.inr (Or.inr (Or.inl rfl)), show (9 : Nat) ≤ 18 by decide, fun h => absurd h (show ¬ (9 : Nat) = 7 by decide), fun _ => ⟨idx M (Lw q), idx_lt c4, rfl⟩⟩
    · rw [if_neg c2] at e
      cases e
theorem atE_k {nM : Nat} (hT : ∀ q, T q ≤ 282) (hW : ∀ q, T q = 258 → LW (Lw q)) (d q r : Nat) (e : atT T N F d q = some r) : AP (OkO nM) (atE T N F V Lw d q) := by
  unfold atT at e
  unfold atE
  by_cases c : T q = 276
  · rw [if_pos c]
    exact AP.one (OkO.of (show (6 : Nat) ≤ 18 by decide) (show ¬ (6 : Nat) = 7 by decide) (show ¬ (6 : Nat) = 9 by decide))
  · rw [if_neg c] at e ⊢
    by_cases c2 : T q = 277
    · rw [if_pos c2] at e ⊢
      by_cases c3 : T (N q) = 258
      · exact AP.one ⟨show (7 : Nat) ≤ 18 by decide, fun _ => hW _ c3, fun h => absurd h (show ¬ (7 : Nat) = 9 by decide)⟩
      · rw [if_neg c3] at e
        cases e
    · rw [if_neg c2]
      exact AP.app (smE_k hT d q).1 (AP.ct (fun r => AP.app (smE_k hT d _).1 (AP.one (opC_k nM _))))
/-- numbers and facts are alike -/
def LnH (lx lr : OPc → Int) : Prop := (∀ v : Nat, v ≤ 2300000 → RelS (lx (0, (v : Int), [])) (lr (0, (v : Int), []))) ∧ ∀ k, 1 ≤ k → k ≤ 5 → RelS (lx (k, 0, [])) (lr (k, 0, []))
/-- what one of them comes to -/
def PO (nK nM : Nat) (o : OT) : Prop :=
  (o.1 = 1 ∨ o.1 = 2 → ∀ lx lr full, LnH lx lr → Dn lx lr full 10 RelS o.2.1.1 o.2.2.1) ∧
  (o.1 = 0 ∨ o.1 = 1 → ∀ lx lr full kd, kd < 32 → tb full kd = true → RelW kd (lx (6, 0, [])) (lr (6, 0, [])) → (∀ i, i < nK → RelW kd (lx (8, (i : Int), [])) (lr (8, (i : Int), []))) → (∀ i, i < nM → RelW kd (lx (9, (i : Int), [])) (lr (9, (i : Int), []))) → Dn lx lr full 21 (RelW kd) o.2.1.2.1 o.2.2.2.1) ∧
  (o.1 ≤ 2 → ∀ lx lr, LnH lx lr → RelB (lx (6, 0, [])) (lr (6, 0, [])) → (∀ w, LW w → RelB (lx (7, 0, w)) (lr (7, 0, w))) → Dn lx lr 1 21 RelB o.2.1.2.2 o.2.2.2.2) ∧ o.1 ≤ 3 ∧ AP (OkO 0) o.2.2.1 ∧ AP (WkO nM) o.2.2.2.1 ∧ AP (OkO 0) o.2.2.2.2 ∧ AP (WkO nM) o.2.1.2.1
theorem PO.mono {nK nM nK2 nM2 : Nat} {o : OT} (h : PO nK nM o) (h1 : nK ≤ nK2) (h2 : nM ≤ nM2) : PO nK2 nM2 o := ⟨h.1, fun c lx lr full kd a b d e f => h.2.1 c lx lr full kd a b d (fun i hi => e i (by omega)) (fun i hi => f i (by omega)), h.2.2.1, h.2.2.2.1, h.2.2.2.2.1, h.2.2.2.2.2.1.imp (fun _ k => ⟨k.1, k.2.mono h2⟩), h.2.2.2.2.2.2.1, h.2.2.2.2.2.2.2.imp (fun _ k => ⟨k.1, k.2.mono h2⟩)⟩
/-- tests: their smallest parts -/
theorem atDnT {lx lr : OPc → Int} (hV : ∀ q, T q = 259 → V q ≤ 2300000) (hW : ∀ q, T q = 258 → LW (Lw q)) (hL : LnH lx lr) (h6 : RelB (lx (6, 0, [])) (lr (6, 0, []))) (h7 : ∀ w, LW w → RelB (lx (7, 0, w)) (lr (7, 0, w))) (d q r : Nat) (e : atT T N F d q = some r) : Dn lx lr 1 (d + 3) RelB (atE T N F V Lw d q) (atE T N F V Lw d q) := by
  unfold atT at e
  unfold atE
  by_cases c : T q = 276
  · rw [if_pos c]
    exact (Dn.leaf (o := (6, 0, [])) (show (6 : Nat) ≤ 9 by decide) h6).le (by omega)
  · rw [if_neg c] at e ⊢
    by_cases c2 : T q = 277
    · rw [if_pos c2] at e ⊢
      by_cases c3 : T (N q) = 258
      · exact (Dn.leaf (o := (7, 0, Lw (N q))) (show (7 : Nat) ≤ 9 by decide) (h7 _ (hW _ c3))).le (by omega)
      · rw [if_neg c3] at e
        cases e
    · rw [if_neg c2] at e ⊢
      have hs := fun d => (smDn (full := 1) (T := T) (N := N) (F := F) (V := V) (fun q hq => hL.1 (V q) (hV q hq)) hL.2 d).1
      cases e3 : sumD T N F d q with
      | none =>
        rw [e3] at e
        cases e
      | some y =>
        rw [e3] at e
        have e4 : cmK T N F d y = some r := e
        unfold cmK at e4
        split at e4
        · refine Dn.two (o := opC (T y)) (D2 := d + 2) ((hs d q y e3).le (by omega)) (hs d _ _ e4) (by omega) ?_ ?_ ?_
          · unfold opC
            show ¬ (if T y = 60 then 13 else if T y = 62 then 14 else 15) ≤ 9
            split
            · decide
            · split <;> decide
          · unfold opC
            show ¬ (if T y = 60 then 13 else if T y = 62 then 14 else 15) = 18
            split
            · decide
            · split <;> decide
          · rintro a a' b b' ⟨rfl, _⟩ ⟨rfl, _⟩
            have e5 : (opC (T y)).1 = 13 ∨ (opC (T y)).1 = 14 ∨ (opC (T y)).1 = 15 := by
              unfold opC
              show (if T y = 60 then 13 else if T y = 62 then 14 else 15) = 13 ∨ (if T y = 60 then 13 else if T y = 62 then 14 else 15) = 14 ∨ (if T y = 60 then 13 else if T y = 62 then 14 else 15) = 15
              split
              · exact Or.inl rfl
              · split
                · exact Or.inr (Or.inl rfl)
                · exact Or.inr (Or.inr rfl)
            rcases e5 with e5 | e5 | e5 <;> rw [e5]
            · rw [jnX_13, jnR_13]
              refine ⟨rfl, ?_⟩
              split
              · exact Or.inl rfl
              · exact Or.inr rfl
            · rw [jnX_14, jnR_14]
              refine ⟨rfl, ?_⟩
              split
              · exact Or.inl rfl
              · exact Or.inr rfl
            · rw [jnX_15, jnR_15]
              refine ⟨rfl, ?_⟩
              split
              · exact Or.inr rfl
              · exact Or.inl rfl
        · cases e4
/-- a statement that is sound -/
theorem oO_PO (hT : ∀ q, T q ≤ 282) (hV : ∀ q, T q = 259 → V q ≤ 2300000) (hW : ∀ q, T q = 258 → LW (Lw q)) {q : Nat} (h : T q = 271 ∨ (T q = 266 ∨ T q = 268 ∨ T q = 270) ∧ ¬ pE T N F Lw K M q = none) : PO K.length M.length (oO T N F V Lw K M q) := by
  have so : (oO T N F V Lw K M q).1 = oSo T q := rfl
  have aS : AP (OkO 0) (oS T N F V q) := by
    unfold oS
    split
    · exact (smE_k hT 8 _).1
    · exact AP.nil
  rcases h with h | ⟨h, hE⟩
  · have s3 : (oO T N F V Lw K M q).1 = 3 := by
      rw [so]
      unfold oSo
      rw [if_neg (by omega), if_neg (by omega), if_neg (by omega)]
    have w : ∀ nt, oWw T N F Lw K M nt q = [] := by
      intro nt
      unfold oWw
      rw [if_neg (by omega)]
    have x : ∀ nt, oTe T N F V Lw K M nt q = [] := by
      intro nt
      unfold oTe
      rw [if_pos h]
    refine ⟨fun c => absurd c (by omega), fun c => absurd c (by omega), fun c => absurd c (by omega), by omega, aS, ?_, ?_, ?_⟩
    · show AP (WkO M.length) (oWw T N F Lw K M ntR q)
      rw [w]
      exact AP.nil
    · show AP (OkO 0) (oTe T N F V Lw K M ntR q)
      rw [x]
      exact AP.nil
    · show AP (WkO M.length) (oWw T N F Lw K M ntX q)
      rw [w]
      exact AP.nil
  · have eA : ∃ a, pA T N F q = some a := by
      cases e : pA T N F q with
      | some a => exact ⟨a, rfl⟩
      | none =>
        refine absurd ?_ hE
        unfold pE pD pC pB
        rw [e]
        rfl
    obtain ⟨a, eA⟩ := eA
    have eB : ∃ b, pB T N F q = some b := by
      cases e : pB T N F q with
      | some b => exact ⟨b, rfl⟩
      | none =>
        refine absurd ?_ hE
        unfold pE pD pC
        rw [e]
        rfl
    obtain ⟨b, eB⟩ := eB
    have eC : ∃ c, pC T N F Lw K M q = some c := by
      cases e : pC T N F Lw K M q with
      | some c => exact ⟨c, rfl⟩
      | none =>
        refine absurd ?_ hE
        unfold pE pD
        rw [e]
        rfl
    obtain ⟨c, eC⟩ := eC
    have eD : ∃ d, pD T N F Lw K M q = some d := by
      cases e : pD T N F Lw K M q with
      | some d => exact ⟨d, rfl⟩
      | none =>
        refine absurd ?_ hE
        unfold pE
        rw [e]
        rfl
    obtain ⟨d, eD⟩ := eD
    have eE : ∃ z, eitD T N F (atT T N F) 8 d = some z := by
      unfold pE at hE
      rw [eD, Option.bind_some] at hE
      cases e : eitD T N F (atT T N F) 8 d with
      | some z => exact ⟨z, rfl⟩
      | none => exact absurd e hE
    obtain ⟨z, eE⟩ := eE
    have aW : ∀ nt : Nat → List OPc, (∀ k, AP (WkO M.length) (nt k)) → AP (WkO M.length) (oWw T N F Lw K M nt q) := by
      intro nt hn
      unfold oWw
      by_cases c1 : T q = 266 ∨ T q = 268
      · rw [if_pos c1, eB]
        have e2 : eitD T N F (atW T N (knK Lw K M)) 8 b = some c := by
          unfold pC at eC
          rw [eB, Option.bind_some, if_neg (by omega)] at eC
          exact eC
        exact (etE_APc (wk_op (Or.inl rfl)) (wk_op (Or.inr (Or.inl rfl))) hn awE_k 8).1 _ _ e2
      · rw [if_neg c1]
        exact AP.nil
    have aT : AP (OkO 0) (oTe T N F V Lw K M ntR q) := by
      unfold oTe
      rw [if_neg (by omega), eD]
      exact (etE_APc (wk_op (Or.inl rfl)).2 (wk_op (Or.inr (Or.inl rfl))).2 (ntR_AP (wk_op (Or.inr (Or.inr rfl))).2) (atE_k hT hW) 8).1 _ _ eE
    refine ⟨fun c1 lx lr full hL => ?_, fun c1 lx lr full kd hk hf h6 h8 h9 => ?_, fun c1 lx lr hL h6 h7 => ?_, ?_, aS, aW _ (ntR_AP (wk_op (Or.inr (Or.inr rfl)))), aT, aW _ (ntX_AP (wk_op (Or.inr (Or.inr rfl))))⟩
    · have n66 : ¬ T q = 266 := by
        intro e
        rw [so] at c1
        unfold oSo at c1
        rw [if_pos e] at c1
        omega
      have e2 : sumD T N F 8 (N q) = some a := by
        unfold pA at eA
        rw [if_neg n66] at eA
        exact eA
      show Dn lx lr full 10 RelS (oS T N F V q) (oS T N F V q)
      unfold oS
      rw [if_pos (by omega)]
      exact (smDn (fun q hq => hL.1 (V q) (hV q hq)) hL.2 8).1 _ _ e2
    · have n70 : T q = 266 ∨ T q = 268 := by
        rcases h with h | h | h
        · exact Or.inl h
        · exact Or.inr h
        · rw [so] at c1
          unfold oSo at c1
          rw [if_neg (by omega), if_neg (by omega), if_pos h] at c1
          omega
      have e2 : eitD T N F (atW T N (knK Lw K M)) 8 b = some c := by
        unfold pC at eC
        rw [eB, Option.bind_some, if_neg (by omega)] at eC
        exact eC
      show Dn lx lr full 21 (RelW kd) (oWw T N F Lw K M ntX q) (oWw T N F Lw K M ntR q)
      unfold oWw
      rw [if_pos n70, if_pos n70, eB]
      exact (etDn (F := F) (awDn (full := full) (T := T) (N := N) (Lw := Lw) (K := K) (M := M) h6 (fun q _ hq => h8 _ (idx_lt hq)) (fun q _ hq => h9 _ (idx_lt hq))) (RelW.nt hk hf) (fun _ _ h => h.u01) (RelW.an hk) (RelW.orr hk) 8).1 _ _ e2
    · show Dn lx lr 1 21 RelB (oTe T N F V Lw K M ntX q) (oTe T N F V Lw K M ntR q)
      unfold oTe
      rw [if_neg (by omega), if_neg (by omega), eD]
      exact (etDn (F := F) (atDnT (N := N) (F := F) hV hW hL h6 h7) RelB.nt (fun _ _ h => h.u01) RelB.an RelB.orr 8).1 _ _ eE
    · rw [so]
      unfold oSo
      split
      · decide
      · split
        · decide
        · split <;> decide
/-- the kinds and marks only grow -/
theorem mkF_len {K : List (List Nat)} : ∀ (k : Nat) (M cur : List (List Nat)) (q : Nat) (x : (List (List Nat) × List (List Nat)) × Nat), mkF T N Lw K k M cur q = some x → M.length ≤ x.1.1.length
  | 0, M, cur, q, x, e => by
    have e2 : some ((M, cur), q) = some x := e
    rw [← Option.some.inj e2]
    exact Nat.le_refl _
  | k + 1, M, cur, q, x, e => by
    have e2 : (if T (N q) = 258 ∧ ¬ Lw (N q) ∈ K ∧ ¬ Lw (N q) ∈ cur ∧ (Lw (N q) ∈ M ∨ M.length < 8) then (if T (N (N q)) = 44 then mkF T N Lw K k (if Lw (N q) ∈ M then M else M ++ [Lw (N q)]) (cur ++ [Lw (N q)]) (N (N q)) else some ((if Lw (N q) ∈ M then M else M ++ [Lw (N q)], cur ++ [Lw (N q)]), N (N q))) else none) = some x := e
    have g : M.length ≤ (if Lw (N q) ∈ M then M else M ++ [Lw (N q)]).length := by
      split
      · exact Nat.le_refl _
      · rw [List.length_append]
        omega
    split at e2
    · split at e2
      · exact Nat.le_trans g (mkF_len k _ _ _ x e2)
      · rw [← Option.some.inj e2]
        exact g
    · cases e2
theorem kdS_len {q : Nat} {x : (List (List Nat) × List (List Nat) × (Nat × Nat × Nat)) × Nat} (e : kdS T N F V Lw K M q = some x) : M.length ≤ x.1.1.length := by
  unfold kdS at e
  split at e
  · cases e1 : nmK T N V 262 1 500 (N (N q)) with
    | none =>
      rw [e1] at e
      cases e
    | some a =>
      rw [e1, Option.bind_some] at e
      cases e2 : nmK T N V 263 0 1000 a with
      | none =>
        rw [e2] at e
        cases e
      | some b =>
        rw [e2, Option.bind_some] at e
        cases e3 : nmK T N V 264 0 200 b with
        | none =>
          rw [e3] at e
          cases e
        | some c =>
          rw [e3, Option.bind_some] at e
          cases e4 : (if T c = 265 then mkF T N Lw (K ++ [Lw (N q)]) F M [] c else some ((M, []), c)) with
          | none =>
            rw [e4] at e
            cases e
          | some m =>
            rw [e4, Option.bind_some] at e
            have l : M.length ≤ m.1.1.length := by
              split at e4
              · exact mkF_len _ _ _ _ _ e4
              · rw [← Option.some.inj e4]
                exact Nat.le_refl _
            cases e5 : psK T N 59 m.2 with
            | none =>
              rw [e5] at e
              cases e
            | some z =>
              rw [e5, Option.bind_some] at e
              rw [← Option.some.inj e]
              exact l
  · cases e
def GO (b : BST) (l : List OT) : Prop := l.length = b.2.2.2.2.1 ∧ ∀ o ∈ l, PO b.1.length b.2.1.length o
theorem GO.st (hT : ∀ q, T q ≤ 282) (hV : ∀ q, T q = 259 → V q ≤ 2300000) (hW : ∀ q, T q = 258 → LW (Lw q)) {b : BST} {l : List OT} {q : Nat} {r : BST × Nat} (h : GO b l) (e : stS T N F V Lw b q = some r) : GO r.1 (if T q = 261 then l else l ++ [oO T N F V Lw b.1 b.2.1 q]) := by
  unfold stS at e
  by_cases c : T q = 261
  · rw [if_pos c] at e ⊢
    cases e2 : kdS T N F V Lw b.1 b.2.1 q with
    | none =>
      rw [e2] at e
      cases e
    | some x =>
      rw [e2, Option.bind_some] at e
      have lm := kdS_len e2
      rw [← Option.some.inj e]
      refine ⟨h.1, fun o ho => (h.2 o ho).mono ?_ lm⟩
      show b.1.length ≤ (b.1 ++ [Lw (N q)]).length
      rw [List.length_append]
      omega
  · rw [if_neg c] at e ⊢
    split at e
    · cases e2 : (if T q = 271 then (nmK T N V 271 0 1000 q).bind (psK T N 59) else clS T N F Lw b.1 b.2.1 q) with
      | none =>
        rw [e2] at e
        cases e
      | some z =>
        rw [e2, Option.bind_some] at e
        rw [← Option.some.inj e]
        refine ⟨?_, fun o ho => ?_⟩
        · show (l ++ [oO T N F V Lw b.1 b.2.1 q]).length = b.2.2.2.2.1 + 1
          rw [List.length_append, h.1]
          rfl
        · show PO b.1.length b.2.1.length o
          rcases List.mem_append.mp ho with ho | ho
          · exact h.2 o ho
          · rw [List.mem_singleton.mp ho]
            refine oO_PO hT hV hW ?_
            by_cases c2 : T q = 271
            · exact Or.inl c2
            · rw [if_neg c2] at e2
              have c3 : T q = 266 ∨ T q = 268 ∨ T q = 270 := by
                by_cases c3 : T q = 266 ∨ T q = 268 ∨ T q = 270
                · exact c3
                · unfold clS at e2
                  rw [if_neg c3] at e2
                  cases e2
              refine Or.inr ⟨c3, fun y => ?_⟩
              rw [clS_pE c3, y] at e2
              cases e2
    · cases e
end OthL
