/-! rules of the class: codes, rows, the kinds of each which -/
theorem tb_shl {k j : Nat} (hk : k < 32) (hj : j < 32) : tb (iShl 1 (k : Int)) j = decide (k = j) := by
  rw [tb_get _ hj]
  have e1 : Int32.ofInt (iShl 1 (k : Int)) = (Int32.ofInt 1 <<< (Int32.ofInt (k : Int) &&& 31)) := by
    have e : iShl 1 (k : Int) = (Int32.ofInt 1 <<< (Int32.ofInt (k : Int) &&& 31)).toInt := rfl
    rw [e, Int32.ofInt_toInt]
  rw [e1, shl_one ⟨k, hk⟩, BitVec.getLsbD_twoPow]
  show (decide (k < 32) && decide (k = j)) = _
  rw [decide_eq_true hk, Bool.true_and]
theorem tb_every0 : ∀ n : Fin 11, ∀ k : Fin 10, k.val < n.val → tb (wi (iShl 1 (n.val : Int) - 1)) k.val = true := by decide +kernel
theorem tb_every {n k : Nat} (hn : n ≤ 10) (hk : k < n) : tb (wi (iShl 1 (n : Int) - 1)) k = true := tb_every0 ⟨n, by omega⟩ ⟨k, by omega⟩ hk
/-- a kind has a mark -/
def hmB (b : BST) (kd m : Nat) : Bool := match b.2.1[m]? with
  | none => false
  | some l => match b.2.2.1[kd]? with
    | none => false
    | some c => decide (l ∈ c)
/-- what a leaf is worth: in the reference, in the class -/
def lrF (b : BST) (fc : Nat → Int) (gr : List Nat → Int) (kd : Nat) (o : OPc) : Int := if o.1 = 0 then o.2.1 else if o.1 ≤ 5 then fc (o.1 - 1) else if o.1 = 6 then 1 else if o.1 = 7 then gr o.2.2 else if o.1 = 8 then (if (kd : Int) = o.2.1 then 1 else 0) else b01 (hmB b kd o.2.1.toNat)
def lxF (fc : Nat → Int) (gr : List Nat → Int) (full : Int) (mk : Nat → Int) (o : OPc) : Int := if o.1 = 0 then o.2.1 else if o.1 ≤ 5 then fc (o.1 - 1) else if o.1 = 6 then full else if o.1 = 7 then gr o.2.2 else if o.1 = 8 then iShl 1 o.2.1 else mk o.2.1.toNat
section LeafF
variable {b : BST} {fc : Nat → Int} {gr : List Nat → Int} {full : Int} {mk : Nat → Int} {kd : Nat} {lf lf2 : OPc → Int}
theorem lxF_L {A : List (List Nat)} {s : PS} {m : Nat} (h1 : ∀ k, k < 5 → fc k = s 61 k) (h2 : ∀ (j : Nat) (w : List Nat), A[j]? = some w → s 62 j = gr w) : LfX m full A (lxF fc gr full (s m)) s := by
  intro o
  refine ⟨fun e => ?_, fun e1 e2 => ?_, fun e => ?_, fun e j hj => ?_, fun e n hn => ?_, fun e n hn => ?_⟩
  · unfold lxF
    rw [if_pos e]
  · unfold lxF
    rw [if_neg (by omega), if_pos e2]
    exact h1 _ (by omega)
  · unfold lxF
    rw [if_neg (by omega), if_neg (by omega), if_pos e]
  · unfold lxF
    rw [if_neg (by omega), if_neg (by omega), if_neg (by omega), if_pos e]
    exact h2 j _ hj
  · unfold lxF
    rw [if_neg (by omega), if_neg (by omega), if_neg (by omega), if_neg (by omega), if_pos e, hn]
  · unfold lxF
    rw [if_neg (by omega), if_neg (by omega), if_neg (by omega), if_neg (by omega), if_neg (by omega), hn, Int.toNat_natCast]
theorem lx_6 : lxF fc gr full mk (6, 0, []) = full := rfl
theorem lx_7 (w : List Nat) : lxF fc gr full mk (7, 0, w) = gr w := rfl
theorem lx_8 (i : Nat) : lxF fc gr full mk (8, (i : Int), []) = iShl 1 (i : Int) := rfl
theorem lx_9 (i : Nat) : lxF fc gr full mk (9, (i : Int), []) = mk i := rfl
theorem lr_6 : lrF b fc gr kd (6, 0, []) = 1 := rfl
theorem lr_7 (w : List Nat) : lrF b fc gr kd (7, 0, w) = gr w := rfl
theorem lr_8 (i : Nat) : lrF b fc gr kd (8, (i : Int), []) = if (kd : Int) = (i : Int) then 1 else 0 := rfl
theorem lr_9 (i : Nat) : lrF b fc gr kd (9, (i : Int), []) = b01 (hmB b kd i) := rfl
/-- numbers are small -/
def FcOk (fc : Nat → Int) : Prop := ∀ k, k < 5 → -2300000 ≤ fc k ∧ fc k ≤ 2300000
theorem lnH (h : FcOk fc) : LnH (lxF fc gr full mk) (lrF b fc gr kd) := by
  refine ⟨fun v hv => ⟨rfl, ?_⟩, fun k h1 h2 => ?_⟩
  · show -2300000 ≤ (v : Int) ∧ (v : Int) ≤ 2300000
    omega
  · have e1 : lxF fc gr full mk (k, 0, []) = fc (k - 1) := by
      unfold lxF
      rw [if_neg (show ¬ k = 0 by omega), if_pos (show k ≤ 5 by omega)]
    have e2 : lrF b fc gr kd (k, 0, []) = fc (k - 1) := by
      unfold lrF
      rw [if_neg (show ¬ k = 0 by omega), if_pos (show k ≤ 5 by omega)]
    unfold RelS
    rw [e1, e2]
    exact ⟨rfl, h _ (by omega)⟩
/-- only the leaves that stand there count -/
theorem stX_cg {o : OPc} (h : o.1 ≤ 9 → lf o = lf2 o) : ∀ st : List Int, stX lf full o st = stX lf2 full o st
  | [] => by
    show (if o.1 ≤ 9 then [lf o] else []) = (if o.1 ≤ 9 then [lf2 o] else [])
    split
    · rename_i c
      rw [h c]
    · rfl
  | [a] => by
    show (if o.1 ≤ 9 then [lf o, a] else _) = (if o.1 ≤ 9 then [lf2 o, a] else _)
    split
    · rename_i c
      rw [h c]
    · rfl
  | b :: a :: st => by
    show (if o.1 ≤ 9 then (if st.length + 2 < 64 then lf o :: b :: a :: st else b :: a :: st) else _) = (if o.1 ≤ 9 then (if st.length + 2 < 64 then lf2 o :: b :: a :: st else b :: a :: st) else _)
    split
    · rename_i c
      rw [h c]
    · rfl
theorem evX_cg : ∀ (l : List OPc) (st : List Int), (∀ o ∈ l, o.1 ≤ 9 → lf o = lf2 o) → evX lf full l st = evX lf2 full l st
  | [], _, _ => rfl
  | o :: l, st, h => by
    show evX lf full l (stX lf full o st) = evX lf2 full l (stX lf2 full o st)
    rw [stX_cg (h o List.mem_cons_self)]
    exact evX_cg l _ (fun x hx => h x (List.mem_cons_of_mem _ hx))
theorem stR_cg {o : OPc} (h : o.1 ≤ 9 → lf o = lf2 o) : ∀ st : List Int, stR lf o st = stR lf2 o st
  | [] => by
    show (if o.1 ≤ 9 then some [lf o] else none) = (if o.1 ≤ 9 then some [lf2 o] else none)
    split
    · rename_i c
      rw [h c]
    · rfl
  | [a] => by
    show (if o.1 ≤ 9 then some [lf o, a] else _) = (if o.1 ≤ 9 then some [lf2 o, a] else _)
    split
    · rename_i c
      rw [h c]
    · rfl
  | b :: a :: st => by
    show (if o.1 ≤ 9 then some (lf o :: b :: a :: st) else _) = (if o.1 ≤ 9 then some (lf2 o :: b :: a :: st) else _)
    split
    · rename_i c
      rw [h c]
    · rfl
theorem evR_cg : ∀ (l : List OPc) (st : List Int), (∀ o ∈ l, o.1 ≤ 9 → lf o = lf2 o) → evR lf l st = evR lf2 l st
  | [], _, _ => rfl
  | o :: l, st, h => by
    show (stR lf o st).bind (evR lf l) = (stR lf2 o st).bind (evR lf2 l)
    rw [stR_cg (h o List.mem_cons_self)]
    cases stR lf2 o st with
    | none => rfl
    | some st2 => exact evR_cg l st2 (fun x hx => h x (List.mem_cons_of_mem _ hx))
/-- a which doesn't look at a child -/
theorem evR_w {l : List OPc} {nM : Nat} (h : AP (WkO nM) l) (fc2 : Nat → Int) (gr2 : List Nat → Int) (st : List Int) : evR (lrF b fc gr kd) l st = evR (lrF b fc2 gr2 kd) l st := by
  refine evR_cg l st (fun o ho h9 => ?_)
  have w := (h o ho).1
  unfold wS at w
  unfold lrF
  rw [if_neg (by omega), if_neg (by omega), if_neg (show ¬ o.1 = 0 by omega), if_neg (show ¬ o.1 ≤ 5 by omega)]
  split
  · rfl
  · have h7 : ¬ o.1 = 7 := by omega
    rw [if_neg h7, if_neg h7]
end LeafF
/-- the class's kinds of each which -/
def Wh28 (b : BST) (OL : List OT) (s : PS) : Prop := ∀ (j : Nat) (o : OT), OL[j]? = some o → o.1 = 0 ∨ o.1 = 1 → ∀ kd, kd < b.1.length → ∀ fc gr, evR (lrF b fc gr kd) o.2.2.2.1 [] = some [b01 (tb (s 28 j) kd)]
section ChooseC
variable {g : Nat → Nat} {N q : Nat} {s t u : PS} {r : Int} {C : List OPc} {OL : List OT} {o : OT} {b : BST} {full : Int} {lf : OPc → Int}
theorem seg_get {A B D : List OPc} (e : C = A ++ (B ++ D)) {j : Nat} (h : j < B.length) : ∃ h2 : A.length + j < C.length, C[A.length + j] = B[j] := by
  subst e
  have h2 : A.length + j < (A ++ (B ++ D)).length := by
    simp only [List.length_append]
    omega
  refine ⟨h2, ?_⟩
  rw [List.getElem_append_right (by omega)]
  have e3 : A.length + j - A.length = j := by omega
  simp only [e3]
  exact List.getElem_append_left h
theorem OpX.wh {A : List (List Nat)} {o : OPc} {z : Int} (h : OpX A o z) (w : wS o) : OpX [] o z := by
  unfold wS at w
  obtain ⟨n, k, h1, h2, h3, h4⟩ := h
  refine ⟨n, k, h1, h2, h3, ?_⟩
  rcases h4 with h | h | h | ⟨h, _⟩ | h
  · exact Or.inl h
  · exact Or.inr (Or.inl h)
  · exact Or.inr (Or.inr (Or.inl h))
  · omega
  · exact Or.inr (Or.inr (Or.inr (Or.inr h)))
theorem LfX.cg {m : Nat} {A : List (List Nat)} (h : LfX m full A lf s) (e61 : t 61 = s 61) (e62 : t 62 = s 62) (em : t m = s m) : LfX m full A lf t := by
  intro o
  rw [e61, e62, em]
  exact h o
/-- the value of a piece of code, in the book that is read -/
theorem value16 {A : List (List Nat)} {l : List OPc} {i : Nat} {p2 p3 v : Int} (h : M_X5_value_16 s p2 p3 full r t) (h2 : p2 = (i : Int)) (h3 : p3 = ((i + l.length : Nat) : Int)) (hO : ∀ (j : Nat) (h : j < l.length), OpX A l[j] (s 29 (i + j))) (hL : LfX 22 full A lf s) (hv : evX lf full l [] = [v]) : r = v ∧ ∀ k, ¬ k = 63 → t k = s k := by
  obtain ⟨m, h⟩ := h
  unfold T_X5_value_16_e at h
  obtain ⟨_, _, _, h⟩ := h
  rw [h2] at h
  exact valueL16 l m i 0 [] s r t h hO (by rw [h3]; omega) True.intro hL hv
theorem chooseL (hC : CdX C s) (hL : LfX 22 full [] lf s) (hW : ∀ o ∈ OL, AP (WkO b.2.1.length) o.2.1.2.1) : ∀ (n i : Nat) (s1 t : PS) (r : Int), It_X5_chooseKinds_16 n full (i : Int) s1 r t → (∀ k, ¬ k = 28 → ¬ k = 63 → s1 k = s k) → s 16 8 = (OL.length : Int) → RoX OL C s → (∀ (j : Nat) (o : OT), j < i → OL[j]? = some o → ∀ v, evX lf full o.2.1.2.1 [] = [v] → s1 28 j = v) → ∀ (j : Nat) (o : OT), OL[j]? = some o → ∀ v, evX lf full o.2.1.2.1 [] = [v] → t 28 j = v
  | 0, i, s1, t, r, h, _, _, _, _ => False.elim h
  | n + 1, i, s1, t, r, h, hk, h8, hX, hd => by
    replace h := ul_X5_chooseKinds_16_11 h
    unfold T_X5_chooseKinds_16_11 at h
    obtain ⟨_, _, h⟩ := h
    rw [hk 16 (by decide) (by decide), h8, Int.toNat_natCast] at h
    rcases h with ⟨c, _, es⟩ | ⟨c, r5, s4, hm, hf, _, s7, e7, h⟩
    · intro j o ho v hv
      have hj := (List.getElem?_eq_some_iff.mp ho).1
      rw [es]
      exact hd j o (by omega) ho v hv
    · have hi : i < OL.length := by omega
      have f4 : ∀ k, ¬ k = 63 → s4 k = s1 k := fun k h => hf.1 k (by simp only [List.mem_cons, List.not_mem_nil, or_false]; exact h)
      refine chooseL hC hL hW n (i + 1) s7 t r h (fun k k1 k2 => ?_) h8 hX (fun j o hj ho v hv => ?_)
      · rw [e7, us_k k1, f4 k k2]
        exact hk k k1 k2
      · by_cases e : j = i
        · have ev : s7 28 j = r5 := by rw [e7, e, us_at]
          rw [ev]
          obtain ⟨_, C1, C2, x1, x2, x3, x4, x5⟩ := hX j o ho
          have hw := hW o (List.mem_of_getElem? ho)
          rw [hk 25 (by decide) (by decide), hk 26 (by decide) (by decide), ← e, x3, x4] at hm
          have e2 : C = (C1 ++ o.2.1.1) ++ (o.2.1.2.1 ++ (o.2.1.2.2 ++ C2)) := by rw [x1, List.append_assoc]
          refine (value16 (A := []) (l := o.2.1.2.1) (i := C1.length + o.2.1.1.length) (lf := lf) hm rfl rfl (fun z hz => ?_) (hL.cg (hk 61 (by decide) (by decide)) (hk 62 (by decide) (by decide)) (hk 22 (by decide) (by decide))) hv).1
          obtain ⟨y1, y2⟩ := seg_get e2 hz
          have l2 : (C1 ++ o.2.1.1).length = C1.length + o.2.1.1.length := List.length_append
          obtain ⟨_, A, _, _, _, _, hO⟩ := hC
          have op := hO _ y1
          rw [y2] at op
          rw [hk 29 (by decide) (by decide)]
          simp only [l2] at op
          exact op.wh (hw _ (List.getElem_mem hz)).1
        · rw [e7, us_j e, f4 28 (by decide)]
          exact hd j o (by omega) ho v hv
theorem chooseC (h : M_X5_chooseKinds_16 s r t) (hC : CdX C s) (hB : BrX b s) (hX : RoX OL C s) (hG : GO b OL) : Wh28 b OL t := by
  obtain ⟨n, h⟩ := h
  unfold T_X5_chooseKinds_16_e at h
  obtain ⟨ty, h⟩ := h
  obtain ⟨b1, b2, b3, b4, b5, b6, b7⟩ := hB
  have k10 := tyX_kinds ty
  have m8 := tyX_marks ty
  have l10 : b.1.length ≤ 10 := by
    have := b1.1
    omega
  have lm8 : b.2.1.length ≤ 8 := by
    have := b1.2.1
    omega
  rw [b1.1] at h
  have hLf : LfX 22 (wi (iShl 1 (b.1.length : Int) - 1)) [] (lxF (s 61) (fun _ => 0) (wi (iShl 1 (b.1.length : Int) - 1)) (s 22)) s := lxF_L (fun _ _ => rfl) (fun j w hw => by cases hw)
  have k := chooseL hC hLf (fun o ho => (hG.2 o ho).2.2.2.2.2.2.2) n 0 s t r h (fun _ _ _ => rfl) (b6.trans (by rw [hG.1])) hX (fun j o hj => absurd hj (Nat.not_lt_zero _))
  intro j o ho hs kd hkd fc gr
  have po := hG.2 o (List.mem_of_getElem? ho)
  have dn := po.2.1 (by omega) (lxF (s 61) (fun _ => 0) (wi (iShl 1 (b.1.length : Int) - 1)) (s 22)) (lrF b fc gr kd) (wi (iShl 1 (b.1.length : Int) - 1)) kd (by omega) (tb_every l10 hkd) ?_ (fun i hi => ?_) (fun i hi => ?_)
  · obtain ⟨v, u, h1, h2, h3⟩ := dn
    have e1 := k j o ho v (h2 [] (by decide))
    rw [h3 [], e1]
    unfold RelW at h1
    rw [h1]
  · unfold RelW
    rw [lx_6, lr_6, tb_every l10 hkd]
    rfl
  · unfold RelW
    rw [lx_8, lr_8, tb_shl (by omega) (by omega)]
    unfold b01
    by_cases c : kd = i
    · rw [if_pos (by omega), if_pos (by rw [decide_eq_true_eq]; exact c.symm)]
    · rw [if_neg (by omega), if_neg (by rw [decide_eq_true_eq]; exact fun z => c z.symm)]
  · unfold RelW
    rw [lx_9, lr_9]
    congr 1
    have hm : b.2.1[i]? = some b.2.1[i] := List.getElem?_eq_getElem hi
    have z := b2.2.2 i _ hm kd (by omega)
    have hc : b.2.2.1[kd]? = some (b.2.2.1[kd]'(by omega)) := List.getElem?_eq_getElem (by omega)
    unfold hmB
    rw [hm]
    show (match b.2.2.1[kd]? with | none => false | some c => decide (b.2.1[i] ∈ c)) = _
    rw [hc]
    show decide (b.2.1[i] ∈ b.2.2.1[kd]) = tb (s 22 i) kd
    cases e : tb (s 22 i) kd with
    | true =>
      obtain ⟨c, y1, y2⟩ := z.mp e
      rw [hc] at y1
      rw [Option.some.inj y1]
      exact decide_eq_true y2
    | false =>
      refine decide_eq_false (fun y => ?_)
      have := z.mpr ⟨_, hc, y⟩
      rw [e] at this
      exact absurd this (by decide)
/-- the whole reader, with codes -/
theorem allXC (hN : N ≤ 1000) (hg : ∀ i, g i ≤ 255) (h : M_X8_readsAll_16 s 1 t) (hT : TpX g N s) (hO : OWX s) : ∃ b OL C q, rdO g N = some (b, OL) ∧ SX g N b q t ∧ CdX C t ∧ RoX OL C t ∧ GO b OL := by
  obtain ⟨n, h⟩ := h
  unfold T_X8_readsAll_16_e at h
  obtain ⟨_, s0, f0, s1, f1, s2, f2, s3, f3, s4, hm4, hf4, _, s5, hm5, hf5, _, h⟩ := h
  unfold M_X1_empty_at16 T_X1_empty_at16_e at hm4
  obtain ⟨_, t1, u1, t2, u2, t3, u3, t4, u4, t5, u5, t6, u6, _, us6⟩ := hm4
  have e3 : s3 = us (us (us s 34 2 0) 34 3 (-1)) 34 4 0 := by rw [f3, f2, f1, f0]
  have e4 : s4 = us (us (us (us (us (us s3 16 0 0) 16 5 0) 16 8 0) 16 9 1000) 16 17 0) 16 19 0 := by rw [us6, u6, u5, u4, u3, u2, u1]
  have T4 : TpX g N s4 := hT.cg (by rw [e4, e3]; simp only [us_k (show ¬ 32 = 16 by decide), us_k (show ¬ 32 = 34 by decide)]) (by rw [e4, e3]; simp only [us_k (show ¬ 31 = 16 by decide), us_k (show ¬ 31 = 34 by decide)])
  have O4 : OWX s4 := hO.cg (by rw [e4, e3]; simp only [us_k (show ¬ 33 = 16 by decide), us_k (show ¬ 33 = 34 by decide)])
  have z0 : s4 16 0 = 0 := by rw [e4, us_j (by decide), us_j (by decide), us_j (by decide), us_j (by decide), us_j (by decide), us_at]
  have z5 : s4 16 5 = 0 := by rw [e4, us_j (by decide), us_j (by decide), us_j (by decide), us_j (by decide), us_at]
  have z8 : s4 16 8 = 0 := by rw [e4, us_j (by decide), us_j (by decide), us_j (by decide), us_at]
  have z9 : s4 16 9 = 1000 := by rw [e4, us_j (by decide), us_j (by decide), us_at]
  have z17 : s4 16 17 = 0 := by rw [e4, us_j (by decide), us_at]
  have z19 : s4 16 19 = 0 := by rw [e4, us_at]
  have z34 : s4 34 4 = 0 := by rw [e4, us_k (by decide), us_k (by decide), us_k (by decide), us_k (by decide), us_k (by decide), us_k (by decide), e3, us_at]
  unfold M_X10_rewind T_X10_rewind_e at hm5
  obtain ⟨_, v1, w1, v2, w2, v3, hm6, hf6, _, _, es5⟩ := hm5
  have ev : v2 = us (us s4 31 3 0) 31 4 256 := by rw [w2, w1]
  have T6 : TpX g N v2 := T4.cg (by rw [ev, us_k (by decide), us_k (by decide)]) (by rw [ev, us_j (by decide), us_j (by decide)])
  have O6 : OWX v2 := O4.cg (by rw [ev, us_k (by decide), us_k (by decide)])
  have st := stepX (q := 0) hN hg hm6 T6 O6 (by rw [ev, us_j (by decide), us_at]; rfl) (Nat.zero_le _) (by rw [ev, us_at]; exact ⟨fun z => absurd z (by decide), fun z => absurd z cwq_0x⟩)
  have k16 : v3 16 = s4 16 := by rw [hf6.1 16 (by decide), ev, us_k (by decide), us_k (by decide)]
  have k34 : v3 34 = s4 34 := by rw [hf6.1 34 (by decide), ev, us_k (by decide), us_k (by decide)]
  have sx : SX g N ([], [], [], [], 0, 1000) 0 s5 := by
    rw [es5]
    refine ⟨⟨T6.cg (hf6.1 32 (by decide)) (hf6.f (by decide) (by decide)), O6.cg (hf6.1 33 (by decide)), ⟨by rw [k16, z0]; rfl, by rw [k16, z5]; rfl, fun i hi => absurd hi (Nat.not_lt_zero _), fun i hi => absurd hi (Nat.not_lt_zero _), fun l hl => absurd hl List.not_mem_nil, fun l hl => absurd hl List.not_mem_nil⟩, Nat.zero_le _, ⟨by rw [k34, z34]; rfl, by decide⟩, st⟩, ⟨⟨List.nodup_nil, fun c hc => absurd hc List.not_mem_nil, fun m l hm => ?_⟩, fun i hi => absurd hi (Nat.not_lt_zero _), by rw [k16, z8]; rfl, by rw [k16, z9]; rfl⟩, rfl, rfl⟩
    cases hm
  have c0 : CdX [] s5 := by
    rw [es5]
    exact ⟨by rw [k16, z17]; rfl, [], by rw [k16, z19]; rfl, Nat.le_refl _, fun j hj => absurd hj (Nat.not_lt_zero _), fun w hw => absurd hw List.not_mem_nil, fun i hi => absurd hi (Nat.not_lt_zero _)⟩
  have x0 : RoX [] [] s5 := fun i o ho => by cases ho
  exact allLC hN hg n 0 1001 0 _ [] [] s5 t h sx (by omega) (by omega) c0 (Nat.zero_le _) x0 ⟨rfl, fun o ho => absurd ho List.not_mem_nil⟩
/-- rules of the class: its codes -/
theorem rulesXC (hN : N ≤ 1000) (hg : ∀ i, g i ≤ 255) (h : M_X11_rules s r t) (hT : TpX g N s) (hO : OWX s) : r = -1 ∨ ∃ b OL C, rdO g N = some (b, OL) ∧ CdX C t ∧ RoX OL C t ∧ GO b OL ∧ Wh28 b OL t ∧ BrX b t := by
  unfold M_X11_rules T_X11_rules_e at h
  obtain ⟨_, r1, s1, hm, hf, _, b1, s2, e2, h⟩ := h
  rcases h with ⟨c, er, _⟩ | ⟨c, s3, e3, s4, e4, s5, hm5, f5, _, s6, _, f6, _, s7, e7, s8, _, f8, _, s9, e9, er, es⟩
  · exact Or.inl er
  · have r11 : r1 = 1 := by omega
    rw [r11] at hm
    obtain ⟨b, OL, C, q, k1, k2, k3, k4, k5⟩ := allXC hN hg hm hT hO
    have e42 : s4 = us s1 31 1 0 := by rw [e4, e3, e2]
    have q4 : ∀ k, ¬ k = 31 → s4 k = s1 k := fun k hk => by rw [e42, us_k hk]
    have hb : BrX b s1 := by
      obtain ⟨⟨_, _, k4, _⟩, ⟨k6, k7, k8, k9⟩, l1, l2⟩ := k2
      exact ⟨k4, k6, l1, l2, k7, k8, k9⟩
    have c4 : CdX C s4 := by
      rw [e42]
      exact k3.us (by decide)
    have x4 : RoX OL C s4 := k4.cgj (fun i _ => ⟨by rw [q4 23 (by decide)], by rw [q4 24 (by decide)], by rw [q4 25 (by decide)], by rw [q4 26 (by decide)], by rw [q4 27 (by decide)]⟩)
    have b4 : BrX b s4 := hb.cg (fun k h1 h2 => q4 k (by omega))
    have w5 := chooseC hm5 c4 b4 x4 k5
    have q9 : ∀ k, 16 ≤ k → k ≤ 30 → t k = s5 k := by
      intro k h1 h2
      rw [es, e9, us_k (by omega), f8.1 k (by simp only [List.mem_cons, List.not_mem_nil, or_false]; omega), e7, us_k (by omega), f6.1 k (by simp only [List.mem_cons, List.not_mem_nil, or_false]; omega)]
    have q5 : ∀ k, 16 ≤ k → k ≤ 30 → ¬ k = 28 → t k = s4 k := by
      intro k h1 h2 h3
      rw [q9 k h1 h2, f5.1 k (by simp only [List.mem_cons, List.not_mem_nil, or_false]; omega)]
    refine Or.inr ⟨b, OL, C, k1, ?_, ?_, k5, ?_, b4.cg (fun k h1 h2 => q5 k h1 (by omega) (by omega))⟩
    · obtain ⟨h1, A, h2, h3, h4, h5, h6⟩ := c4
      refine ⟨by rw [q5 16 (by decide) (by decide) (by decide)]; exact h1, A, by rw [q5 16 (by decide) (by decide) (by decide)]; exact h2, h3, by rw [q5 30 (by decide) (by decide) (by decide)]; exact h4, h5, by rw [q5 29 (by decide) (by decide) (by decide)]; exact h6⟩
    · exact x4.cgj (fun i _ => ⟨by rw [q5 23 (by decide) (by decide) (by decide)], by rw [q5 24 (by decide) (by decide) (by decide)], by rw [q5 25 (by decide) (by decide) (by decide)], by rw [q5 26 (by decide) (by decide) (by decide)], by rw [q5 27 (by decide) (by decide) (by decide)]⟩)
    · intro j o ho hs kd hkd fc gr
      rw [q9 28 (by decide) (by decide)]
      exact w5 j o ho hs kd hkd fc gr
end ChooseC
