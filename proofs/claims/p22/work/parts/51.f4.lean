/-! what the rules say of a child: pure; in the reference -/
def fcF (S : KS) (k : Nat) (i : Nat) : Int := if i = 0 then cAge (S.2.1 k) else if i = 1 then cMst (S.2.1 k) - cLst (S.2.1 k) else if i = 2 then cSch (S.2.1 k) else if i = 3 then mtF S k else ((cWsh (S.2.1 k)).length : Int)
def grF (S : KS) (k : Nat) (w : List Nat) : Int := if w ∈ cWsh (S.2.1 k) then 1 else 0
/-- what a piece comes to -/
def vR (lf : OPc → Int) (l : List OPc) : Int := match evR lf l [] with
  | some (v :: _) => v
  | _ => 0
/-- the test of one of the other statements; its which; its sum -/
def tsT (b : BST) (S : KS) (k : Nat) (o : OT) : Bool := decide (vR (lrF b (fcF S k) (grF S k) 0) o.2.2.2.2 = 1)
def ifK (b : BST) (kd : Nat) (o : OT) : Bool := decide (vR (lrF b (fun _ => 0) (fun _ => 0) kd) o.2.2.2.1 = 1)
def smV (b : BST) (S : KS) (k : Nat) (o : OT) : Int := vR (lrF b (fcF S k) (grF S k) 0) o.2.2.1
def dueF (b : BST) (S : KS) (k : Nat) : List OT → Int → Int
  | [], v => v
  | o :: l, v => dueF b S k l (if o.1 = 2 ∧ tsT b S k o = true then smV b S k o else v)
def ptF (b : BST) (S : KS) (k kd : Nat) : List OT → Int → Int
  | [], v => v
  | o :: l, v => ptF b S k kd l (if o.1 = 1 ∧ tsT b S k o = true ∧ ifK b kd o = true then v + smV b S k o else v)
def nvF (b : BST) (S : KS) (k kd : Nat) : List OT → Bool
  | [] => false
  | o :: l => (decide (o.1 = 0) && (tsT b S k o && ifK b kd o)) || nvF b S k kd l
section FactsP
variable {b : BST} {S : KS} {k kd a : Nat} {o : OT}
theorem fcF_ok (hS : KsOk a S) (hk : k < S.1) : FcOk (fcF S k) := by
  intro i hi
  have c := hS.2.2.1 k hk
  have m : 0 ≤ mtF S k ∧ mtF S k ≤ 40 := by
    unfold mtF
    split
    · omega
    · have z := hoF_le (S := S) (h := cHou (S.2.1 k)) S.1
      have := hS.1
      omega
  have w := c.2.2.2.2.2.2.2.2.1
  unfold fcF
  obtain ⟨_, c2, c3, c4, c5, _⟩ := c
  split
  · omega
  · split
    · omega
    · split
      · omega
      · split
        · omega
        · omega
theorem grF_01 (w : List Nat) : grF S k w = 0 ∨ grF S k w = 1 := by
  unfold grF
  split
  · exact Or.inr rfl
  · exact Or.inl rfl
/-- a test comes to 0 or 1 in both; any kind -/
theorem ts_ev {nK nM : Nat} (hS : KsOk a S) (hk : k < S.1) (po : PO nK nM o) (h3 : o.1 ≤ 2) (mk : Nat → Int) (kd : Nat) : ∃ u : Int, (u = 0 ∨ u = 1) ∧ evX (lxF (fcF S k) (grF S k) 1 mk) 1 o.2.1.2.2 [] = [u] ∧ evR (lrF b (fcF S k) (grF S k) kd) o.2.2.2.2 [] = some [u] := by
  obtain ⟨v, u, ⟨h1, h2⟩, h4, h5⟩ := po.2.2.1 h3 (lxF (fcF S k) (grF S k) 1 mk) (lrF b (fcF S k) (grF S k) kd) (lnH (fcF_ok hS hk)) ⟨rfl, Or.inr rfl⟩ (fun w _ => ⟨rfl, by rw [lx_7]; exact grF_01 w⟩)
  subst h1
  exact ⟨v, h2, h4 [] (by decide), h5 []⟩
theorem sm_ev {nK nM : Nat} (hS : KsOk a S) (hk : k < S.1) (po : PO nK nM o) (h3 : o.1 = 1 ∨ o.1 = 2) (mk : Nat → Int) (kd : Nat) : ∃ u : Int, (-2300000 ≤ u ∧ u ≤ 2300000) ∧ evX (lxF (fcF S k) (grF S k) 1 mk) 1 o.2.1.1 [] = [u] ∧ evR (lrF b (fcF S k) (grF S k) kd) o.2.2.1 [] = some [u] := by
  obtain ⟨v, u, ⟨h1, h2⟩, h4, h5⟩ := po.1 h3 (lxF (fcF S k) (grF S k) 1 mk) (lrF b (fcF S k) (grF S k) kd) 1 (lnH (fcF_ok hS hk))
  subst h1
  exact ⟨v, h2, h4 [] (by decide), h5 []⟩
theorem vR_of {lf : OPc → Int} {l : List OPc} {u : Int} (h : evR lf l [] = some [u]) : vR lf l = u := by
  unfold vR
  rw [h]
theorem ts_all {nK nM : Nat} (hS : KsOk a S) (hk : k < S.1) (po : PO nK nM o) (h3 : o.1 ≤ 2) (mk : Nat → Int) (kd : Nat) : ∃ u : Int, (u = 0 ∨ u = 1) ∧ (tsT b S k o = true ↔ u = 1) ∧ evX (lxF (fcF S k) (grF S k) 1 mk) 1 o.2.1.2.2 [] = [u] ∧ evR (lrF b (fcF S k) (grF S k) kd) o.2.2.2.2 [] = some [u] := by
  obtain ⟨u, h1, h2, h4⟩ := ts_ev (b := b) hS hk po h3 mk kd
  obtain ⟨u0, g1, g2, g4⟩ := ts_ev (b := b) hS hk po h3 mk 0
  have e : u0 = u := by
    rw [h2] at g2
    exact (List.cons.inj g2).1.symm
  refine ⟨u, h1, ?_, h2, h4⟩
  unfold tsT
  rw [decide_eq_true_eq, vR_of g4, e]
theorem sm_all {nK nM : Nat} (hS : KsOk a S) (hk : k < S.1) (po : PO nK nM o) (h3 : o.1 = 1 ∨ o.1 = 2) (mk : Nat → Int) (kd : Nat) : (-2300000 ≤ smV b S k o ∧ smV b S k o ≤ 2300000) ∧ evX (lxF (fcF S k) (grF S k) 1 mk) 1 o.2.1.1 [] = [smV b S k o] ∧ evR (lrF b (fcF S k) (grF S k) kd) o.2.2.1 [] = some [smV b S k o] := by
  obtain ⟨u, h1, h2, h4⟩ := sm_ev (b := b) hS hk po h3 mk kd
  obtain ⟨u0, g1, g2, g4⟩ := sm_ev (b := b) hS hk po h3 mk 0
  have e : u0 = u := by
    rw [h2] at g2
    exact (List.cons.inj g2).1.symm
  have es : smV b S k o = u := by
    unfold smV
    rw [vR_of g4, e]
  rw [es]
  exact ⟨h1, h2, h4⟩
end FactsP
section FactsM
variable {b : BST} {S : KS} {k kd a n : Nat} {o : OT} {s t u : PS} {r : Int} {C : List OPc} {OL : List OT}
/-- the reference with a book, its codes, its children -/
def ME (b : BST) (OL : List OT) (S : KS) (s : PS) : Prop := ∃ (C : List OPc) (a : Nat), a ≤ 1 ∧ s 0 12 = (a : Int) ∧ BMa b a s ∧ CdMa a C s ∧ OtMa a OL C s ∧ KCU S s
theorem ME.cg (h : ME b OL S s) (e : ∀ k, ¬ k = 37 → t k = s k) : ME b OL S t := by
  obtain ⟨C, a, h1, h2, h3, h4, h5, h6⟩ := h
  refine ⟨C, a, h1, by rw [e 0 (by decide)]; exact h2, h3.cg (fun k k1 k2 => e k (by omega)), ⟨by rw [e 14 (by decide)]; exact h4.1, fun i hi => ?_⟩, h5.cg (e 12 (by decide)), by rw [e 0 (by decide)]; exact h6.1, fun j hj => ?_⟩
  · have z := h4.2 i hi
    unfold OpM at z ⊢
    rw [e 13 (by decide), e 15 (by decide)]
    exact z
  · have z := h6.2 j hj
    unfold CU at z ⊢
    rw [e 26 (by decide), e 27 (by decide), e 28 (by decide), e 29 (by decide), e 30 (by decide), e 31 (by decide), e 32 (by decide), e 35 (by decide), e 33 (by decide), e 34 (by decide)]
    exact z
/-- a leaf in the reference -/
theorem leafM {i : Nat} {o : OPc} (hS : KsOk n S) (hk : k < S.1) {nM : Nat} (hk9 : nM = 0 ∨ (nM = b.2.1.length ∧ kd < b.1.length)) (h8 : b.2.1.length ≤ 8) (ha : s 0 12 = (a : Int)) (hB : BMa b a s) (hK : KCU S s) (hO : OpM a s i o) (h9 : o.1 ≤ 9) (ok : OkO nM o) (h : M_X12_leaf s (o.1 : Int) (i : Int) o.2.1 (k : Int) (kd : Int) r t) : r = lrF b (fcF S k) (grF S k) kd o ∧ t = s := by
  unfold M_X12_leaf T_X12_leaf_e at h
  obtain ⟨_, _, _, _, _, h⟩ := h
  obtain ⟨z1, z2, z3⟩ := hO
  have cu := hK.2 k hk
  have ck := hS.2.2.1 k hk
  obtain ⟨_, c2, c3, c4, c5, _, _, _, c9⟩ := ck
  rw [Int.toNat_natCast, cu.2.1, cu.2.2.1, cu.2.2.2.1, cu.2.2.2.2.1, cu.2.2.2.2.2.2.2.2.1] at h
  unfold lrF
  rcases h with ⟨c, hr, ht⟩ | ⟨c, ⟨d, hr, ht⟩ | ⟨d, ⟨d2, hr, ht⟩ | ⟨d2, ⟨d3, hr, ht⟩ | ⟨d3, ⟨d4, r2, s2, hm, _, _, hr, ht⟩ | ⟨d4, ⟨d5, hr, ht⟩ | ⟨d5, ⟨d6, hr, ht⟩ | ⟨d6, ⟨d7, r2, s2, hm, _, _, _, h⟩ | ⟨d7, ⟨d8, h⟩ | ⟨d8, hr, ht⟩⟩⟩⟩⟩⟩⟩⟩⟩
  · rw [if_pos (by omega)]
    exact ⟨hr, ht⟩
  · have e : o.1 = 1 := by omega
    rw [if_neg (by omega), if_pos (by omega), e]
    exact ⟨hr, ht⟩
  · have e : o.1 = 2 := by omega
    rw [if_neg (by omega), if_pos (by omega), e]
    refine ⟨hr.trans ?_, ht⟩
    rw [wi_id (by omega) (by omega)]
    rfl
  · have e : o.1 = 3 := by omega
    rw [if_neg (by omega), if_pos (by omega), e]
    exact ⟨hr, ht⟩
  · have e : o.1 = 4 := by omega
    rw [if_neg (by omega), if_pos (by omega), e]
    obtain ⟨g1, g2⟩ := inHouseM hk hS.1 hK hm
    rw [hr, ht, g1, g2]
    exact ⟨rfl, rfl⟩
  · have e : o.1 = 5 := by omega
    rw [if_neg (by omega), if_pos (by omega), e]
    exact ⟨hr, ht⟩
  · rw [if_neg (by omega), if_neg (by omega), if_pos (by omega)]
    exact ⟨hr, ht⟩
  · have e : o.1 = 7 := by omega
    have lw := ok.2.1 e
    have ei : ((1100 * (s 0 12)) + (i : Int)).toNat = 1100 * a + i := by omega
    rw [ei, z3 e] at hm
    have k39 : k ≤ 39 := by
      have := hS.1
      omega
    obtain ⟨g1, g2⟩ := hasM k39 lw c9 hm ⟨cu.2.2.2.2.2.2.2.2.1, cu.2.2.2.2.2.2.2.2.2⟩
    rw [if_neg (by omega), if_neg (by omega), if_neg (by omega), if_pos e]
    unfold grF
    rcases h with ⟨f1, hr, ht⟩ | ⟨f1, hr, ht⟩
    · rcases g2 with ⟨x, _⟩ | ⟨_, x⟩
      · omega
      · rw [if_neg x, ht, g1]
        exact ⟨hr, rfl⟩
    · rcases g2 with ⟨_, x⟩ | ⟨x, _⟩
      · rw [if_pos x, ht, g1]
        exact ⟨hr, rfl⟩
      · exact absurd x f1
  · rw [if_neg (by omega), if_neg (by omega), if_neg (by omega), if_neg (by omega), if_pos (by omega)]
    rcases h with ⟨f1, hr, ht⟩ | ⟨f1, hr, ht⟩
    · rw [if_pos f1]
      exact ⟨hr, ht⟩
    · rw [if_neg f1]
      exact ⟨hr, ht⟩
  · have e : o.1 = 9 := by omega
    obtain ⟨m, m1', m2⟩ := ok.2.2 e
    have m1 : m < b.2.1.length := by omega
    have hk9 : kd < b.1.length := by omega
    rw [if_neg (by omega), if_neg (by omega), if_neg (by omega), if_neg (by omega), if_neg (by omega)]
    refine ⟨hr.trans ?_, ht⟩
    have ei : ((10 * (s 0 12)) + (kd : Int)).toNat = 10 * a + kd := by omega
    rw [ei, m2, Int.toNat_natCast]
    obtain ⟨_, _, _, _, _, _, b7, _, b9, _⟩ := hB
    have hc : b.2.2.1[kd]? = some (b.2.2.1[kd]'(by omega)) := List.getElem?_eq_getElem (by omega)
    have hm : b.2.1[m]? = some b.2.1[m] := List.getElem?_eq_getElem m1
    have bi := b7 kd _ hc m (by omega)
    have w1 := tb_one (v := s 11 (10 * a + kd)) (k := m) (by omega)
    have w0 : iAnd (iShr (s 11 (10 * a + kd)) (m : Int)) 1 = 0 ∨ iAnd (iShr (s 11 (10 * a + kd)) (m : Int)) 1 = 1 := by
      by_cases c : iAnd (iShr (s 11 (10 * a + kd)) (m : Int)) 1 = 0
      · exact Or.inl c
      · refine Or.inr (w1.mpr ?_)
        unfold tb
        rw [decide_eq_true_eq]
        exact c
    unfold hmB
    rw [hm]
    show _ = b01 (match b.2.2.1[kd]? with | none => false | some c => decide (b.2.1[m] ∈ c))
    rw [hc]
    show _ = b01 (decide (b.2.1[m] ∈ b.2.2.1[kd]))
    by_cases y : b.2.1[m] ∈ b.2.2.1[kd]
    · rw [decide_eq_true y]
      exact w1.mpr (bi.mpr ⟨_, hm, y⟩)
    · rw [decide_eq_false y]
      rcases w0 with w0 | w0
      · exact w0
      · obtain ⟨l, y1, y2⟩ := bi.mp (w1.mp w0)
        rw [hm] at y1
        rw [← Option.some.inj y1] at y2
        exact absurd y2 y
/-- a piece of code in the reference -/
theorem worksM {l A D : List OPc} {p1 p2 v : Int} (hS : KsOk n S) (hk : k < S.1) {nM : Nat} (hk9 : nM = 0 ∨ (nM = b.2.1.length ∧ kd < b.1.length)) (h8 : b.2.1.length ≤ 8) (ha : s 0 12 = (a : Int)) (hB : BMa b a s) (hC : CdMa a C s) (hK : KCU S s) (e : C = A ++ (l ++ D)) (h1 : p1 = (A.length : Int)) (h2 : p2 = ((A.length + l.length : Nat) : Int)) (ok : AP (OkO nM) l) (hv : evR (lrF b (fcF S k) (grF S k) kd) l [] = some [v]) (h : M_X12_works s p1 p2 (k : Int) (kd : Int) r t) : r = v ∧ ∀ k, ¬ k = 37 → t k = s k := by
  obtain ⟨m, h⟩ := h
  unfold T_X12_works_e at h
  obtain ⟨_, _, _, _, _, h⟩ := h
  rw [h1] at h
  refine worksL (lf := lrF b (fcF S k) (grF S k) kd) (a := a) (Pd := OkO nM) (s0 := s) (fun i o s2 r2 t2 pd hq hO h9 hm => ?_) l m A.length [] s r t h (fun _ _ => rfl) (fun j hj => ?_) (by rw [h2]; omega) ha True.intro (fun o ho => ⟨(ok o ho).1, ok o ho⟩) hv
  · refine leafM hS hk hk9 h8 (by rw [hq 0 (by decide)]; exact ha) (hB.cg (fun k k1 k2 => hq k (by omega))) ⟨by rw [hq 0 (by decide)]; exact hK.1, fun j hj => ?_⟩ hO h9 pd hm
    have z := hK.2 j hj
    unfold CU at z ⊢
    rw [hq 26 (by decide), hq 27 (by decide), hq 28 (by decide), hq 29 (by decide), hq 30 (by decide), hq 31 (by decide), hq 32 (by decide), hq 35 (by decide), hq 33 (by decide), hq 34 (by decide)]
    exact z
  · obtain ⟨y1, y2⟩ := seg_get e hj
    have z := hC.2 _ y1
    rw [y2] at z
    exact z
/-- the row of a statement -/
theorem rowM {p : Int} {i : Nat} (h : M_X12_row s p r t) (hp : p = (i : Int)) (ha : s 0 12 = (a : Int)) : r = ((168 * a + 7 * i : Nat) : Int) ∧ t = s := by
  unfold M_X12_row T_X12_row_e at h
  obtain ⟨_, _, hr, ht⟩ := h
  exact ⟨by rw [hr, ha, hp]; omega, ht⟩
end FactsM
