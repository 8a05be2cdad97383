/-! may, points in the reference -/
/-- act x calls a kind back for whom comes on a day -/
def clX (L : LT) (now kd d : Int) (x : Nat) : Prop := L.2.1 x = 2 ∧ knwn L now x = true ∧ L.2.2.1 x 0 = kd ∧ L.2.2.1 x 1 ≤ d
theorem clF_iff {L : LT} {now k d : Int} (hd : d ≤ 24) : ∀ a : Nat, clF L now k a ≤ d ↔ ∃ x : Nat, 1 ≤ x ∧ x ≤ a ∧ clX L now k d x
  | 0 => by
    constructor
    · intro h
      have h2 : (25 : Int) ≤ d := h
      omega
    · intro h
      obtain ⟨x, h1, h2, _⟩ := h
      omega
  | a + 1 => by
    have ih := clF_iff (L := L) (now := now) (k := k) hd a
    show (if L.2.1 (a + 1) = 2 ∧ knwn L now (a + 1) = true ∧ L.2.2.1 (a + 1) 0 = k then min (clF L now k a) (L.2.2.1 (a + 1) 1) else clF L now k a) ≤ d ↔ _
    by_cases c : L.2.1 (a + 1) = 2 ∧ knwn L now (a + 1) = true ∧ L.2.2.1 (a + 1) 0 = k
    · rw [if_pos c]
      constructor
      · intro h
        by_cases c2 : clF L now k a ≤ d
        · obtain ⟨x, h1, h2, h3⟩ := ih.mp c2
          exact ⟨x, h1, by omega, h3⟩
        · exact ⟨a + 1, by omega, Nat.le_refl _, c.1, c.2.1, c.2.2, by clear ih; omega⟩
      · intro h
        obtain ⟨x, h1, h2, h3⟩ := h
        by_cases e : x = a + 1
        · rw [e] at h3
          have z := h3.2.2.2
          clear ih
          omega
        · have z := ih.mpr ⟨x, h1, by omega, h3⟩
          clear ih
          omega
    · rw [if_neg c]
      constructor
      · intro h
        obtain ⟨x, h1, h2, h3⟩ := ih.mp h
        exact ⟨x, h1, by omega, h3⟩
      · intro h
        obtain ⟨x, h1, h2, h3⟩ := h
        refine ih.mpr ⟨x, h1, ?_, h3⟩
        by_cases e : x = a + 1
        · rw [e] at h3
          exact absurd ⟨h3.1, h3.2.1, h3.2.2.1⟩ c
        · omega
/-- whether a child may get a kind -/
def mgF (b : BST) (L : LT) (now : Nat) (S : KS) (OL : List OT) (k kd : Nat) : Prop := ¬ clF L now kd now ≤ cDay (S.2.1 k) ∧ ¬ nvF b S k kd OL = true
section MayM
variable {b : BST} {S : KS} {k kd a n : Nat} {o : OT} {s t u : PS} {r : Int} {C : List OPc} {OL : List OT} {L : LT} {now : Nat}
theorem may2M {kn : Int} (hO : LOk kn L) (hn : now ≤ L.1) (hk : k < S.1) : ∀ (m n : Nat) (s : PS) (r : Int) (t : PS), It_X12_mayGet m 2 (k : Int) (kd : Int) (n : Int) s r t → LU L s → KCU S s → nowU s = (now : Int) → 1 ≤ n → n ≤ now + 1 → (∀ x : Nat, 1 ≤ x → x < n → ¬ clX L now kd (cDay (S.2.1 k)) x) → (r = 0 ∧ t = s ∧ ∃ x : Nat, 1 ≤ x ∧ x ≤ now ∧ clX L now kd (cDay (S.2.1 k)) x) ∨ ∃ m' : Nat, It_X12_mayGet m' 69 (k : Int) (kd : Int) 0 s r t ∧ ∀ x : Nat, 1 ≤ x → x ≤ now → ¬ clX L now kd (cDay (S.2.1 k)) x := by
  intro m
  induction m using Nat.strongRecOn with
  | ind m ih =>
  intro n s r t h hL hK hnow h1n hn1 hno
  cases m with
  | zero => exact False.elim h
  | succ m =>
    replace h := ul_X12_mayGet_2 h
    unfold T_X12_mayGet_2 at h
    obtain ⟨_, _, _, _, r18, s17, m17, _, _, _, h⟩ := h
    obtain ⟨q17, e18⟩ := nowM m17
    rw [q17] at h
    have e18n : r18 = (now : Int) := e18.trans hnow
    rcases h with ⟨c, h⟩ | ⟨c, h⟩
    · exact Or.inr ⟨m, h, fun x h1 h2 => hno x h1 (by omega)⟩
    · have hn2 : n ≤ now := by
        clear h
        omega
      have hnL : n ≤ L.1 := Nat.le_trans hn2 hn
      obtain ⟨z21, z22, z23, _⟩ := hL.2 n h1n hnL
      have e5 : (5 * ((n : Nat) : Int)).toNat = 5 * n := by
        clear h
        omega
      have e51 : (5 * ((n : Nat) : Int) + 1).toNat = 5 * n + 1 := by
        clear h
        omega
      have e32 : s 32 k = cDay (S.2.1 k) := (hK.2 k hk).2.2.2.2.2.2.1
      have z220 : s 22 (5 * n) = L.2.2.1 n 0 := z22 0 (by decide)
      have z221 : s 22 (5 * n + 1) = L.2.2.1 n 1 := z22 1 (by decide)
      have hz : L.2.2.2.1 n = 0 ∨ 0 < L.2.2.2.1 n := by
        have z := (hO n h1n hnL).2.2.2
        clear h
        omega
      simp only [Int.toNat_natCast] at h
      rw [e5, e51, z220, z221, e32, z21] at h
      have back : ∀ m' : Nat, m' ≤ m → It_X12_mayGet m' 61 (k : Int) (kd : Int) (n : Int) s r t → ¬ clX L now kd (cDay (S.2.1 k)) n → (r = 0 ∧ t = s ∧ ∃ x : Nat, 1 ≤ x ∧ x ≤ now ∧ clX L now kd (cDay (S.2.1 k)) x) ∨ ∃ m' : Nat, It_X12_mayGet m' 69 (k : Int) (kd : Int) 0 s r t ∧ ∀ x : Nat, 1 ≤ x → x ≤ now → ¬ clX L now kd (cDay (S.2.1 k)) x := by
        intro m' hm' h hx
        cases m' with
        | zero => exact False.elim h
        | succ m' =>
          replace h := ul_X12_mayGet_61 h
          unfold T_X12_mayGet_61 at h
          obtain ⟨_, _, _, _, h⟩ := h
          refine ih m' (by omega) (n + 1) s r t h hL hK hnow (by omega) (by omega) (fun x x1 x2 => ?_)
          by_cases e : x = n
          · rw [e]
            exact hx
          · exact hno x x1 (by omega)
      rcases h with ⟨c2, r24, s23, m23, _, _, _, h⟩ | ⟨c2, h⟩
      · obtain ⟨q23, k23⟩ := isSoM (L := L) (A := n) rfl m23 z23 hz
        rw [hnow] at k23
        rw [q23] at h
        rcases h with ⟨c3, h⟩ | ⟨c3, ⟨c4, ⟨c5, h⟩ | ⟨c5, hr, ht⟩⟩ | ⟨c4, h⟩⟩
        · refine back m (Nat.le_refl _) h (fun z => ?_)
          rcases k23 with ⟨y, _⟩ | ⟨_, y⟩
          · omega
          · exact y z.2.1
        · refine back m (Nat.le_refl _) h (fun z => ?_)
          have w := z.2.2.2
          omega
        · have kn : knwn L now n = true := by
            rcases k23 with ⟨_, y⟩ | ⟨y, _⟩
            · exact y
            · exact absurd y c3
          exact Or.inl ⟨hr, ht, n, h1n, hn2, c2, kn, c4, by omega⟩
        · exact back m (Nat.le_refl _) h (fun z => c4 z.2.2.1)
      · exact back m (Nat.le_refl _) h (fun z => c2 z.1)
theorem nv_cons {l : List OT} : nvF b S k kd (o :: l) = ((decide (o.1 = 0) && (tsT b S k o && ifK b kd o)) || nvF b S k kd l) := rfl
abbrev H28 (b : BST) (OL : List OT) : Prop := ∀ o ∈ OL, o.1 = 0 ∨ o.1 = 1 → ∀ kd, kd < b.1.length → ∃ u : Int, (u = 0 ∨ u = 1) ∧ ∀ fc gr, evR (lrF b fc gr kd) o.2.2.2.1 [] = some [u]
theorem may69M (hS : KsOk n S) (hk : k < S.1) (hG : GO b OL) (h8 : b.2.1.length ≤ 8) (h28 : H28 b OL) (hkd : kd < b.1.length) : ∀ (m i : Nat) (s : PS) (r : Int) (t : PS), It_X12_mayGet m 69 (k : Int) (kd : Int) (i : Int) s r t → ME b OL S s → i ≤ OL.length → ((r = 1 ∧ ¬ nvF b S k kd (OL.drop i) = true) ∨ (r = 0 ∧ nvF b S k kd (OL.drop i) = true)) ∧ ∀ k, ¬ k = 37 → t k = s k := by
  intro m
  induction m using Nat.strongRecOn with
  | ind m ih =>
  intro i s r t h hE hi
  cases m with
  | zero => exact False.elim h
  | succ m =>
    replace h := ul_X12_mayGet_69 h
    unfold T_X12_mayGet_69 at h
    obtain ⟨_, _, _, _, h⟩ := h
    rw [hE.oth hG] at h
    rcases h with ⟨c, hr, ht⟩ | ⟨c, r4, s3, m3, _, _, _, h⟩
    · have e : i = OL.length := by omega
      rw [e, List.drop_length]
      exact ⟨Or.inl ⟨hr, fun z => Bool.noConfusion z⟩, fun k _ => by rw [ht]⟩
    · have hi2 : i < OL.length := by
        clear h
        omega
      have ho : OL[i]? = some OL[i] := List.getElem?_eq_getElem hi2
      rw [drop_at ho]
      obtain ⟨q3, e3, _⟩ := sortM hE ho rfl m3
      rw [e3, q3] at h
      have back : ∀ (m' : Nat) (s3 : PS), m' ≤ m → It_X12_mayGet m' 116 (k : Int) (kd : Int) (i : Int) s3 r t → ME b OL S s3 → (∀ k, ¬ k = 37 → s3 k = s k) → ¬ (OL[i].1 = 0 ∧ tsT b S k OL[i] = true ∧ ifK b kd OL[i] = true) → ((r = 1 ∧ ¬ nvF b S k kd (OL[i] :: OL.drop (i + 1)) = true) ∨ (r = 0 ∧ nvF b S k kd (OL[i] :: OL.drop (i + 1)) = true)) ∧ ∀ k, ¬ k = 37 → t k = s k := by
        intro m' s3 hm' h E3 k3 hx
        cases m' with
        | zero => exact False.elim h
        | succ m' =>
          replace h := ul_X12_mayGet_116 h
          unfold T_X12_mayGet_116 at h
          obtain ⟨_, _, _, _, h⟩ := h
          have w := ih m' (by omega) (i + 1) s3 r t h E3 (by omega)
          have e : nvF b S k kd (OL[i] :: OL.drop (i + 1)) = nvF b S k kd (OL.drop (i + 1)) := by
            rw [nv_cons]
            by_cases c0 : OL[i].1 = 0
            · cases c1 : tsT b S k OL[i] with
              | false => rw [Bool.false_and, Bool.and_false, Bool.false_or]
              | true =>
                cases c2 : ifK b kd OL[i] with
                | false => rw [Bool.and_false, Bool.and_false, Bool.false_or]
                | true => exact absurd ⟨c0, c1, c2⟩ hx
            · rw [decide_eq_false c0, Bool.false_and, Bool.false_or]
          rw [e]
          exact ⟨w.1, fun k hk => (w.2 k hk).trans (k3 k hk)⟩
      rcases h with ⟨c2, r10, s9, m9, _, _, _, h⟩ | ⟨c2, h⟩
      · have s0 : OL[i].1 = 0 := by
          clear h
          omega
        obtain ⟨f1, f2⟩ := isForM hS hk hG h8 hE ho (by omega) rfl m9
        have E9 := hE.cg f2
        rcases h with ⟨c3, h⟩ | ⟨c3, r14, s13, m13, _, _, _, h⟩
        · refine back m s9 (Nat.le_refl _) h E9 f2 (fun y => ?_)
          rcases f1 with ⟨x, _⟩ | ⟨_, x⟩
          · omega
          · exact x y.2.1
        · have yes : tsT b S k OL[i] = true := by
            rcases f1 with ⟨_, x⟩ | ⟨x, _⟩
            · exact x
            · exact absurd x c3
          obtain ⟨g1, g2⟩ := isOfM hS hk hG h8 h28 E9 ho (Or.inl s0) hkd rfl m13
          rcases h with ⟨c4, h⟩ | ⟨c4, hr, ht⟩
          · refine back m s13 (Nat.le_refl _) h (E9.cg g2) (fun k hk => (g2 k hk).trans (f2 k hk)) (fun y => ?_)
            rcases g1 with ⟨x, _⟩ | ⟨_, x⟩
            · omega
            · exact x y.2.2
          · have yes2 : ifK b kd OL[i] = true := by
              rcases g1 with ⟨_, x⟩ | ⟨x, _⟩
              · exact x
              · exact absurd x c4
            refine ⟨Or.inr ⟨hr, ?_⟩, fun k hk => by rw [ht]; exact (g2 k hk).trans (f2 k hk)⟩
            rw [nv_cons, yes, yes2, decide_eq_true s0]
            rfl
      · exact back m s (Nat.le_refl _) h hE (fun _ _ => rfl) (fun y => c2 (by omega))
/-- may in the reference -/
theorem mayGetM {kn : Int} (hO : LOk kn L) (hn : now ≤ L.1) (hS : KsOk n S) (hk : k < S.1) (hG : GO b OL) (h8 : b.2.1.length ≤ 8) (h28 : H28 b OL) (hkd : kd < b.1.length) (hL : LU L s) (hE : ME b OL S s) (hnow : nowU s = (now : Int)) (h : M_X12_mayGet s (k : Int) (kd : Int) r t) : ((r = 1 ∧ mgF b L now S OL k kd) ∨ (r = 0 ∧ ¬ mgF b L now S OL k kd)) ∧ ∀ k, ¬ k = 37 → t k = s k := by
  obtain ⟨m, h⟩ := h
  unfold T_X12_mayGet_e at h
  obtain ⟨_, _, _, h⟩ := h
  have hK : KCU S s := by
    obtain ⟨C, a, _, _, _, _, _, hK⟩ := hE
    exact hK
  have hd : cDay (S.2.1 k) ≤ 24 := (hS.2.2.1 k hk).2.2.2.2.2.2.1.2
  unfold mgF
  rcases may2M hO hn hk m 1 s r t h hL hK hnow (by decide) (by omega) (fun x h1 h2 => by omega) with ⟨hr, ht, hx⟩ | ⟨m', h', hx⟩
  · exact ⟨Or.inr ⟨hr, fun z => z.1 ((clF_iff hd now).mpr hx)⟩, fun k _ => by rw [ht]⟩
  · have w := may69M hS hk hG h8 h28 hkd m' 0 s r t h' hE (Nat.zero_le _)
    have nc : ¬ clF L now kd now ≤ cDay (S.2.1 k) := fun z => by
      obtain ⟨x, x1, x2, x3⟩ := (clF_iff hd now).mp z
      exact hx x x1 x2 x3
    rcases w.1 with ⟨z1, z2⟩ | ⟨z1, z2⟩
    · exact ⟨Or.inl ⟨z1, nc, z2⟩, w.2⟩
    · exact ⟨Or.inr ⟨z1, fun y => y.2 z2⟩, w.2⟩
theorem pt_cons {l : List OT} {v : Int} : ptF b S k kd (o :: l) v = ptF b S k kd l (if o.1 = 1 ∧ tsT b S k o = true ∧ ifK b kd o = true then v + smV b S k o else v) := rfl
theorem ptF_in {nK nM : Nat} (hS : KsOk n S) (hk : k < S.1) : ∀ (l : List OT) (v : Int) (i : Nat), (∀ o ∈ l, PO nK nM o) → -2300000 * (i : Int) ≤ v → v ≤ 2300000 * (i : Int) → -2300000 * ((i + l.length : Nat) : Int) ≤ ptF b S k kd l v ∧ ptF b S k kd l v ≤ 2300000 * ((i + l.length : Nat) : Int)
  | [], v, i, _, h1, h2 => ⟨h1, h2⟩
  | o :: l, v, i, h, h1, h2 => by
    rw [pt_cons]
    have po := h o List.mem_cons_self
    have e : i + (o :: l).length = (i + 1) + l.length := by
      rw [List.length_cons]
      omega
    rw [e]
    refine ptF_in hS hk l _ (i + 1) (fun x hx => h x (List.mem_cons_of_mem _ hx)) ?_ ?_
    · split
      · rename_i c
        have z := (sm_all (b := b) hS hk po (Or.inl c.1) (fun _ => 0) 0).1.1
        omega
      · omega
    · split
      · rename_i c
        have z := (sm_all (b := b) hS hk po (Or.inl c.1) (fun _ => 0) 0).1.2
        omega
      · omega
theorem pt5M (hS : KsOk n S) (hk : k < S.1) (hG : GO b OL) (h8 : b.2.1.length ≤ 8) (h28 : H28 b OL) (hkd : kd < b.1.length) : ∀ (m i : Nat) (v y z : Int) (s : PS) (r : Int) (t : PS), It_X12_pointsOf m 5 (k : Int) (kd : Int) v (i : Int) y z s r t → ME b OL S s → i ≤ OL.length → -2300000 * (i : Int) ≤ v → v ≤ 2300000 * (i : Int) → r = ptF b S k kd (OL.drop i) v ∧ ∀ k, ¬ k = 37 → t k = s k := by
  intro m
  induction m using Nat.strongRecOn with
  | ind m ih =>
  intro i v y z s r t h hE hi v1 v2
  cases m with
  | zero => exact False.elim h
  | succ m =>
    replace h := ul_X12_pointsOf_5 h
    unfold T_X12_pointsOf_5 at h
    obtain ⟨_, _, _, hi24, h⟩ := h
    rw [hE.oth hG] at h
    rcases h with ⟨c, hr, ht⟩ | ⟨c, r6, s5, m5, _, _, _, h⟩
    · have e : i = OL.length := by omega
      rw [e, List.drop_length]
      refine ⟨?_, fun k _ => by rw [ht]⟩
      rw [hr, wi_id (by omega) (by omega)]
      rfl
    · have hi2 : i < OL.length := by
        clear h
        omega
      have ho : OL[i]? = some OL[i] := List.getElem?_eq_getElem hi2
      rw [drop_at ho]
      have po := hG.2 _ (List.mem_of_getElem? ho)
      obtain ⟨q5, e5, _⟩ := sortM hE ho rfl m5
      rw [e5, q5] at h
      have go92 : ∀ (m' : Nat) (y : Int) (s3 : PS), m' ≤ m → It_X12_pointsOf m' 92 (k : Int) (kd : Int) v (i : Int) y v s3 r t → ME b OL S s3 → (∀ k, ¬ k = 37 → s3 k = s k) → y = (if OL[i].1 = 1 ∧ tsT b S k OL[i] = true ∧ ifK b kd OL[i] = true then smV b S k OL[i] else 0) → r = ptF b S k kd (OL[i] :: OL.drop (i + 1)) v ∧ ∀ k, ¬ k = 37 → t k = s k := by
        intro m' y s3 hm' h E3 k3 hy
        cases m' with
        | zero => exact False.elim h
        | succ m' =>
          replace h := ul_X12_pointsOf_92 h
          unfold T_X12_pointsOf_92 at h
          obtain ⟨_, _, _, hi23, h⟩ := h
          have hyb : -2300000 ≤ y ∧ y ≤ 2300000 := by
            rw [hy]
            split
            · rename_i c
              exact (sm_all (b := b) hS hk po (Or.inl c.1) (fun _ => 0) 0).1
            · exact ⟨by decide, by decide⟩
          rw [wl_id (by omega) (by omega)] at h
          have w := ih m' (by omega) (i + 1) (v + y) 0 0 s3 r t h E3 (by omega) (by omega) (by omega)
          rw [pt_cons]
          have e : (if OL[i].1 = 1 ∧ tsT b S k OL[i] = true ∧ ifK b kd OL[i] = true then v + smV b S k OL[i] else v) = v + y := by
            rw [hy]
            split
            · rfl
            · omega
          rw [e]
          exact ⟨w.1, fun k hk => (w.2 k hk).trans (k3 k hk)⟩
      have go91 : ∀ (m' : Nat) (z : Int) (s3 : PS), m' ≤ m → It_X12_pointsOf m' 91 (k : Int) (kd : Int) v (i : Int) v z s3 r t → ME b OL S s3 → (∀ k, ¬ k = 37 → s3 k = s k) → ¬ (OL[i].1 = 1 ∧ tsT b S k OL[i] = true ∧ ifK b kd OL[i] = true) → r = ptF b S k kd (OL[i] :: OL.drop (i + 1)) v ∧ ∀ k, ¬ k = 37 → t k = s k := by
        intro m' z s3 hm' h E3 k3 hn
        cases m' with
        | zero => exact False.elim h
        | succ m' =>
          replace h := ul_X12_pointsOf_91 h
          unfold T_X12_pointsOf_91 at h
          obtain ⟨_, _, _, _, h⟩ := h
          exact go92 m' 0 s3 (by omega) h E3 k3 (by rw [if_neg hn])
      rcases h with ⟨c2, r12, s11, m11, _, _, _, h⟩ | ⟨c2, h⟩
      · have s1 : OL[i].1 = 1 := by
          clear h
          omega
        obtain ⟨f1, f2⟩ := isForM hS hk hG h8 hE ho (by omega) rfl m11
        have E11 := hE.cg f2
        rcases h with ⟨c3, h⟩ | ⟨c3, r16, s15, m15, _, _, _, h⟩
        · refine go91 m 0 s11 (Nat.le_refl _) h E11 f2 (fun y => ?_)
          rcases f1 with ⟨x, _⟩ | ⟨_, x⟩
          · omega
          · exact x y.2.1
        · have yes : tsT b S k OL[i] = true := by
            rcases f1 with ⟨_, x⟩ | ⟨x, _⟩
            · exact x
            · exact absurd x c3
          obtain ⟨g1, g2⟩ := isOfM hS hk hG h8 h28 E11 ho (Or.inr s1) hkd rfl m15
          have E15 := E11.cg g2
          have k15 : ∀ k, ¬ k = 37 → s15 k = s k := fun k hk => (g2 k hk).trans (f2 k hk)
          rcases h with ⟨c4, h⟩ | ⟨c4, r20, s19, m19, _, _, _, r25, s24, m24, _, _, _, r30, s29, m29, _, _, h⟩
          · refine go91 m 0 s15 (Nat.le_refl _) h E15 k15 (fun y => ?_)
            rcases g1 with ⟨x, _⟩ | ⟨_, x⟩
            · omega
            · exact x y.2.2
          · have yes2 : ifK b kd OL[i] = true := by
              rcases g1 with ⟨_, x⟩ | ⟨x, _⟩
              · exact x
              · exact absurd x c4
            obtain ⟨q19, _, e19⟩ := sortM E15 ho rfl m19
            rw [q19] at m24
            obtain ⟨q24, _, e24⟩ := sortM E15 ho rfl m24
            rw [q24] at m29
            obtain ⟨g3, g4⟩ := sumMw (kd := kd) hS hk hG h8 E15 ho (Or.inl s1) (fun a ha => by
              have z := e19 a ha
              have z2 : (r20 + 1).toNat = 168 * a + 7 * i + 1 := by omega
              rw [z2, k15 12 (by decide)]) (fun a ha => by
              have z := e24 a ha
              have z2 : (r25 + 2).toNat = 168 * a + 7 * i + 2 := by omega
              rw [z2, k15 12 (by decide)]) m29
            exact go92 m r30 s29 (Nat.le_refl _) h (E15.cg g4) (fun k hk => (g4 k hk).trans (k15 k hk)) (by rw [if_pos ⟨s1, yes, yes2⟩]; exact g3)
      · exact go91 m 0 s (Nat.le_refl _) h hE (fun _ _ => rfl) (fun y => c2 (by omega))
/-- points in the reference -/
theorem pointsOfM (hS : KsOk n S) (hk : k < S.1) (hG : GO b OL) (h8 : b.2.1.length ≤ 8) (h28 : H28 b OL) (hkd : kd < b.1.length) (hE : ME b OL S s) (h : M_X12_pointsOf s (k : Int) (kd : Int) r t) : r = ptF b S k kd OL 0 ∧ ∀ k, ¬ k = 37 → t k = s k := by
  obtain ⟨m, h⟩ := h
  unfold T_X12_pointsOf_e at h
  obtain ⟨_, _, _, h⟩ := h
  exact pt5M hS hk hG h8 h28 hkd m 0 0 0 0 s r t h hE (Nat.zero_le _) (by decide) (by decide)
end MayM
