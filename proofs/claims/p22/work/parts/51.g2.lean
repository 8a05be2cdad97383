/-! the class weighs a child -/
def JdX (b : BST) (P : List OT) (L : LT) (now : Nat) (S : KS) (k : Nat) (s : PS) : Prop := s 57 k = max 0 (min 3 (dueF b S k P 1)) ∧ (∀ kd, kd < b.1.length → (tb (s 58 k) kd = true ↔ mgF b L now S P k kd)) ∧ ∀ kd, kd < b.1.length → s 59 (10 * k + kd) = ptF b S k kd P 0
/-- nothing but child k's rows is changed -/
def OtJ (k : Nat) (s t : PS) : Prop := (∀ m, m = 57 ∨ m = 58 ∨ m = 60 → ∀ j, ¬ j = k → t m j = s m j) ∧ (∀ j, ¬ (10 * k ≤ j ∧ j < 10 * k + 10) → t 59 j = s 59 j) ∧ ∀ m, ¬ (57 ≤ m ∧ m ≤ 63) → t m = s m
/-- the class in the midst of weighing -/
def WE (b : BST) (OL : List OT) (S : KS) (k : Nat) (C : List OPc) (A : List (List Nat)) (mk : Nat → Int) (s : PS) : Prop := s 1 0 = (b.1.length : Int) ∧ s 1 8 = (OL.length : Int) ∧ (∀ (i : Nat) (h : i < C.length), OpX A C[i] (s 14 i)) ∧ RoX OL C (sw s) ∧ Wh28 b OL (sw s) ∧ LfX 7 1 A (lxF (fcF S k) (grF S k) 1 mk) s
theorem sw_hi {s : PS} {k : Nat} (h1 : 16 ≤ k) (h2 : k ≤ 30) : sw s k = s (k - 15) := by
  have z : sgw k = k - 15 := by
    have a : (Nat.ble 1 k && Nat.ble k 15) = false := by
      have : ¬ (k ≤ 15) := by omega
      rw [show Nat.ble k 15 = false from by cases q : Nat.ble k 15 with | true => exact absurd (Nat.le_of_ble_eq_true q) this | false => rfl, Bool.and_false]
    have c : (Nat.ble 16 k && Nat.ble k 30) = true := by rw [Nat.ble_eq_true_of_le h1, Nat.ble_eq_true_of_le h2]; rfl
    unfold sgw
    rw [a, c]
  show s (sgw k) = s (k - 15)
  rw [z]
theorem tb_m10 : ∀ k : Fin 10, tb (-1) k.val = true := by decide +kernel
theorem tb_m1 {k : Nat} (h : k < 10) : tb (-1) k = true := tb_m10 ⟨k, h⟩
theorem take_s {l : List OT} {i : Nat} {o : OT} (h : l[i]? = some o) : l.take (i + 1) = l.take i ++ [o] := by
  induction l generalizing i with
  | nil =>
    rw [List.getElem?_nil] at h
    cases h
  | cons x l ih =>
    cases i with
    | zero =>
      have e : x = o := Option.some.inj h
      rw [e]
      rfl
    | succ i =>
      rw [List.getElem?_cons_succ] at h
      show x :: l.take (i + 1) = x :: (l.take i ++ [o])
      rw [ih h]
section SnocF
variable {b : BST} {S : KS} {k kd now : Nat} {L : LT}
theorem due_snoc : ∀ (l : List OT) (v : Int) (o : OT), dueF b S k (l ++ [o]) v = if o.1 = 2 ∧ tsT b S k o = true then smV b S k o else dueF b S k l v
  | [], _, _ => rfl
  | x :: l, v, o => due_snoc l (if x.1 = 2 ∧ tsT b S k x = true then smV b S k x else v) o
theorem pt_snoc : ∀ (l : List OT) (v : Int) (o : OT), ptF b S k kd (l ++ [o]) v = if o.1 = 1 ∧ tsT b S k o = true ∧ ifK b kd o = true then ptF b S k kd l v + smV b S k o else ptF b S k kd l v
  | [], _, _ => rfl
  | x :: l, v, o => pt_snoc l (if x.1 = 1 ∧ tsT b S k x = true ∧ ifK b kd x = true then v + smV b S k x else v) o
theorem nv_snoc : ∀ (l : List OT) (o : OT), nvF b S k kd (l ++ [o]) = (nvF b S k kd l || (decide (o.1 = 0) && (tsT b S k o && ifK b kd o)))
  | [], o => by
    show ((decide (o.1 = 0) && (tsT b S k o && ifK b kd o)) || false) = (false || (decide (o.1 = 0) && (tsT b S k o && ifK b kd o)))
    rw [Bool.or_false, Bool.false_or]
  | x :: l, o => by
    show (_ || nvF b S k kd (l ++ [o])) = ((_ || nvF b S k kd l) || _)
    rw [nv_snoc l o, Bool.or_assoc]
end SnocF
section WeighX
variable {b : BST} {S : KS} {k kd a n : Nat} {o : OT} {s t u : PS} {r c : Int} {C : List OPc} {OL P : List OT} {A : List (List Nat)} {L : LT} {now : Nat} {mk : Nat → Int}
theorem OtJ.refl : OtJ k s s := ⟨fun _ _ _ _ => rfl, fun _ _ => rfl, fun _ _ => rfl⟩
theorem OtJ.trans (h : OtJ k s t) (h2 : OtJ k t u) : OtJ k s u := ⟨fun m hm j hj => (h2.1 m hm j hj).trans (h.1 m hm j hj), fun j hj => (h2.2.1 j hj).trans (h.2.1 j hj), fun m hm => (h2.2.2 m hm).trans (h.2.2 m hm)⟩
theorem OtJ.u1 {m : Nat} {z : Int} (h : m = 57 ∨ m = 58 ∨ m = 60) : OtJ k s (us s m k z) := ⟨fun m2 _ j hj => us_n (by omega), fun j _ => us_n (by omega), fun m2 hm => us_k (by omega)⟩
theorem OtJ.u59 {i : Nat} {z : Int} (h : 10 * k ≤ i ∧ i < 10 * k + 10) : OtJ k s (us s 59 i z) := ⟨fun m2 _ j hj => us_n (by omega), fun j _ => us_n (by omega), fun m2 hm => us_k (by omega)⟩
theorem OtJ.of6 (h : ∀ m, ¬ m = 61 → ¬ m = 62 → ¬ m = 63 → t m = s m) : OtJ k s t := ⟨fun m hm j _ => by rw [h m (by omega) (by omega) (by omega)], fun j _ => by rw [h 59 (by decide) (by decide) (by decide)], fun m hm => h m (by omega) (by omega) (by omega)⟩
theorem WE.cg (h : WE b OL S k C A mk s) (e : ∀ m, ¬ (57 ≤ m ∧ m ≤ 63) → t m = s m) (e61 : t 61 = s 61) (e62 : t 62 = s 62) : WE b OL S k C A mk t := by
  obtain ⟨h1, h2, h3, h4, h5, h6⟩ := h
  have q : ∀ k, 16 ≤ k → k ≤ 30 → sw t k = sw s k := fun k k1 k2 => by rw [sw_hi k1 k2, sw_hi k1 k2, e (k - 15) (by omega)]
  refine ⟨by rw [e 1 (by decide)]; exact h1, by rw [e 1 (by decide)]; exact h2, fun i hi => by rw [e 14 (by decide)]; exact h3 i hi, h4.cgj (fun i _ => ⟨by rw [q 23 (by decide) (by decide)], by rw [q 24 (by decide) (by decide)], by rw [q 25 (by decide) (by decide)], by rw [q 26 (by decide) (by decide)], by rw [q 27 (by decide) (by decide)]⟩), fun j o ho hs kd hkd fc gr => ?_, h6.cg e61 e62 (e 7 (by decide))⟩
  rw [q 28 (by decide) (by decide)]
  exact h5 j o ho hs kd hkd fc gr
theorem WE.seg (hE : WE b OL S k C A mk s) {P l D : List OPc} (e : C = P ++ (l ++ D)) : ∀ (j : Nat) (h : j < l.length), OpX A l[j] (s 14 (P.length + j)) := by
  intro j h
  obtain ⟨y1, y2⟩ := seg_get e h
  have z := hE.2.2.1 _ y1
  rw [y2] at z
  exact z
/-- a statement's test in the class -/
theorem testW {i : Nat} (hS : KsOk n S) (hk : k < S.1) (hG : GO b OL) (hE : WE b OL S k C A mk s) (ho : OL[i]? = some o) (h3 : o.1 ≤ 2) (h : M_X5_value_1 s (s 11 i) (s 12 i) 1 r t) : ((r = 0 ∧ ¬ tsT b S k o = true) ∨ (r = 1 ∧ tsT b S k o = true)) ∧ ∀ m, ¬ m = 63 → t m = s m := by
  obtain ⟨_, C1, C2, x0, x1, x2, x3, x4⟩ := hE.2.2.2.1 i o ho
  rw [sw_hi (by decide) (by decide)] at x3 x4
  have x3 : s 11 i = ((C1.length + o.2.1.1.length + o.2.1.2.1.length : Nat) : Int) := x3
  have x4 : s 12 i = ((C1.length + o.2.1.1.length + o.2.1.2.1.length + o.2.1.2.2.length : Nat) : Int) := x4
  have po := hG.2 o (List.mem_of_getElem? ho)
  obtain ⟨u, u1, u2, u3, _⟩ := ts_all (b := b) hS hk po h3 mk 0
  have e : C = (C1 ++ (o.2.1.1 ++ o.2.1.2.1)) ++ (o.2.1.2.2 ++ C2) := by
    rw [x0]
    simp only [List.append_assoc]
  have el : (C1 ++ (o.2.1.1 ++ o.2.1.2.1)).length = C1.length + o.2.1.1.length + o.2.1.2.1.length := by
    simp only [List.length_append]
    omega
  have w := value1X h x3 x4 (fun j hj => by rw [← el]; exact hE.seg e j hj) hE.2.2.2.2.2 u3
  refine ⟨?_, w.2⟩
  rcases u1 with z | z
  · exact Or.inl ⟨w.1.trans z, fun y => by have := u2.mp y; omega⟩
  · exact Or.inr ⟨w.1.trans z, u2.mpr z⟩
/-- its sum -/
theorem sumW {i : Nat} (hS : KsOk n S) (hk : k < S.1) (hG : GO b OL) (hE : WE b OL S k C A mk s) (ho : OL[i]? = some o) (h3 : o.1 = 1 ∨ o.1 = 2) (h : M_X5_value_1 s (s 9 i) (s 10 i) 1 r t) : r = smV b S k o ∧ ∀ m, ¬ m = 63 → t m = s m := by
  obtain ⟨_, C1, C2, x0, x1, x2, x3, x4⟩ := hE.2.2.2.1 i o ho
  rw [sw_hi (by decide) (by decide)] at x1 x2
  have x1 : s 9 i = (C1.length : Int) := x1
  have x2 : s 10 i = ((C1.length + o.2.1.1.length : Nat) : Int) := x2
  have po := hG.2 o (List.mem_of_getElem? ho)
  have u := sm_all (b := b) hS hk po h3 mk 0
  exact value1X h x1 x2 (fun j hj => hE.seg x0 j hj) hE.2.2.2.2.2 u.2.1
/-- its kinds -/
theorem ifK28 {i : Nat} (hW : Wh28 b OL (sw s)) (ho : OL[i]? = some o) (h3 : o.1 = 0 ∨ o.1 = 1) (hkd : kd < b.1.length) : ifK b kd o = tb (s 13 i) kd := by
  have z := hW i o ho h3 kd hkd (fun _ => 0) (fun _ => 0)
  have e : sw s 28 = s 13 := sw_hi (by decide) (by decide)
  rw [e] at z
  unfold ifK
  rw [vR_of z]
  cases tb (s 13 i) kd
  · decide
  · decide
theorem h28_of (hW : Wh28 b OL (sw s)) : H28 b OL := by
  intro o ho h3 kd hkd
  obtain ⟨i, hi, e⟩ := List.getElem_of_mem ho
  have g : OL[i]? = some o := by
    rw [← e]
    exact List.getElem?_eq_getElem hi
  refine ⟨_, ?_, fun fc gr => hW i o g h3 kd hkd fc gr⟩
  unfold b01
  split
  · exact Or.inr rfl
  · exact Or.inl rfl
/-- one statement more -/
theorem JdX.snoc (h : JdX b P L now S k s) (h57 : t 57 k = if o.1 = 2 ∧ tsT b S k o = true then max 0 (min 3 (smV b S k o)) else s 57 k) (h58 : ∀ kd, kd < b.1.length → tb (t 58 k) kd = (tb (s 58 k) kd && !(decide (o.1 = 0) && (tsT b S k o && ifK b kd o)))) (h59 : ∀ kd, kd < b.1.length → t 59 (10 * k + kd) = if o.1 = 1 ∧ tsT b S k o = true ∧ ifK b kd o = true then s 59 (10 * k + kd) + smV b S k o else s 59 (10 * k + kd)) : JdX b (P ++ [o]) L now S k t := by
  obtain ⟨g1, g2, g3⟩ := h
  refine ⟨?_, fun kd hkd => ?_, fun kd hkd => ?_⟩
  · rw [h57, due_snoc]
    split
    · rfl
    · exact g1
  · rw [h58 kd hkd, Bool.and_eq_true, g2 kd hkd]
    unfold mgF
    rw [nv_snoc]
    cases (decide (o.1 = 0) && (tsT b S k o && ifK b kd o)) with
    | true =>
      rw [Bool.or_true]
      exact ⟨fun z => Bool.noConfusion z.2, fun z => absurd rfl z.2⟩
    | false =>
      rw [Bool.or_false]
      exact ⟨fun z => z.1, fun z => ⟨z, rfl⟩⟩
  · rw [h59 kd hkd, pt_snoc, g3 kd hkd]
theorem JdX.same (h : JdX b P L now S k s) (e57 : t 57 = s 57) (e58 : t 58 = s 58) (e59 : t 59 = s 59) (hn : ¬ (o.1 ≤ 2 ∧ tsT b S k o = true)) : JdX b (P ++ [o]) L now S k t := by
  refine h.snoc ?_ (fun kd hkd => ?_) (fun kd hkd => ?_)
  · rw [e57, if_neg (fun z => hn ⟨by omega, z.2⟩)]
  · rw [e58]
    by_cases c : o.1 = 0
    · cases q : tsT b S k o with
      | true => exact absurd ⟨by omega, q⟩ hn
      | false => rw [Bool.false_and, Bool.and_false, Bool.not_false, Bool.and_true]
    · rw [decide_eq_false c, Bool.false_and, Bool.not_false, Bool.and_true]
  · rw [e59, if_neg (fun z => hn ⟨by omega, z.2.1⟩)]
theorem obey80 {i nk : Nat} {v W : Int} {F : Nat → Int} (h10 : nk ≤ 10) (hb : ∀ kd, kd < nk → -2147483648 ≤ F kd + v ∧ F kd + v ≤ 2147483647) : ∀ (m j : Nat) (s : PS) (r : Int) (t : PS), It_X5_obey_1 m 80 (i : Int) (k : Int) v (j : Int) s r t → s 1 0 = (nk : Int) → s 13 i = W → j ≤ nk → (∀ kd, kd < j → s 59 (10 * k + kd) = if tb W kd = true then F kd + v else F kd) → (∀ kd, j ≤ kd → kd < nk → s 59 (10 * k + kd) = F kd) → (∀ kd, kd < nk → t 59 (10 * k + kd) = if tb W kd = true then F kd + v else F kd) ∧ (∀ j, ¬ (10 * k ≤ j ∧ j < 10 * k + 10) → t 59 j = s 59 j) ∧ ∀ m, ¬ m = 59 → t m = s m := by
  intro m
  induction m using Nat.strongRecOn with
  | ind m ih =>
  intro j s r t h h0 h13 hj hd ht
  cases m with
  | zero => exact False.elim h
  | succ m =>
    replace h := ul_X5_obey_1_80 h
    unfold T_X5_obey_1_80 at h
    obtain ⟨_, _, _, _, h⟩ := h
    have ei : ((k : Int) * 10 + (j : Int)).toNat = 10 * k + j := by
      clear h
      omega
    rw [h0, ei, Int.toNat_natCast, h13] at h
    have go : ∀ s1 : PS, It_X5_obey_1 m 120 (i : Int) (k : Int) v (j : Int) s1 r t → j < nk → (∀ m, ¬ m = 59 → s1 m = s m) → (∀ x, ¬ x = 10 * k + j → s1 59 x = s 59 x) → s1 59 (10 * k + j) = (if tb W j = true then F j + v else F j) → (∀ kd, kd < nk → t 59 (10 * k + kd) = if tb W kd = true then F kd + v else F kd) ∧ (∀ j, ¬ (10 * k ≤ j ∧ j < 10 * k + 10) → t 59 j = s 59 j) ∧ ∀ m, ¬ m = 59 → t m = s m := by
      intro s1 h hj2 e1 e2 e3
      cases m with
      | zero => exact False.elim h
      | succ m =>
        replace h := ul_X5_obey_1_120 h
        unfold T_X5_obey_1_120 at h
        obtain ⟨_, _, _, _, h⟩ := h
        have w := ih m (by omega) (j + 1) s1 r t h (by rw [e1 1 (by decide)]; exact h0) (by rw [e1 13 (by decide)]; exact h13) (by omega) (fun kd hkd => by
          by_cases e : kd = j
          · rw [e]
            exact e3
          · rw [e2 _ (by omega)]
            exact hd kd (by omega)) (fun kd k1 k2 => by
          rw [e2 _ (by omega)]
          exact ht kd (by omega) k2)
        exact ⟨w.1, fun x hx => (w.2.1 x hx).trans (e2 x (by omega)), fun m hm => (w.2.2 m hm).trans (e1 m hm)⟩
    rcases h with ⟨c, _, es⟩ | ⟨c, ⟨c2, h⟩ | ⟨c2, s7, e7, h⟩⟩
    · rw [es]
      exact ⟨fun kd hkd => hd kd (by omega), fun _ _ => rfl, fun _ _ => rfl⟩
    · have f : ¬ tb W j = true := by
        unfold tb
        rw [decide_eq_true_eq]
        exact fun z => z c2
      have hj2 : j < nk := by
        clear h
        omega
      exact go s h hj2 (fun _ _ => rfl) (fun _ _ => rfl) (by rw [if_neg f]; exact ht j (Nat.le_refl _) hj2)
    · have f : tb W j = true := by
        unfold tb
        rw [decide_eq_true_eq]
        exact c2
      have hj2 : j < nk := by
        clear h
        omega
      have bd := hb j hj2
      rw [ht j (Nat.le_refl _) hj2, wi_id bd.1 bd.2] at e7
      refine go s7 h hj2 (fun m hm => by rw [e7, us_k hm]) (fun x hx => by rw [e7, us_j hx]) ?_
      rw [if_pos f, e7, us_at]
/-- a statement whose test is so is obeyed -/
theorem obeyX {i : Nat} (hS : KsOk n S) (hk : k < S.1) (hG : GO b OL) (h10 : b.1.length ≤ 10) (hE : WE b OL S k C A mk s) (ho : OL[i]? = some o) (hi : i ≤ 23) (h3 : o.1 ≤ 2) (hts : tsT b S k o = true) (hJ : JdX b (OL.take i) L now S k s) (h : M_X5_obey_1 s (i : Int) (k : Int) r t) : JdX b (OL.take (i + 1)) L now S k t ∧ OtJ k s t ∧ t 60 = s 60 ∧ t 61 = s 61 ∧ t 62 = s 62 := by
  obtain ⟨m, h⟩ := h
  unfold T_X5_obey_1_e at h
  obtain ⟨_, _, _, h⟩ := h
  rw [take_s ho]
  have po := hG.2 o (List.mem_of_getElem? ho)
  have x8 : s 8 i = whX o.1 := by
    have z := (hE.2.2.2.1 i o ho).1
    rw [sw_hi (by decide) (by decide)] at z
    exact z
  simp only [Int.toNat_natCast] at h
  rw [x8] at h
  have w0 : whX 0 = 6 := rfl
  have w1 : whX 1 = 8 := rfl
  have w2 : whX 2 = 10 := rfl
  rcases (show o.1 = 0 ∨ o.1 = 1 ∨ o.1 = 2 by omega) with e | e | e
  · rw [e, w0] at h
    rcases h with ⟨_, s23, e23, _, es⟩ | ⟨c, _⟩
    · rw [es, e23]
      refine ⟨hJ.snoc ?_ (fun kd hkd => ?_) (fun kd hkd => ?_), OtJ.u1 (Or.inr (Or.inl rfl)), us_k (by decide), us_k (by decide), us_k (by decide)⟩
      · rw [us_k (by decide), if_neg (fun z => by omega)]
      · rw [us_at, tb_and2 (by omega), tb_xor2 (by omega), tb_m1 (by omega), ifK28 hE.2.2.2.2.1 ho (Or.inl e) hkd, hts, decide_eq_true e, Bool.xor_true, Bool.true_and, Bool.true_and]
      · rw [us_k (by decide), if_neg (fun z => by omega)]
    · exact absurd rfl c
  · rw [e, w1] at h
    rcases h with ⟨c, _⟩ | ⟨_, r13, s12, m12, _, _, ⟨c, _⟩ | ⟨_, h⟩⟩
    · exact absurd c (by decide)
    · exact absurd c (by decide)
    · obtain ⟨y1, y2⟩ := sumW hS hk hG hE ho (Or.inl e) m12
      rw [y1] at h
      have sb := (sm_all (b := b) hS hk po (Or.inl e) mk 0).1
      have pl : (OL.take i).length ≤ i := by
        rw [List.length_take]
        omega
      have pb : ∀ kd, kd < b.1.length → -2147483648 ≤ s 59 (10 * k + kd) + smV b S k o ∧ s 59 (10 * k + kd) + smV b S k o ≤ 2147483647 := by
        intro kd hkd
        have z := ptF_in (b := b) (kd := kd) (nK := b.1.length) (nM := b.2.1.length) hS hk (OL.take i) 0 0 (fun x hx => hG.2 x (List.mem_of_mem_take hx)) (by decide) (by decide)
        rw [← hJ.2.2 kd hkd, Nat.zero_add] at z
        clear h
        omega
      have w := obey80 (F := fun kd => s 59 (10 * k + kd)) (W := s 13 i) (nk := b.1.length) h10 pb m 0 s12 r t h (by rw [y2 1 (by decide)]; exact hE.1) (by rw [y2 13 (by decide)]) (Nat.zero_le _) (fun kd hkd => absurd hkd (Nat.not_lt_zero _)) (fun kd _ _ => by rw [y2 59 (by decide)])
      refine ⟨hJ.snoc ?_ (fun kd hkd => ?_) (fun kd hkd => ?_), ?_, (w.2.2 60 (by decide)).trans (y2 60 (by decide)), (w.2.2 61 (by decide)).trans (y2 61 (by decide)), (w.2.2 62 (by decide)).trans (y2 62 (by decide))⟩
      · rw [w.2.2 57 (by decide), y2 57 (by decide), if_neg (fun z => by omega)]
      · rw [w.2.2 58 (by decide), y2 58 (by decide), decide_eq_false (by omega), Bool.false_and, Bool.not_false, Bool.and_true]
      · rw [w.1 kd hkd, ← ifK28 hE.2.2.2.2.1 ho (Or.inr e) hkd]
        by_cases q : ifK b kd o = true
        · rw [if_pos q, if_pos ⟨e, hts, q⟩]
        · rw [if_neg q, if_neg (fun z => q z.2.2)]
      · refine ⟨fun m hm j hj => by rw [w.2.2 m (by omega), y2 m (by omega)], fun j hj => by rw [w.2.1 j hj, y2 59 (by decide)], fun m hm => (w.2.2 m (by omega)).trans (y2 m (by omega))⟩
  · rw [e, w2] at h
    rcases h with ⟨c, _⟩ | ⟨_, r13, s12, m12, _, _, ⟨_, s18, e18, _, es⟩ | ⟨c, _⟩⟩
    · exact absurd c (by decide)
    · obtain ⟨y1, y2⟩ := sumW hS hk hG hE ho (Or.inr e) m12
      rw [es, e18, y1]
      refine ⟨hJ.snoc ?_ (fun kd hkd => ?_) (fun kd hkd => ?_), (OtJ.of6 (fun m _ _ h3 => y2 m h3)).trans (OtJ.u1 (Or.inl rfl)), (us_k (by decide)).trans (y2 60 (by decide)), (us_k (by decide)).trans (y2 61 (by decide)), (us_k (by decide)).trans (y2 62 (by decide))⟩
      · rw [us_at, if_pos ⟨e, hts⟩]
      · rw [us_k (by decide), y2 58 (by decide), decide_eq_false (by omega), Bool.false_and, Bool.not_false, Bool.and_true]
      · rw [us_k (by decide), y2 59 (by decide), if_neg (fun z => by omega)]
    · exact absurd rfl c
theorem weigh117 (hS : KsOk n S) (hk : k < S.1) (hG : GO b OL) (h10 : b.1.length ≤ 10) : ∀ (m i : Nat) (s : PS) (r : Int) (t : PS), It_X5_weigh_1_42 m 117 (k : Int) (i : Int) s r t → WE b OL S k C A mk s → i ≤ OL.length → JdX b (OL.take i) L now S k s → JdX b OL L now S k t ∧ OtJ k s t ∧ t 60 = s 60 := by
  intro m
  induction m using Nat.strongRecOn with
  | ind m ih =>
  intro i s r t h hE hi hJ
  cases m with
  | zero => exact False.elim h
  | succ m =>
    replace h := ul_X5_weigh_1_42_117 h
    unfold T_X5_weigh_1_42_117 at h
    obtain ⟨ty, _, hi24, h⟩ := h
    rw [hE.2.1] at h
    simp only [Int.toNat_natCast] at h
    have go : ∀ s1 : PS, It_X5_weigh_1_42 m 169 (k : Int) (i : Int) s1 r t → i < OL.length → WE b OL S k C A mk s1 → OtJ k s s1 → s1 60 = s 60 → JdX b (OL.take (i + 1)) L now S k s1 → JdX b OL L now S k t ∧ OtJ k s t ∧ t 60 = s 60 := by
      intro s1 h hi2 hE1 ho1 e60 hJ1
      cases m with
      | zero => exact False.elim h
      | succ m =>
        replace h := ul_X5_weigh_1_42_169 h
        unfold T_X5_weigh_1_42_169 at h
        obtain ⟨_, _, _, h⟩ := h
        have w := ih m (by omega) (i + 1) s1 r t h hE1 (by omega) hJ1
        exact ⟨w.1, ho1.trans w.2.1, w.2.2.trans e60⟩
    rcases h with ⟨c, _, es⟩ | ⟨c, h⟩
    · have e : i = OL.length := by omega
      rw [e, List.take_length] at hJ
      rw [es]
      exact ⟨hJ, OtJ.refl, rfl⟩
    · have hi2 : i < OL.length := by
        clear h
        omega
      have hi23 : i ≤ 23 := by
        have z : s 1 8 ≤ 24 := (ty.1 (1, 8, 0, 24) (by decide)).2
        rw [hE.2.1] at z
        clear h
        omega
      have ho : OL[i]? = some OL[i] := List.getElem?_eq_getElem hi2
      have po := hG.2 _ (List.mem_of_getElem? ho)
      have h33 : OL[i].1 ≤ 3 := po.2.2.2.1
      have x8 : s 8 i = whX OL[i].1 := by
        have z := (hE.2.2.2.1 i _ ho).1
        rw [sw_hi (by decide) (by decide)] at z
        exact z
      rw [x8] at h
      rcases h with ⟨c2, h⟩ | ⟨c2, r7, s6, m6, _, _, h⟩
      · have e3 : ¬ OL[i].1 ≤ 2 := by
          intro z
          unfold whX at c2
          rcases (show OL[i].1 = 0 ∨ OL[i].1 = 1 ∨ OL[i].1 = 2 by omega) with e | e | e
          · rw [e] at c2
            exact absurd c2 (by decide)
          · rw [e] at c2
            exact absurd c2 (by decide)
          · rw [e] at c2
            exact absurd c2 (by decide)
        refine go s h hi2 hE OtJ.refl rfl ?_
        rw [take_s ho]
        exact hJ.same rfl rfl rfl (fun z => e3 z.1)
      · have e2 : OL[i].1 ≤ 2 := by
          by_cases z : OL[i].1 ≤ 2
          · exact z
          · have e : OL[i].1 = 3 := by
              clear h
              omega
            rw [e] at c2
            exact absurd rfl c2
        obtain ⟨y1, y2⟩ := testW hS hk hG hE ho e2 m6
        have E6 : WE b OL S k C A mk s6 := hE.cg (fun m hm => y2 m (by omega)) (y2 61 (by decide)) (y2 62 (by decide))
        rcases h with ⟨c3, h⟩ | ⟨c3, s10, m10, _, _, h⟩
        · refine go s6 h hi2 E6 (OtJ.of6 (fun m _ _ h3 => y2 m h3)) (y2 60 (by decide)) ?_
          rw [take_s ho]
          refine hJ.same (y2 57 (by decide)) (y2 58 (by decide)) (y2 59 (by decide)) (fun z => ?_)
          rcases y1 with ⟨_, x⟩ | ⟨x, _⟩
          · exact x z.2
          · omega
        · have yes : tsT b S k OL[i] = true := by
            rcases y1 with ⟨x, _⟩ | ⟨_, x⟩
            · exact absurd x c3
            · exact x
          have J6 : JdX b (OL.take i) L now S k s6 := by
            obtain ⟨g1, g2, g3⟩ := hJ
            unfold JdX
            rw [y2 57 (by decide), y2 58 (by decide), y2 59 (by decide)]
            exact ⟨g1, g2, g3⟩
          obtain ⟨z1, z2, z3, z4, z5⟩ := obeyX hS hk hG h10 E6 ho hi23 e2 yes J6 m10
          exact go s10 h hi2 (E6.cg z2.2.2 z4 z5) ((OtJ.of6 (fun m _ _ h3 => y2 m h3)).trans z2) (z3.trans (y2 60 (by decide))) z1
theorem weigh55 {s0 : PS} {dy : Int} {nk : Nat} (h10 : nk ≤ 10) (e0 : s0 1 0 = (nk : Int)) (e49 : s0 49 k = dy) (e55 : ∀ kd, kd < 10 → s0 55 kd = clF L now (kd : Int) now) : ∀ (m j : Nat) (s : PS) (r : Int) (t : PS), It_X5_weigh_1_42 m 55 (k : Int) (j : Int) s r t → OtJ k s0 s → s 57 = s0 57 → s 60 = s0 60 → s 61 = s0 61 → s 62 = s0 62 → j ≤ nk → (∀ kd, kd < j → (tb (s 58 k) kd = true ↔ ¬ clF L now (kd : Int) now ≤ dy)) → (∀ kd, j ≤ kd → kd < nk → tb (s 58 k) kd = true) → (∀ kd, kd < j → s 59 (10 * k + kd) = 0) → ∃ (m' : Nat) (s' : PS), It_X5_weigh_1_42 m' 117 (k : Int) 0 s' r t ∧ OtJ k s0 s' ∧ s' 57 = s0 57 ∧ s' 60 = s0 60 ∧ s' 61 = s0 61 ∧ s' 62 = s0 62 ∧ (∀ kd, kd < nk → (tb (s' 58 k) kd = true ↔ ¬ clF L now (kd : Int) now ≤ dy)) ∧ ∀ kd, kd < nk → s' 59 (10 * k + kd) = 0 := by
  intro m
  induction m using Nat.strongRecOn with
  | ind m ih =>
  intro j s r t h q q57 q60 q61 q62 hj h1 h2 h3
  cases m with
  | zero => exact False.elim h
  | succ m =>
    replace h := ul_X5_weigh_1_42_55 h
    unfold T_X5_weigh_1_42_55 at h
    obtain ⟨_, _, _, h⟩ := h
    have ei : ((k : Int) * 10 + (j : Int)).toNat = 10 * k + j := by
      clear h
      omega
    rw [q.2.2 1 (by decide), e0, ei] at h
    simp only [Int.toNat_natCast] at h
    rcases h with ⟨c, h⟩ | ⟨c, s14, e14, h⟩
    · have e : j = nk := by omega
      rw [e] at h1 h3
      exact ⟨m, s, h, q, q57, q60, q61, q62, h1, h3⟩
    · have hj2 : j < nk := by
        clear h
        omega
      rw [q.2.2 49 (by decide), q.2.2 55 (by decide), e49, e55 j (by omega)] at h
      have go : ∀ s1 : PS, It_X5_weigh_1_42 m 108 (k : Int) (j : Int) s1 r t → OtJ k s0 s1 → s1 57 = s0 57 → s1 60 = s0 60 → s1 61 = s0 61 → s1 62 = s0 62 → (∀ kd, kd < nk → tb (s1 58 k) kd = (tb (s 58 k) kd && !(decide (kd = j) && decide (clF L now (kd : Int) now ≤ dy)))) → s1 59 = s14 59 → ∃ (m' : Nat) (s' : PS), It_X5_weigh_1_42 m' 117 (k : Int) 0 s' r t ∧ OtJ k s0 s' ∧ s' 57 = s0 57 ∧ s' 60 = s0 60 ∧ s' 61 = s0 61 ∧ s' 62 = s0 62 ∧ (∀ kd, kd < nk → (tb (s' 58 k) kd = true ↔ ¬ clF L now (kd : Int) now ≤ dy)) ∧ ∀ kd, kd < nk → s' 59 (10 * k + kd) = 0 := by
        intro s1 h q1 q571 q601 q611 q621 g1 g2
        cases m with
        | zero => exact False.elim h
        | succ m =>
          replace h := ul_X5_weigh_1_42_108 h
          unfold T_X5_weigh_1_42_108 at h
          obtain ⟨_, _, _, h⟩ := h
          refine ih m (by omega) (j + 1) s1 r t h q1 q571 q601 q611 q621 (by omega) (fun kd hkd => ?_) (fun kd k1 k2 => ?_) (fun kd hkd => ?_)
          · rw [g1 kd (by omega)]
            by_cases e : kd = j
            · rw [e, h2 j (Nat.le_refl _) hj2, decide_eq_true rfl, Bool.true_and, Bool.true_and, Bool.not_eq_true', decide_eq_false_iff_not]
            · rw [decide_eq_false e, Bool.false_and, Bool.not_false, Bool.and_true]
              exact h1 kd (by omega)
          · rw [g1 kd k2, decide_eq_false (by omega), Bool.false_and, Bool.not_false, Bool.and_true]
            exact h2 kd (by omega) k2
          · rw [g2, e14]
            by_cases e : kd = j
            · rw [e, us_at]
            · rw [us_j (by omega)]
              exact h3 kd (by omega)
      have o14 : OtJ k s0 s14 := q.trans (by rw [e14]; exact OtJ.u59 (by omega))
      have k14 : ∀ m, ¬ m = 59 → s14 m = s m := fun m hm => by rw [e14, us_k hm]
      rcases h with ⟨c2, h⟩ | ⟨c2, s22, e22, h⟩
      · refine go s14 h o14 ((k14 57 (by decide)).trans q57) ((k14 60 (by decide)).trans q60) ((k14 61 (by decide)).trans q61) ((k14 62 (by decide)).trans q62) (fun kd hkd => ?_) rfl
        rw [k14 58 (by decide)]
        by_cases e : kd = j
        · rw [e, decide_eq_false (show ¬ clF L now (j : Int) now ≤ dy by omega), Bool.and_false, Bool.not_false, Bool.and_true]
        · rw [decide_eq_false e, Bool.false_and, Bool.not_false, Bool.and_true]
      · have k22 : ∀ m, ¬ m = 58 → s22 m = s14 m := fun m hm => by rw [e22, us_k hm]
        refine go s22 h (o14.trans (by rw [e22]; exact OtJ.u1 (Or.inr (Or.inl rfl)))) ((k22 57 (by decide)).trans ((k14 57 (by decide)).trans q57)) ((k22 60 (by decide)).trans ((k14 60 (by decide)).trans q60)) ((k22 61 (by decide)).trans ((k14 61 (by decide)).trans q61)) ((k22 62 (by decide)).trans ((k14 62 (by decide)).trans q62)) (fun kd hkd => ?_) (k22 59 (by decide))
        rw [e22, us_at, tb_and2 (by omega), tb_xor2 (by omega), tb_m1 (by omega), tb_shl (by omega) (by omega), Bool.xor_true]
        by_cases e : kd = j
        · rw [e, decide_eq_true rfl, decide_eq_true (show clF L now (j : Int) now ≤ dy by omega), Bool.true_and]
        · rw [decide_eq_false e, decide_eq_false (fun z => e z.symm), Bool.false_and]
end WeighX
