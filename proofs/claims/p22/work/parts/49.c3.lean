/-! what the class knows at an act: children, what comes, what is called back -/
section LookX
variable {s t u v : PS} {r r2 : Int} {L : LT} {S : KS} {c : CH} {k : Nat}
/-- act a is known -/
theorem isKnownX {a now : Int} {A : Nat} (ha : a = (A : Int)) (h : M_X7_isKnown s a now r t) (hv : s 40 A = L.2.2.2.1 A) : t = s ∧ ((r = 1 ∧ knwn L now A = true) ∨ (r = 0 ∧ ¬ knwn L now A = true)) := by
  unfold M_X7_isKnown T_X7_isKnown_e at h
  obtain ⟨_, _, _, h⟩ := h
  have e : a.toNat = A := by omega
  rw [e, hv] at h
  unfold knwn
  rcases h with ⟨c1, er, es⟩ | ⟨c1, ⟨c2, er, es⟩ | ⟨c2, ⟨c3, er, es⟩ | ⟨c3, er, es⟩⟩⟩
  · refine ⟨es, Or.inr ⟨er, fun z => ?_⟩⟩
    rw [Bool.and_eq_true] at z
    have := of_decide_eq_true z.1
    omega
  · refine ⟨es, Or.inl ⟨er, ?_⟩⟩
    rw [decide_eq_true (show (A : Int) ≤ now by omega), decide_eq_true c2]
    rfl
  · refine ⟨es, Or.inr ⟨er, fun z => ?_⟩⟩
    rw [Bool.and_eq_true, Bool.or_eq_true] at z
    rcases z.2 with y | y
    · exact c2 (of_decide_eq_true y)
    · have := of_decide_eq_true y
      omega
  · refine ⟨es, Or.inl ⟨er, ?_⟩⟩
    rw [decide_eq_true (show (A : Int) ≤ now by omega), decide_eq_true (show now < L.2.2.2.1 A by omega), Bool.or_true]
    rfl
theorem lrX {a : Nat} {kn now : Int} (hL : LX L s) (hO : LOk kn L) (ha : 1 ≤ a ∧ a ≤ L.1) (hL2 : L.1 ≤ 200) (h0 : L.2.1 a = 0) (hkn : knwn L now a = true) (hS : KsOk (a - 1) S) (hK : KX S (a - 1) s) (h53 : s 53 a = -1) (h : M_X6_learnReport_35 s (a : Int) (L.2.2.1 a 0) r t) : KX (knStep L now S a) a t ∧ ∀ m, ¬ (42 ≤ m ∧ m ≤ 53) → t m = s m := by
  obtain ⟨n, h⟩ := h
  unfold T_X6_learnReport_35_e at h
  obtain ⟨_, _, r33, s32, m32, _, _, _, r36, s35, m35, _, _, h⟩ := h
  obtain ⟨q32, f33⟩ := findX m32 hK.1
  subst q32
  obtain ⟨q35, q36⟩ := detX m35
  subst q35
  have g := hL.2 a ha.1 ha.2
  have g4 := g.2.2.2 h0
  have dt := hO.dt ha.1 ha.2 h0
  have hA : AtX a (L.2.2.1 a) (L.2.2.2.2 a) s35 := ⟨g4.1, g4.2.1, g4.2.2⟩
  have x1 : ((a : Int) * 5 + 1).toNat = 5 * a + 1 := by omega
  rw [x1, hA.1 1 (by decide)] at q36
  rw [q36, hK.1.1] at h
  have un : knStep L now S a = (if kfd (L.2.2.1 a 0) S.1 S.2.1 < S.1 then S.upd a (kfd (L.2.2.1 a 0) S.1 S.2.1) (cupd (L.2.2.1 a) (L.2.2.2.2 a) (S.2.1 (kfd (L.2.2.1 a 0) S.1 S.2.1))) else if S.1 < 40 then S.new a (cupd (L.2.2.1 a) (L.2.2.2.2 a) (cnew (L.2.2.1 a))) else S.no a) := by
    unfold knStep
    rw [if_pos ⟨h0, hkn⟩]
  rw [un]
  have s40 := hS.1
  have wl4 : ∀ j, j < S.1 → (cWsh (S.2.1 j)).length ≤ 4 := fun j hj => (hS.2.2.1 j hj).2.2.2.2.2.2.2.2.1
  rcases h with ⟨c1, ⟨c2, s41, e41, s42, e42, s43, e43, s44, e44, s45, e45, s46, e46, h⟩ | ⟨c2, _, es⟩⟩ | ⟨c1, h⟩
  · have nf : kfd (L.2.2.1 a 0) S.1 S.2.1 = S.1 := by
      rcases f33 with z | z
      · exact z.2
      · clear h
        omega
    rw [nf, if_neg (Nat.lt_irrefl _), if_pos (by clear h; omega)]
    rw [Int.toNat_natCast] at e42 e43 e44 e45 e46
    have ev : s46 = us (us (us (us (us (us s35 42 2 ((S.1 : Int) + 1)) 43 S.1 (L.2.2.1 a 0)) 45 S.1 (L.2.2.1 a 1)) 46 S.1 (L.2.2.1 a 1)) 50 S.1 0) 51 S.1 0 := by rw [e46, e45, e44, e43, e42, e41]
    have fr : ∀ m, ¬ (42 ≤ m ∧ m ≤ 53) → s46 m = s35 m := fun m hm => by rw [ev, us_k (by omega), us_k (by omega), us_k (by omega), us_k (by omega), us_k (by omega), us_k (by omega)]
    have oth : ∀ m, 43 ≤ m → m ≤ 51 → ∀ j, ¬ j = S.1 → s46 m j = s35 m j := fun m h1 h2 j hj => by rw [ev, us_n (by omega), us_n (by omega), us_n (by omega), us_n (by omega), us_n (by omega), us_n (by omega)]
    have e52 : s46 52 = s35 52 := by rw [ev, us_k (by decide), us_k (by decide), us_k (by decide), us_k (by decide), us_k (by decide), us_k (by decide)]
    have e53 : s46 53 = s35 53 := by rw [ev, us_k (by decide), us_k (by decide), us_k (by decide), us_k (by decide), us_k (by decide), us_k (by decide)]
    have z := lr89 (k := S.1) (ws := []) (wl := L.2.2.2.2 a) (d := L.2.2.1 a) (co := L.2.2.1 a 0) (l := L.2.2.1 a 1) (m0 := L.2.2.1 a 1) (p := 0) (by clear h; omega) ⟨ha.1, by omega⟩ dt (hA.cg (fr 37 (by decide)) (fr 38 (by decide)) (fr 39 (by decide))) h (by rw [ev, us_k (by decide), us_k (by decide), us_k (by decide), us_k (by decide), us_at]) (by rw [ev, us_k (by decide), us_k (by decide), us_k (by decide), us_at]) (by rw [ev, us_k (by decide), us_k (by decide), us_at]) (by rw [ev, us_k (by decide), us_at]) (by decide) ⟨by rw [ev, us_at]; rfl, fun j hj => absurd hj (Nat.not_lt_zero _)⟩ ⟨Nat.zero_le _, fun w hw => absurd hw List.not_mem_nil⟩
    obtain ⟨z1, z2, z3⟩ := z
    refine ⟨⟨⟨?_, fun j hj => ?_⟩, fun x h1 h2 => ?_⟩, fun m hm => by rw [z3.2.2.2 m (by omega), fr m hm]⟩
    · rw [z3.2.2.2 42 (by decide), ev, us_k (by decide), us_k (by decide), us_k (by decide), us_k (by decide), us_k (by decide), us_at]
      rfl
    · have hj2 : j < S.1 + 1 := hj
      show CX (if j = S.1 then cupd (L.2.2.1 a) (L.2.2.2.2 a) (cnew (L.2.2.1 a)) else S.2.1 j) j t
      by_cases y : j = S.1
      · rw [if_pos y, y]
        exact z1
      · rw [if_neg y]
        have o := hK.1.2 j (by omega)
        have o2 : CX (S.2.1 j) j s46 := by
          obtain ⟨o1, o2, o3, o4, o5, o6, o7, o8, o9, o10⟩ := o
          refine ⟨by rw [oth 43 (by decide) (by decide) j y]; exact o1, by rw [oth 44 (by decide) (by decide) j y]; exact o2, by rw [oth 45 (by decide) (by decide) j y]; exact o3, by rw [oth 46 (by decide) (by decide) j y]; exact o4, by rw [oth 47 (by decide) (by decide) j y]; exact o5, by rw [oth 48 (by decide) (by decide) j y]; exact o6, by rw [oth 49 (by decide) (by decide) j y]; exact o7, by rw [oth 50 (by decide) (by decide) j y]; exact o8, by rw [oth 51 (by decide) (by decide) j y]; exact o9, by rw [e52]; exact o10⟩
        exact o2.ot z3 y (wl4 j (by omega))
    · by_cases y : x = a
      · subst y
        rw [z2]
        exact (if_pos rfl).symm
      · rw [z3.2.2.1 x y, e53, hK.2 x h1 (by omega)]
        exact (if_neg (by omega)).symm
  · have nf : kfd (L.2.2.1 a 0) S.1 S.2.1 = S.1 := by
      rcases f33 with z | z
      · exact z.2
      · omega
    rw [nf, if_neg (Nat.lt_irrefl _), if_neg (by omega), es]
    refine ⟨⟨hK.1, fun x h1 h2 => ?_⟩, fun _ _ => rfl⟩
    by_cases y : x = a
    · subst y
      rw [h53]
      exact (if_pos rfl).symm
    · rw [hK.2 x h1 (by omega)]
      exact (if_neg (by omega)).symm
  · have ff : r33 = (kfd (L.2.2.1 a 0) S.1 S.2.1 : Int) ∧ kfd (L.2.2.1 a 0) S.1 S.2.1 < S.1 := by
      rcases f33 with z | z
      · exact absurd z.1 c1
      · exact z
    obtain ⟨f1, f2⟩ := ff
    rw [if_pos f2]
    generalize hk0 : kfd (L.2.2.1 a 0) S.1 S.2.1 = k0 at f1 f2 ⊢
    rw [f1] at h
    have o := hK.1.2 k0 f2
    have ok := hS.2.2.1 k0 f2
    have z := lr89 (k := k0) (ws := cWsh (S.2.1 k0)) (wl := L.2.2.2.2 a) (d := L.2.2.1 a) (co := cCode (S.2.1 k0)) (l := cLst (S.2.1 k0)) (m0 := cMst (S.2.1 k0)) (p := cRep (S.2.1 k0)) (by clear h; omega) ⟨ha.1, by omega⟩ dt hA h o.1 o.2.2.1 o.2.2.2.1 o.2.2.2.2.2.2.2.1 (by have := ok.2.2.2.2.2.2.2.1; clear h; omega) ⟨o.2.2.2.2.2.2.2.2.1, o.2.2.2.2.2.2.2.2.2⟩ ok.2.2.2.2.2.2.2.2
    obtain ⟨z1, z2, z3⟩ := z
    refine ⟨⟨⟨?_, fun j hj => ?_⟩, fun x h1 h2 => ?_⟩, fun m hm => z3.2.2.2 m (by omega)⟩
    · rw [z3.2.2.2 42 (by decide)]
      exact hK.1.1
    · show CX (if j = k0 then cupd (L.2.2.1 a) (L.2.2.2.2 a) (S.2.1 k0) else S.2.1 j) j t
      by_cases y : j = k0
      · rw [if_pos y, y]
        exact z1
      · rw [if_neg y]
        exact (hK.1.2 j hj).ot z3 y (wl4 j hj)
    · by_cases y : x = a
      · subst y
        rw [z2]
        exact (if_pos rfl).symm
      · rw [z3.2.2.1 x y, hK.2 x h1 (by omega)]
        exact (if_neg (by omega)).symm
/-- what comes of a kind on a day, known at now, told by the first a acts -/
def cmF (L : LT) (now : Int) (k d : Int) : Nat → Int
  | 0 => 0
  | a + 1 => cmF L now k d a + (if L.2.1 (a + 1) = 1 ∧ knwn L now (a + 1) = true ∧ L.2.2.1 (a + 1) 0 = k ∧ L.2.2.1 (a + 1) 1 = d then L.2.2.1 (a + 1) 2 else 0)
/-- the first day on which a kind is called back -/
def clF (L : LT) (now : Int) (k : Int) : Nat → Int
  | 0 => 25
  | a + 1 => if L.2.1 (a + 1) = 2 ∧ knwn L now (a + 1) = true ∧ L.2.2.1 (a + 1) 0 = k then min (clF L now k a) (L.2.2.1 (a + 1) 1) else clF L now k a
theorem cmF_le {kn : Int} {L : LT} {now k d : Int} (hO : LOk kn L) : ∀ a, a ≤ L.1 → 0 ≤ cmF L now k d a ∧ cmF L now k d a ≤ 99 * (a : Int)
  | 0, _ => ⟨Int.le_refl _, Int.le_refl _⟩
  | a + 1, h => by
    have ih := cmF_le (now := now) (k := k) (d := d) hO a (by omega)
    have g := (hO (a + 1) (by omega) h).2.2.1
    show 0 ≤ cmF L now k d a + _ ∧ cmF L now k d a + _ ≤ 99 * ((a + 1 : Nat) : Int)
    split
    · rename_i c
      have z := g (Or.inl c.1)
      omega
    · omega
/-- what comes and what is called back, in the class's rows -/
def CmX (L : LT) (now : Int) (a : Nat) (s : PS) : Prop := (∀ k d : Nat, k < 10 → d < 25 → s 54 (25 * k + d) = cmF L now k d a) ∧ ∀ k : Nat, k < 10 → s 55 k = clF L now k a
theorem CmX.no {now : Int} {a : Nat} (h : CmX L now a s) (e54 : t 54 = s 54) (e55 : t 55 = s 55) (hn : ¬ (knwn L now (a + 1) = true ∧ (L.2.1 (a + 1) = 1 ∨ L.2.1 (a + 1) = 2))) : CmX L now (a + 1) t := by
  refine ⟨fun k d hk hd => ?_, fun k hk => ?_⟩
  · rw [e54, h.1 k d hk hd]
    show _ = cmF L now k d a + _
    rw [if_neg (fun z => hn ⟨z.2.1, Or.inl z.1⟩)]
    omega
  · rw [e55, h.2 k hk]
    show _ = if _ then _ else _
    rw [if_neg (fun z => hn ⟨z.2.1, Or.inr z.1⟩)]
theorem learnX {a : Nat} {kn now : Int} (hkn10 : kn ≤ 10) (hL : LX L s) (hO : LOk kn L) (ha : a + 1 ≤ L.1) (hL2 : L.1 ≤ 200) (hkn : knwn L now (a + 1) = true) (hS : KsOk a S) (hK : KX S a s) (hC : CmX L now a s) (h53 : s 53 (a + 1) = -1) (h : M_X6_learn_35 s ((a + 1 : Nat) : Int) r t) : KX (knStep L now S (a + 1)) (a + 1) t ∧ CmX L now (a + 1) t := by
  unfold M_X6_learn_35 T_X6_learn_35_e at h
  obtain ⟨_, _, r2, s1, m1, _, _, r6, s5, m5, _, _, h⟩ := h
  obtain ⟨q1, q2⟩ := detX m1
  subst q1
  obtain ⟨q5, q6⟩ := detX m5
  subst q5
  have g := hL.2 (a + 1) (by omega) ha
  have o := hO (a + 1) (by omega) ha
  have x0 : (((a + 1 : Nat) : Int) * 5 + 0).toNat = 5 * (a + 1) + 0 := by omega
  have x1 : (((a + 1 : Nat) : Int) * 5 + 1).toNat = 5 * (a + 1) + 1 := by omega
  have x2 : (((a + 1 : Nat) : Int) * 5 + 2).toNat = 5 * (a + 1) + 2 := by omega
  rw [x0, g.2.1 0 (by decide)] at q2
  rw [x1, g.2.1 1 (by decide)] at q6
  rw [Int.toNat_natCast, g.1, q2, q6] at h
  have kno : ¬ L.2.1 (a + 1) = 0 → ∀ t : PS, t 42 = s5 42 → (∀ m, 43 ≤ m → m ≤ 53 → t m = s5 m) → KX (knStep L now S (a + 1)) (a + 1) t := by
    intro z t e42 em
    have un : knStep L now S (a + 1) = S.no (a + 1) := by
      unfold knStep
      rw [if_neg (fun y => z y.1)]
    rw [un]
    refine ⟨⟨by rw [e42]; exact hK.1.1, fun k hk => ?_⟩, fun x h1 h2 => ?_⟩
    · have q := hK.1.2 k hk
      unfold CX
      rw [em 43 (by decide) (by decide), em 44 (by decide) (by decide), em 45 (by decide) (by decide), em 46 (by decide) (by decide), em 47 (by decide) (by decide), em 48 (by decide) (by decide), em 49 (by decide) (by decide), em 50 (by decide) (by decide), em 51 (by decide) (by decide), em 52 (by decide) (by decide)]
      exact q
    · rw [em 53 (by decide) (by decide)]
      by_cases y : x = a + 1
      · subst y
        rw [h53]
        exact (if_pos rfl).symm
      · rw [hK.2 x h1 (by omega)]
        exact (if_neg (by omega)).symm
  rcases h with ⟨c1, s11, m11, f11, _, _, es⟩ | ⟨c1, h⟩
  · have e0 : L.2.1 (a + 1) = 0 := by omega
    have z := lrX hL hO ⟨by omega, ha⟩ hL2 e0 hkn (S := S) hS hK h53 m11
    rw [es]
    exact ⟨z.1, hC.no (z.2 54 (by decide)) (z.2 55 (by decide)) (fun y => by omega)⟩
  · have n0 : ¬ L.2.1 (a + 1) = 0 := by omega
    rcases h with ⟨c2, r17, s16, m16, _, _, s21, e21, _, es⟩ | ⟨c2, h⟩
    · have e1 : L.2.1 (a + 1) = 1 := by omega
      have o1 := o.2.2.1 (Or.inl e1)
      obtain ⟨q16, q17⟩ := detX m16
      subst q16
      rw [x2, g.2.1 2 (by decide)] at q17
      obtain ⟨kk, hkk⟩ : ∃ kk : Nat, L.2.2.1 (a + 1) 0 = (kk : Int) := ⟨(L.2.2.1 (a + 1) 0).toNat, by omega⟩
      obtain ⟨dd, hdd⟩ : ∃ dd : Nat, L.2.2.1 (a + 1) 1 = (dd : Int) := ⟨(L.2.2.1 (a + 1) 1).toNat, by omega⟩
      have ix : (L.2.2.1 (a + 1) 0 * 25 + L.2.2.1 (a + 1) 1).toNat = 25 * kk + dd := by omega
      have bd := cmF_le (now := now) (k := kk) (d := dd) hO a (by omega)
      rw [ix, hC.1 kk dd (by omega) (by omega), q17, wi_id (by omega) (by omega)] at e21
      rw [es, e21]
      refine ⟨kno n0 _ (us_k (by decide)) (fun m h1 h2 => us_k (by omega)), fun k d hk hd => ?_, fun k hk => ?_⟩
      · rw [us_if]
        show _ = cmF L now k d a + (if _ then _ else _)
        by_cases y : 25 * k + d = 25 * kk + dd
        · have y1 : k = kk := by omega
          have y2 : d = dd := by omega
          subst y1
          subst y2
          rw [if_pos y, if_pos ⟨e1, hkn, hkk, hdd⟩]
        · rw [if_neg y, hC.1 k d hk hd, if_neg]
          · omega
          · intro z
            apply y
            omega
      · rw [us_k (by decide), hC.2 k hk]
        show _ = if _ then _ else _
        rw [if_neg (fun z => by omega)]
    · rcases h with ⟨c3, s25, e25, _, es⟩ | ⟨c3, _, es⟩
      · have e2 : L.2.1 (a + 1) = 2 := by omega
        have o1 := o.2.2.1 (Or.inr e2)
        obtain ⟨kk, hkk⟩ : ∃ kk : Nat, L.2.2.1 (a + 1) 0 = (kk : Int) := ⟨(L.2.2.1 (a + 1) 0).toNat, by omega⟩
        have ix : (L.2.2.1 (a + 1) 0).toNat = kk := by omega
        rw [ix, hC.2 kk (by omega)] at e25
        rw [es, e25]
        refine ⟨kno n0 _ (us_k (by decide)) (fun m h1 h2 => us_k (by omega)), fun k d hk hd => ?_, fun k hk => ?_⟩
        · rw [us_k (by decide), hC.1 k d hk hd]
          show _ = cmF L now k d a + _
          rw [if_neg (fun z => by omega)]
          omega
        · rw [us_if]
          show _ = if _ then _ else _
          by_cases y : k = kk
          · subst y
            rw [if_pos rfl, if_pos ⟨e2, hkn, hkk⟩]
          · rw [if_neg y, hC.2 k hk, if_neg (fun z => by omega)]
      · rw [es]
        exact ⟨kno n0 _ rfl (fun _ _ _ => rfl), hC.no rfl rfl (fun y => by omega)⟩
end LookX
