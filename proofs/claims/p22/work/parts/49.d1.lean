/-! all that lies between two calls is kept -/
section Keep
variable {s t u v w : PS} {r r2 : Int} {L M : LT} {ms ms2 : List Nat} {fm fm2 : List (Nat × Nat)}
/-- what the class knows is as it was -/
def K55 (s t : PS) : Prop := ∀ k, 42 ≤ k → k ≤ 55 → t k = s k
theorem K55.refl : K55 s s := fun _ _ _ => rfl
theorem K55.trans (h : K55 s t) (h2 : K55 t w) : K55 s w := fun k a b => (h2 k a b).trans (h k a b)
theorem K55.fr (hf : Fr intsX ms fm s t) (c : ∀ k ∈ [42, 43, 44, 45, 46, 47, 48, 49, 50, 51, 52, 53, 54, 55], k ∉ ms) : K55 s t := fun k h1 h2 => hf.1 k (c k (by simp only [List.mem_cons, List.not_mem_nil, or_false]; omega))
theorem K55.kv (h : K55 s t) (hV : KV L s) : KV L t := kv_cg hV (h 42 (by decide) (by decide)) (fun k h1 h2 => h k (by omega) h2)
theorem weighAllKV (hX : TyX s) (hR : RG L s u) (h : M_X11_weighAll s r t) : KV L t := by
  obtain ⟨n, h⟩ := h
  unfold T_X11_weighAll_e at h
  obtain ⟨_, s5, m5, _, _, h⟩ := h
  obtain ⟨now, _, y2, y3, _⟩ := lookAll hX hR m5
  have go : ∀ (n : Nat) (x : Int) (s : PS) (r : Int) (t : PS), It_X11_weighAll n x s r t → K55 s t := by
    intro n
    induction n with
    | zero => exact fun _ _ _ _ h => False.elim h
    | succ n ih =>
      intro x s r t h
      replace h := ul_X11_weighAll_6 h
      unfold T_X11_weighAll_6 at h
      obtain ⟨_, _, ⟨_, _, es⟩ | ⟨_, s2, _, f2, _, h⟩⟩ := h
      · rw [es]
        exact K55.refl
      · exact (K55.fr f2 (by decide)).trans (ih _ _ _ _ h)
  exact (go n 0 s5 r t h).kv (y3.kv y2)
theorem ofKV {p1 p2 : Int} (hX : TyX s) (hR : RG L s u) (h : M_X11_of s p1 p2 r t) : KV L t := by
  unfold M_X11_of T_X11_of_e at h
  obtain ⟨_, r1, s1, m1, _, _, _, h⟩ := h
  obtain ⟨now, _, y2, y3, _⟩ := isChildX hX hR m1
  have k1 := y3.kv y2
  rcases h with ⟨_, _, es⟩ | ⟨_, ⟨_, s2, _, f2, _, _, es⟩ | ⟨_, r2, s2, _, f2, _, _, es⟩⟩
  · rw [es]
    exact k1
  · rw [es]
    exact (K55.fr f2 (by decide)).kv k1
  · rw [es]
    exact (K55.fr f2 (by decide)).kv k1
theorem mayKV {p1 p2 : Int} (hX : TyX s) (hR : RG L s u) (h : M_X11_may s p1 p2 r t) : KV L t := by
  unfold M_X11_may T_X11_may_e at h
  obtain ⟨_, r1, s1, m1, _, _, _, h⟩ := h
  obtain ⟨now, _, y2, y3, _⟩ := isChildX hX hR m1
  have k1 := y3.kv y2
  rcases h with ⟨_, _, es⟩ | ⟨_, r2, s2, _, f2, _, _, ⟨_, _, es⟩ | ⟨_, s3, _, f3, _, _, es⟩⟩
  · rw [es]
    exact k1
  · rw [es]
    exact (K55.fr f2 (by decide)).kv k1
  · rw [es]
    exact ((K55.fr f2 (by decide)).trans (K55.fr f3 (by decide))).kv k1
theorem pointsKV {p1 p2 : Int} (hX : TyX s) (hR : RG L s u) (h : M_X11_points s p1 p2 r t) : KV L t := by
  unfold M_X11_points T_X11_points_e at h
  obtain ⟨_, r1, s1, m1, _, _, _, h⟩ := h
  obtain ⟨now, _, y2, y3, _⟩ := isChildX hX hR m1
  have k1 := y3.kv y2
  rcases h with ⟨_, _, es⟩ | ⟨_, r2, s2, _, f2, _, _, ⟨_, _, es⟩ | ⟨_, s3, _, f3, _, _, es⟩⟩
  · rw [es]
    exact k1
  · rw [es]
    exact (K55.fr f2 (by decide)).kv k1
  · rw [es]
    exact ((K55.fr f2 (by decide)).trans (K55.fr f3 (by decide))).kv k1
theorem giveKV (hX : TyX s) (hR : RG L s u) (h : M_X11_give s r t) : KV L t := by
  obtain ⟨n, h⟩ := h
  unfold T_X11_give_e at h
  obtain ⟨_, s1, m1, _, _, s2, _, f2, _, s3, _, f3, _, h⟩ := h
  have k1 := weighAllKV hX hR m1
  have go : ∀ (n : Nat) (x : Int) (s : PS) (r : Int) (t : PS), It_X11_give n x s r t → K55 s t := by
    intro n
    induction n with
    | zero => exact fun _ _ _ _ h => False.elim h
    | succ n ih =>
      intro x s r t h
      replace h := ul_X11_give_28 h
      unfold T_X11_give_28 at h
      obtain ⟨_, _, ⟨_, s2, _, f2, _, r6, s6, _, f6, _, _, es⟩ | ⟨_, s2, _, f2, _, s3, _, f3, _, h⟩⟩ := h
      · rw [es]
        exact (K55.fr f2 (by decide)).trans (K55.fr f6 (by decide))
      · exact ((K55.fr f2 (by decide)).trans (K55.fr f3 (by decide))).trans (ih _ _ _ _ h)
  exact (((K55.fr f2 (by decide)).trans (K55.fr f3 (by decide))).trans (go n 1 s3 r t h)).kv k1
theorem blindKV (hX : TyX s) (hR : RG L s u) (h : M_X11_blind s r t) : KV L t := by
  obtain ⟨n, h⟩ := h
  unfold T_X11_blind_e at h
  obtain ⟨_, s1, m1, _, _, s2, _, f2, _, h⟩ := h
  have k1 := weighAllKV hX hR m1
  have go : ∀ n : Nat, (∀ (x y : Int) (s : PS) (r : Int) (t : PS), It_X11_blind n 16 x y s r t → K55 s t) ∧ (∀ (x y : Int) (s : PS) (r : Int) (t : PS), It_X11_blind n 106 x y s r t → K55 s t) := by
    intro n
    induction n with
    | zero => exact ⟨fun _ _ _ _ _ h => False.elim h, fun _ _ _ _ _ h => False.elim h⟩
    | succ n ih =>
      refine ⟨fun x y s r t h => ?_, fun x y s r t h => ?_⟩
      · replace h := ul_X11_blind_16 h
        unfold T_X11_blind_16 at h
        obtain ⟨_, _, ⟨_, _, es⟩ | ⟨_, s2, _, f2, _, s3, _, f3, _, s4, _, f4, _, h⟩⟩ := h
        · rw [es]
          exact K55.refl
        · have k := ((K55.fr f2 (by decide)).trans (K55.fr f3 (by decide))).trans (K55.fr f4 (by decide))
          rcases h with ⟨_, h⟩ | ⟨_, s5, _, f5, _, r6, s6, _, f6, _, h⟩
          · exact k.trans (ih.2 _ _ _ _ _ h)
          · exact (k.trans ((K55.fr f5 (by decide)).trans (K55.fr f6 (by decide)))).trans (ih.2 _ _ _ _ _ h)
      · replace h := ul_X11_blind_106 h
        unfold T_X11_blind_106 at h
        obtain ⟨_, _, h⟩ := h
        exact ih.1 _ _ _ _ _ h
  exact ((K55.fr f2 (by decide)).trans ((go n).1 0 1 s2 r t h)).kv k1
abbrev okRX (ms : List Nat) (fm : List (Nat × Nat)) : Prop := (∀ k ∈ [1, 2, 3, 4, 5, 6, 7, 36, 37, 38, 39, 40], k ∉ ms) ∧ (0 ∉ ms ∨ (0 ∈ fm.map Prod.fst ∧ (0, 12) ∉ fm)) ∧ 35 ∉ ms
abbrev okRU (ms : List Nat) (fm : List (Nat × Nat)) : Prop := (∀ k ∈ [2, 3, 4, 5, 6, 7, 8, 9, 10, 11, 21, 22, 23, 24], k ∉ ms) ∧ (0 ∉ ms ∨ (0 ∈ fm.map Prod.fst ∧ (0, 12) ∉ fm ∧ (0, 37) ∉ fm ∧ (0, 38) ∉ fm ∧ (0, 39) ∉ fm))
theorem BK.fr (h : BK s u) (hF : Fr intsX ms fm s t) (c : ∀ k ∈ [1, 2, 3, 4, 5, 6, 7], k ∉ ms) (hG : Fr intsM ms2 fm2 u v) (c2 : (∀ k ∈ [2, 3, 4, 5, 6, 7, 8, 9, 10, 11], k ∉ ms2) ∧ (0 ∉ ms2 ∨ (0 ∈ fm2.map Prod.fst ∧ (0, 12) ∉ fm2))) : BK t v := by
  obtain ⟨b, b1, b2⟩ := h
  exact ⟨b, b1.cg (fun k h1 h2 => hF.1 k (c k (by simp only [List.mem_cons, List.not_mem_nil, or_false]; omega))), b2.cg (fun k h1 h2 => hG.1 k (c2.1 k (by simp only [List.mem_cons, List.not_mem_nil, or_false]; omega))) (hG.f (by decide) c2.2)⟩
theorem f4 {A B C D E : Prop} (c : A ∨ (B ∧ C ∧ D ∧ E)) : (A ∨ (B ∧ C)) ∧ (A ∨ (B ∧ D)) ∧ (A ∨ (B ∧ E)) := by
  rcases c with c | ⟨b, c, d, e⟩
  · exact ⟨Or.inl c, Or.inl c, Or.inl c⟩
  · exact ⟨Or.inr ⟨b, c⟩, Or.inr ⟨b, d⟩, Or.inr ⟨b, e⟩⟩
theorem f5r {A B C D E F : Prop} (c : A ∨ (B ∧ C ∧ D ∧ E ∧ F)) : (A ∨ (B ∧ C)) ∧ (A ∨ (B ∧ D)) ∧ (A ∨ (B ∧ E)) ∧ (A ∨ (B ∧ F)) := by
  rcases c with c | ⟨b, c, d, e, f⟩
  · exact ⟨Or.inl c, Or.inl c, Or.inl c, Or.inl c⟩
  · exact ⟨Or.inr ⟨b, c⟩, Or.inr ⟨b, d⟩, Or.inr ⟨b, e⟩, Or.inr ⟨b, f⟩⟩
/-- a call that tells nothing -/
theorem RG.fr (h : RG L s u) (hF : Fr intsX ms fm s t) (c : okRX ms fm) (hV : KV L t) (hG : Fr intsM ms2 fm2 u v) (c2 : okRU ms2 fm2) : RG L t v := by
  obtain ⟨hB, hA, hL, _⟩ := h
  obtain ⟨g12, g37, g38, g39⟩ := f5r c2.2
  have cx : ∀ k, (1 ≤ k ∧ k ≤ 7) ∨ (36 ≤ k ∧ k ≤ 40) → t k = s k := fun k hk => hF.1 k (c.1 k (by simp only [List.mem_cons, List.not_mem_nil, or_false]; omega))
  have cu : ∀ k, (2 ≤ k ∧ k ≤ 11) ∨ (21 ≤ k ∧ k ≤ 24) → v k = u k := fun k hk => hG.1 k (c2.1 k (by simp only [List.mem_cons, List.not_mem_nil, or_false]; omega))
  have e35 := hF.1 35 c.2.2
  have e12 : v 0 12 = u 0 12 := hG.f (by decide) g12
  have e37 : v 0 37 = u 0 37 := hG.f (by decide) g37
  have e38 : v 0 38 = u 0 38 := hG.f (by decide) g38
  have e39 : v 0 39 = u 0 39 := hG.f (by decide) g39
  have x12 : t 0 12 = s 0 12 := hF.f (by decide) c.2.1
  refine ⟨?_, ?_, ?_, hV⟩
  · obtain ⟨b, b1, b2⟩ := hB
    exact ⟨b, b1.cg (fun k h1 h2 => cx k (by omega)), b2.cg (fun k h1 h2 => cu k (by omega)) e12⟩
  · unfold AS
    rw [x12, e39, e35]
    exact hA
  · exact hL.cg (by rw [cx 1 (by decide)]) (by rw [e35]) (by rw [e35]) (cx 36 (by decide)) (cx 37 (by decide)) (cx 38 (by decide)) (cx 39 (by decide)) (cx 40 (by decide)) e37 e38 (cu 21 (by decide)) (cu 22 (by decide)) (cu 23 (by decide)) (cu 24 (by decide))
abbrev okAX (ms : List Nat) (fm : List (Nat × Nat)) : Prop := (∀ k ∈ [0, 1, 2, 3, 4, 5, 6, 7, 42, 43, 44, 45, 46, 47, 48, 49, 50, 51, 52, 53, 54, 55], k ∉ ms)
abbrev okAU (ms : List Nat) (fm : List (Nat × Nat)) : Prop := (∀ k ∈ [2, 3, 4, 5, 6, 7, 8, 9, 10, 11], k ∉ ms) ∧ (0 ∉ ms ∨ (0 ∈ fm.map Prod.fst ∧ (0, 12) ∉ fm ∧ (0, 39) ∉ fm ∧ (0, 39) ∉ fm))
/-- a call that tells an act -/
theorem RG.act (h : RG L s u) (hM : ∃ M : LT, LExt L M ∧ LG M t v) (hF : Fr intsX ms fm s t) (c : okAX ms fm) (hG : Fr intsM ms2 fm2 u v) (c2 : okAU ms2 fm2) : ∃ M : LT, RG M t v := by
  obtain ⟨hB, hA, hL, hV⟩ := h
  obtain ⟨M, m1, m2⟩ := hM
  obtain ⟨g12, g39, _⟩ := f4 c2.2
  have cx : ∀ k, k ≤ 7 ∨ (42 ≤ k ∧ k ≤ 55) → t k = s k := fun k hk => hF.1 k (c k (by simp only [List.mem_cons, List.not_mem_nil, or_false]; omega))
  have cu : ∀ k, (2 ≤ k ∧ k ≤ 11) → v k = u k := fun k hk => hG.1 k (c2.1 k (by simp only [List.mem_cons, List.not_mem_nil, or_false]; omega))
  have e12 : v 0 12 = u 0 12 := hG.f (by decide) g12
  have e39 : v 0 39 = u 0 39 := hG.f (by decide) g39
  refine ⟨M, ?_, ?_, m2, kv_ext hV m1 (cx 42 (by decide)) (fun k h1 h2 => cx k (by omega))⟩
  · obtain ⟨b, b1, b2⟩ := hB
    exact ⟨b, b1.cg (fun k h1 h2 => cx k (by omega)), b2.cg (fun k h1 h2 => cu k (by omega)) e12⟩
  · obtain ⟨a1, a2, a3⟩ := hA
    have l1 := hL.1.1
    have l2 := m2.1.1
    have l3 := m1.1
    unfold AS
    rw [cx 0 (by decide), e39]
    exact ⟨a1, a2, by omega⟩
/-- as() -/
theorem RG.as {p1 : Int} (h : RG L s u) (h1 : M_X11_as s p1 r t) (h2 : M_X12_as u p1 r2 v) (hF : Fr intsX [0] [(0, 12)] s t) (hG : Fr intsM [0] [(0, 39)] u v) : r = r2 ∧ RG L t v := by
  obtain ⟨hB, hA, hL, hV⟩ := h
  have z := as2 hL hA h1 h2
  have cx : ∀ k, ¬ k = 0 → t k = s k := fun k hk => hF.1 k (by simp only [List.mem_cons, List.not_mem_nil, or_false]; omega)
  have cu : ∀ k, ¬ k = 0 → v k = u k := fun k hk => hG.1 k (by simp only [List.mem_cons, List.not_mem_nil, or_false]; omega)
  refine ⟨z.1, ?_, z.2, ?_, ?_⟩
  · obtain ⟨b, b1, b2⟩ := hB
    exact ⟨b, b1.cg (fun k h1 h2 => cx k (by omega)), b2.cg (fun k h1 h2 => cu k (by omega)) (hG.f (by decide) (by decide))⟩
  · exact hL.cg (by rw [cx 1 (by decide)]) (by rw [cx 35 (by decide)]) (by rw [cx 35 (by decide)]) (cx 36 (by decide)) (cx 37 (by decide)) (cx 38 (by decide)) (cx 39 (by decide)) (cx 40 (by decide)) (hG.f (by decide) (by decide)) (hG.f (by decide) (by decide)) (cu 21 (by decide)) (cu 22 (by decide)) (cu 23 (by decide)) (cu 24 (by decide))
  · exact kv_cg hV (cx 42 (by decide)) (fun k h1 h2 => cx k (by omega))
def L0 : LT := (0, fun _ => 0, fun _ _ => 0, fun _ => 0, fun _ => [])
/-- rules() of the class: what else is changed -/
theorem rulesX3 (hX : TyX s) (h : M_X11_rules s r t) : (r = -1 ∧ ∀ k, k ≤ 15 ∨ 35 ≤ k → t k = s k) ∨ (¬ r = -1 ∧ t 35 0 = 0 ∧ t 35 1 = 0 ∧ t 0 12 = -1 ∧ t 42 0 = -1 ∧ t 88 0 = 0) := by
  unfold M_X11_rules T_X11_rules_e at h
  obtain ⟨_, r1, s1, hm, hf, ty1, _, s2, e2, h⟩ := h
  rcases h with ⟨c, er, es⟩ | ⟨c, s3, e3, s4, e4, s5, _, f5, _, s6, m6, f6, _, s7, e7, s8, m8, f8, _, s9, e9, er, es⟩
  · refine Or.inl ⟨er, fun k hk => ?_⟩
    rw [es, e2, us_k (by omega), hf.1 k (by simp only [List.mem_cons, List.not_mem_nil, or_false]; omega)]
  · have k0 := ty1.1 (16, 0, 0, 10) (by decide)
    have k8 := ty1.1 (16, 8, 0, 24) (by decide)
    have k0' : 0 ≤ s1 16 0 ∧ s1 16 0 ≤ 10 := k0
    have k8' : 0 ≤ s1 16 8 ∧ s1 16 8 ≤ 24 := k8
    unfold M_X7_empty T_X7_empty_e at m6
    obtain ⟨_, a1, b1, a2, b2, _, q6⟩ := m6
    unfold M_X6_forget T_X6_forget_e at m8
    obtain ⟨_, a3, b3, _, q8⟩ := m8
    refine Or.inr ⟨by omega, ?_, ?_, ?_, ?_, ?_⟩
    · rw [es, e9, us_k (by decide), q8, b3, us_k (by decide), e7, us_k (by decide), q6, b2, us_j (by decide), b1, us_at]
    · rw [es, e9, us_k (by decide), q8, b3, us_k (by decide), e7, us_k (by decide), q6, b2, us_at]
    · rw [es, e9, us_k (by decide), q8, b3, us_k (by decide), e7, us_at]
    · rw [es, e9, us_k (by decide), q8, b3, us_at]
    · rw [es, e9, us_at]
theorem rulesML : ∀ (n : Nat) (x : Int) (s : PS) (r : Int) (t : PS), It_X12_rules n x s r t → (t 0 12 = s 0 13 ∧ t 0 37 = 0 ∧ t 0 38 = 0 ∧ t 0 39 = -1 ∧ t 0 68 = 0) ∨ (r = -1 ∧ t 0 12 = s 0 12 ∧ t 0 37 = s 0 37 ∧ t 0 38 = s 0 38 ∧ t 0 39 = s 0 39 ∧ t 0 68 = s 0 68 ∧ ∀ k, 21 ≤ k → t k = s k)
  | 0, _, _, _, _, h => False.elim h
  | n + 1, x, s, r, t, h => by
    replace h := ul_X12_rules_68 h
    unfold T_X12_rules_68 at h
    obtain ⟨ty, h⟩ := h
    rcases h with ⟨_, ⟨c1, s6, e6, s7, e7, _, s9, e9, s10, e10, s11, e11, s12, e12, s13, e13, _, es⟩ | ⟨c1, s1, hm, hf, _, h⟩⟩ | ⟨c, s2, e2, s3, e3, _, er, es⟩
    · refine Or.inl ⟨?_, ?_, ?_, ?_, ?_⟩
      · rw [es, e13, us_j (by decide), e12, us_j (by decide), e11, us_j (by decide), e10, us_j (by decide), e9, us_at]
      · rw [es, e13, us_j (by decide), e12, us_j (by decide), e11, us_j (by decide), e10, us_at]
      · rw [es, e13, us_j (by decide), e12, us_j (by decide), e11, us_at]
      · rw [es, e13, us_j (by decide), e12, us_at]
      · rw [es, e13, us_at]
    · have z := rulesML n _ s1 r t h
      rw [hf.f (k := 0) (j := 13) (by decide) (by decide), hf.f (k := 0) (j := 12) (by decide) (by decide), hf.f (k := 0) (j := 37) (by decide) (by decide), hf.f (k := 0) (j := 38) (by decide) (by decide), hf.f (k := 0) (j := 39) (by decide) (by decide), hf.f (k := 0) (j := 68) (by decide) (by decide)] at z
      rcases z with z | ⟨z1, z2, z3, z4, z5, z6, z7⟩
      · exact Or.inl z
      · exact Or.inr ⟨z1, z2, z3, z4, z5, z6, fun k hk => by rw [z7 k hk, hf.1 k (by simp only [List.mem_cons, List.not_mem_nil, or_false]; omega)]⟩
    · refine Or.inr ⟨er, ?_, ?_, ?_, ?_, ?_, fun k hk => ?_⟩
      · rw [es, e3, us_j (by decide), e2, us_j (by decide)]
      · rw [es, e3, us_j (by decide), e2, us_j (by decide)]
      · rw [es, e3, us_j (by decide), e2, us_j (by decide)]
      · rw [es, e3, us_j (by decide), e2, us_j (by decide)]
      · rw [es, e3, us_j (by decide), e2, us_j (by decide)]
      · rw [es, e3, us_k (by omega), e2, us_k (by omega)]
theorem rulesM3 (hM : TyM u) (h : M_X12_rules u r v) : (v 0 12 = 1 - u 0 12 ∧ v 0 37 = 0 ∧ v 0 38 = 0 ∧ v 0 39 = -1 ∧ v 0 68 = 0) ∨ (r = -1 ∧ v 0 12 = u 0 12 ∧ v 0 37 = u 0 37 ∧ v 0 38 = u 0 38 ∧ v 0 39 = u 0 39 ∧ v 0 68 = u 0 68 ∧ ∀ k, 21 ≤ k → v k = u k) := by
  obtain ⟨n, h⟩ := h
  unfold T_X12_rules_e at h
  obtain ⟨ty, s0, f0, s1, f1, s2, f2, s3, f3, s4, f4', s5, f5, s6, hm, hf, _, h⟩ := h
  have es : s5 = us (us (us (us (us (us u 0 13 (1 - u 0 12)) 2 (1 - u 0 12).toNat 0) 3 (1 - u 0 12).toNat 0) 4 (1 - u 0 12).toNat 0) 5 (1 - u 0 12).toNat 1000) 14 (1 - u 0 12).toNat 0 := by rw [f5, f4', f3, f2, f1, f0]
  have k0 : ∀ j, ¬ j = 13 → s5 0 j = u 0 j := fun j hj => by rw [es, us_k (by decide), us_k (by decide), us_k (by decide), us_k (by decide), us_k (by decide), us_j hj]
  have k13 : s5 0 13 = 1 - u 0 12 := by rw [es, us_k (by decide), us_k (by decide), us_k (by decide), us_k (by decide), us_k (by decide), us_at]
  have z := rulesML n _ s6 r v h
  rw [hf.f (k := 0) (j := 13) (by decide) (by decide), hf.f (k := 0) (j := 12) (by decide) (by decide), hf.f (k := 0) (j := 37) (by decide) (by decide), hf.f (k := 0) (j := 38) (by decide) (by decide), hf.f (k := 0) (j := 39) (by decide) (by decide), hf.f (k := 0) (j := 68) (by decide) (by decide), k13, k0 12 (by decide), k0 37 (by decide), k0 38 (by decide), k0 39 (by decide), k0 68 (by decide)] at z
  rcases z with z | ⟨z1, z2, z3, z4, z5, z6, z7⟩
  · exact Or.inl z
  · refine Or.inr ⟨z1, z2, z3, z4, z5, z6, fun k hk => ?_⟩
    rw [z7 k hk, hf.1 k (by simp only [List.mem_cons, List.not_mem_nil, or_false]; omega), es, us_k (by omega), us_k (by omega), us_k (by omega), us_k (by omega), us_k (by omega), us_k (by omega)]
theorem BM.bank {b : BST} (h : BM b u) : 0 ≤ u 0 12 ∧ u 0 12 ≤ 1 := by
  obtain ⟨a, h1, h2, _⟩ := h
  omega
theorem rulesNe (hT : TT s u) (hM : TyM u) (h2 : M_X12_rules u r2 v) (h : v 0 12 = 1 - u 0 12) : ¬ r2 = -1 := by
  have ba : ∀ i, 0 ≤ u 1 i ∧ u 1 i ≤ 255 := fun i => tyM_byt hM i
  have ln : 0 ≤ u 0 1 ∧ u 0 1 ≤ 1000 := hM.1 (0, 1, 0, 1000) (by decide)
  have hb : ∀ i, u 1 i = (((u 1 i).toNat : Nat) : Int) := fun i => by
    have := ba i
    omega
  have hl : u 0 1 = (((u 0 1).toNat : Nat) : Int) := by omega
  have hg : ∀ i, (fun i => (u 1 i).toNat) i ≤ 255 := fun i => by
    have := ba i
    show (u 1 i).toNat ≤ 255
    omega
  have hN : (u 0 1).toNat ≤ 1000 := by omega
  rcases rulesMB (g := fun i => (u 1 i).toNat) hN hg h2 hb hl with ⟨_, _, y, _⟩ | ⟨b, _, y, _⟩
  · have := tyM_bank hM
    intro _
    omega
  · intro e
    omega
/-- rules() of both -/
theorem rulesRG (hT : TT s u) (hO : OWX s) (hX : TyX s) (hM : TyM u) (hR : RG L s u) (h1 : M_X11_rules s r t) (h2 : M_X12_rules u r2 v) : r = r2 ∧ ((r = -1 ∧ RG L t v) ∨ (¬ r = -1 ∧ RG L0 (sw t) v)) := by
  obtain ⟨hB, hA, hL, hV⟩ := hR
  have z := rules3 hT hO hM h1 h2 hB
  have x := rulesX3 hX h1
  have y := rulesM3 hM h2
  refine ⟨z.1, ?_⟩
  rcases z.2 with ⟨c, zb⟩ | ⟨c, zb⟩
  · rcases x with ⟨_, x3⟩ | ⟨x1, _⟩
    · rcases y with y | ⟨_, _, y3, y4, y5, _, y7⟩
      · have yy := rulesNe hT hM h2 y.1
        exact absurd (z.1.symm.trans c) yy
      · refine Or.inl ⟨c, zb, ?_, ?_, ?_⟩
        · unfold AS
          rw [x3 0 (by decide), x3 35 (by decide), y5]
          exact hA
        · exact hL.cg (by rw [x3 1 (by decide)]) (by rw [x3 35 (by decide)]) (by rw [x3 35 (by decide)]) (x3 36 (by decide)) (x3 37 (by decide)) (x3 38 (by decide)) (x3 39 (by decide)) (x3 40 (by decide)) y3 y4 (y7 21 (by decide)) (y7 22 (by decide)) (y7 23 (by decide)) (y7 24 (by decide))
        · exact kv_cg hV (x3 42 (by decide)) (fun k h1 h2 => x3 k (by omega))
    · exact absurd c x1
  · rcases x with ⟨x1, _⟩ | ⟨_, x2, x3, x4, x5, _⟩
    · exact absurd x1 c
    · rcases y with ⟨_, y2, y3, y4, _⟩ | ⟨y1, _⟩
      · refine Or.inr ⟨c, zb, ?_, ?_, ?_⟩
        · refine ⟨?_, ?_, ?_⟩
          · show t 0 12 = v 0 39
            rw [x4, y4]
          · show -1 ≤ t 0 12
            rw [x4]
            decide
          · show t 0 12 ≤ t 35 0
            rw [x4, x2]
            decide
        · refine ⟨⟨?_, fun a h1 h2 => ?_⟩, ⟨?_, fun a h1 h2 => ?_⟩, fun a h1 h2 => ?_, ?_, ?_, ?_⟩
          · show t 35 0 = ((0 : Nat) : Int)
            exact x2
          · have h2' : a ≤ 0 := h2
            omega
          · show v 0 37 = ((0 : Nat) : Int)
            exact y2
          · have h2' : a ≤ 0 := h2
            omega
          · have h2' : a ≤ 0 := h2
            omega
          · show t 35 1 = v 0 38
            rw [x3, y3]
          · rw [y3]
            decide
          · rw [y3]
            decide
        · refine Or.inl ?_
          show t 42 0 = -1
          exact x5
      · exact absurd (z.1.trans y1) c
end Keep
