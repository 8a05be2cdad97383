/-! all calls keep what both know of the rules -/
section KeepQ
variable {b b2 : BST} {S : KS} {k kd a n : Nat} {s t u v : PS} {r r2 c c2 : Int} {OL OL2 : List OT} {L M : LT} {now : Nat} {ms ms2 : List Nat} {fm fm2 : List (Nat × Nat)}
abbrev okWX (ms : List Nat) : Prop := ∀ k ∈ [42, 57, 58, 59, 60], k ∉ ms
theorem WG.fr (h : WG b OL L c s) (hF : Fr intsX ms fm s t) (k : okWX ms) (hc : c ≤ c2) : WG b OL L c2 t := h.cg (by rw [hF.1 42 (k 42 (by decide))]) (by rw [hF.1 42 (k 42 (by decide))]) (hF.1 57 (k 57 (by decide))) (hF.1 58 (k 58 (by decide))) (hF.1 59 (k 59 (by decide))) (hF.1 60 (k 60 (by decide))) hc
theorem fr_nil (h : Fr intsX [] [] s t) : t = s := funext (fun k => h.1 k List.not_mem_nil)
theorem LkO.refl : LkO s s := ⟨fun _ _ => rfl, Or.inl rfl⟩
theorem allLk {p1 : Int} (hX : TyX s) (hR : RG L s u) (h : M_X11_all s p1 r t) : LkO s t := by
  unfold M_X11_all T_X11_all_e at h
  obtain ⟨_, h⟩ := h
  rcases h with ⟨_, _, es⟩ | ⟨_, ⟨_, _, es⟩ | ⟨_, ⟨_, _, es⟩ | ⟨_, ⟨_, _, es⟩ | ⟨_, ⟨_, r7, s6, _, f6, _, _, _, es⟩ | ⟨_, ⟨_, s10, m10, _, _, _, es⟩ | ⟨_, ⟨_, s14, m14, _, _, r18, s17, _, f17, _, _, es⟩ | ⟨_, ⟨_, _, es⟩ | ⟨_, _, es⟩⟩⟩⟩⟩⟩⟩⟩
  · rw [es]
    exact LkO.refl
  · rw [es]
    exact LkO.refl
  · rw [es]
    exact LkO.refl
  · rw [es]
    exact LkO.refl
  · rw [es, fr_nil f6]
    exact LkO.refl
  · rw [es]
    obtain ⟨now, _, _, _, k⟩ := lookAll hX hR m10
    exact k
  · rw [es, fr_nil f17]
    obtain ⟨now, _, _, _, k⟩ := lookAll hX hR m14
    exact k
  · rw [es]
    exact LkO.refl
  · rw [es]
    exact LkO.refl
theorem childLk {p1 : Int} (hX : TyX s) (hR : RG L s u) (h : M_X11_child s p1 r t) : LkO s t := by
  unfold M_X11_child T_X11_child_e at h
  obtain ⟨_, ⟨_, _, es⟩ | ⟨_, r3, s2, m2, f2, _, _, ⟨_, s6, m6, _, _, _, es⟩ | ⟨_, _, es⟩⟩⟩ := h
  · rw [es]
    exact LkO.refl
  · rw [fr_nil f2] at m6
    rw [es]
    obtain ⟨now, _, _, _, k⟩ := lookAll hX hR m6
    exact k
  · rw [es, fr_nil f2]
    exact LkO.refl
theorem wishLk {p1 p2 p3 : Int} (hX : TyX s) (hR : RG L s u) (h : M_X11_wish s p1 p2 p3 r t) : LkO s t := by
  unfold M_X11_wish T_X11_wish_e at h
  obtain ⟨_, r2, s1, m1, _, _, _, h⟩ := h
  obtain ⟨now, _, _, _, k, _⟩ := isChildX hX hR m1
  rcases h with ⟨_, _, es⟩ | ⟨_, ⟨_, _, es⟩ | ⟨_, ⟨_, r11, s10, _, f10, _, _, _, es⟩ | ⟨_, _, es⟩⟩⟩
  · rw [es]
    exact k
  · rw [es]
    exact k
  · rw [es, fr_nil f10]
    exact k
  · rw [es]
    exact k
/-- weighing behind a look -/
theorem weighWG {p1 : Int} (hc : c + 1 ≤ 2147483647) (hR : RQ b OL L c s u) (hn : now ≤ L.1) (hSn : SeenX L now t) (hk : LkO s t) (hp : 0 ≤ p1 ∧ p1 < ((knAll L now now).1 : Int)) (h : M_X5_weigh_1_42 t p1 r v) : WG b OL L (c + 1) v := by
  have hO := hR.1.2.2.1.2.2.1
  have w1 := hR.2.2.look hO hk hc
  obtain ⟨k, rfl⟩ : ∃ k : Nat, p1 = (k : Int) := ⟨p1.toNat, by omega⟩
  exact (weighX hO hn (hR.2.1.1.cg (fun k h1 h2 => hk.1 k (by omega))) hR.2.1.2.2.1 (hR.2.1.2.2.2.1.cg (fun k h1 h2 => hk.1 k (by omega))) hSn (by omega) w1 h).2.1
theorem ofWG {p1 p2 : Int} (hX : TyX s) (hc : c + 1 ≤ 2147483647) (hR : RQ b OL L c s u) (h : M_X11_of s p1 p2 r t) : WG b OL L (c + 1) t := by
  unfold M_X11_of T_X11_of_e at h
  obtain ⟨_, x1, s1, m1, _, _, _, h⟩ := h
  obtain ⟨now, a1, a2, a3, a4, a5⟩ := isChildX hX hR.1 m1
  have w1 := hR.2.2.look hR.1.2.2.1.2.2.1 a4 hc
  rcases h with ⟨_, _, es⟩ | ⟨c1, ⟨_, s2, m2, _, _, _, es⟩ | ⟨_, r2, s2, _, f2, _, _, es⟩⟩
  · rw [es]
    exact w1
  · rw [es]
    exact weighWG hc hR a2 a3 a4 (by omega) m2
  · rw [es]
    exact w1.fr f2 (by decide) (Int.le_refl _)
theorem mayWG {p1 p2 : Int} (hX : TyX s) (hc : c + 1 ≤ 2147483647) (hR : RQ b OL L c s u) (h : M_X11_may s p1 p2 r t) : WG b OL L (c + 1) t := by
  unfold M_X11_may T_X11_may_e at h
  obtain ⟨_, x1, s1, m1, _, _, _, h⟩ := h
  obtain ⟨now, a1, a2, a3, a4, a5⟩ := isChildX hX hR.1 m1
  have w1 := hR.2.2.look hR.1.2.2.1.2.2.1 a4 hc
  rcases h with ⟨_, _, es⟩ | ⟨c1, x7, s6, _, f6, _, _, ⟨_, _, es⟩ | ⟨_, s2, m2, _, _, _, es⟩⟩
  · rw [es]
    exact w1
  · rw [es, fr_nil f6]
    exact w1
  · rw [es]
    rw [fr_nil f6] at m2
    exact weighWG hc hR a2 a3 a4 (by omega) m2
theorem pointsWG {p1 p2 : Int} (hX : TyX s) (hc : c + 1 ≤ 2147483647) (hR : RQ b OL L c s u) (h : M_X11_points s p1 p2 r t) : WG b OL L (c + 1) t := by
  unfold M_X11_points T_X11_points_e at h
  obtain ⟨_, x1, s1, m1, _, _, _, h⟩ := h
  obtain ⟨now, a1, a2, a3, a4, a5⟩ := isChildX hX hR.1 m1
  have w1 := hR.2.2.look hR.1.2.2.1.2.2.1 a4 hc
  rcases h with ⟨_, _, es⟩ | ⟨c1, x7, s6, _, f6, _, _, ⟨_, _, es⟩ | ⟨_, s2, m2, _, _, _, es⟩⟩
  · rw [es]
    exact w1
  · rw [es, fr_nil f6]
    exact w1
  · rw [es]
    rw [fr_nil f6] at m2
    exact weighWG hc hR a2 a3 a4 (by omega) m2
/-- all are weighed -/
theorem weighAllX (hX : TyX s) (hc : c + 1 ≤ 2147483647) (hR : RQ b OL L c s u) (h : M_X11_weighAll s r t) : ∃ now : Nat, nowU u = (now : Int) ∧ now ≤ L.1 ∧ SeenX L now t ∧ WG b OL L (c + 1) t ∧ (∀ k, k < (knAll L now now).1 → JdX b OL L now (knAll L now now) k t) ∧ ∀ k, ¬ (42 ≤ k ∧ k ≤ 63) → t k = s k := by
  obtain ⟨m, h⟩ := h
  unfold T_X11_weighAll_e at h
  obtain ⟨_, s5, m5, _, _, h⟩ := h
  obtain ⟨now, a1, a2, a3, a4⟩ := lookAll hX hR.1 m5
  have hO := hR.1.2.2.1.2.2.1
  have w1 := hR.2.2.look hO a4 hc
  have w := weighAll6 hO a2 hR.2.1.2.2.1 m 0 s5 r t h (hR.2.1.1.cg (fun k h1 h2 => a4.1 k (by omega))) (hR.2.1.2.2.2.1.cg (fun k h1 h2 => a4.1 k (by omega))) a3 (Nat.zero_le _) w1 (fun k hk => absurd hk (Nat.not_lt_zero _))
  have a3' := a3.cgm w.2.2
  exact ⟨now, a1, a2, a3', w.1, fun k hk => w.1.2.2 now a3'.1 a2 k hk (w.2.1 k hk), fun k hk => (w.2.2 k (by omega)).trans (a4.1 k (by omega))⟩
theorem giveK : ∀ (n : Nat) (x : Int) (s : PS) (r : Int) (t : PS), It_X11_give n x s r t → ∀ m, m = 42 ∨ (57 ≤ m ∧ m ≤ 60) → t m = s m
  | 0, x, s, r, t, h, _, _ => False.elim h
  | n + 1, x, s, r, t, h, m, hm => by
    have h := ul_X11_give_28 h
    unfold T_X11_give_28 at h
    obtain ⟨_, _, ⟨_, s2, _, f2, _, r7, s6, _, f6, _, _, es⟩ | ⟨_, s9, _, f9, _, s12, _, f12, _, h⟩⟩ := h
    · rw [es, f6.1 m (by simp only [List.mem_cons, List.not_mem_nil, or_false]; omega), f2.1 m (by simp only [List.mem_cons, List.not_mem_nil, or_false]; omega)]
    · rw [giveK n _ s12 r t h m hm, f12.1 m (by simp only [List.mem_cons, List.not_mem_nil, or_false]; omega), f9.1 m (by simp only [List.mem_cons, List.not_mem_nil, or_false]; omega)]
theorem WG.cgk (h : WG b OL L c s) (e : ∀ m, m = 42 ∨ (57 ≤ m ∧ m ≤ 60) → t m = s m) : WG b OL L c t := h.cg (by rw [e 42 (by decide)]) (by rw [e 42 (by decide)]) (e 57 (by decide)) (e 58 (by decide)) (e 59 (by decide)) (e 60 (by decide)) (Int.le_refl _)
theorem giveWG (hX : TyX s) (hc : c + 1 ≤ 2147483647) (hR : RQ b OL L c s u) (h : M_X11_give s r t) : WG b OL L (c + 1) t := by
  obtain ⟨m, h⟩ := h
  unfold T_X11_give_e at h
  obtain ⟨_, s18, m18, _, _, s21, _, f21, _, s27, _, f27, _, h⟩ := h
  obtain ⟨now, _, _, _, w, _⟩ := weighAllX hX hc hR m18
  exact w.cgk (fun k hk => by rw [giveK m _ s27 r t h k hk, f27.1 k (by simp only [List.mem_cons, List.not_mem_nil, or_false]; omega), f21.1 k (by simp only [List.mem_cons, List.not_mem_nil, or_false]; omega)])
theorem blindK : ∀ (n : Nat), (∀ (x y : Int) (s : PS) (r : Int) (t : PS), It_X11_blind n 16 x y s r t → ∀ m, m = 42 ∨ (57 ≤ m ∧ m ≤ 60) → t m = s m) ∧ ∀ (x y : Int) (s : PS) (r : Int) (t : PS), It_X11_blind n 106 x y s r t → ∀ m, m = 42 ∨ (57 ≤ m ∧ m ≤ 60) → t m = s m
  | 0 => ⟨fun x y s r t h => False.elim h, fun x y s r t h => False.elim h⟩
  | n + 1 => by
    have ih := blindK n
    refine ⟨fun x y s r t h m hm => ?_, fun x y s r t h m hm => ?_⟩
    · replace h := ul_X11_blind_16 h
      unfold T_X11_blind_16 at h
      obtain ⟨_, _, ⟨_, _, es⟩ | ⟨_, s2, _, f2, _, s5, _, f5, _, s11, _, f11, _, ⟨_, h⟩ | ⟨_, s18, _, f18, _, r23, s22, _, f22, _, h⟩⟩⟩ := h
      · rw [es]
      · rw [ih.2 _ _ s11 r t h m hm, f11.1 m (by simp only [List.mem_cons, List.not_mem_nil, or_false]; omega), f5.1 m (by simp only [List.mem_cons, List.not_mem_nil, or_false]; omega), f2.1 m (by simp only [List.mem_cons, List.not_mem_nil, or_false]; omega)]
      · rw [ih.2 _ _ s22 r t h m hm, f22.1 m (by simp only [List.mem_cons, List.not_mem_nil, or_false]; omega), f18.1 m (by simp only [List.mem_cons, List.not_mem_nil, or_false]; omega), f11.1 m (by simp only [List.mem_cons, List.not_mem_nil, or_false]; omega), f5.1 m (by simp only [List.mem_cons, List.not_mem_nil, or_false]; omega), f2.1 m (by simp only [List.mem_cons, List.not_mem_nil, or_false]; omega)]
    · replace h := ul_X11_blind_106 h
      unfold T_X11_blind_106 at h
      obtain ⟨_, _, h⟩ := h
      exact ih.1 _ _ s r t h m hm
theorem blindWG (hX : TyX s) (hc : c + 1 ≤ 2147483647) (hR : RQ b OL L c s u) (h : M_X11_blind s r t) : WG b OL L (c + 1) t := by
  obtain ⟨m, h⟩ := h
  unfold T_X11_blind_e at h
  obtain ⟨_, s26, m26, _, _, s29, _, f29, _, h⟩ := h
  obtain ⟨now, _, _, _, w, _⟩ := weighAllX hX hc hR m26
  exact w.cgk (fun k hk => by rw [(blindK m).1 _ _ s29 r t h k hk, f29.1 k (by simp only [List.mem_cons, List.not_mem_nil, or_false]; omega)])
/-- a call that tells an act -/
theorem RG.actM (h : RG L s u) (m1 : LExt L M) (m2 : LG M t v) (hF : Fr intsX ms fm s t) (c : okAX ms fm) (hG : Fr intsM ms2 fm2 u v) (c2 : okAU ms2 fm2) : RG M t v := by
  obtain ⟨hB, hA, hL, hV⟩ := h
  obtain ⟨g12, g39, _⟩ := f4 c2.2
  have cx : ∀ k, k ≤ 7 ∨ (42 ≤ k ∧ k ≤ 55) → t k = s k := fun k hk => hF.1 k (c k (by simp only [List.mem_cons, List.not_mem_nil, or_false]; omega))
  have cu : ∀ k, (2 ≤ k ∧ k ≤ 11) → v k = u k := fun k hk => hG.1 k (c2.1 k (by simp only [List.mem_cons, List.not_mem_nil, or_false]; omega))
  have e12 : v 0 12 = u 0 12 := hG.f (by decide) g12
  have e39 : v 0 39 = u 0 39 := hG.f (by decide) g39
  refine ⟨?_, ?_, m2, kv_ext hV m1 (cx 42 (by decide)) (fun k h1 h2 => cx k (by omega))⟩
  · obtain ⟨b, b1, b2⟩ := hB
    exact ⟨b, b1.cg (fun k h1 h2 => cx k (by omega)), b2.cg (fun k h1 h2 => cu k (by omega)) e12⟩
  · obtain ⟨a1, a2, a3⟩ := hA
    have l1 := hL.1.1
    have l2 := m2.1.1
    have l3 := m1.1
    unfold AS
    rw [cx 0 (by decide), e39]
    exact ⟨a1, a2, by omega⟩
theorem RQ.act (h : RQ b OL L c s u) (hM : ∃ M : LT, LExt L M ∧ LG M t v) (hF : Fr intsX ms fm s t) (k1 : okAX ms fm ∧ okKX ms ∧ okWX ms) (hG : Fr intsM ms2 fm2 u v) (k2 : okAU ms2 fm2 ∧ okKU ms2 fm2) (hc : c ≤ c2) : ∃ M : LT, RQ b OL M c2 t v := by
  obtain ⟨M, m1, m2⟩ := hM
  exact ⟨M, h.1.actM m1 m2 hF k1.1 hG k2.1, h.2.1.fr hF k1.2.1 hG k2.2, (h.2.2.ext h.1.2.2.2 m1).fr hF k1.2.2 hc⟩
theorem RQ.fr (h : RQ b OL L c s u) (hF : Fr intsX ms fm s t) (k1 : okRX ms fm ∧ okKX ms ∧ okWX ms) (hV : KV L t) (hG : Fr intsM ms2 fm2 u v) (k2 : okRU ms2 fm2 ∧ okKU ms2 fm2) (hc : c ≤ c2) : RQ b OL L c2 t v := ⟨h.1.fr hF k1.1 hV hG k2.1, h.2.1.fr hF k1.2.1 hG k2.2, h.2.2.fr hF k1.2.2 hc⟩
theorem RQ.frW (h : RQ b OL L c s u) (hF : Fr intsX ms fm s t) (k1 : okRX ms fm ∧ okKX ms) (hV : KV L t) (hG : Fr intsM ms2 fm2 u v) (k2 : okRU ms2 fm2 ∧ okKU ms2 fm2) (hW : WG b OL L c2 t) : RQ b OL L c2 t v := ⟨h.1.fr hF k1.1 hV hG k2.1, h.2.1.fr hF k1.2 hG k2.2, hW⟩
theorem RQ.frG (h : RQ b OL L c s u) (hR : RG L t v) (hF : Fr intsX ms fm s t) (k1 : okKX ms) (hG : Fr intsM ms2 fm2 u v) (k2 : okKU ms2 fm2) (hW : WG b OL L c2 t) : RQ b OL L c2 t v := ⟨hR, h.2.1.fr hF k1 hG k2, hW⟩
theorem WG.le (h : WG b OL L c s) (hc : c ≤ c2) : WG b OL L c2 s := h.cg rfl rfl rfl rfl rfl rfl hc
theorem sw_31 {k : Nat} (h : 31 ≤ k) : sw s k = s k := by
  have z : sgw k = k := by
    have a : (Nat.ble 1 k && Nat.ble k 15) = false := by
      rw [show Nat.ble k 15 = false from by cases q : Nat.ble k 15 with | true => exact absurd (Nat.le_of_ble_eq_true q) (by omega) | false => rfl, Bool.and_false]
    have c : (Nat.ble 16 k && Nat.ble k 30) = false := by
      rw [show Nat.ble k 30 = false from by cases q : Nat.ble k 30 with | true => exact absurd (Nat.le_of_ble_eq_true q) (by omega) | false => rfl, Bool.and_false]
    unfold sgw
    rw [a, c]
  show s (sgw k) = s k
  rw [z]
/-- rules() of both -/
theorem rulesRQ (hT : TT s u) (hO : OWX s) (hX : TyX s) (hM : TyM u) (hR : RQ b OL L c s u) (h1 : M_X11_rules s r t) (h2 : M_X12_rules u r2 v) (e421 : t 42 1 = s 42 1) (e60 : t 60 = s 60) (hc : c ≤ c2) : r = r2 ∧ ((r = -1 ∧ RQ b OL L c2 t v) ∨ (¬ r = -1 ∧ ∃ (b2 : BST) (OL2 : List OT), RQ b2 OL2 L0 c2 (sw t) v)) := by
  have x := rulesRG hT hO hX hM hR.1 h1 h2
  have y := rulesCK hT hO hM hR.2.1 h1 h2
  have z := rulesX3 hX h1
  refine ⟨x.1, ?_⟩
  rcases x.2 with ⟨d, x2⟩ | ⟨d, x2⟩
  · rcases y with ⟨_, y2⟩ | ⟨d2, _⟩
    · rcases z with ⟨_, z2⟩ | ⟨d3, _⟩
      · exact Or.inl ⟨d, x2, y2, hR.2.2.cg (by rw [z2 42 (by decide)]) e421 (z2 57 (by decide)) (z2 58 (by decide)) (z2 59 (by decide)) e60 hc⟩
      · exact absurd d d3
    · exact absurd d d2
  · rcases y with ⟨d2, _⟩ | ⟨_, b2, OL2, y2⟩
    · exact absurd d2 d
    · rcases z with ⟨d3, _⟩ | ⟨_, _, _, _, z4, _⟩
      · exact absurd d3 d
      · refine Or.inr ⟨d, b2, OL2, x2, y2, ?_⟩
        obtain ⟨w1, w2, _⟩ := hR.2.2
        refine ⟨?_, fun j hj => ?_, fun now g1 g2 => ?_⟩
        · rw [sw_31 (by decide), e421]
          exact ⟨w1.1, by omega⟩
        · rw [sw_31 (show 31 ≤ 60 by decide), sw_31 (show 31 ≤ 42 by decide), e60, e421]
          exact w2 j hj
        · rw [sw_31 (by decide), z4] at g1
          omega
end KeepQ
