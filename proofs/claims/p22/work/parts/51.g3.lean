/-! what the class keeps of weighing, between two calls -/
def WG (b : BST) (OL : List OT) (L : LT) (c : Int) (s : PS) : Prop := (0 ≤ s 42 1 ∧ s 42 1 ≤ c) ∧ (∀ k, k < 40 → s 60 k ≤ s 42 1) ∧ ∀ now : Nat, s 42 0 = (now : Int) → now ≤ L.1 → ∀ k, k < (knAll L now now).1 → s 60 k = s 42 1 → JdX b OL L now (knAll L now now) k s
section KeepW
variable {b : BST} {S : KS} {k k2 kd a n : Nat} {o : OT} {s t u v : PS} {r c c2 : Int} {C : List OPc} {OL P : List OT} {A : List (List Nat)} {L M : LT} {now : Nat}
theorem JdX.cg (h : JdX b P L now S k s) (e57 : t 57 = s 57) (e58 : t 58 = s 58) (e59 : t 59 = s 59) : JdX b P L now S k t := by
  unfold JdX
  rw [e57, e58, e59]
  exact h
theorem JdX.ot (h : JdX b P L now S k2 s) (ho : OtJ k s t) (hne : ¬ k2 = k) (h10 : b.1.length ≤ 10) : JdX b P L now S k2 t := by
  obtain ⟨g1, g2, g3⟩ := h
  refine ⟨by rw [ho.1 57 (Or.inl rfl) k2 hne]; exact g1, fun kd hkd => by rw [ho.1 58 (Or.inr (Or.inl rfl)) k2 hne]; exact g2 kd hkd, fun kd hkd => ?_⟩
  rw [ho.2.1 _ (by omega)]
  exact g3 kd hkd
theorem WG.cg (h : WG b OL L c s) (e420 : t 42 0 = s 42 0) (e421 : t 42 1 = s 42 1) (e57 : t 57 = s 57) (e58 : t 58 = s 58) (e59 : t 59 = s 59) (e60 : t 60 = s 60) (hc : c ≤ c2) : WG b OL L c2 t := by
  obtain ⟨h1, h2, h3⟩ := h
  unfold WG
  rw [e420, e421, e60]
  exact ⟨⟨h1.1, by omega⟩, h2, fun now g1 g2 k g3 g4 => (h3 now g1 g2 k g3 g4).cg e57 e58 e59⟩
theorem kn_ext (hx : LExt L M) (hn : now ≤ L.1) : knAll M now now = knAll L now now ∧ ∀ kd : Int, clF M now kd now = clF L now kd now := by
  have kw : ∀ x, 1 ≤ x → x ≤ now → knwn M now x = knwn L now x := by
    intro x x1 x2
    obtain ⟨_, _, _, z⟩ := hx.2 x x1 (by omega)
    unfold knwn
    rcases z with z | ⟨z1, z2⟩
    · rw [z]
    · rw [z1, decide_eq_true (show (now : Int) < M.2.2.2.1 x by omega), Bool.or_true, decide_eq_true (show (0 : Int) = 0 from rfl), Bool.true_or]
  refine ⟨knAll_cg now (fun x x1 x2 => ?_), fun kd => ?_⟩
  · obtain ⟨y1, y2, y3, _⟩ := hx.2 x x1 (by omega)
    exact ⟨y1, y2, y3, kw x x1 x2⟩
  · have cl : ∀ a, a ≤ now → clF M now kd a = clF L now kd a := by
      intro a
      induction a with
      | zero => exact fun _ => rfl
      | succ a ih =>
        intro ha
        obtain ⟨y1, y2, _, _⟩ := hx.2 (a + 1) (by omega) (by omega)
        show (if M.2.1 (a + 1) = 2 ∧ knwn M now (a + 1) = true ∧ M.2.2.1 (a + 1) 0 = kd then min (clF M now kd a) (M.2.2.1 (a + 1) 1) else clF M now kd a) = (if L.2.1 (a + 1) = 2 ∧ knwn L now (a + 1) = true ∧ L.2.2.1 (a + 1) 0 = kd then min (clF L now kd a) (L.2.2.1 (a + 1) 1) else clF L now kd a)
        rw [ih (by omega), y1, y2, kw (a + 1) (by omega) ha]
    exact cl now (Nat.le_refl _)
theorem WG.ext (h : WG b OL L c s) (hV : KV L s) (hx : LExt L M) : WG b OL M c s := by
  obtain ⟨h1, h2, h3⟩ := h
  refine ⟨h1, h2, fun now g1 g2 k g3 g4 => ?_⟩
  have hn : now ≤ L.1 := by
    rcases hV with z | ⟨n2, z1, z2, _⟩
    · omega
    · omega
  obtain ⟨e1, e2⟩ := kn_ext hx hn
  rw [e1] at g3 ⊢
  obtain ⟨y1, y2, y3⟩ := h3 now g1 hn k g3 g4
  refine ⟨y1, fun kd hkd => ?_, y3⟩
  have z := y2 kd hkd
  unfold mgF at z ⊢
  rw [e2]
  exact z
theorem WG.look {kn : Int} (hO : LOk kn L) (h : WG b OL L c s) (hk : LkO s t) (hc : c + 1 ≤ 2147483647) : WG b OL L (c + 1) t := by
  obtain ⟨k1, k2⟩ := hk
  rcases k2 with e | e
  · rw [e]
    exact h.cg rfl rfl rfl rfl rfl rfl (by omega)
  · obtain ⟨h1, h2, h3⟩ := h
    rw [wi_id (by omega) (by omega)] at e
    have e60 : t 60 = s 60 := k1 60 (by decide)
    refine ⟨⟨by omega, by omega⟩, fun k hk => ?_, fun now g1 g2 k g3 g4 => ?_⟩
    · have z := h2 k hk
      rw [e60]
      omega
    · have z := (knAll_ok (now := (now : Int)) hO now g2).1
      have y := h2 k (by omega)
      rw [e60] at g4
      omega
/-- one child is weighed -/
theorem weighX {kn : Int} (hO : LOk kn L) (hn : now ≤ L.1) (hB : BX b s) (hG : GO b OL) (hC : CK1 b OL s) (hSn : SeenX L now s) (hk : k < (knAll L now now).1) (hW : WG b OL L c s) (h : M_X5_weigh_1_42 s (k : Int) r t) : JdX b OL L now (knAll L now now) k t ∧ WG b OL L c t ∧ (∀ m, ¬ (57 ≤ m ∧ m ≤ 63) → t m = s m) ∧ t 60 k = s 42 1 ∧ ∀ j, ¬ j = k → t 60 j = s 60 j := by
  have hS := knAll_ok (now := (now : Int)) hO now hn
  obtain ⟨m, h⟩ := h
  unfold T_X5_weigh_1_42_e at h
  obtain ⟨ty, _, h⟩ := h
  have kb := tyX_kb ty
  have e1 : sw s 16 = s 1 := sw_hi (by decide) (by decide)
  have e30 : sw s 30 = s 15 := sw_hi (by decide) (by decide)
  have e29 : sw s 29 = s 14 := sw_hi (by decide) (by decide)
  have b0 : s 1 0 = (b.1.length : Int) := by
    rw [← e1]
    exact hB.1.1
  have b8 : s 1 8 = (OL.length : Int) := by
    rw [← e1, hG.1]
    exact hB.2.2.2.2.2.1
  have h10 : b.1.length ≤ 10 := by
    clear h
    omega
  simp only [Int.toNat_natCast] at h
  rcases h with ⟨c0, _, es⟩ | ⟨c0, s25, e25, s26, m26, f26, _, s29, e29', s31, e31, h⟩
  · have j := hW.2.2 now hSn.1 hn k hk c0
    rw [es]
    exact ⟨j, hW, fun _ _ => rfl, c0, fun _ _ => rfl⟩
  · obtain ⟨C, hCd, hX, h28⟩ := hC
    obtain ⟨cl, A, a1, a2, a3, a4, a5⟩ := hCd
    rw [e1] at a1
    have k25 : ∀ m, ¬ m = 60 → s25 m = s m := fun m hm => by rw [e25, us_k hm]
    have g := gatherX (A := A) hk hS (kcx_cg hSn.2.1.1 (fun m h1 h2 => k25 m (by omega))) a4 (by rw [k25 1 (by decide)]; exact a1) (fun j hj => by rw [k25 15 (by decide), ← e30]; exact a3 j hj) m26
    have k26 : ∀ m, ¬ m = 60 → ¬ m = 61 → ¬ m = 62 → s26 m = s m := fun m m1 m2 m3 => (g.2.2 m m2 m3).trans (k25 m m1)
    have k31 : ∀ m, ¬ m = 57 → ¬ m = 58 → s31 m = s26 m := fun m m1 m2 => by rw [e31, us_k m2, e29', us_k m1]
    have k31s : ∀ m, ¬ (57 ≤ m ∧ m ≤ 63) → s31 m = s m := fun m hm => (k31 m (by omega) (by omega)).trans (k26 m (by omega) (by omega) (by omega))
    have q : ∀ k, 16 ≤ k → k ≤ 30 → sw s31 k = sw s k := fun k k1 k2 => by rw [sw_hi k1 k2, sw_hi k1 k2, k31s (k - 15) (by omega)]
    have hE31 : WE b OL (knAll L now now) k C A (s26 7) s31 := by
      refine ⟨by rw [k31s 1 (by decide)]; exact b0, by rw [k31s 1 (by decide)]; exact b8, fun i hi => by rw [k31s 14 (by decide), ← e29]; exact a5 i hi, hX.cgj (fun i _ => ⟨by rw [q 23 (by decide) (by decide)], by rw [q 24 (by decide) (by decide)], by rw [q 25 (by decide) (by decide)], by rw [q 26 (by decide) (by decide)], by rw [q 27 (by decide) (by decide)]⟩), fun j o ho hs kd hkd fc gr => ?_, (lxF_L g.1 g.2.1).cg (k31 61 (by decide) (by decide)) (k31 62 (by decide) (by decide)) (k31 7 (by decide) (by decide))⟩
      rw [q 28 (by decide) (by decide)]
      exact h28 j o ho hs kd hkd fc gr
    have kcx : CX ((knAll L now now).2.1 k) k s := hSn.2.1.1.2 k hk
    obtain ⟨m', s', h', o', x57, x60, x61, x62, y58, y59⟩ := weigh55 (k := k) (L := L) (now := now) (s0 := s31) (nk := b.1.length) (dy := cDay ((knAll L now now).2.1 k)) h10 (by rw [k31s 1 (by decide)]; exact b0) (by rw [k31s 49 (by decide)]; exact kcx.2.2.2.2.2.2.1) (fun kd hkd => by rw [k31s 55 (by decide)]; exact hSn.2.2.2 kd hkd) m 0 s31 r t h OtJ.refl rfl rfl rfl rfl (Nat.zero_le _) (fun kd hkd => absurd hkd (Nat.not_lt_zero _)) (fun kd _ hkd => by rw [e31, us_at, b0]; exact tb_every h10 hkd) (fun kd hkd => absurd hkd (Nat.not_lt_zero _))
    have hE' := hE31.cg o'.2.2 x61 x62
    have J0 : JdX b (OL.take 0) L now (knAll L now now) k s' := by
      rw [List.take_zero]
      refine ⟨?_, fun kd hkd => ⟨fun z => ⟨(y58 kd hkd).mp z, fun q => Bool.noConfusion q⟩, fun z => (y58 kd hkd).mpr z.1⟩, fun kd hkd => y59 kd hkd⟩
      rw [x57, e31, us_k (by decide), e29', us_at]
      show (1 : Int) = max 0 (min 3 1)
      decide
    have w := weigh117 hS hk hG h10 m' 0 s' r t h' hE' (Nat.zero_le _) J0
    have ot : OtJ k s t := by
      have o1 : OtJ k s s25 := by
        rw [e25]
        exact OtJ.u1 (Or.inr (Or.inr rfl))
      have o2 : OtJ k s25 s26 := OtJ.of6 (fun m m1 m2 _ => g.2.2 m m1 m2)
      have o3 : OtJ k s26 s31 := by
        rw [e31, e29']
        exact (OtJ.u1 (Or.inl rfl)).trans (OtJ.u1 (Or.inr (Or.inl rfl)))
      exact o1.trans (o2.trans (o3.trans (o'.trans w.2.1)))
    have e60 : t 60 = s25 60 := (w.2.2.trans x60).trans ((k31 60 (by decide) (by decide)).trans (g.2.2 60 (by decide) (by decide)))
    have e60k : t 60 k = s 42 1 := by rw [e60, e25, us_at]
    have e60j : ∀ j, ¬ j = k → t 60 j = s 60 j := fun j hj => by rw [e60, e25, us_j hj]
    have e42 : t 42 = s 42 := ot.2.2 42 (by decide)
    refine ⟨w.1, ⟨by rw [e42]; exact hW.1, fun j hj => ?_, fun now2 g1 g2 j g3 g4 => ?_⟩, ot.2.2, e60k, e60j⟩
    · rw [e42]
      by_cases e : j = k
      · rw [e, e60k]
        exact Int.le_refl _
      · rw [e60j j e]
        exact hW.2.1 j hj
    · rw [e42] at g1 g4
      have en : now2 = now := by
        have z := hSn.1
        clear h h'
        omega
      rw [en] at g3 g2 ⊢
      by_cases e : j = k
      · rw [e]
        exact w.1
      · rw [e60j j e] at g4
        have z := hW.2.2 now hSn.1 hn j g3 g4
        exact z.ot ot e h10
theorem CK1.cgm (h : CK1 b OL s) (e : ∀ m, ¬ (57 ≤ m ∧ m ≤ 63) → t m = s m) : CK1 b OL t := h.cg (fun k _ _ => e k (by omega))
theorem SeenX.cgm (h : SeenX L now s) (e : ∀ m, ¬ (57 ≤ m ∧ m ≤ 63) → t m = s m) : SeenX L now t := by
  obtain ⟨h1, ⟨h2, h3⟩, h4, h5⟩ := h
  refine ⟨by rw [e 42 (by decide)]; exact h1, ⟨kcx_cg h2 (fun m m1 m2 => e m (by omega)), fun x x1 x2 => by rw [e 53 (by decide)]; exact h3 x x1 x2⟩, fun k d hk hd => by rw [e 54 (by decide)]; exact h4 k d hk hd, fun k hk => by rw [e 55 (by decide)]; exact h5 k hk⟩
/-- all children are weighed -/
theorem weighAll6 {kn : Int} (hO : LOk kn L) (hn : now ≤ L.1) (hG : GO b OL) : ∀ (m i : Nat) (s : PS) (r : Int) (t : PS), It_X11_weighAll m (i : Int) s r t → BX b s → CK1 b OL s → SeenX L now s → i ≤ (knAll L now now).1 → WG b OL L c s → (∀ k, k < i → s 60 k = s 42 1) → WG b OL L c t ∧ (∀ k, k < (knAll L now now).1 → t 60 k = t 42 1) ∧ ∀ m, ¬ (57 ≤ m ∧ m ≤ 63) → t m = s m
  | 0, i, s, r, t, h, _, _, _, _, _, _ => False.elim h
  | m + 1, i, s, r, t, h, hB, hC, hSn, hi, hW, hd => by
    have h := ul_X11_weighAll_6 h
    unfold T_X11_weighAll_6 at h
    obtain ⟨_, _, h⟩ := h
    rw [hSn.2.1.1.1] at h
    rcases h with ⟨c1, _, es⟩ | ⟨c1, s2, m2, _, _, h⟩
    · rw [es]
      exact ⟨hW, fun k hk => hd k (by omega), fun _ _ => rfl⟩
    · have hi2 : i < (knAll L now now).1 := by
        clear h
        omega
      obtain ⟨x1, x2, x3, x4, x5⟩ := weighX hO hn hB hG hC hSn hi2 hW m2
      have w := weighAll6 hO hn hG m (i + 1) s2 r t h (hB.cg (fun k h1 h2 => x3 k (by omega))) (hC.cgm x3) (hSn.cgm x3) (by omega) x2 (fun k hk => by
        rw [x3 42 (by decide)]
        by_cases e : k = i
        · rw [e]
          exact x4
        · rw [x5 k e]
          exact hd k (by omega))
      exact ⟨w.1, w.2.1, fun m hm => (w.2.2 m hm).trans (x3 m hm)⟩
end KeepW
