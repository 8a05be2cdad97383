/-! give of both -/
section Giv
variable {b : BST} {OL : List OT} {L : LT} {now : Nat} {s t u v : PS} {r r2 c B : Int} {n K R S : Nat} {D : Nat → Int} {dy : Nat → Nat} {Pt : Nat → Nat → Int} {mb : Nat → Int} {cu : Nat → Nat → Int} {ch sl dd fr : Nat → Nat}
theorem gvH (hX : TyX s) (hR : RQ b OL L c s u) (hn : now ≤ L.1) : GvH b OL L now := by
  obtain ⟨hG, ⟨hB, hM, hGO, hC1, hCM⟩, hW⟩ := hR
  obtain ⟨l1, l2, l3⟩ := bx_len hX hB
  have lx := hG.2.2.1.1.1
  have t35 : 0 ≤ s 35 0 ∧ s 35 0 ≤ 200 := hX.1 (35, 0, 0, 200) (by decide)
  have t8 : 0 ≤ s 1 8 ∧ s 1 8 ≤ 24 := hX.1 (1, 8, 0, 24) (by decide)
  have w28 : H28 b OL := by
    obtain ⟨C, _, _, h28⟩ := hC1
    exact h28_of h28
  have e8 : sw s 16 8 = (b.2.2.2.2.1 : Int) := hB.2.2.2.2.2.1
  rw [sw_hi (k := 16) (by decide) (by decide)] at e8
  have e8b : s 1 8 = (b.2.2.2.2.1 : Int) := e8
  have lo := hGO.1
  exact ⟨hn, by omega, ⟨s 1 0, (tyX_kb hX).2, hG.2.2.1.2.2.1⟩, knAll_ok hG.2.2.1.2.2.1 now hn, hGO, l2, l3, w28, by omega⟩
theorem gvE (hX : TyX s) (hR : RQ b OL L c s u) (hu : nowU u = (now : Int)) (hn : now ≤ L.1) (n1 : M_X12_knows u r2 v) : GvE b OL L now v := by
  have z := knows2 hX hR.1 hu hn n1
  obtain ⟨hG, ⟨hB, hM, hGO, hC1, hCM⟩, hW⟩ := hR
  have ev := z.2.2.2.1
  have e0 := z.2.2.2.2
  have hM' : BM b v := hM.cg (fun k h1 h2 => ev k (by omega) (by omega)) (e0 12 (by decide))
  refine ⟨meOf hM' (hCM.cg (e0 12 (by decide)) (fun k h1 h2 => ev k (by omega) (by omega))) z.1, hG.2.2.1.2.1.cg (e0 37 (by decide)) (ev 21 (by decide) (by decide)) (ev 22 (by decide) (by decide)) (ev 23 (by decide) (by decide)) (ev 24 (by decide) (by decide)), ?_⟩
  unfold nowU
  rw [e0 39 (by decide), e0 37 (by decide)]
  exact hu
theorem cuD_b (hH : GvH b OL L now) (k : Nat) : ∀ d : Nat, 0 ≤ cuD (cmG L now) k d ∧ cuD (cmG L now) k d ≤ 19800 * (d : Int)
  | 0 => ⟨Int.le_refl 0, by show (0 : Int) ≤ 19800 * ((0 : Nat) : Int); decide⟩
  | d + 1 => by
    have z := cuD_b hH k d
    have y := cmG_in hH k (d + 1)
    rw [cuD_s]
    omega
theorem cuD_m (hH : GvH b OL L now) (k a : Nat) : ∀ d : Nat, a ≤ d → cuD (cmG L now) k a ≤ cuD (cmG L now) k d
  | 0, h => by
    have e : a = 0 := by omega
    rw [e]
    exact Int.le_refl _
  | d + 1, h => by
    by_cases y : a = d + 1
    · rw [y]
      exact Int.le_refl _
    · have z := cuD_m hH k a d (by omega)
      have w := cmG_in hH k (d + 1)
      rw [cuD_s]
      omega
theorem clearF {p1 : Int} (m : M_X3_clear s p1 r t) : t 64 0 = p1 ∧ t 64 1 = 0 ∧ t 64 2 = 0 ∧ t 66 0 = 0 ∧ (∀ q, q < 40 → t 67 q = -1) ∧ ∀ x, ¬ x = 64 → ¬ x = 66 → ¬ x = 67 → t x = s x := by
  unfold M_X3_clear T_X3_clear_e at m
  obtain ⟨_, _, s1, e1, s2, e2, s3, e3, s4, e4, s5, m5, _, _, _, et⟩ := m
  obtain ⟨a1, a2⟩ := fill67X m5
  have k64 : ∀ j, t 64 j = if j = 2 then 0 else if j = 1 then 0 else if j = 0 then p1 else s 64 j := fun j => by rw [et, a2 64 (by decide), e4, us_k (by decide), e3, us_if, e2, us_if, e1, us_if]
  refine ⟨by rw [k64]; rfl, by rw [k64]; rfl, by rw [k64]; rfl, by rw [et, a2 66 (by decide), e4, us_at], fun q hq => by rw [et]; exact a1 q hq, fun x x1 x2 x3 => by rw [et, a2 x x3, e4, us_k x2, e3, us_k x1, e2, us_k x1, e1, us_k x1]⟩
/-- from the built floor to the bags -/
theorem bagD {al : Nat → Nat → Prop} {X2 : Nat → Nat → Int} (h : FbI n K D dy Pt mb cu 25 0 R S ch sl dd fr s) (hF : FlS R K S sl fr (fun r => D (ch r)) al (fun r k => Pt (ch r) k) (fun k u => cu k (dd u)) X2 t) (e67 : t 67 = s 67) (hn : n ≤ 40) : BagX n K (xRow R ch X2) t := by
  intro c hc
  by_cases y : ∃ r, r < R ∧ ch r = c
  · obtain ⟨r, r1, r2⟩ := y
    refine Or.inr ⟨r, ?_, fun k hk => ?_, fun k hk hk2 => hF.2.2.2.2.2.2.2 r k r1 hk hk2⟩
    · rw [e67, ← r2]
      exact (h.2.1 r r1).2.2
    · rw [← r2, xRow_at (fun a a' ha ha' e => h.inj ha ha' e) r1]
      exact (hF.2.2.2.1 r k r1 hk).2.1
  · have no : ∀ r, r < R → ¬ ch r = c := fun r hr e => y ⟨r, hr, e⟩
    refine Or.inl ⟨?_, fun k _ => xRow_0 no⟩
    rw [e67]
    exact h.2.2.2.2.2.1 c (by omega) no
/-- the class deals the best deal; what it has as it begins to keep it -/
theorem giveD (hX : TyX s) (hc : c + 1 ≤ 2147483647) (hR : RQ b OL L c s u) (hS : StA B s) (hB : B + 440 < 2147483647) (h : M_X11_give s r t) : ∃ now : Nat, nowU u = (now : Int) ∧ now ≤ L.1 ∧ ∃ (X : Nat → Nat → Int) (s3 : PS), BestG b OL L now X ∧ BagX (nG L now) b.1.length X s3 ∧ M_X4_keep_1_42_56_64_109 s3 r t ∧ KCX (knAll L now now) s3 ∧ (∀ k, k < nG L now → JdX b OL L now (knAll L now now) k s3) ∧ (∀ k, k < b.1.length → s3 109 k = cuD (cmG L now) k 24) ∧ (∀ k, b.1.length ≤ k → k < 10 → s3 109 k = 0) ∧ s3 1 0 = (b.1.length : Int) := by
  obtain ⟨m, h⟩ := h
  unfold T_X11_give_e at h
  obtain ⟨_, s18, m18, _, _, s21, m21, _, _, s27, m27, _, _, h⟩ := h
  obtain ⟨now, a1, a2, a3, a4, a5, a6⟩ := weighAllX hX hc hR m18
  have hH := gvH hX hR a2
  obtain ⟨l1, l2, l3⟩ := bx_len hX hR.2.1.1
  rw [l1] at m21
  obtain ⟨c1, c2, c3, c4, c5, c6⟩ := clearF m21
  obtain ⟨g1, g2⟩ := fill109X m27
  have hn : (knAll L now now).1 ≤ 40 := hH.2.2.2.1.1
  have k27 : ∀ x, ¬ x = 64 → ¬ x = 66 → ¬ x = 67 → ¬ x = 109 → s27 x = s18 x := fun x x1 x2 x3 x4 => (g2 x x4).trans (c6 x x1 x2 x3)
  have hKX : KCX (knAll L now now) s18 := a3.2.1.1
  have hD : FbD (knAll L now now).1 b.1.length (duG b L now OL) (dyG L now) (ptG b L now OL) (s18 58) s27 := by
    refine ⟨by rw [k27 42 (by decide) (by decide) (by decide) (by decide)]; exact hKX.1, fun c hc => ⟨?_, ?_, by rw [k27 58 (by decide) (by decide) (by decide) (by decide)], fun k hk => ?_⟩⟩
    · rw [k27 49 (by decide) (by decide) (by decide) (by decide)]
      obtain ⟨x43, x44, x45, x46, x47, x48, x49, _⟩ := hKX.2 c hc
      exact x49.trans (dyG_e hH hc).1
    · rw [k27 57 (by decide) (by decide) (by decide) (by decide)]
      exact (a5 c hc).1
    · rw [k27 59 (by decide) (by decide) (by decide) (by decide)]
      exact (a5 c hc).2.2 k hk
  have h0 : FbI (knAll L now now).1 b.1.length (duG b L now OL) (dyG L now) (ptG b L now OL) (s18 58) (cuD (cmG L now)) (0 + 1) 0 0 0 (fun _ => 0) (fun _ => 0) (fun _ => 0) (fun _ => 0) s27 := by
    refine ⟨⟨by rw [g2 64 (by decide)]; exact c1, by rw [g2 64 (by decide)]; exact c2, by rw [g2 64 (by decide)]; exact c3⟩, fun r hr => absurd hr (Nat.not_lt_zero r), fun r hr => absurd hr (Nat.not_lt_zero r), fun q hq => absurd hq (Nat.not_lt_zero q), fun q q2 _ hq => absurd hq (Nat.not_lt_zero q2), fun c hc _ => by rw [g2 67 (by decide)]; exact c5 c hc, fun c hc _ q => ?_, fun k q _ hq => absurd hq (Nat.not_lt_zero q), fun q hq => ?_, fun r q hr _ => absurd hr (Nat.not_lt_zero r), fun r hr => absurd hr (Nat.not_lt_zero r)⟩
    · have z := (dyG_e hH hc).2.1
      omega
    · have e : q = 0 := by omega
      rw [e, g2 66 (by decide)]
      exact ⟨c4, Nat.le_refl _⟩
  have hm : It_X11_give m (((0 : Nat) : Int) + 1) s27 r t := h
  obtain ⟨R2, S2, ch2, sl2, dd2, fr2, s2, s3, x1, x2, x3, x4, xz, x5⟩ := give28 hn l2 (fun k d => by
    have z := cuD_b hH k d
    by_cases y : d ≤ 24
    · exact Or.inl ⟨z.1, by omega⟩
    · exact Or.inr (by omega)) m 0 0 0 _ _ _ _ s27 r t hm h0 rfl hD (fun k hk => by
    rw [g1 k (by omega)]
    rfl) (fun k _ hk => g1 k hk) (fun k d hk hd => by
    rw [k27 54 (by decide) (by decide) (by decide) (by decide)]
    exact a3.2.2.1 k d hk hd) (by
    rw [k27 1 (by decide) (by decide) (by decide) (by decide), a6 1 (by omega)]
    exact l1) (by decide)
  have Fl := x1.fl (Al := fun c k => alG b L now OL c k = true) (fun c k hc hk => ((a5 c hc).2.1 k hk).trans alG_iff.symm) hn l2 (fun c k hc hk => by
    have z := ptG_in (k := k) hH hc
    omega) (fun k d _ hd => by
    have z := cuD_b hH k d
    omega)
  have inj : ∀ a a', a < R2 → a' < R2 → ch2 a = ch2 a' → a = a' := fun a a' ha ha' e => x1.inj ha ha' e
  have k2 : ∀ x, ¬ (42 ≤ x ∧ x ≤ 73) → ¬ x = 109 → s2 x = s x := fun x h1 h2 => (x5 x (by omega) h2).trans ((k27 x (by omega) (by omega) (by omega) h2).trans (a6 x (by omega)))
  obtain ⟨X2, y1, y2, y3, y4, y5, y6⟩ := dealF inj (fun a ha => by
    have z := (x1.2.1 a ha).1.1
    omega) (fun a ha => by
    have z := (x1.2.1 a ha).1.2
    show 0 ≤ duG b L now OL (ch2 a)
    omega) B.toNat (by omega) Fl (fun c hc => by
    by_cases y : ∃ r, r < R2 ∧ ch2 r = c
    · obtain ⟨r, r1, r2⟩ := y
      exact Or.inr ⟨r, r1, by rw [← r2]; exact (x1.2.1 r r1).2.2, r2⟩
    · have no : ∀ r, r < R2 → ¬ ch2 r = c := fun r hr e => y ⟨r, hr, e⟩
      exact Or.inl ⟨x1.2.2.2.2.2.1 c hc no, no⟩) ((hS.cg (by rw [k2 81 (by omega) (by decide)]) (k2 83 (by omega) (by decide)) (k2 85 (by omega) (by decide))).le (by omega)) x2
  have rc : RcI (knAll L now now).1 b.1.length R2 S2 (duG b L now OL) (dyG L now) (cuD (cmG L now)) ch2 sl2 dd2 := ⟨⟨fun r hr => (x1.2.1 r hr).1, inj, fun c hc hd => x1.2.2.2.2.2.2.1 c hc hd (Or.inl (by
    have z := (dyG_e hH hc).2.2
    omega))⟩, fun r hr => x1.slt hr, x1.2.2.2.2.1, fun q hq => by
    have z := x1.2.2.2.1 q hq
    omega, fun c _ => (duG_in c).1, fun k d _ _ => (cuD_b hH k d).1, fun k d d' _ h1 _ => cuD_m hH k d d' h1⟩
  have best := rc.best (Al := fun c k => alG b L now OL c k = true) (Pt := ptG b L now OL) hn l2 y2 y3 y4
  have k3 : ∀ x, ¬ (64 ≤ x ∧ x ≤ 87) → ¬ x = 109 → s3 x = s18 x := fun x h1 h2 => (y6 x (by omega)).trans ((x5 x (by omega) h2).trans (k27 x (by omega) (by omega) (by omega) h2))
  refine ⟨now, a1, a2, xRow R2 ch2 X2, s3, best, bagD x1 y1 (y6 67 (by omega)) hn, x3, ?_, fun k hk => (a5 k hk).cg (k3 57 (by omega) (by decide)) (k3 58 (by omega) (by decide)) (k3 59 (by omega) (by decide)), by rw [y6 109 (by omega)]; exact x4, by rw [y6 109 (by omega)]; exact xz, ?_⟩
  · exact kcx_cg hKX (fun m m1 m2 => k3 m (by omega) (by omega))
  · rw [k3 1 (by omega) (by decide), a6 1 (by omega)]
    exact l1
/-- the class gives the best deal -/
theorem giveX (hX : TyX s) (hc : c + 1 ≤ 2147483647) (hR : RQ b OL L c s u) (hS : StA B s) (hB : B + 440 < 2147483647) (h : M_X11_give s r t) : ∃ now : Nat, nowU u = (now : Int) ∧ now ≤ L.1 ∧ ∃ X, BestG b OL L now X ∧ r = dSize (nG L now) b.1.length X := by
  obtain ⟨now, a1, a2, X, s3, best, bag, m, hK, _⟩ := giveD hX hc hR hS hB h
  have hH := gvH hX hR a2
  exact ⟨now, a1, a2, X, best, keepF hH.2.2.2.1.1 hH.2.2.2.2.2.1 (fun c k hc hk => (best.1.1 c k hc hk).1) hK.1 bag m⟩
/-- both give as many -/
theorem give2 (hX : TyX s) (hc : c + 1 ≤ 2147483647) (hR : RQ b OL L c s u) (hS : StA B s) (hB : B + 440 < 2147483647) (h1 : M_X11_give s r t) (h2 : M_X12_give u r2 v) : r = r2 := by
  obtain ⟨now, a1, a2, X, b1, e1⟩ := giveX hX hc hR hS hB h1
  have hH := gvH hX hR a2
  obtain ⟨X', b2, _, e2⟩ := giveM hH (fun n1 => gvE hX hR a1 a2 n1) h2
  have q := BestD.uniq b1 b2 hH.2.2.2.1.1 hH.2.2.2.2.2.1
  rw [e1, e2]
  exact sgN_cg _ (fun c hc => sgN_cg _ (fun k hk => q c k hc hk))
end Giv
