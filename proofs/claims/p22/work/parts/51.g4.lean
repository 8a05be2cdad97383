/-! of, may, points of both -/
def RQ (b : BST) (OL : List OT) (L : LT) (c : Int) (s u : PS) : Prop := RG L s u ∧ CKb b OL s u ∧ WG b OL L c s
def ofF (S : KS) (k : Nat) (w : Int) : Int := if w = 0 then cCode (S.2.1 k) else if w = 1 then cAge (S.2.1 k) else if w = 2 then cMst (S.2.1 k) - cLst (S.2.1 k) else if w = 3 then cSch (S.2.1 k) else if w = 4 then cHou (S.2.1 k) else if w = 5 then cDay (S.2.1 k) else if w = 6 then ((cWsh (S.2.1 k)).length : Int) else if w = 7 then mtF S k else if w = 8 then cRep (S.2.1 k) else -1
/-- the class behind a look, the reference behind knows -/
def Rdy (b : BST) (OL : List OT) (L : LT) (c : Int) (now : Nat) (t v : PS) : Prop := now ≤ L.1 ∧ nowU v = (now : Int) ∧ SeenX L now t ∧ BX b t ∧ CK1 b OL t ∧ WG b OL L c t ∧ ME b OL (knAll L now now) v ∧ LU L v ∧ KsOk now (knAll L now now) ∧ (∃ kn, LOk kn L) ∧ GO b OL ∧ b.1.length ≤ 10 ∧ b.2.1.length ≤ 8 ∧ t 1 0 = (b.1.length : Int) ∧ v 2 (v 0 12).toNat = (b.1.length : Int) ∧ H28 b OL
section AskB
variable {b : BST} {S : KS} {k kd a n : Nat} {o : OT} {s t u v w : PS} {r r2 c : Int} {OL : List OT} {L : LT} {now : Nat}
theorem meOf (hB : BM b v) (hC : CM1 OL v) (hK : KCU S v) : ME b OL S v := by
  obtain ⟨a, a1, a2, a3⟩ := hB
  obtain ⟨C, a', c1, c2, c3, c4⟩ := hC
  have e : a' = a := by omega
  rw [e] at c3 c4
  exact ⟨C, a, a1, a2, a3, c3, c4, hK⟩
theorem bx_len (hX : TyX s) (hB : BX b s) : s 1 0 = (b.1.length : Int) ∧ b.1.length ≤ 10 ∧ b.2.1.length ≤ 8 := by
  have e1 : sw s 16 = s 1 := sw_hi (by decide) (by decide)
  have b0 : s 1 0 = (b.1.length : Int) := by
    rw [← e1]
    exact hB.1.1
  have b5 : s 1 5 = (b.2.1.length : Int) := by
    rw [← e1]
    exact hB.1.2.1
  have kb := tyX_kb hX
  have mb := tyX_mb hX
  exact ⟨b0, by omega, by omega⟩
/-- behind a look of both -/
theorem ready (hX : TyX s) (hc : c + 1 ≤ 2147483647) (hR : RQ b OL L c s u) (hl : now ≤ L.1) (hu : nowU u = (now : Int)) (hSn : SeenX L now t) (hk : LkO s t) (hv : KCU (knAll L now now) v) (ev : ∀ k, ¬ k = 0 → ¬ (26 ≤ k ∧ k ≤ 37) → v k = u k) (e0 : ∀ j, ¬ j = 45 → v 0 j = u 0 j) : Rdy b OL L (c + 1) now t v := by
  obtain ⟨hG, ⟨hB, hM, hGO, hC1, hCM⟩, hW⟩ := hR
  obtain ⟨l1, l2, l3⟩ := bx_len hX hB
  have hM' : BM b v := hM.cg (fun k h1 h2 => ev k (by omega) (by omega)) (e0 12 (by decide))
  have hw28 : H28 b OL := by
    obtain ⟨C, _, _, h28⟩ := hC1
    exact h28_of h28
  refine ⟨hl, ?_, hSn, hB.cg (fun k h1 h2 => hk.1 k (by omega)), hC1.cg (fun k h1 h2 => hk.1 k (by omega)), hW.look hG.2.2.1.2.2.1 hk hc, meOf hM' (hCM.cg (e0 12 (by decide)) (fun k h1 h2 => ev k (by omega) (by omega))) hv, hG.2.2.1.2.1.cg (e0 37 (by decide)) (ev 21 (by decide) (by decide)) (ev 22 (by decide) (by decide)) (ev 23 (by decide) (by decide)) (ev 24 (by decide) (by decide)), knAll_ok hG.2.2.1.2.2.1 now hl, ⟨_, hG.2.2.1.2.2.1⟩, hGO, l2, l3, by rw [hk.1 1 (by decide)]; exact l1, ?_, hw28⟩
  · unfold nowU
    rw [e0 39 (by decide), e0 37 (by decide)]
    exact hu
  · obtain ⟨a, a1, a2, a3⟩ := hM'
    rw [a2, Int.toNat_natCast]
    exact a3.1
theorem Rdy.weigh (h : Rdy b OL L c now s v) (hk : k < (knAll L now now).1) (h1 : M_X5_weigh_1_42 s (k : Int) r t) : JdX b OL L now (knAll L now now) k t ∧ WG b OL L c t ∧ ∀ m, ¬ (57 ≤ m ∧ m ≤ 63) → t m = s m := by
  obtain ⟨g1, g2, g3, g4, g5, g6, g7, g8, g9, ⟨kn, g10⟩, g11, _⟩ := h
  have w := weighX g10 g1 g4 g11 g5 g3 hk g6 h1
  exact ⟨w.1, w.2.1, w.2.2.1⟩
/-- a fact of a child, in the class -/
theorem factW {p2 : Int} (hk : k < S.1) (hS : KsOk n S) (hK : KCX S s) (h : M_X6_fact s (k : Int) p2 r t) : r = ofF S k p2 := by
  unfold M_X6_fact T_X6_fact_e at h
  obtain ⟨_, _, h⟩ := h
  simp only [Int.toNat_natCast] at h
  obtain ⟨x43, x44, x45, x46, x47, x48, x49, x50, x51, _⟩ := hK.2 k hk
  have ok := hS.2.2.1 k hk
  obtain ⟨_, _, o3, o4, _⟩ := ok
  rcases h with ⟨d, er, _⟩ | ⟨d0, ⟨d, er, _⟩ | ⟨d1, ⟨d, er, _⟩ | ⟨d2, ⟨d, er, _⟩ | ⟨d3, ⟨d, er, _⟩ | ⟨d4, ⟨d, er, _⟩ | ⟨d5, ⟨d, er, _⟩ | ⟨d6, ⟨d, r19, s18, m18, _, _, er, _⟩ | ⟨d7, ⟨d, er, _⟩ | ⟨d8, er, _⟩⟩⟩⟩⟩⟩⟩⟩⟩
  · subst d
    exact er.trans x43
  · subst d
    exact er.trans x44
  · subst d
    rw [x45, x46, wi_id (by omega) (by omega)] at er
    exact er
  · subst d
    exact er.trans x47
  · subst d
    exact er.trans x48
  · subst d
    exact er.trans x49
  · subst d
    exact er.trans x51
  · subst d
    exact er.trans (matesX hk hS.1 hK m18).2
  · subst d
    exact er.trans x50
  · rw [er]
    unfold ofF
    rw [if_neg d0, if_neg d1, if_neg d2, if_neg d3, if_neg d4, if_neg d5, if_neg d6, if_neg d7, if_neg d8]
theorem of2 {p1 p2 : Int} (hX : TyX s) (hc : c + 1 ≤ 2147483647) (hR : RQ b OL L c s u) (h1 : M_X11_of s p1 p2 r t) (h2 : M_X12_of u p1 p2 r2 v) : r = r2 := by
  unfold M_X11_of T_X11_of_e at h1
  unfold M_X12_of T_X12_of_e at h2
  obtain ⟨_, x1, s1, m1, _, _, _, h1⟩ := h1
  obtain ⟨_, u1, n1, _, _, y1, u5, n5, _, _, _, h2⟩ := h2
  obtain ⟨now, a1, a2, a3, a4, a5⟩ := isChildX hX hR.1 m1
  have z := knows2 hX hR.1 a1 a2 n1
  obtain ⟨q5, k5⟩ := isChildM n5
  subst q5
  rw [z.1.1] at k5
  have rd := ready hX hc hR a2 a1 a3 a4 z.1 z.2.2.2.1 z.2.2.2.2
  have ks := rd.2.2.2.2.2.2.2.2.1
  rcases h1 with ⟨c1, er, es⟩ | ⟨c1, h1⟩
  · rcases h2 with ⟨d1, er2, ev⟩ | ⟨d1, -⟩
    · exact er.trans er2.symm
    · omega
  · rcases h2 with ⟨d1, -⟩ | ⟨d1, h2⟩
    · try clear h1
      omega
    · have hp : 0 ≤ p1 ∧ p1 < ((knAll L now now).1 : Int) := by
        clear h1 h2
        omega
      obtain ⟨k, rfl⟩ : ∃ k : Nat, p1 = (k : Int) := ⟨p1.toNat, by (try clear h1); (try clear h2); omega⟩
      have hk : k < (knAll L now now).1 := by (try clear h1); (try clear h2); omega
      obtain ⟨y26, y27, y28, y29, y30, y31, y32, y35, y33, _⟩ := z.1.2 k hk
      obtain ⟨_, _, o3, o4, _⟩ := ks.2.2.1 k hk
      simp only [Int.toNat_natCast] at h1 h2
      rcases h1 with ⟨c2, s10, m10, _, _, er, _⟩ | ⟨c2, r8, s7, m7, _, _, er, _⟩
      · subst c2
        have j := (rd.weigh hk m10).1.1
        rcases h2 with ⟨d, _⟩ | ⟨_, ⟨d, _⟩ | ⟨_, ⟨d, _⟩ | ⟨_, ⟨d, _⟩ | ⟨_, ⟨d, _⟩ | ⟨_, ⟨d, _⟩ | ⟨_, ⟨d, _⟩ | ⟨_, ⟨d, _⟩ | ⟨_, ⟨d, _⟩ | ⟨_, ⟨_, r34, s33, m33, _, _, er2, _⟩ | ⟨d, _⟩⟩⟩⟩⟩⟩⟩⟩⟩⟩
        · exact absurd d (by decide)
        · exact absurd d (by decide)
        · exact absurd d (by decide)
        · exact absurd d (by decide)
        · exact absurd d (by decide)
        · exact absurd d (by decide)
        · exact absurd d (by decide)
        · exact absurd d (by decide)
        · exact absurd d (by decide)
        · obtain ⟨_, _, _, _, _, _, g7, _, _, _, g11, _, g13, _⟩ := rd
          have w := (dueM ks hk g11 g13 g7 m33).1
          rw [er, er2, j, w]
        · exact absurd rfl d
      · have w := factW hk ks a3.2.1.1 m7
        rw [er, w]
        rcases h2 with ⟨d, er2, _⟩ | ⟨d0, ⟨d, er2, _⟩ | ⟨d1, ⟨d, er2, _⟩ | ⟨d2, ⟨d, er2, _⟩ | ⟨d3, ⟨d, er2, _⟩ | ⟨d4, ⟨d, er2, _⟩ | ⟨d5, ⟨d, er2, _⟩ | ⟨d6, ⟨d, r28, s27, m27, _, _, er2, _⟩ | ⟨d7, ⟨d, er2, _⟩ | ⟨d8, ⟨d, _⟩ | ⟨d9, er2, _⟩⟩⟩⟩⟩⟩⟩⟩⟩⟩
        · subst d
          exact (er2.trans y26).symm
        · subst d
          exact (er2.trans y27).symm
        · subst d
          rw [y28, y29, wi_id (by omega) (by omega)] at er2
          exact er2.symm
        · subst d
          exact (er2.trans y30).symm
        · subst d
          exact (er2.trans y31).symm
        · subst d
          exact (er2.trans y32).symm
        · subst d
          exact (er2.trans y33).symm
        · subst d
          exact (er2.trans (inHouseM hk ks.1 z.1 m27).2).symm
        · subst d
          exact (er2.trans y35).symm
        · exact absurd d c2
        · rw [er2]
          unfold ofF
          rw [if_neg d0, if_neg d1, if_neg d2, if_neg d3, if_neg d4, if_neg d5, if_neg d6, if_neg d7, if_neg d8]
theorem may2 {p1 p2 : Int} (hX : TyX s) (hc : c + 1 ≤ 2147483647) (hR : RQ b OL L c s u) (h1 : M_X11_may s p1 p2 r t) (h2 : M_X12_may u p1 p2 r2 v) : r = r2 := by
  unfold M_X11_may T_X11_may_e at h1
  unfold M_X12_may T_X12_may_e at h2
  obtain ⟨_, x1, s1, m1, _, _, _, h1⟩ := h1
  obtain ⟨_, u1, n1, _, _, y1, u5, n5, _, _, _, h2⟩ := h2
  obtain ⟨now, a1, a2, a3, a4, a5⟩ := isChildX hX hR.1 m1
  have z := knows2 hX hR.1 a1 a2 n1
  obtain ⟨q5, k5⟩ := isChildM n5
  subst q5
  rw [z.1.1] at k5
  have rd := ready hX hc hR a2 a1 a3 a4 z.1 z.2.2.2.1 z.2.2.2.2
  have ks := rd.2.2.2.2.2.2.2.2.1
  rcases h1 with ⟨c1, er, es⟩ | ⟨c1, x7, s6, m6, _, _, _, h1⟩
  · rcases h2 with ⟨d1, er2, ev⟩ | ⟨d1, -⟩
    · exact er.trans er2.symm
    · omega
  · rcases h2 with ⟨d1, -⟩ | ⟨d1, y11, u10, n10, _, _, _, h2⟩
    · try clear h1
      omega
    · have hp : 0 ≤ p1 ∧ p1 < ((knAll L now now).1 : Int) := by
        clear h1 h2
        omega
      obtain ⟨k, rfl⟩ : ∃ k : Nat, p1 = (k : Int) := ⟨p1.toNat, by (try clear h1); (try clear h2); omega⟩
      have hk : k < (knAll L now now).1 := by (try clear h1); (try clear h2); omega
      obtain ⟨q6, k6⟩ := isKindX m6
      obtain ⟨q10, k10⟩ := isKindM n10
      obtain ⟨g1, g2, g3, g4, g5, g6, g7, g8, g9, ⟨kn, g10⟩, g11, g12, g13, g14, g15, g16⟩ := id rd
      rw [g14] at k6
      rw [g15] at k10
      rw [q6] at h1
      rw [q10] at h2
      rcases h1 with ⟨c2, er, _⟩ | ⟨c2, s11, m11, _, _, er, _⟩
      · rcases h2 with ⟨d2, er2, _⟩ | ⟨d2, -⟩
        · exact er.trans er2.symm
        · omega
      · rcases h2 with ⟨d2, -⟩ | ⟨d2, r16, s15, m15, _, _, _, h2⟩
        · omega
        · have hp2 : 0 ≤ p2 ∧ p2 < (b.1.length : Int) := by
            clear h2
            omega
          obtain ⟨kd, rfl⟩ : ∃ kd : Nat, p2 = (kd : Int) := ⟨p2.toNat, by (try clear h2); omega⟩
          have hkd : kd < b.1.length := by (try clear h2); omega
          have j := (rd.weigh hk m11).1.2.1 kd hkd
          have w := (mayGetM g10 g1 ks hk g11 g13 g16 hkd g8 g7 g2 m15).1
          rw [Int.toNat_natCast, tb_val _ (show kd < 32 by omega)] at er
          rw [er]
          rcases h2 with ⟨d3, er2, _⟩ | ⟨d3, er2, _⟩
          · rcases w with ⟨w1, _⟩ | ⟨_, w1⟩
            · omega
            · rw [if_neg (fun q => w1 (j.mp q)), er2]
          · rcases w with ⟨_, w1⟩ | ⟨w1, _⟩
            · rw [if_pos (j.mpr w1), er2]
            · exact absurd w1 d3
theorem points2 {p1 p2 : Int} (hX : TyX s) (hc : c + 1 ≤ 2147483647) (hR : RQ b OL L c s u) (h1 : M_X11_points s p1 p2 r t) (h2 : M_X12_points u p1 p2 r2 v) : r = r2 := by
  unfold M_X11_points T_X11_points_e at h1
  unfold M_X12_points T_X12_points_e at h2
  obtain ⟨_, x1, s1, m1, _, _, _, h1⟩ := h1
  obtain ⟨_, u1, n1, _, _, y1, u5, n5, _, _, _, h2⟩ := h2
  obtain ⟨now, a1, a2, a3, a4, a5⟩ := isChildX hX hR.1 m1
  have z := knows2 hX hR.1 a1 a2 n1
  obtain ⟨q5, k5⟩ := isChildM n5
  subst q5
  rw [z.1.1] at k5
  have rd := ready hX hc hR a2 a1 a3 a4 z.1 z.2.2.2.1 z.2.2.2.2
  have ks := rd.2.2.2.2.2.2.2.2.1
  rcases h1 with ⟨c1, er, es⟩ | ⟨c1, x7, s6, m6, _, _, _, h1⟩
  · rcases h2 with ⟨d1, er2, ev⟩ | ⟨d1, -⟩
    · exact er.trans er2.symm
    · omega
  · rcases h2 with ⟨d1, -⟩ | ⟨d1, y11, u10, n10, _, _, _, h2⟩
    · try clear h1
      omega
    · have hp : 0 ≤ p1 ∧ p1 < ((knAll L now now).1 : Int) := by
        clear h1 h2
        omega
      obtain ⟨k, rfl⟩ : ∃ k : Nat, p1 = (k : Int) := ⟨p1.toNat, by (try clear h1); (try clear h2); omega⟩
      have hk : k < (knAll L now now).1 := by (try clear h1); (try clear h2); omega
      obtain ⟨q6, k6⟩ := isKindX m6
      obtain ⟨q10, k10⟩ := isKindM n10
      obtain ⟨g1, g2, g3, g4, g5, g6, g7, g8, g9, ⟨kn, g10⟩, g11, g12, g13, g14, g15, g16⟩ := id rd
      rw [g14] at k6
      rw [g15] at k10
      rw [q6] at h1
      rw [q10] at h2
      rcases h1 with ⟨c2, er, _⟩ | ⟨c2, s11, m11, _, _, er, _⟩
      · rcases h2 with ⟨d2, er2, _⟩ | ⟨d2, -⟩
        · exact er.trans er2.symm
        · omega
      · rcases h2 with ⟨d2, -⟩ | ⟨d2, r16, s15, m15, _, _, er2, _⟩
        · omega
        · have hp2 : 0 ≤ p2 ∧ p2 < (b.1.length : Int) := by omega
          obtain ⟨kd, rfl⟩ : ∃ kd : Nat, p2 = (kd : Int) := ⟨p2.toNat, by omega⟩
          have hkd : kd < b.1.length := by omega
          have j := (rd.weigh hk m11).1.2.2 kd hkd
          have w := (pointsOfM ks hk g11 g13 g16 hkd g7 m15).1
          have ei : ((k : Int) * 10 + (kd : Int)).toNat = 10 * k + kd := by omega
          rw [ei, j] at er
          rw [er, er2, w]
end AskB
