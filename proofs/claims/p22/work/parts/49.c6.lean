/-! children, as both tell them -/
section Tell
variable {s t u v : PS} {r r2 : Int} {L : LT} {S : KS} {c : CH} {k : Nat}
/-- all that lies between two calls, but for giving -/
def RG (L : LT) (s u : PS) : Prop := BK s u ∧ AS s u ∧ LG L s u ∧ KV L s
theorem kn_late {now : Int} : ∀ a x : Nat, now < (x : Int) → x ≤ a → (knAll L now a).2.2 x = -1
  | 0, x, _, _ => rfl
  | a + 1, x, h1, h2 => by
    have ih := kn_late a x h1
    show (knStep L now (knAll L now a) (a + 1)).2.2 x = -1
    have nk : (a + 1 : Nat) = x → ¬ (L.2.1 (a + 1) = 0 ∧ knwn L now (a + 1) = true) := by
      intro e z
      have c2 := z.2
      unfold knwn at c2
      rw [Bool.and_eq_true] at c2
      have c3 := of_decide_eq_true c2.1
      omega
    unfold knStep
    by_cases c : L.2.1 (a + 1) = 0 ∧ knwn L now (a + 1) = true
    · have ne : ¬ a + 1 = x := fun e => nk e c
      rw [if_pos c]
      split
      · show (if x = a + 1 then _ else _) = _
        rw [if_neg (by omega)]
        exact ih (by omega)
      · split
        · show (if x = a + 1 then _ else _) = _
          rw [if_neg (by omega)]
          exact ih (by omega)
        · show (if x = a + 1 then _ else _) = _
          rw [if_neg (by omega)]
          exact ih (by omega)
    · rw [if_neg c]
      show (if x = a + 1 then -1 else _) = _
      by_cases e : x = a + 1
      · rw [if_pos e]
      · rw [if_neg e]
        exact ih (by omega)
theorem kv_ext {M : LT} (h : KV L s) (hx : LExt L M) (e42 : t 42 = s 42) (e : ∀ k, 43 ≤ k → k ≤ 55 → t k = s k) : KV M t := by
  rcases h with h | ⟨now, h1, h2, h3, h4⟩
  · exact Or.inl (by rw [e42]; exact h)
  · have kw : ∀ x, 1 ≤ x → x ≤ now → knwn M now x = knwn L now x := by
      intro x x1 x2
      obtain ⟨_, _, _, z⟩ := hx.2 x x1 (by omega)
      unfold knwn
      rcases z with z | ⟨z1, z2⟩
      · rw [z]
      · rw [z1, decide_eq_true (show (now : Int) < M.2.2.2.1 x by omega), Bool.or_true, decide_eq_true (show (0 : Int) = 0 from rfl), Bool.true_or]
    have ka : knAll M now now = knAll L now now := knAll_cg now (fun x x1 x2 => by
      obtain ⟨y1, y2, y3, _⟩ := hx.2 x x1 (by omega)
      exact ⟨y1, y2, y3, kw x x1 x2⟩)
    have cm : ∀ k d : Int, ∀ a, a ≤ now → cmF M now k d a = cmF L now k d a := by
      intro k d a
      induction a with
      | zero => exact fun _ => rfl
      | succ a ih =>
        intro ha
        obtain ⟨y1, y2, _, _⟩ := hx.2 (a + 1) (by omega) (by omega)
        show cmF M now k d a + _ = cmF L now k d a + _
        rw [ih (by omega), y1, y2, kw (a + 1) (by omega) ha]
    have cl : ∀ k : Int, ∀ a, a ≤ now → clF M now k a = clF L now k a := by
      intro k a
      induction a with
      | zero => exact fun _ => rfl
      | succ a ih =>
        intro ha
        obtain ⟨y1, y2, _, _⟩ := hx.2 (a + 1) (by omega) (by omega)
        show (if _ then _ else _) = (if _ then _ else _)
        rw [ih (by omega), y1, y2, kw (a + 1) (by omega) ha]
    refine Or.inr ⟨now, by rw [e42]; exact h1, Nat.le_trans h2 hx.1, ?_, ?_⟩
    · rw [ka]
      refine ⟨⟨by rw [e42]; exact h3.1.1, fun k hk => ?_⟩, fun x x1 x2 => by rw [e 53 (by decide) (by decide)]; exact h3.2 x x1 x2⟩
      have q := h3.1.2 k hk
      unfold CX
      rw [e 43 (by decide) (by decide), e 44 (by decide) (by decide), e 45 (by decide) (by decide), e 46 (by decide) (by decide), e 47 (by decide) (by decide), e 48 (by decide) (by decide), e 49 (by decide) (by decide), e 50 (by decide) (by decide), e 51 (by decide) (by decide), e 52 (by decide) (by decide)]
      exact q
    · refine ⟨fun k d hk hd => ?_, fun k hk => ?_⟩
      · rw [e 54 (by decide) (by decide), h4.1 k d hk hd, cm _ _ now (Nat.le_refl _)]
      · rw [e 55 (by decide) (by decide), h4.2 k hk, cl _ now (Nat.le_refl _)]
theorem kv_cg (h : KV L s) (e42 : t 42 = s 42) (e : ∀ k, 43 ≤ k → k ≤ 55 → t k = s k) : KV L t := kv_ext h LExt.refl e42 e
/-- the act as known at which all is told, of the class -/
theorem actNowX (hA : AS s u) (hL : LG L s u) (h : M_X11_actNow s r t) : t = s ∧ r = nowU u ∧ ∃ now : Nat, nowU u = (now : Int) ∧ now ≤ L.1 := by
  have n1 := hL.1.1
  have n2 := hL.2.1.1
  obtain ⟨a1, a2, a3⟩ := hA
  unfold M_X11_actNow T_X11_actNow_e at h
  unfold nowU
  obtain ⟨_, ⟨c, er, es⟩ | ⟨c, er, es⟩⟩ := h
  · rw [if_pos (by omega)]
    exact ⟨es, by omega, L.1, n2, Nat.le_refl _⟩
  · rw [if_neg (by omega)]
    exact ⟨es, by omega, (u 0 39).toNat, by omega, by omega⟩
theorem actNow2 (hA : AS s u) (hL : LG L s u) : ∃ now : Nat, nowU u = (now : Int) ∧ now ≤ L.1 := by
  have n1 := hL.1.1
  have n2 := hL.2.1.1
  obtain ⟨a1, a2, a3⟩ := hA
  unfold nowU
  by_cases c : u 0 39 = -1
  · rw [if_pos c]
    exact ⟨L.1, n2, Nat.le_refl _⟩
  · rw [if_neg c]
    exact ⟨(u 0 39).toNat, by omega, by omega⟩
/-- behind a look of the class -/
def SeenX (L : LT) (now : Nat) (s : PS) : Prop := s 42 0 = (now : Int) ∧ KX (knAll L now now) now s ∧ CmX L now now s
/-- what a look changes -/
def LkO (s t : PS) : Prop := (∀ k, ¬ (42 ≤ k ∧ k ≤ 55) → t k = s k) ∧ (t = s ∨ t 42 1 = wi (s 42 1 + 1))
theorem lookAll (hX : TyX s) (hR : RG L s u) (h : M_X11_look s r t) : ∃ now : Nat, nowU u = (now : Int) ∧ now ≤ L.1 ∧ SeenX L now t ∧ LkO s t := by
  obtain ⟨_, hA, hL, hV⟩ := hR
  unfold M_X11_look T_X11_look_e at h
  obtain ⟨_, r2, s1, m1, _, _, _, s4, m4, _, _, _, es⟩ := h
  obtain ⟨q1, q2, now, q3, q4⟩ := actNowX hA hL m1
  subst q1
  rw [q2, q3] at m4
  have kb := tyX_kb hX
  have ta := tyX_acts hX
  have n1 := hL.1.1
  have z := lookKX (kn := s1 1 0) kb.2 hL.1 hL.2.2.1 (by omega) q4 hV m4
  rw [es]
  refine ⟨now, q3, q4, z.1, z.2.1, ?_⟩
  rcases z.2.2 with y | y
  · exact Or.inl y.2
  · exact Or.inr y.2
theorem SeenX.kv {now : Nat} (h : SeenX L now s) (hn : now ≤ L.1) : KV L s := Or.inr ⟨now, h.1, hn, h.2⟩
/-- behind a look everything else is as it was -/
theorem RG.look (hR : RG L s u) (hO : ∀ k, ¬ (42 ≤ k ∧ k ≤ 55) → t k = s k) (hV : KV L t) (ev : ∀ k, ¬ k = 0 → ¬ (26 ≤ k ∧ k ≤ 37) → v k = u k) (e0 : ∀ j, ¬ j = 45 → v 0 j = u 0 j) : RG L t v := by
  obtain ⟨hB, hA, hL, _⟩ := hR
  refine ⟨?_, ?_, ?_, hV⟩
  · obtain ⟨b, b1, b2⟩ := hB
    exact ⟨b, b1.cg (fun k h1 h2 => hO k (by omega)), b2.cg (fun k h1 h2 => ev k (by omega) (by omega)) (e0 12 (by decide))⟩
  · unfold AS
    rw [hO 0 (by decide), hO 35 (by decide), e0 39 (by decide)]
    exact hA
  · exact hL.cg (by rw [hO 1 (by decide)]) (by rw [hO 35 (by decide)]) (by rw [hO 35 (by decide)]) (hO 36 (by decide)) (hO 37 (by decide)) (hO 38 (by decide)) (hO 39 (by decide)) (hO 40 (by decide)) (e0 37 (by decide)) (e0 38 (by decide)) (ev 21 (by decide) (by decide)) (ev 22 (by decide) (by decide)) (ev 23 (by decide) (by decide)) (ev 24 (by decide) (by decide))
/-- the reference's children behind knows are those of the class behind a look -/
theorem knows2 {now : Nat} (hM : TyX s) (hR : RG L s u) (hn : nowU u = (now : Int)) (hn2 : now ≤ L.1) (h : M_X12_knows u r v) : KCU (knAll L now now) v ∧ (∀ x : Nat, 1 ≤ x → x ≤ now → v 36 x = (knAll L now now).2.2 x) ∧ (∀ x : Nat, now < x → x ≤ L.1 → v 36 x = -1) ∧ (∀ k, ¬ k = 0 → ¬ (26 ≤ k ∧ k ≤ 37) → v k = u k) ∧ ∀ j, ¬ j = 45 → v 0 j = u 0 j := by
  obtain ⟨_, _, hL, _⟩ := hR
  have ta := tyX_acts hM
  have n1 := hL.1.1
  have z := knowsM hL.2.1 hL.2.2.1 (by omega) h
  rw [hn] at z
  have e : L.1 = now + (L.1 - now) := by omega
  have p := knAll_past (L := L) (now := (now : Int)) (L.1 - now) now (Int.le_refl _)
  rw [← e] at p
  refine ⟨⟨by rw [← p.1]; exact z.1.1.1, fun k hk => ?_⟩, fun x x1 x2 => ?_, fun x x1 x2 => ?_, fun k h1 h2 => z.2.1 k h1 (by omega), z.2.2⟩
  · have q := z.1.1.2 k (by rw [p.1]; exact hk)
    rw [p.2.1] at q
    exact q
  · rw [z.1.2 x x1 (by omega), p.2.2 x x2]
  · rw [z.1.2 x (by omega) x2, kn_late L.1 x (by omega) x2]
theorem child2 {p1 : Int} (hX : TyX s) (hR : RG L s u) (h1 : M_X11_child s p1 r t) (h2 : M_X12_child u p1 r2 v) : r = r2 ∧ RG L t v := by
  have hA := hR.2.1
  have hL := hR.2.2.1
  unfold M_X11_child T_X11_child_e at h1
  unfold M_X12_child T_X12_child_e at h2
  obtain ⟨_, h1⟩ := h1
  obtain ⟨_, h2⟩ := h2
  have n2 := hL.2.1.1
  rcases h1 with ⟨c1, er, es⟩ | ⟨c1, r3, s2, m2, _, _, _, h1⟩
  · rcases h2 with ⟨d1, er2, ev⟩ | ⟨d1, -⟩
    · rw [er, er2, es, ev]
      exact ⟨rfl, hR⟩
    · exact absurd c1 d1
  · rcases h2 with ⟨d1, -⟩ | ⟨_, h2⟩
    · exact absurd d1 c1
    · obtain ⟨q1, q2, now, q3, q4⟩ := actNowX hA hL m2
      subst q1
      have nl := q4
      rcases h1 with ⟨c2, s6, m6, _, _, er, es⟩ | ⟨c2, er, es⟩
      · obtain ⟨now', y1, y2, y3, y4⟩ := lookAll hX hR m6
        have en : now' = now := by omega
        subst en
        rcases h2 with ⟨d2, u3, n3, _, _, er2, ev⟩ | ⟨d2, -⟩
        · have z := knows2 hX hR y1 y2 n3
          obtain ⟨x, rfl⟩ : ∃ x : Nat, p1 = (x : Int) := ⟨p1.toNat, by omega⟩
          rw [er, er2, es, ev, Int.toNat_natCast, y3.2.1.2 x (by omega) (by omega), z.2.1 x (by omega) (by omega)]
          exact ⟨rfl, hR.look y4.1 (y3.kv y2) z.2.2.2.1 z.2.2.2.2⟩
        · exact absurd (show p1 ≤ u 0 37 by omega) d2
      · rcases h2 with ⟨d2, u3, n3, _, _, er2, ev⟩ | ⟨d2, er2, ev⟩
        · have z := knows2 hX hR q3 q4 n3
          obtain ⟨x, rfl⟩ : ∃ x : Nat, p1 = (x : Int) := ⟨p1.toNat, by omega⟩
          rw [er, er2, es, ev, Int.toNat_natCast, z.2.2.1 x (by omega) (by omega)]
          exact ⟨rfl, hR.look (fun _ _ => rfl) hR.2.2.2 z.2.2.2.1 z.2.2.2.2⟩
        · rw [er, er2, es, ev]
          exact ⟨rfl, hR⟩
theorem isChildX {p1 : Int} (hX : TyX s) (hR : RG L s u) (h : M_X11_isChild s p1 r t) : ∃ now : Nat, nowU u = (now : Int) ∧ now ≤ L.1 ∧ SeenX L now t ∧ LkO s t ∧ ((r = 1 ∧ 0 ≤ p1 ∧ p1 < ((knAll L now now).1 : Int)) ∨ (r = 0 ∧ ¬ (0 ≤ p1 ∧ p1 < ((knAll L now now).1 : Int)))) := by
  unfold M_X11_isChild T_X11_isChild_e at h
  obtain ⟨_, s1, m1, _, _, h⟩ := h
  obtain ⟨now, y1, y2, y3, y4⟩ := lookAll hX hR m1
  have e : s1 42 2 = ((knAll L now now).1 : Int) := y3.2.1.1.1
  rw [e] at h
  rcases h with ⟨c1, er, es⟩ | ⟨c1, ⟨c2, er, es⟩ | ⟨c2, er, es⟩⟩
  · rw [es]
    exact ⟨now, y1, y2, y3, y4, Or.inr ⟨er, by omega⟩⟩
  · rw [es]
    exact ⟨now, y1, y2, y3, y4, Or.inr ⟨er, by omega⟩⟩
  · rw [es]
    exact ⟨now, y1, y2, y3, y4, Or.inl ⟨er, by omega, by omega⟩⟩
theorem isChildM {p1 : Int} (h : M_X12_isChild u p1 r v) : v = u ∧ ((r = 1 ∧ 0 ≤ p1 ∧ p1 < u 0 45) ∨ (r = 0 ∧ ¬ (0 ≤ p1 ∧ p1 < u 0 45))) := by
  unfold M_X12_isChild T_X12_isChild_e at h
  obtain ⟨_, ⟨c, er, es⟩ | ⟨c, ⟨d, er, es⟩ | ⟨d, er, es⟩⟩⟩ := h
  · exact ⟨es, Or.inr ⟨er, by omega⟩⟩
  · exact ⟨es, Or.inr ⟨er, by omega⟩⟩
  · exact ⟨es, Or.inl ⟨er, by omega, by omega⟩⟩
theorem wish2 {p1 p2 p3 : Int} (hX : TyX s) (hR : RG L s u) (h1 : M_X11_wish s p1 p2 p3 r t) (h2 : M_X12_wish u p1 p2 p3 r2 v) : r = r2 ∧ RG L t v := by
  unfold M_X11_wish T_X11_wish_e at h1
  unfold M_X12_wish T_X12_wish_e at h2
  obtain ⟨_, x1, s1, m1, _, _, _, h1⟩ := h1
  obtain ⟨_, u1, n1, _, _, y1, u5, n5, _, _, _, h2⟩ := h2
  obtain ⟨now, a1, a2, a3, a4, a5⟩ := isChildX hX hR m1
  have z := knows2 hX hR a1 a2 n1
  obtain ⟨q5, k5⟩ := isChildM n5
  subst q5
  rw [z.1.1] at k5
  have fin : ∀ t v : PS, t = s1 → v = u5 → RG L t v := by
    intro t v e1 e2
    rw [e1, e2]
    exact hR.look a4.1 (a3.kv a2) z.2.2.2.1 z.2.2.2.2
  have ks := knAll_ok (L := L) (now := (now : Int)) hR.2.2.1.2.2.1 now a2
  rcases h1 with ⟨c1, er, es⟩ | ⟨c1, h1⟩
  · rcases h2 with ⟨d1, er2, ev⟩ | ⟨d1, -⟩
    · exact ⟨er.trans er2.symm, fin t v es ev⟩
    · omega
  · rcases h2 with ⟨d1, -⟩ | ⟨d1, h2⟩
    · try clear h1
      omega
    · have hp : 0 ≤ p1 ∧ p1 < ((knAll L now now).1 : Int) := by
        clear h1 h2
        omega
      obtain ⟨k, rfl⟩ : ∃ k : Nat, p1 = (k : Int) := ⟨p1.toNat, by (try clear h1); (try clear h2); omega⟩
      have hk : k < (knAll L now now).1 := by (try clear h1); (try clear h2); omega
      have o := a3.2.1.1.2 k hk
      have o2 := z.1.2 k hk
      have w := (ks.2.2.1 k hk).2.2.2.2.2.2.2.2
      rw [Int.toNat_natCast, o.2.2.2.2.2.2.2.2.1] at h1
      rw [Int.toNat_natCast, o2.2.2.2.2.2.2.2.2.1] at h2
      rcases h1 with ⟨c2, er, es⟩ | ⟨c2, h1⟩
      · rcases h2 with ⟨d2, er2, ev⟩ | ⟨d2, -⟩
        · exact ⟨er.trans er2.symm, fin t v es ev⟩
        · exact absurd c2 d2
      · rcases h2 with ⟨d2, -⟩ | ⟨_, h2⟩
        · exact absurd d2 c2
        · obtain ⟨i, rfl⟩ : ∃ i : Nat, p2 = (i : Int) := ⟨p2.toNat, by (try clear h1); (try clear h2); omega⟩
          rcases h1 with ⟨c3, x11, s10, m10, _, _, _, er, es⟩ | ⟨c3, er, es⟩
          · rcases h2 with ⟨d3, y15, u14, n14, _, _, er2, ev⟩ | ⟨d3, -⟩
            · have hi : i < (cWsh ((knAll L now now).2.1 k)).length := by omega
              have ix1 : ((k : Int) * 4 + (i : Int)).toNat = 4 * k + i := by omega
              have ix2 : (4 * (k : Int) + (i : Int)).toNat = 4 * k + i := by omega
              rw [ix1, o.2.2.2.2.2.2.2.2.2 i hi] at m10
              rw [ix2, o2.2.2.2.2.2.2.2.2.2 i hi] at n14
              have lw := (w.2 _ (List.getElem_mem hi)).1
              have l1 := letX lw m10
              have l2 := letM8 lw n14
              refine ⟨by rw [er, er2, l1.2, l2.2], fin t v (es.trans l1.1) (ev.trans l2.1)⟩
            · exact absurd c3 d3
          · rcases h2 with ⟨d3, -⟩ | ⟨_, er2, ev⟩
            · exact absurd d3 c3
            · exact ⟨er.trans er2.symm, fin t v es ev⟩
/-- how many of the first i children have this house -/
def hoF (S : KS) (h : Int) : Nat → Int
  | 0 => 0
  | i + 1 => hoF S h i + (if cHou (S.2.1 i) = h then 1 else 0)
theorem hoF_le {h : Int} : ∀ i : Nat, 0 ≤ hoF S h i ∧ hoF S h i ≤ (i : Int)
  | 0 => ⟨Int.le_refl _, Int.le_refl _⟩
  | i + 1 => by
    have ih := hoF_le (h := h) i
    show 0 ≤ hoF S h i + _ ∧ hoF S h i + _ ≤ ((i + 1 : Nat) : Int)
    split <;> omega
theorem mates15 (hk : k < S.1) (h40 : S.1 ≤ 40) : ∀ (n i : Nat) (x : Int) (s : PS) (r : Int) (t : PS), It_X6_mates n 15 (k : Int) x (i : Int) s r t → KCX S s → i ≤ S.1 → x = hoF S (cHou (S.2.1 k)) i → t = s ∧ r = hoF S (cHou (S.2.1 k)) S.1
  | 0, i, x, s, r, t, h, _, _, _ => False.elim h
  | n + 1, i, x, s, r, t, h, hK, hi, hx => by
    replace h := ul_X6_mates_15 h
    unfold T_X6_mates_15 at h
    obtain ⟨_, _, _, h⟩ := h
    rw [hK.1] at h
    rcases h with ⟨c1, er, es⟩ | ⟨c1, h⟩
    · have e : i = S.1 := by omega
      subst e
      exact ⟨es, er.trans hx⟩
    · have hi2 : i < S.1 := by clear h; omega
      have bd := hoF_le (S := S) (h := cHou (S.2.1 k)) i
      rw [Int.toNat_natCast, Int.toNat_natCast, (hK.2 i hi2).2.2.2.2.2.1, (hK.2 k hk).2.2.2.2.2.1] at h
      have go : ∀ y : Int, It_X6_mates n 41 (k : Int) y (i : Int) s r t → y = hoF S (cHou (S.2.1 k)) (i + 1) → t = s ∧ r = hoF S (cHou (S.2.1 k)) S.1 := by
        intro y h2 hy
        cases n with
        | zero => exact False.elim h2
        | succ n =>
          replace h2 := ul_X6_mates_41 h2
          unfold T_X6_mates_41 at h2
          obtain ⟨_, _, _, h2⟩ := h2
          exact mates15 hk h40 n (i + 1) y s r t h2 hK hi2 hy
      rcases h with ⟨c2, h⟩ | ⟨c2, h⟩
      · refine go _ h ?_
        show _ = hoF S (cHou (S.2.1 k)) i + _
        rw [if_pos c2, wi_id (by omega) (by omega), hx]
      · refine go _ h ?_
        show _ = hoF S (cHou (S.2.1 k)) i + _
        rw [if_neg c2, hx]
        omega
def mtF (S : KS) (k : Nat) : Int := if cHou (S.2.1 k) = 0 then 1 else hoF S (cHou (S.2.1 k)) S.1
theorem matesX (hk : k < S.1) (h40 : S.1 ≤ 40) (hK : KCX S s) (h : M_X6_mates s (k : Int) r t) : t = s ∧ r = mtF S k := by
  obtain ⟨n, h⟩ := h
  unfold T_X6_mates_e at h
  obtain ⟨_, _, h⟩ := h
  rw [Int.toNat_natCast, (hK.2 k hk).2.2.2.2.2.1] at h
  unfold mtF
  rcases h with ⟨c, er, es⟩ | ⟨c, h⟩
  · rw [if_pos c]
    exact ⟨es, er⟩
  · rw [if_neg c]
    exact mates15 hk h40 n 0 0 s r t h hK (Nat.zero_le _) rfl
theorem inHo15 (hk : k < S.1) (h40 : S.1 ≤ 40) : ∀ (n i : Nat) (x : Int) (s : PS) (r : Int) (t : PS), It_X12_inHouse n 15 (k : Int) x (i : Int) 0 0 s r t → KCU S s → i ≤ S.1 → x = hoF S (cHou (S.2.1 k)) i → t = s ∧ r = hoF S (cHou (S.2.1 k)) S.1
  | 0, i, x, s, r, t, h, _, _, _ => False.elim h
  | n + 1, i, x, s, r, t, h, hK, hi, hx => by
    replace h := ul_X12_inHouse_15 h
    unfold T_X12_inHouse_15 at h
    obtain ⟨_, _, _, h⟩ := h
    rw [hK.1] at h
    rcases h with ⟨c1, er, es⟩ | ⟨c1, h⟩
    · have e : i = S.1 := by omega
      subst e
      exact ⟨es, er.trans hx⟩
    · have hi2 : i < S.1 := by clear h; omega
      have bd := hoF_le (S := S) (h := cHou (S.2.1 k)) i
      rw [Int.toNat_natCast, Int.toNat_natCast, (hK.2 i hi2).2.2.2.2.2.1, (hK.2 k hk).2.2.2.2.2.1] at h
      have go : ∀ y : Int, It_X12_inHouse n 44 (k : Int) x (i : Int) y x s r t → wi (x + y) = hoF S (cHou (S.2.1 k)) (i + 1) → t = s ∧ r = hoF S (cHou (S.2.1 k)) S.1 := by
        intro y h2 hy
        cases n with
        | zero => exact False.elim h2
        | succ n =>
          replace h2 := ul_X12_inHouse_44 h2
          unfold T_X12_inHouse_44 at h2
          obtain ⟨_, _, _, _, h2⟩ := h2
          rw [hy] at h2
          exact inHo15 hk h40 n (i + 1) _ s r t h2 hK hi2 rfl
      rcases h with ⟨c2, h⟩ | ⟨c2, h⟩
      · refine go _ h ?_
        show _ = hoF S (cHou (S.2.1 k)) i + _
        rw [if_pos c2, wi_id (by omega) (by omega), hx]
      · refine go _ h ?_
        show _ = hoF S (cHou (S.2.1 k)) i + _
        rw [if_neg c2, wi_id (by omega) (by omega), hx]
theorem inHouseM (hk : k < S.1) (h40 : S.1 ≤ 40) (hK : KCU S s) (h : M_X12_inHouse s (k : Int) r t) : t = s ∧ r = mtF S k := by
  obtain ⟨n, h⟩ := h
  unfold T_X12_inHouse_e at h
  obtain ⟨_, _, h⟩ := h
  rw [Int.toNat_natCast, (hK.2 k hk).2.2.2.2.2.1] at h
  unfold mtF
  rcases h with ⟨c, er, es⟩ | ⟨c, h⟩
  · rw [if_pos c]
    exact ⟨es, er⟩
  · rw [if_neg c]
    exact inHo15 hk h40 n 0 0 s r t h hK (Nat.zero_le _) rfl
end Tell
