/-! doubt, of, all -/
section Doubt
variable {s t u v : PS} {r r2 : Int} {L : LT} {S : KS} {c : CH} {k : Nat}
def alk (S : KS) (i j : Nat) : Prop := (cCode (S.2.1 i) = 0 ∨ cCode (S.2.1 j) = 0) ∧ ¬ cHou (S.2.1 i) = 0 ∧ cHou (S.2.1 i) = cHou (S.2.1 j) ∧ cSch (S.2.1 i) = cSch (S.2.1 j) ∧ cAge (S.2.1 i) = cAge (S.2.1 j)
/-- pairs of i and the first j -/
noncomputable def dbJ (S : KS) (i : Nat) : Nat → Int
  | 0 => 0
  | j + 1 => dbJ S i j + (if cCode (S.2.1 i) = 0 ∨ cCode (S.2.1 j) = 0 then (if ¬ cHou (S.2.1 i) = 0 ∧ cHou (S.2.1 i) = cHou (S.2.1 j) ∧ cSch (S.2.1 i) = cSch (S.2.1 j) ∧ cAge (S.2.1 i) = cAge (S.2.1 j) then 1 else 0) else 0)
noncomputable def dbI (S : KS) : Nat → Int
  | 0 => 0
  | i + 1 => dbI S i + dbJ S i i
theorem dbJ_le {i : Nat} : ∀ j : Nat, 0 ≤ dbJ S i j ∧ dbJ S i j ≤ (j : Int)
  | 0 => ⟨Int.le_refl _, Int.le_refl _⟩
  | j + 1 => by
    have ih := dbJ_le (i := i) j
    show 0 ≤ dbJ S i j + _ ∧ dbJ S i j + _ ≤ ((j + 1 : Nat) : Int)
    split
    · split <;> omega
    · omega
theorem dbI_le : ∀ i : Nat, i ≤ 40 → 0 ≤ dbI S i ∧ dbI S i ≤ 40 * (i : Int)
  | 0, _ => ⟨Int.le_refl _, Int.le_refl _⟩
  | i + 1, h => by
    have ih := dbI_le i (by omega)
    have z := dbJ_le (S := S) (i := i) i
    show 0 ≤ dbI S i + dbJ S i i ∧ dbI S i + dbJ S i i ≤ 40 * ((i + 1 : Nat) : Int)
    omega
theorem alikeX {i j : Nat} (hK : KCX S s) (hi : i < S.1) (hj : j < S.1) (h : M_X6_areAlike s (i : Int) (j : Int) r t) : t = s ∧ r = if ¬ cHou (S.2.1 i) = 0 ∧ cHou (S.2.1 i) = cHou (S.2.1 j) ∧ cSch (S.2.1 i) = cSch (S.2.1 j) ∧ cAge (S.2.1 i) = cAge (S.2.1 j) then 1 else 0 := by
  have a := hK.2 i hi
  have b := hK.2 j hj
  unfold M_X6_areAlike T_X6_areAlike_e at h
  obtain ⟨_, _, _, h⟩ := h
  rw [Int.toNat_natCast, Int.toNat_natCast, a.2.2.2.2.2.1, b.2.2.2.2.2.1, a.2.2.2.2.1, b.2.2.2.2.1, a.2.1, b.2.1] at h
  rcases h with ⟨c1, er, es⟩ | ⟨c1, ⟨c2, ⟨c3, ⟨c4, er, es⟩ | ⟨c4, er, es⟩⟩ | ⟨c3, er, es⟩⟩ | ⟨c2, er, es⟩⟩
  · rw [if_neg (fun z => z.1 c1)]
    exact ⟨es, er⟩
  · rw [if_pos ⟨c1, c2, c3, c4⟩]
    exact ⟨es, er⟩
  · rw [if_neg (fun z => c4 z.2.2.2)]
    exact ⟨es, er⟩
  · rw [if_neg (fun z => c3 z.2.2.1)]
    exact ⟨es, er⟩
  · rw [if_neg (fun z => c2 z.2.1)]
    exact ⟨es, er⟩
theorem dbX (h40 : S.1 ≤ 40) : ∀ (n : Nat), (∀ (i : Nat) (x : Int) (s : PS) (r : Int) (t : PS), It_X6_doubts n 4 x (i : Int) 0 s r t → KCX S s → i ≤ S.1 → x = dbI S i → t = s ∧ r = dbI S S.1) ∧ (∀ (i j : Nat) (x : Int) (s : PS) (r : Int) (t : PS), It_X6_doubts n 14 x (i : Int) (j : Int) s r t → KCX S s → i < S.1 → j ≤ i → x = dbI S i + dbJ S i j → t = s ∧ r = dbI S S.1) ∧ (∀ (i j : Nat) (x : Int) (s : PS) (r : Int) (t : PS), It_X6_doubts n 49 x (i : Int) (j : Int) s r t → KCX S s → i < S.1 → j < i → x = dbI S i + dbJ S i (j + 1) → t = s ∧ r = dbI S S.1) ∧ (∀ (i j : Nat) (x : Int) (s : PS) (r : Int) (t : PS), It_X6_doubts n 37 x (i : Int) (j : Int) s r t → KCX S s → i < S.1 → j < i → (cCode (S.2.1 i) = 0 ∨ cCode (S.2.1 j) = 0) → x = dbI S i + dbJ S i j → t = s ∧ r = dbI S S.1)
  | 0 => ⟨fun _ _ _ _ _ h => False.elim h, fun _ _ _ _ _ _ h => False.elim h, fun _ _ _ _ _ _ h => False.elim h, fun _ _ _ _ _ _ h => False.elim h⟩
  | n + 1 => by
    obtain ⟨ih4, ih14, ih49, ih37⟩ := dbX h40 n
    refine ⟨fun i x s r t h hK hi hx => ?_, fun i j x s r t h hK hi hj hx => ?_, fun i j x s r t h hK hi hj hx => ?_, fun i j x s r t h hK hi hj hc hx => ?_⟩
    · replace h := ul_X6_doubts_4 h
      unfold T_X6_doubts_4 at h
      obtain ⟨_, _, h⟩ := h
      rw [hK.1] at h
      rcases h with ⟨c, er, es⟩ | ⟨c, h⟩
      · have e : i = S.1 := by omega
        subst e
        exact ⟨es, er.trans hx⟩
      · exact ih14 i 0 x s r t h hK (by clear h; omega) (Nat.zero_le _) (by rw [hx]; show _ = dbI S i + 0; omega)
    · replace h := ul_X6_doubts_14 h
      unfold T_X6_doubts_14 at h
      obtain ⟨_, _, _, h⟩ := h
      rcases h with ⟨c, h⟩ | ⟨c, h⟩
      · have e : j = i := by clear h; omega
        subst e
        exact ih4 (j + 1) x s r t h hK hi hx
      · have hj2 : j < i := by clear h; omega
        rw [Int.toNat_natCast, Int.toNat_natCast, (hK.2 i hi).1, (hK.2 j (by clear h; omega)).1] at h
        rcases h with ⟨c2, h⟩ | ⟨c2, ⟨c3, h⟩ | ⟨c3, h⟩⟩
        · exact ih37 i j x s r t h hK hi hj2 (Or.inl c2) hx
        · exact ih37 i j x s r t h hK hi hj2 (Or.inr c3) hx
        · refine ih49 i j x s r t h hK hi hj2 ?_
          rw [hx]
          show _ = dbI S i + (dbJ S i j + _)
          rw [if_neg (fun z => z.elim c2 c3)]
          omega
    · replace h := ul_X6_doubts_49 h
      unfold T_X6_doubts_49 at h
      obtain ⟨_, _, _, h⟩ := h
      exact ih14 i (j + 1) x s r t h hK hi hj hx
    · replace h := ul_X6_doubts_37 h
      unfold T_X6_doubts_37 at h
      obtain ⟨_, _, _, r2, s1, m1, _, _, _, h⟩ := h
      obtain ⟨q1, q2⟩ := alikeX hK hi (by clear h; omega) m1
      subst q1
      have b1 := dbI_le (S := S) i (by clear h; omega)
      have b2 := dbJ_le (S := S) (i := i) j
      rcases h with ⟨c2, h⟩ | ⟨c2, h⟩
      · refine ih49 i j x s1 r t h hK hi hj ?_
        rw [hx]
        show _ = dbI S i + (dbJ S i j + _)
        rw [if_pos hc, ← q2]
        omega
      · refine ih49 i j _ s1 r t h hK hi hj ?_
        have e1 : r2 = 1 := by
          rw [q2] at c2 ⊢
          by_cases y : ¬ cHou (S.2.1 i) = 0 ∧ cHou (S.2.1 i) = cHou (S.2.1 j) ∧ cSch (S.2.1 i) = cSch (S.2.1 j) ∧ cAge (S.2.1 i) = cAge (S.2.1 j)
          · rw [if_pos y]
          · rw [if_neg y] at c2
            exact absurd rfl c2
        rw [wi_id (by clear h; omega) (by clear h; omega), hx]
        show _ = dbI S i + (dbJ S i j + _)
        rw [if_pos hc, ← q2, e1]
        omega
theorem doubtsX (h40 : S.1 ≤ 40) (hK : KCX S s) (h : M_X6_doubts s r t) : t = s ∧ r = dbI S S.1 := by
  obtain ⟨n, h⟩ := h
  unfold T_X6_doubts_e at h
  obtain ⟨_, h⟩ := h
  exact (dbX h40 n).1 0 0 s r t h hK (Nat.zero_le _) rfl
theorem dbM (h40 : S.1 ≤ 40) : ∀ (n : Nat), (∀ (i : Nat) (x : Int) (s : PS) (r : Int) (t : PS), It_X12_doubt n 8 x (i : Int) 0 0 0 s r t → KCU S s → i ≤ S.1 → x = dbI S i → t = s ∧ r = dbI S S.1) ∧ (∀ (i j : Nat) (x : Int) (s : PS) (r : Int) (t : PS), It_X12_doubt n 18 x (i : Int) (j : Int) 0 0 s r t → KCU S s → i < S.1 → j ≤ i → x = dbI S i + dbJ S i j → t = s ∧ r = dbI S S.1) ∧ (∀ (i j : Nat) (x y z : Int) (s : PS) (r : Int) (t : PS), It_X12_doubt n 101 x (i : Int) (j : Int) y z s r t → KCU S s → i < S.1 → j < i → wi (z + y) = dbI S i + dbJ S i (j + 1) → t = s ∧ r = dbI S S.1) ∧ (∀ (i j : Nat) (x z : Int) (s : PS) (r : Int) (t : PS), It_X12_doubt n 100 x (i : Int) (j : Int) z 0 s r t → KCU S s → i < S.1 → j < i → wi (z + 0) = dbI S i + dbJ S i (j + 1) → t = s ∧ r = dbI S S.1) ∧ (∀ (i j : Nat) (x z : Int) (s : PS) (r : Int) (t : PS), It_X12_doubt n 42 x (i : Int) (j : Int) z 0 s r t → KCU S s → i < S.1 → j < i → (cCode (S.2.1 i) = 0 ∨ cCode (S.2.1 j) = 0) → z = dbI S i + dbJ S i j → t = s ∧ r = dbI S S.1)
  | 0 => ⟨fun _ _ _ _ _ h => False.elim h, fun _ _ _ _ _ _ h => False.elim h, fun _ _ _ _ _ _ _ _ h => False.elim h, fun _ _ _ _ _ _ _ h => False.elim h, fun _ _ _ _ _ _ _ h => False.elim h⟩
  | n + 1 => by
    obtain ⟨ih8, ih18, ih101, ih100, ih42⟩ := dbM h40 n
    refine ⟨fun i x s r t h hK hi hx => ?_, fun i j x s r t h hK hi hj hx => ?_, fun i j x y z s r t h hK hi hj hx => ?_, fun i j x z s r t h hK hi hj hx => ?_, fun i j x z s r t h hK hi hj hc hx => ?_⟩
    · replace h := ul_X12_doubt_8 h
      unfold T_X12_doubt_8 at h
      obtain ⟨_, _, h⟩ := h
      rw [hK.1] at h
      rcases h with ⟨c, er, es⟩ | ⟨c, h⟩
      · have e : i = S.1 := by omega
        subst e
        exact ⟨es, er.trans hx⟩
      · exact ih18 i 0 x s r t h hK (by clear h; omega) (Nat.zero_le _) (by rw [hx]; show _ = dbI S i + 0; omega)
    · replace h := ul_X12_doubt_18 h
      unfold T_X12_doubt_18 at h
      obtain ⟨_, _, _, h⟩ := h
      have b1 := dbI_le (S := S) i (by clear h; omega)
      have b2 := dbJ_le (S := S) (i := i) j
      rcases h with ⟨c, h⟩ | ⟨c, h⟩
      · have e : j = i := by clear h; omega
        subst e
        exact ih8 (j + 1) x s r t h hK hi hx
      · have hj2 : j < i := by clear h; omega
        rw [Int.toNat_natCast, Int.toNat_natCast, (hK.2 i hi).1, (hK.2 j (by clear h; omega)).1] at h
        rcases h with ⟨c2, h⟩ | ⟨c2, ⟨c3, h⟩ | ⟨c3, h⟩⟩
        · exact ih42 i j x x s r t h hK hi hj2 (Or.inl c2) hx
        · exact ih42 i j x x s r t h hK hi hj2 (Or.inr c3) hx
        · refine ih100 i j x x s r t h hK hi hj2 ?_
          rw [wi_id (by clear h; omega) (by clear h; omega), hx]
          show _ = dbI S i + (dbJ S i j + _)
          rw [if_neg (fun z => z.elim c2 c3)]
          omega
    · replace h := ul_X12_doubt_101 h
      unfold T_X12_doubt_101 at h
      obtain ⟨_, _, _, _, h⟩ := h
      rw [hx] at h
      exact ih18 i (j + 1) _ s r t h hK hi hj rfl
    · replace h := ul_X12_doubt_100 h
      unfold T_X12_doubt_100 at h
      obtain ⟨_, _, _, h⟩ := h
      exact ih101 i j x 0 z s r t h hK hi hj hx
    · replace h := ul_X12_doubt_42 h
      unfold T_X12_doubt_42 at h
      obtain ⟨_, _, _, h⟩ := h
      have a := hK.2 i hi
      have b := hK.2 j (by clear h; omega)
      have b1 := dbI_le (S := S) i (by clear h; omega)
      have b2 := dbJ_le (S := S) (i := i) j
      rw [Int.toNat_natCast, Int.toNat_natCast, a.2.2.2.2.2.1, b.2.2.2.2.2.1, a.2.2.2.2.1, b.2.2.2.2.1, a.2.1, b.2.1] at h
      have no : It_X12_doubt n 100 x (i : Int) (j : Int) z 0 s r t → ¬ (¬ cHou (S.2.1 i) = 0 ∧ cHou (S.2.1 i) = cHou (S.2.1 j) ∧ cSch (S.2.1 i) = cSch (S.2.1 j) ∧ cAge (S.2.1 i) = cAge (S.2.1 j)) → t = s ∧ r = dbI S S.1 := by
        intro h2 nz
        refine ih100 i j x z s r t h2 hK hi hj ?_
        rw [wi_id (by clear h h2; omega) (by clear h h2; omega), hx]
        show _ = dbI S i + (dbJ S i j + _)
        rw [if_pos hc, if_neg nz]
        omega
      rcases h with ⟨c1, h⟩ | ⟨c1, ⟨c2, ⟨c3, ⟨c4, h⟩ | ⟨c4, h⟩⟩ | ⟨c3, h⟩⟩ | ⟨c2, h⟩⟩
      · exact no h (fun z => z.1 c1)
      · refine ih101 i j x 1 z s r t h hK hi hj ?_
        rw [wi_id (by clear h; omega) (by clear h; omega), hx]
        show _ = dbI S i + (dbJ S i j + _)
        rw [if_pos hc, if_pos ⟨c1, c2, c3, c4⟩]
        omega
      · exact no h (fun z => c4 z.2.2.2)
      · exact no h (fun z => c3 z.2.2.1)
      · exact no h (fun z => c2 z.2.1)
theorem doubtM {now : Nat} (hX : TyX s) (hR : RG L s u) (hn : nowU u = (now : Int)) (hn2 : now ≤ L.1) (h : M_X12_doubt u r v) : r = dbI (knAll L now now) (knAll L now now).1 ∧ (∀ k, ¬ k = 0 → ¬ (26 ≤ k ∧ k ≤ 37) → v k = u k) ∧ ∀ j, ¬ j = 45 → v 0 j = u 0 j := by
  obtain ⟨n, h⟩ := h
  unfold T_X12_doubt_e at h
  obtain ⟨_, u1, n1, _, _, h⟩ := h
  have z := knows2 hX hR hn hn2 n1
  have ks := knAll_ok (L := L) (now := (now : Int)) hR.2.2.1.2.2.1 now hn2
  have y := (dbM ks.1 n).1 0 0 u1 r v h z.1 (Nat.zero_le _) rfl
  rw [y.1]
  exact ⟨y.2, z.2.2.2⟩
theorem all2 {p1 : Int} (hX : TyX s) (hR : RG L s u) (h1 : M_X11_all s p1 r t) (h2 : M_X12_all u p1 r2 v) : r = r2 ∧ RG L t v := by
  have hA := hR.2.1
  have hL := hR.2.2.1
  obtain ⟨b, hb, a, a1, a2, hm⟩ := hR.1
  have x0 : s 1 0 = (b.1.length : Int) := hb.1.1
  have x5 : s 1 5 = (b.2.1.length : Int) := hb.1.2.1
  have x8 : s 1 8 = (b.2.2.2.2.1 : Int) := hb.2.2.2.2.2.1
  have x9 : s 1 9 = (b.2.2.2.2.2 : Int) := hb.2.2.2.2.2.2
  obtain ⟨m1, m2, m3, m4, m5, m6, _⟩ := hm
  have ea : (u 0 12).toNat = a := by omega
  have n1 := hL.1.1
  have n2 := hL.2.1.1
  unfold M_X11_all T_X11_all_e at h1
  unfold M_X12_all T_X12_all_e at h2
  obtain ⟨_, h1⟩ := h1
  obtain ⟨_, h2⟩ := h2
  rw [x0, x5, x8, x9, n1] at h1
  rw [ea, m1, m2, m5, m6, n2] at h2
  rcases h1 with ⟨c0, er, es⟩ | ⟨c0, h1⟩
  · rcases h2 with ⟨d, er2, ev⟩ | ⟨d, _⟩
    · rw [er, er2, es, ev]
      exact ⟨rfl, hR⟩
    · exact absurd c0 d
  rcases h2 with ⟨d0, -⟩ | ⟨_, h2⟩
  · exact absurd d0 c0
  rcases h1 with ⟨c1, er, es⟩ | ⟨c1, h1⟩
  · rcases h2 with ⟨d, er2, ev⟩ | ⟨d, _⟩
    · rw [er, er2, es, ev]
      exact ⟨rfl, hR⟩
    · exact absurd c1 d
  rcases h2 with ⟨d1, -⟩ | ⟨_, h2⟩
  · exact absurd d1 c1
  rcases h1 with ⟨c2, er, es⟩ | ⟨c2, h1⟩
  · rcases h2 with ⟨d, er2, ev⟩ | ⟨d, _⟩
    · rw [er, er2, es, ev]
      exact ⟨rfl, hR⟩
    · exact absurd c2 d
  rcases h2 with ⟨d2, -⟩ | ⟨_, h2⟩
  · exact absurd d2 c2
  rcases h1 with ⟨c3, er, es⟩ | ⟨c3, h1⟩
  · rcases h2 with ⟨d, er2, ev⟩ | ⟨d, _⟩
    · rw [er, er2, es, ev]
      exact ⟨rfl, hR⟩
    · exact absurd c3 d
  rcases h2 with ⟨d3, -⟩ | ⟨_, h2⟩
  · exact absurd d3 c3
  rcases h1 with ⟨c4, x7, s6, m7, _, _, _, er, es⟩ | ⟨c4, h1⟩
  · rcases h2 with ⟨d, y10, u9, n10, _, _, _, er2, ev⟩ | ⟨d, _⟩
    · obtain ⟨q1, q2, _⟩ := actNowX hA hL m7
      obtain ⟨p1, p2⟩ := nowM n10
      rw [er, er2, es, ev, q1, q2, p1, p2]
      exact ⟨rfl, hR⟩
    · exact absurd c4 d
  rcases h2 with ⟨d4, -⟩ | ⟨_, h2⟩
  · exact absurd d4 c4
  rcases h1 with ⟨c5, s10, m10, _, _, er, es⟩ | ⟨c5, h1⟩
  · rcases h2 with ⟨d, u13, n13, _, _, er2, ev⟩ | ⟨d, _⟩
    · obtain ⟨now, y1, y2, y3, y4⟩ := lookAll hX hR m10
      have z := knows2 hX hR y1 y2 n13
      rw [er, er2, es, ev, y3.2.1.1.1, z.1.1]
      exact ⟨rfl, hR.look y4.1 (y3.kv y2) z.2.2.2.1 z.2.2.2.2⟩
    · exact absurd c5 d
  rcases h2 with ⟨d5, -⟩ | ⟨_, h2⟩
  · exact absurd d5 c5
  rcases h1 with ⟨c6, s14, m14, _, _, x18, s17, m17, _, _, er, es⟩ | ⟨c6, h1⟩
  · rcases h2 with ⟨d, y19, u18, n18, _, _, er2, ev⟩ | ⟨d, _⟩
    · obtain ⟨now, y1, y2, y3, y4⟩ := lookAll hX hR m14
      have ks := knAll_ok (L := L) (now := (now : Int)) hL.2.2.1 now y2
      obtain ⟨q1, q2⟩ := doubtsX ks.1 y3.2.1.1 m17
      obtain ⟨p1, p2, p3⟩ := doubtM hX hR y1 y2 n18
      rw [er, er2, es, ev, q1, q2, p1]
      exact ⟨rfl, hR.look y4.1 (y3.kv y2) p2 p3⟩
    · exact absurd c6 d
  rcases h2 with ⟨d6, -⟩ | ⟨_, h2⟩
  · exact absurd d6 c6
  rcases h1 with ⟨c7, er, es⟩ | ⟨c7, er, es⟩
  · rcases h2 with ⟨d, er2, ev⟩ | ⟨d, _⟩
    · rw [er, er2, es, ev]
      exact ⟨rfl, hR⟩
    · exact absurd c7 d
  · rcases h2 with ⟨d, _⟩ | ⟨_, er2, ev⟩
    · exact absurd d c7
    · rw [er, er2, es, ev]
      exact ⟨rfl, hR⟩
end Doubt
