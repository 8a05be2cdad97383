/-! the class learns -/
section LearnX
variable {s t u v : PS} {r r2 : Int} {L : LT} {S : KS} {c : CH} {k : Nat}
/-- nothing but child k's rows, and whose report a is, is changed -/
def OtK (k a : Nat) (s t : PS) : Prop := (∀ m, 43 ≤ m → m ≤ 51 → ∀ j, ¬ j = k → t m j = s m j) ∧ (∀ j, j < 4 * k ∨ 4 * k + 4 ≤ j → t 52 j = s 52 j) ∧ (∀ j, ¬ j = a → t 53 j = s 53 j) ∧ ∀ m, ¬ (43 ≤ m ∧ m ≤ 53) → t m = s m
theorem OtK.refl {a : Nat} : OtK k a s s := ⟨fun _ _ _ _ _ => rfl, fun _ _ => rfl, fun _ _ => rfl, fun _ _ => rfl⟩
theorem OtK.trans {a : Nat} (h : OtK k a s t) (h2 : OtK k a t u) : OtK k a s u := ⟨fun m h1 h3 j hj => (h2.1 m h1 h3 j hj).trans (h.1 m h1 h3 j hj), fun j hj => (h2.2.1 j hj).trans (h.2.1 j hj), fun j hj => (h2.2.2.1 j hj).trans (h.2.2.1 j hj), fun m hm => (h2.2.2.2 m hm).trans (h.2.2.2 m hm)⟩
theorem OtK.u1 {a m : Nat} {z : Int} (h : 43 ≤ m ∧ m ≤ 51) : OtK k a s (us s m k z) := ⟨fun m2 _ _ j hj => us_n (by omega), fun j _ => us_n (by omega), fun j _ => us_n (by omega), fun m2 hm => us_k (by omega)⟩
theorem OtK.us52 {a i : Nat} {z : Int} (h : 4 * k ≤ i ∧ i < 4 * k + 4) : OtK k a s (us s 52 i z) := ⟨fun m2 _ _ j hj => us_n (by omega), fun j _ => us_n (by omega), fun j _ => us_n (by omega), fun m2 hm => us_k (by omega)⟩
theorem OtK.us53 {a : Nat} {z : Int} : OtK k a s (us s 53 a z) := ⟨fun m2 _ _ j hj => us_n (by omega), fun j _ => us_n (by omega), fun j _ => us_n (by omega), fun m2 hm => us_k (by omega)⟩
/-- a child's wishes, in the class's rows -/
def WsX (ws : List (List Nat)) (k : Nat) (s : PS) : Prop := s 51 k = (ws.length : Int) ∧ ∀ (j : Nat) (h : j < ws.length), s 52 (4 * k + j) = ((e5 ws[j] : Nat) : Int)
theorem wantsL {ws : List (List Nat)} {w : List Nat} (hk : k ≤ 39) (hw : LW w) (ok : WsOk ws) : ∀ (n i : Nat) (s : PS) (r : Int) (t : PS), It_X6_wants n (k : Int) ((e5 w : Nat) : Int) (i : Int) s r t → WsX ws k s → i ≤ ws.length → (∀ j, (h : j < ws.length) → j < i → ¬ ws[j] = w) → t = s ∧ ((r = 1 ∧ w ∈ ws) ∨ (r = 0 ∧ ¬ w ∈ ws))
  | 0, i, s, r, t, h, _, _, _ => False.elim h
  | n + 1, i, s, r, t, h, hX, hi, hn => by
    replace h := ul_X6_wants_3 h
    unfold T_X6_wants_3 at h
    obtain ⟨_, _, _, h⟩ := h
    rw [Int.toNat_natCast, hX.1] at h
    rcases h with ⟨c1, er, es⟩ | ⟨c1, h⟩
    · refine ⟨es, Or.inr ⟨er, fun hm => ?_⟩⟩
      obtain ⟨j, hj, e⟩ := List.getElem_of_mem hm
      exact hn j hj (by omega) e
    · have hi2 : i < ws.length := by clear h; omega
      have ix : ((k : Int) * 4 + (i : Int)).toNat = 4 * k + i := by omega
      rw [ix, hX.2 i hi2] at h
      rcases h with ⟨c2, er, es⟩ | ⟨c2, h⟩
      · exact ⟨es, Or.inl ⟨er, by
          have e := e5_inj (ok.2 _ (List.getElem_mem hi2)).1 hw (Int.ofNat_inj.mp c2)
          rw [← e]
          exact List.getElem_mem hi2⟩⟩
      · exact wantsL hk hw ok n (i + 1) s r t h hX (by omega) (fun j hj hj2 => by
          by_cases y : j = i
          · subst y
            exact fun e => c2 (by rw [e])
          · exact hn j hj (by omega))
theorem wantsX {ws : List (List Nat)} {w : List Nat} (hk : k ≤ 39) (hw : LW w) (ok : WsOk ws) (h : M_X6_wants s (k : Int) ((e5 w : Nat) : Int) r t) (hX : WsX ws k s) : t = s ∧ ((r = 1 ∧ w ∈ ws) ∨ (r = 0 ∧ ¬ w ∈ ws)) := by
  obtain ⟨n, h⟩ := h
  unfold T_X6_wants_e at h
  obtain ⟨_, _, h⟩ := h
  exact wantsL hk hw ok n 0 s r t h hX (Nat.zero_le _) (fun j _ hj => absurd hj (Nat.not_lt_zero _))
theorem learnWishX {a : Nat} {ws : List (List Nat)} {w : List Nat} (hk : k ≤ 39) (hw : LW w) (ok : WsOk ws) (h : M_X6_learnWish s (k : Int) ((e5 w : Nat) : Int) r t) (hX : WsX ws k s) : WsX (wadd ws w) k t ∧ OtK k a s t ∧ (∀ m, ¬ m = 51 → ¬ m = 52 → t m = s m) := by
  unfold M_X6_learnWish T_X6_learnWish_e at h
  obtain ⟨_, _, h⟩ := h
  rw [Int.toNat_natCast, hX.1] at h
  unfold wadd
  rcases h with ⟨c1, _, es⟩ | ⟨c1, r1, s1, hm, _, _, _, h⟩
  · rw [if_neg (by omega), es]
    exact ⟨hX, OtK.refl, fun _ _ _ => rfl⟩
  · obtain ⟨e1, k1⟩ := wantsX hk hw ok hm hX
    subst e1
    rcases h with ⟨c2, s2, e2, s3, e3, _, es⟩ | ⟨c2, _, es⟩
    · have nm : ¬ w ∈ ws := by
        rcases k1 with z | z
        · omega
        · exact z.2
      have l4 : ws.length < 4 := by clear hX; omega
      rw [if_pos ⟨l4, nm⟩]
      have ix : ((k : Int) * 4 + (ws.length : Int)).toNat = 4 * k + ws.length := by omega
      rw [ix] at e2
      rw [es, e3, e2]
      refine ⟨⟨?_, fun j hj => ?_⟩, ?_, fun m h1 h2 => by rw [us_k h1, us_k h2]⟩
      · rw [us_at, List.length_append]
        rfl
      · rw [us_k (by decide)]
        rw [List.length_append] at hj
        have hj2 : j < ws.length + 1 := hj
        by_cases y : j = ws.length
        · subst y
          rw [us_at, List.getElem_append_right (Nat.le_refl _)]
          simp
        · rw [us_j (by omega), List.getElem_append_left (by omega)]
          exact hX.2 j (by omega)
      · exact (OtK.us52 (by omega)).trans (OtK.u1 (by decide))
    · have mm : w ∈ ws := by
        rcases k1 with z | z
        · exact z.2
        · omega
      rw [if_neg (fun z => z.2 mm), es]
      exact ⟨hX, OtK.refl, fun _ _ _ => rfl⟩
theorem lr197 {a : Nat} {x3 x5 : Int} {wl : List (List Nat)} (hk : k ≤ 39) (ha : a ≤ 200) (hl : ∀ w ∈ wl, LW w ∧ ¬ w = []) (hl3 : wl.length ≤ 3) : ∀ (n i : Nat) (s : PS) (r : Int) (t : PS) (ws : List (List Nat)), It_X6_learnReport_35 n 197 (a : Int) x3 (k : Int) x5 (i : Int) s r t → WsX ws k s → WsOk ws → s 39 a = (wl.length : Int) → (∀ (j : Nat) (h : j < wl.length), s 38 (3 * a + j) = ((e5 wl[j] : Nat) : Int)) → i ≤ wl.length → WsX ((wl.drop i).foldl wadd ws) k t ∧ OtK k a s t ∧ (∀ m, ¬ m = 51 → ¬ m = 52 → t m = s m)
  | 0, i, s, r, t, ws, h, _, _, _, _, _ => False.elim h
  | n + 1, i, s, r, t, ws, h, hX, ok, h39, h38, hi => by
    replace h := ul_X6_learnReport_35_197 h
    unfold T_X6_learnReport_35_197 at h
    obtain ⟨_, _, _, _, h⟩ := h
    rw [Int.toNat_natCast, h39] at h
    rcases h with ⟨c1, _, es⟩ | ⟨c1, s1, hm, hf, _, h⟩
    · have e : i = wl.length := by omega
      rw [e, List.drop_length, es]
      exact ⟨hX, OtK.refl, fun _ _ _ => rfl⟩
    · have hi2 : i < wl.length := by clear h; omega
      have ix : ((a : Int) * 3 + (i : Int)).toNat = 3 * a + i := by omega
      rw [ix, h38 i hi2] at hm
      have lw := hl _ (List.getElem_mem hi2)
      have z := learnWishX (a := a) hk lw.1 ok hm hX
      obtain ⟨z1, z2, z3⟩ := z
      have y := lr197 hk ha hl hl3 n (i + 1) s1 r t (wadd ws wl[i]) h z1 (wadd_ok ok lw) (by rw [z3 39 (by decide) (by decide)]; exact h39) (fun j hj => by rw [z3 38 (by decide) (by decide)]; exact h38 j hj) (by omega)
      obtain ⟨y1, y2, y3⟩ := y
      refine ⟨?_, z2.trans y2, fun m h1 h2 => (y3 m h1 h2).trans (z3 m h1 h2)⟩
      rw [List.drop_eq_getElem_cons hi2]
      exact y1
theorem detX {a i : Int} (h : M_X7_detailOf s a i r t) : t = s ∧ r = s 37 (a * 5 + i).toNat := by
  unfold M_X7_detailOf T_X7_detailOf_e at h
  obtain ⟨_, _, _, er, es⟩ := h
  exact ⟨es, er⟩
/-- act a is told so in the class's rows -/
def AtX (a : Nat) (d : Nat → Int) (wl : List (List Nat)) (s : PS) : Prop := (∀ i, i < 5 → s 37 (5 * a + i) = d i) ∧ s 39 a = (wl.length : Int) ∧ ∀ (j : Nat) (h : j < wl.length), s 38 (3 * a + j) = ((e5 wl[j] : Nat) : Int)
theorem AtX.cg {a : Nat} {d : Nat → Int} {wl : List (List Nat)} (h : AtX a d wl s) (e37 : t 37 = s 37) (e38 : t 38 = s 38) (e39 : t 39 = s 39) : AtX a d wl t := by
  unfold AtX
  rw [e37, e38, e39]
  exact h
theorem lr89 {a n : Nat} {x3 : Int} {d : Nat → Int} {wl ws : List (List Nat)} {l m0 p co : Int} (hk : k ≤ 39) (ha : 1 ≤ a ∧ a ≤ 200) (hd : DtOk d wl) (hA : AtX a d wl s) (h : It_X6_learnReport_35 n 89 (a : Int) x3 (k : Int) (d 1) 0 s r t) (h43 : s 43 k = co) (h45 : s 45 k = l) (h46 : s 46 k = m0) (h50 : s 50 k = p) (hp : 0 ≤ p ∧ p ≤ 200) (hX : WsX ws k s) (ok : WsOk ws) : CX (co, d 1, min l (d 1), max m0 (d 1), d 2, d 3, d 4, p + 1, wl.foldl wadd ws) k t ∧ t 53 a = (k : Int) ∧ OtK k a s t := by
  cases n with
  | zero => exact False.elim h
  | succ n =>
    replace h := ul_X6_learnReport_35_89 h
    unfold T_X6_learnReport_35_89 at h
    obtain ⟨_, _, _, s7, e7, s8, e8', s11, e11, s14, e14, r16, s15, m15, f15, _, s19, e19, r21, s20, m20, f20, _, s24, e24, r26, s25, m25, f25, _, s29, e29, s31, e31, h⟩ := h
    obtain ⟨q15, q16⟩ := detX m15
    obtain ⟨q20, q21⟩ := detX m20
    obtain ⟨q25, q26⟩ := detX m25
    rw [Int.toNat_natCast] at e7 e8' e11 e14 e19 e24 e29 e31
    rw [h45] at e11
    rw [h46] at e14
    rw [h50, wi_id (by omega) (by omega)] at e31
    have x2 : ((a : Int) * 5 + 2).toNat = 5 * a + 2 := by omega
    have x3' : ((a : Int) * 5 + 3).toNat = 5 * a + 3 := by omega
    have x4 : ((a : Int) * 5 + 4).toNat = 5 * a + 4 := by omega
    have d14 : s14 37 = s 37 := by rw [e14, us_k (by decide), e11, us_k (by decide), e8', us_k (by decide), e7, us_k (by decide)]
    have d19 : s19 37 = s 37 := by rw [e19, us_k (by decide), q15, d14]
    have d24 : s24 37 = s 37 := by rw [e24, us_k (by decide), q20, d19]
    rw [d14, x2, hA.1 2 (by decide)] at q16
    rw [d19, x3', hA.1 3 (by decide)] at q21
    rw [d24, x4, hA.1 4 (by decide)] at q26
    rw [q16] at e19
    rw [q21] at e24
    rw [q26] at e29
    have ev : s31 = us (us (us (us (us (us (us (us s 53 a (k : Int)) 44 k (d 1)) 45 k (min l (d 1))) 46 k (max m0 (d 1))) 47 k (d 2)) 48 k (d 3)) 49 k (d 4)) 50 k (p + 1) := by rw [e31, e29, q25, e24, q20, e19, q15, e14, e11, e8', e7]
    have o1 : OtK k a s s31 := by
      rw [ev]
      exact OtK.us53.trans ((OtK.u1 (by decide)).trans ((OtK.u1 (by decide)).trans ((OtK.u1 (by decide)).trans ((OtK.u1 (by decide)).trans ((OtK.u1 (by decide)).trans ((OtK.u1 (by decide)).trans (OtK.u1 (by decide))))))))
    have X31 : WsX ws k s31 := by
      refine ⟨?_, fun j hj => ?_⟩
      · rw [ev, us_k (by decide), us_k (by decide), us_k (by decide), us_k (by decide), us_k (by decide), us_k (by decide), us_k (by decide), us_k (by decide)]
        exact hX.1
      · rw [ev, us_k (by decide), us_k (by decide), us_k (by decide), us_k (by decide), us_k (by decide), us_k (by decide), us_k (by decide), us_k (by decide)]
        exact hX.2 j hj
    have h2 : It_X6_learnReport_35 n 197 (a : Int) x3 (k : Int) (d 1) ((0 : Nat) : Int) s31 r t := h
    have z := lr197 hk ha.2 hd.2.2.2.2.2.2 hd.2.2.2.2.2.1 n 0 s31 r t ws h2 X31 ok (by rw [o1.2.2.2 39 (by decide)]; exact hA.2.1) (fun j hj => by rw [o1.2.2.2 38 (by decide)]; exact hA.2.2 j hj) (Nat.zero_le _)
    obtain ⟨z1, z2, z3⟩ := z
    rw [List.drop_zero] at z1
    refine ⟨⟨?_, ?_, ?_, ?_, ?_, ?_, ?_, ?_, z1.1, z1.2⟩, ?_, o1.trans z2⟩
    · rw [z3 43 (by decide) (by decide), ev, us_k (by decide), us_k (by decide), us_k (by decide), us_k (by decide), us_k (by decide), us_k (by decide), us_k (by decide), us_k (by decide)]
      exact h43
    · rw [z3 44 (by decide) (by decide), ev, us_k (by decide), us_k (by decide), us_k (by decide), us_k (by decide), us_k (by decide), us_k (by decide), us_at]
    · rw [z3 45 (by decide) (by decide), ev, us_k (by decide), us_k (by decide), us_k (by decide), us_k (by decide), us_k (by decide), us_at]
    · rw [z3 46 (by decide) (by decide), ev, us_k (by decide), us_k (by decide), us_k (by decide), us_k (by decide), us_at]
    · rw [z3 47 (by decide) (by decide), ev, us_k (by decide), us_k (by decide), us_k (by decide), us_at]
    · rw [z3 48 (by decide) (by decide), ev, us_k (by decide), us_k (by decide), us_at]
    · rw [z3 49 (by decide) (by decide), ev, us_k (by decide), us_at]
    · rw [z3 50 (by decide) (by decide), ev, us_at]
    · rw [z3 53 (by decide) (by decide), ev, us_k (by decide), us_k (by decide), us_k (by decide), us_k (by decide), us_k (by decide), us_k (by decide), us_k (by decide), us_at]
/-- the children that the class knows -/
def KCX (S : KS) (s : PS) : Prop := s 42 2 = (S.1 : Int) ∧ ∀ k, k < S.1 → CX (S.2.1 k) k s
def KX (S : KS) (a : Nat) (s : PS) : Prop := KCX S s ∧ ∀ x : Nat, 1 ≤ x → x ≤ a → s 53 x = S.2.2 x
theorem findL {x : Int} (hx : ¬ x = 0) : ∀ (n i : Nat) (s : PS) (r : Int) (t : PS), It_X6_find n x (i : Int) s r t → KCX S s → i ≤ S.1 → (∀ j, j < i → ¬ cCode (S.2.1 j) = x) → t = s ∧ ((r = -1 ∧ kfd x S.1 S.2.1 = S.1) ∨ (r = (kfd x S.1 S.2.1 : Int) ∧ kfd x S.1 S.2.1 < S.1))
  | 0, i, s, r, t, h, _, _, _ => False.elim h
  | n + 1, i, s, r, t, h, hK, hi, hn => by
    replace h := ul_X6_find_8 h
    unfold T_X6_find_8 at h
    obtain ⟨_, _, h⟩ := h
    rw [hK.1] at h
    have no : ∀ j, j < i → ¬ (decide (¬ x = 0) && decide (cCode (S.2.1 j) = x)) = true := by
      intro j hj e
      rw [Bool.and_eq_true] at e
      exact hn j hj (of_decide_eq_true e.2)
    rcases h with ⟨c1, er, es⟩ | ⟨c1, h⟩
    · have e : i = S.1 := by omega
      subst e
      exact ⟨es, Or.inl ⟨er, fndF_eq (Nat.le_refl _) (fun z => absurd z (Nat.lt_irrefl _)) no⟩⟩
    · have hi2 : i < S.1 := by clear h; omega
      rw [Int.toNat_natCast, (hK.2 i hi2).1] at h
      rcases h with ⟨c2, er, es⟩ | ⟨c2, h⟩
      · have e : kfd x S.1 S.2.1 = i := fndF_eq (by omega) (fun _ => by rw [decide_eq_true hx, decide_eq_true c2]; rfl) no
        rw [e]
        exact ⟨es, Or.inr ⟨er, hi2⟩⟩
      · exact findL hx n (i + 1) s r t h hK (by omega) (fun j hj => by
          by_cases y : j = i
          · subst y
            exact c2
          · exact hn j (by omega))
theorem kfd_0 {n : Nat} {C : Nat → CH} : kfd 0 n C = n := fndF_eq (Nat.le_refl _) (fun z => absurd z (Nat.lt_irrefl _)) (fun j _ e => by
  rw [Bool.and_eq_true] at e
  exact absurd rfl (of_decide_eq_true e.1))
theorem findX {x : Int} (h : M_X6_find s x r t) (hK : KCX S s) : t = s ∧ ((r = -1 ∧ kfd x S.1 S.2.1 = S.1) ∨ (r = (kfd x S.1 S.2.1 : Int) ∧ kfd x S.1 S.2.1 < S.1)) := by
  obtain ⟨n, h⟩ := h
  unfold T_X6_find_e at h
  obtain ⟨_, ⟨c, er, es⟩ | ⟨c, h⟩⟩ := h
  · subst c
    exact ⟨es, Or.inl ⟨er, kfd_0⟩⟩
  · exact findL c n 0 s r t h hK (Nat.zero_le _) (fun j hj => absurd hj (Nat.not_lt_zero _))
theorem CX.ot {a k0 : Nat} (h : CX c k s) (ho : OtK k0 a s t) (hk : ¬ k = k0) (hw : (cWsh c).length ≤ 4) : CX c k t := by
  obtain ⟨h1, h2, h3, h4, h5, h6, h7, h8, h9, h10⟩ := h
  have lt := ho.2.1
  refine ⟨by rw [ho.1 43 (by decide) (by decide) k hk]; exact h1, by rw [ho.1 44 (by decide) (by decide) k hk]; exact h2, by rw [ho.1 45 (by decide) (by decide) k hk]; exact h3, by rw [ho.1 46 (by decide) (by decide) k hk]; exact h4, by rw [ho.1 47 (by decide) (by decide) k hk]; exact h5, by rw [ho.1 48 (by decide) (by decide) k hk]; exact h6, by rw [ho.1 49 (by decide) (by decide) k hk]; exact h7, by rw [ho.1 50 (by decide) (by decide) k hk]; exact h8, by rw [ho.1 51 (by decide) (by decide) k hk]; exact h9, fun j hj => ?_⟩
  rw [lt _ (by omega)]
  exact h10 j hj
end LearnX
