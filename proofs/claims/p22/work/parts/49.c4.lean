/-! look of the class; the reference's knows -/
section Look
variable {s t u v : PS} {r r2 : Int} {L : LT} {S : KS} {c : CH} {k : Nat}
theorem fill54 : ∀ (n i : Nat) (s : PS) (r : Int) (t : PS), It_J7_fill_53178_54 n 0 (i : Int) 250 s r t → (∀ j, j < i → s 54 j = 0) → (∀ j, j < 250 → t 54 j = 0) ∧ ∀ m, ¬ m = 54 → t m = s m
  | 0, i, s, r, t, h, _ => False.elim h
  | n + 1, i, s, r, t, h, hi => by
    replace h := ul_J7_fill_53178_54_5 h
    unfold T_J7_fill_53178_54_5 at h
    obtain ⟨_, _, _, _, ⟨c, _, es⟩ | ⟨c, s1, e1, h⟩⟩ := h
    · rw [es]
      exact ⟨fun j hj => hi j (by omega), fun _ _ => rfl⟩
    · rw [Int.toNat_natCast] at e1
      have z := fill54 n (i + 1) s1 r t h (fun j hj => by
        rw [e1, us_if]
        by_cases y : j = i
        · rw [if_pos y]
        · rw [if_neg y]
          exact hi j (by omega))
      exact ⟨z.1, fun m hm => by rw [z.2 m hm, e1, us_k hm]⟩
theorem fill55 : ∀ (n i : Nat) (s : PS) (r : Int) (t : PS), It_J7_fill_53178_55 n 25 (i : Int) 10 s r t → (∀ j, j < i → s 55 j = 25) → (∀ j, j < 10 → t 55 j = 25) ∧ ∀ m, ¬ m = 55 → t m = s m
  | 0, i, s, r, t, h, _ => False.elim h
  | n + 1, i, s, r, t, h, hi => by
    replace h := ul_J7_fill_53178_55_5 h
    unfold T_J7_fill_53178_55_5 at h
    obtain ⟨_, _, _, _, ⟨c, _, es⟩ | ⟨c, s1, e1, h⟩⟩ := h
    · rw [es]
      exact ⟨fun j hj => hi j (by omega), fun _ _ => rfl⟩
    · rw [Int.toNat_natCast] at e1
      have z := fill55 n (i + 1) s1 r t h (fun j hj => by
        rw [e1, us_if]
        by_cases y : j = i
        · rw [if_pos y]
        · rw [if_neg y]
          exact hi j (by omega))
      exact ⟨z.1, fun m hm => by rw [z.2 m hm, e1, us_k hm]⟩
theorem lookL {kn : Int} {now : Nat} (hkn10 : kn ≤ 10) (hO : LOk kn L) (hL2 : L.1 ≤ 200) (hn : now ≤ L.1) : ∀ (m a : Nat) (s : PS) (r : Int) (t : PS), It_X6_look_35 m 48 (now : Int) ((a + 1 : Nat) : Int) s r t → LX L s → a ≤ now → KX (knAll L now a) a s → CmX L now a s → KX (knAll L now now) now t ∧ CmX L now now t ∧ (∀ k, ¬ (42 ≤ k ∧ k ≤ 55) → t k = s k) ∧ t 42 0 = s 42 0 ∧ t 42 1 = s 42 1
  | 0, a, s, r, t, h, _, _, _, _ => False.elim h
  | m + 1, a, s, r, t, h, hL, ha, hK, hC => by
    replace h := ul_X6_look_35_48 h
    unfold T_X6_look_35_48 at h
    obtain ⟨_, _, _, h⟩ := h
    rcases h with ⟨c1, _, es⟩ | ⟨c1, s2, e2, r4, s3, m3, _, _, _, h⟩
    · have e : a = now := by omega
      subst e
      rw [es]
      exact ⟨hK, hC, fun _ _ => rfl, rfl, rfl⟩
    · have ha2 : a + 1 ≤ now := by clear h; omega
      rw [Int.toNat_natCast] at e2
      have f2 : ∀ k, ¬ k = 53 → s2 k = s k := fun k hk => by rw [e2, us_k hk]
      have hL2' : LX L s2 := hL.cg (by rw [f2 35 (by decide)]) (f2 36 (by decide)) (f2 37 (by decide)) (f2 38 (by decide)) (f2 39 (by decide)) (f2 40 (by decide))
      have g := hL2'.2 (a + 1) (by omega) (by omega)
      obtain ⟨q3, k3⟩ := isKnownX (L := L) (A := a + 1) rfl m3 g.2.2.1
      subst q3
      have hK2 : KX (knAll L now a) a s3 := by
        refine ⟨⟨by rw [f2 42 (by decide)]; exact hK.1.1, fun k hk => ?_⟩, fun x h1 h2 => ?_⟩
        · have q := hK.1.2 k hk
          unfold CX
          rw [f2 43 (by decide), f2 44 (by decide), f2 45 (by decide), f2 46 (by decide), f2 47 (by decide), f2 48 (by decide), f2 49 (by decide), f2 50 (by decide), f2 51 (by decide), f2 52 (by decide)]
          exact q
        · rw [e2, us_j (by omega)]
          exact hK.2 x h1 h2
      have hC2 : CmX L now a s3 := by
        refine ⟨fun k d hk hd => by rw [f2 54 (by decide)]; exact hC.1 k d hk hd, fun k hk => by rw [f2 55 (by decide)]; exact hC.2 k hk⟩
      have h53 : s3 53 (a + 1) = -1 := by rw [e2, us_at]
      have ks := knAll_ok (now := (now : Int)) hO a (by omega)
      have st : ∀ s4 : PS, It_X6_look_35 m 75 (now : Int) ((a + 1 : Nat) : Int) s4 r t → LX L s4 → KX (knAll L now (a + 1)) (a + 1) s4 → CmX L now (a + 1) s4 → KX (knAll L now now) now t ∧ CmX L now now t ∧ (∀ k, ¬ (42 ≤ k ∧ k ≤ 55) → t k = s4 k) ∧ t 42 0 = s4 42 0 ∧ t 42 1 = s4 42 1 := by
        intro s4 h4 q1 q2 q3
        cases m with
        | zero => exact False.elim h4
        | succ m =>
          replace h4 := ul_X6_look_35_75 h4
          unfold T_X6_look_35_75 at h4
          obtain ⟨_, _, _, h4⟩ := h4
          have h5 : It_X6_look_35 m 48 (now : Int) ((a + 1 + 1 : Nat) : Int) s4 r t := h4
          have z : ∀ m' ≤ m, True := fun _ _ => trivial
          exact lookL hkn10 hO hL2 hn m (a + 1) s4 r t h5 q1 ha2 q2 q3
      rcases h with ⟨c2, h⟩ | ⟨c2, s7, m7, f7, _, h⟩
      · have nk : ¬ knwn L now (a + 1) = true := by
          rcases k3 with z | z
          · omega
          · exact z.2
        have un : knAll L now (a + 1) = (knAll L now a).no (a + 1) := by
          show knStep L now (knAll L now a) (a + 1) = _
          unfold knStep
          rw [if_neg (fun z => nk z.2)]
        have z := st s3 h hL2' (by
          rw [un]
          refine ⟨hK2.1, fun x h1 h2 => ?_⟩
          by_cases y : x = a + 1
          · subst y
            rw [h53]
            exact (if_pos rfl).symm
          · rw [hK2.2 x h1 (by omega)]
            exact (if_neg (by omega)).symm) (hC2.no rfl rfl (fun z => nk z.1))
        obtain ⟨z1, z2, z3, z4, z5⟩ := z
        exact ⟨z1, z2, fun k hk => by rw [z3 k hk, f2 k (by omega)], by rw [z4, f2 42 (by decide)], by rw [z5, f2 42 (by decide)]⟩
      · have yk : knwn L now (a + 1) = true := by
          rcases k3 with z | z
          · exact z.2
          · omega
        have y := learnX hkn10 hL2' hO (by omega) hL2 yk ks hK2 hC2 h53 m7
        have fo : ∀ k, ¬ (42 ≤ k ∧ k ≤ 55) → s7 k = s3 k := fun k hk => f7.1 k (by simp only [List.mem_cons, List.not_mem_nil, or_false]; omega)
        have z := st s7 h (hL2'.cg (by rw [fo 35 (by decide)]) (fo 36 (by decide)) (fo 37 (by decide)) (fo 38 (by decide)) (fo 39 (by decide)) (fo 40 (by decide))) y.1 y.2
        obtain ⟨z1, z2, z3, z4, z5⟩ := z
        refine ⟨z1, z2, fun k hk => by rw [z3 k hk, fo k hk, f2 k (by omega)], ?_, ?_⟩
        · rw [z4, f7.f (k := 42) (j := 0) (by decide) (by decide), f2 42 (by decide)]
        · rw [z5, f7.f (k := 42) (j := 1) (by decide) (by decide), f2 42 (by decide)]
/-- what the class keeps of its last look -/
def KV (L : LT) (s : PS) : Prop := s 42 0 = -1 ∨ ∃ now : Nat, s 42 0 = (now : Int) ∧ now ≤ L.1 ∧ KX (knAll L now now) now s ∧ CmX L now now s
theorem lookKX {kn : Int} {now : Nat} (hkn10 : kn ≤ 10) (hL : LX L s) (hO : LOk kn L) (hL2 : L.1 ≤ 200) (hn : now ≤ L.1) (hV : KV L s) (h : M_X6_look_35 s (now : Int) r t) : (t 42 0 = (now : Int) ∧ KX (knAll L now now) now t ∧ CmX L now now t) ∧ (∀ k, ¬ (42 ≤ k ∧ k ≤ 55) → t k = s k) ∧ ((s 42 0 = (now : Int) ∧ t = s) ∨ (¬ s 42 0 = (now : Int) ∧ t 42 1 = wi (s 42 1 + 1))) := by
  obtain ⟨m, h⟩ := h
  unfold T_X6_look_35_e at h
  obtain ⟨_, _, ⟨c, _, es⟩ | ⟨c, s11, e11, s12, e12, s13, e13, s14, m14, f14, _, s18, m18, f18, _, h⟩⟩ := h
  · rw [es]
    refine ⟨⟨c, ?_⟩, fun _ _ => rfl, Or.inl ⟨c, rfl⟩⟩
    rcases hV with z | ⟨n2, z1, z2, z3⟩
    · omega
    · have e : n2 = now := by omega
      subst e
      exact z3
  · obtain ⟨n1, m14⟩ := m14
    unfold T_J7_fill_53178_54_e at m14
    obtain ⟨_, _, m14⟩ := m14
    have g14 := fill54 n1 0 s13 0 s14 m14 (fun j hj => absurd hj (Nat.not_lt_zero _))
    obtain ⟨n2, m18⟩ := m18
    unfold T_J7_fill_53178_55_e at m18
    obtain ⟨_, _, m18⟩ := m18
    have g18 := fill55 n2 0 s14 0 s18 m18 (fun j hj => absurd hj (Nat.not_lt_zero _))
    have fo : ∀ k, ¬ (42 ≤ k ∧ k ≤ 55) → s18 k = s k := fun k hk => by rw [g18.2 k (by omega), g14.2 k (by omega), e13, us_k (by omega), e12, us_k (by omega), e11, us_k (by omega)]
    have e42 : s18 42 = s13 42 := by rw [g18.2 42 (by decide), g14.2 42 (by decide)]
    have h2 : It_X6_look_35 m 48 (now : Int) ((0 + 1 : Nat) : Int) s18 r t := h
    have z := lookL hkn10 hO hL2 hn m 0 s18 r t h2 (hL.cg (by rw [fo 35 (by decide)]) (fo 36 (by decide)) (fo 37 (by decide)) (fo 38 (by decide)) (fo 39 (by decide)) (fo 40 (by decide))) (Nat.zero_le _) ⟨⟨by rw [e42, e13, us_at]; rfl, fun k hk => absurd hk (Nat.not_lt_zero _)⟩, fun x h1 h2 => absurd h1 (by omega)⟩ ⟨fun k d hk hd => by rw [g18.2 54 (by decide)]; exact g14.1 _ (by omega), fun k hk => g18.1 k hk⟩
    obtain ⟨z1, z2, z3, z4, z5⟩ := z
    refine ⟨⟨?_, z1, z2⟩, fun k hk => by rw [z3 k hk, fo k hk], Or.inr ⟨c, ?_⟩⟩
    · rw [z4, e42, e13, us_j (by decide), e12, us_j (by decide), e11, us_at]
    · rw [z5, e42, e13, us_j (by decide), e12, us_at]
/-! the reference -/
def OtC (k a : Nat) (s t : PS) : Prop := (∀ m, (27 ≤ m ∧ m ≤ 33) ∨ m = 35 → ∀ j, ¬ j = k → t m j = s m j) ∧ (∀ j, j < 4 * k ∨ 4 * k + 4 ≤ j → t 34 j = s 34 j) ∧ (∀ j, ¬ j = a → t 36 j = s 36 j) ∧ ∀ m, ¬ (27 ≤ m ∧ m ≤ 36) → t m = s m
theorem OtC.refl {a : Nat} : OtC k a s s := ⟨fun _ _ _ _ => rfl, fun _ _ => rfl, fun _ _ => rfl, fun _ _ => rfl⟩
theorem OtC.trans {a : Nat} (h : OtC k a s t) (h2 : OtC k a t u) : OtC k a s u := ⟨fun m h1 j hj => (h2.1 m h1 j hj).trans (h.1 m h1 j hj), fun j hj => (h2.2.1 j hj).trans (h.2.1 j hj), fun j hj => (h2.2.2.1 j hj).trans (h.2.2.1 j hj), fun m hm => (h2.2.2.2 m hm).trans (h.2.2.2 m hm)⟩
theorem OtC.u1 {a m : Nat} {z : Int} (h : (27 ≤ m ∧ m ≤ 33) ∨ m = 35) : OtC k a s (us s m k z) := ⟨fun m2 _ j hj => us_n (by omega), fun j _ => us_n (by omega), fun j _ => us_n (by omega), fun m2 hm => us_k (by omega)⟩
theorem OtC.us34 {a i : Nat} {z : Int} (h : 4 * k ≤ i ∧ i < 4 * k + 4) : OtC k a s (us s 34 i z) := ⟨fun m2 _ j hj => us_n (by omega), fun j _ => us_n (by omega), fun j _ => us_n (by omega), fun m2 hm => us_k (by omega)⟩
theorem OtC.us36 {a : Nat} {z : Int} : OtC k a s (us s 36 a z) := ⟨fun m2 _ j hj => us_n (by omega), fun j _ => us_n (by omega), fun j _ => us_n (by omega), fun m2 hm => us_k (by omega)⟩
def WsU (ws : List (List Nat)) (k : Nat) (s : PS) : Prop := s 33 k = (ws.length : Int) ∧ ∀ (j : Nat) (h : j < ws.length), s 34 (4 * k + j) = ((c8 ws[j] : Nat) : Int)
theorem hasL {ws : List (List Nat)} {w : List Nat} (hk : k ≤ 39) (hw : LW w) (ok : WsOk ws) : ∀ (n i : Nat) (s : PS) (r : Int) (t : PS), It_X12_hasWish n (k : Int) ((c8 w : Nat) : Int) (i : Int) s r t → WsU ws k s → i ≤ ws.length → (∀ j, (h : j < ws.length) → j < i → ¬ ws[j] = w) → t = s ∧ ((r = 1 ∧ w ∈ ws) ∨ (r = 0 ∧ ¬ w ∈ ws))
  | 0, i, s, r, t, h, _, _, _ => False.elim h
  | n + 1, i, s, r, t, h, hX, hi, hn => by
    replace h := ul_X12_hasWish_3 h
    unfold T_X12_hasWish_3 at h
    obtain ⟨_, _, _, h⟩ := h
    rw [Int.toNat_natCast, hX.1] at h
    rcases h with ⟨c1, er, es⟩ | ⟨c1, h⟩
    · refine ⟨es, Or.inr ⟨er, fun hm => ?_⟩⟩
      obtain ⟨j, hj, e⟩ := List.getElem_of_mem hm
      exact hn j hj (by omega) e
    · have hi2 : i < ws.length := by clear h; omega
      have ix : (4 * (k : Int) + (i : Int)).toNat = 4 * k + i := by omega
      rw [ix, hX.2 i hi2] at h
      rcases h with ⟨c2, er, es⟩ | ⟨c2, h⟩
      · exact ⟨es, Or.inl ⟨er, by
          have e := c8_inj (ok.2 _ (List.getElem_mem hi2)).1 hw (Int.ofNat_inj.mp c2)
          rw [← e]
          exact List.getElem_mem hi2⟩⟩
      · exact hasL hk hw ok n (i + 1) s r t h hX (by omega) (fun j hj hj2 => by
          by_cases y : j = i
          · subst y
            exact fun e => c2 (by rw [e])
          · exact hn j hj (by omega))
theorem hasM {ws : List (List Nat)} {w : List Nat} (hk : k ≤ 39) (hw : LW w) (ok : WsOk ws) (h : M_X12_hasWish s (k : Int) ((c8 w : Nat) : Int) r t) (hX : WsU ws k s) : t = s ∧ ((r = 1 ∧ w ∈ ws) ∨ (r = 0 ∧ ¬ w ∈ ws)) := by
  obtain ⟨n, h⟩ := h
  unfold T_X12_hasWish_e at h
  obtain ⟨_, _, h⟩ := h
  exact hasL hk hw ok n 0 s r t h hX (Nat.zero_le _) (fun j _ hj => absurd hj (Nat.not_lt_zero _))
theorem c8_ne {w : List Nat} (h : LW w) (hn : ¬ w = []) : ¬ c8 w = 0 := by
  have := e8_pos (rl := w.reverse) (fun c hc => h.2 c (List.mem_reverse.mp hc)) (fun e => hn (List.reverse_eq_nil_iff.mp e))
  unfold c8
  omega
/-- act a is told so in the reference's rows -/
def AtU (a : Nat) (d : Nat → Int) (wl : List (List Nat)) (s : PS) : Prop := (∀ i, i < 5 → s 22 (5 * a + i) = d i) ∧ (∀ (j : Nat) (h : j < wl.length), s 24 (3 * a + j) = ((c8 wl[j] : Nat) : Int)) ∧ ∀ j : Nat, wl.length ≤ j → j < 3 → s 24 (3 * a + j) = 0
theorem cm138 {a : Nat} {x3 : Int} {wl : List (List Nat)} {d : Nat → Int} (hk : k ≤ 39) (ha : a ≤ 200) (hl : ∀ w ∈ wl, LW w ∧ ¬ w = []) (hl3 : wl.length ≤ 3) : ∀ (n i : Nat) (s : PS) (r : Int) (t : PS) (ws : List (List Nat)), It_X12_comes n (k : Int) (a : Int) x3 (i : Int) s r t → WsU ws k s → WsOk ws → AtU a d wl s → i ≤ 3 → WsU ((wl.drop i).foldl wadd ws) k t ∧ OtC k a s t ∧ (∀ m, ¬ m = 33 → ¬ m = 34 → t m = s m)
  | 0, i, s, r, t, ws, h, _, _, _, _ => False.elim h
  | n + 1, i, s, r, t, ws, h, hX, ok, hA, hi => by
    replace h := ul_X12_comes_138 h
    unfold T_X12_comes_138 at h
    obtain ⟨_, _, _, _, h⟩ := h
    have ix : (3 * (a : Int) + (i : Int)).toNat = 3 * a + i := by omega
    rw [ix, Int.toNat_natCast, hX.1] at h
    rcases h with ⟨c1, _, es⟩ | ⟨c1, h⟩
    · rw [List.drop_eq_nil_of_le (by omega), es]
      exact ⟨hX, OtC.refl, fun _ _ _ => rfl⟩
    · have go : ∀ (s1 : PS) (ws1 : List (List Nat)), It_X12_comes n (k : Int) (a : Int) x3 ((i : Int) + 1) s1 r t → WsU ws1 k s1 → WsOk ws1 → OtC k a s s1 → (∀ m, ¬ m = 33 → ¬ m = 34 → s1 m = s m) → (wl.drop i).foldl wadd ws = (wl.drop (i + 1)).foldl wadd ws1 → WsU ((wl.drop i).foldl wadd ws) k t ∧ OtC k a s t ∧ (∀ m, ¬ m = 33 → ¬ m = 34 → t m = s m) := by
        intro s1 ws1 h1 q1 q2 q3 q4 q5
        have A1 : AtU a d wl s1 := by
          unfold AtU
          rw [q4 22 (by decide) (by decide), q4 24 (by decide) (by decide)]
          exact hA
        have h2 : It_X12_comes n (k : Int) (a : Int) x3 ((i + 1 : Nat) : Int) s1 r t := h1
        have z := cm138 (d := d) hk ha hl hl3 n (i + 1) s1 r t ws1 h2 q1 q2 A1 (by clear h h1 h2; omega)
        rw [q5]
        exact ⟨z.1, q3.trans z.2.1, fun m h1 h2 => (z.2.2 m h1 h2).trans (q4 m h1 h2)⟩
      by_cases hi2 : i < wl.length
      · have lw := hl _ (List.getElem_mem hi2)
        rw [hA.2.1 i hi2] at h
        have dr : (wl.drop i).foldl wadd ws = (wl.drop (i + 1)).foldl wadd (wadd ws wl[i]) := by
          rw [List.drop_eq_getElem_cons hi2]
          rfl
        rcases h with ⟨c2, h⟩ | ⟨c2, h⟩
        · exact absurd (Int.ofNat_inj.mp c2) (c8_ne lw.1 lw.2)
        · rcases h with ⟨c3, h⟩ | ⟨c3, r8, s7, m7, _, _, _, h⟩
          · have e : wadd ws wl[i] = ws := by
              unfold wadd
              rw [if_neg (by omega)]
            exact go s ws h hX ok OtC.refl (fun _ _ _ => rfl) (by rw [dr, e])
          · obtain ⟨q7, k7⟩ := hasM hk lw.1 ok m7 hX
            rw [q7] at h
            have ok4 := ok.1
            rcases h with ⟨c4, s11, e11, s12, e12, h⟩ | ⟨c4, h⟩
            · have nm : ¬ wl[i] ∈ ws := by
                rcases k7 with z | z
                · omega
                · exact z.2
              have l4 : ws.length < 4 := by clear h; omega
              have e : wadd ws wl[i] = ws ++ [wl[i]] := by
                unfold wadd
                rw [if_pos ⟨l4, nm⟩]
              have ix2 : (4 * (k : Int) + (ws.length : Int)).toNat = 4 * k + ws.length := by omega
              rw [ix2] at e11
              have ev : s12 = us (us s 34 (4 * k + ws.length) ((c8 wl[i] : Nat) : Int)) 33 k ((ws.length : Int) + 1) := by rw [e12, e11]
              refine go s12 (ws ++ [wl[i]]) h ⟨?_, fun j hj => ?_⟩ (by rw [← e]; exact wadd_ok ok lw) ?_ (fun m h1 h2 => by rw [ev, us_k h1, us_k h2]) (by rw [dr, e])
              · rw [ev, us_at, List.length_append]
                rfl
              · rw [ev, us_k (by decide)]
                rw [List.length_append] at hj
                have hj2 : j < ws.length + 1 := hj
                by_cases y : j = ws.length
                · subst y
                  rw [us_at, List.getElem_append_right (Nat.le_refl _)]
                  simp
                · rw [us_j (by omega), List.getElem_append_left (by omega)]
                  exact hX.2 j (by omega)
              · rw [ev]
                exact (OtC.us34 (by omega)).trans (OtC.u1 (by decide))
            · have mm : wl[i] ∈ ws := by
                rcases k7 with z | z
                · exact z.2
                · omega
              have e : wadd ws wl[i] = ws := by
                unfold wadd
                rw [if_neg (fun z => z.2 mm)]
              exact go s ws h hX ok OtC.refl (fun _ _ _ => rfl) (by rw [dr, e])
      · rw [hA.2.2 i (by omega) (by clear h; omega)] at h
        have dr : ∀ j, i ≤ j → wl.drop j = [] := fun j hj => List.drop_eq_nil_of_le (by omega)
        rcases h with ⟨_, h⟩ | ⟨c2, _⟩
        · exact go s ws h hX ok OtC.refl (fun _ _ _ => rfl) (by rw [dr i (Nat.le_refl _), dr (i + 1) (by omega)])
        · exact absurd rfl c2
end Look
