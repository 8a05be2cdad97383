/-! the reference's code cells, and what waits -/
def OpM (a : Nat) (s : PS) (i : Nat) (o : OPc) : Prop := s 13 (2200 * a + 2 * i) = (o.1 : Int) ∧ s 13 (2200 * a + 2 * i + 1) = o.2.1 ∧ (o.1 = 7 → s 15 (1100 * a + i) = ((c8 o.2.2 : Nat) : Int))
/-- the code that the bank holds that is read into -/
def CdM (C : List OPc) (s : PS) : Prop := ∃ a : Nat, a ≤ 1 ∧ s 0 13 = (a : Int) ∧ s 14 a = (C.length : Int) ∧ ∀ (i : Nat) (h : i < C.length), OpM a s i C[i]
/-- what waits above place b, top first -/
def WtW : List OPc → Nat → PS → Prop
  | [], _, _ => True
  | o :: w, b, s => s 20 (b + w.length) = (o.1 : Int) ∧ o.2 = (0, []) ∧ 10 ≤ o.1 ∧ WtW w b s
def wtT : List (List OPc) → Nat
  | [] => 0
  | w :: ws => w.length + wtT ws
def WtL : List (List OPc) → PS → Prop
  | [], _ => True
  | w :: ws, s => s 19 ws.length = (wtT ws : Int) ∧ WtW w (wtT ws) s ∧ WtL ws s
def WtM (ws : List (List OPc)) (s : PS) : Prop := s 0 35 = (wtT ws : Int) ∧ WtL ws s
section CodeM
variable {s t u : PS} {r : Int} {C : List OPc} {w : List OPc} {ws : List (List OPc)} {o : OPc} {ms : List Nat} {fm : List (Nat × Nat)}
theorem CdM.cg (h : CdM C s) (e0 : t 0 13 = s 0 13) (e13 : t 13 = s 13) (e14 : t 14 = s 14) (e15 : t 15 = s 15) : CdM C t := by
  obtain ⟨a, h1, h2, h3, h4⟩ := h
  exact ⟨a, h1, e0.trans h2, by rw [e14]; exact h3, fun i hi => by unfold OpM; rw [e13, e15]; exact h4 i hi⟩
theorem CdM.fr (h : CdM C s) (hf : Fr intsM ms fm s t) (c : 13 ∉ ms ∧ 14 ∉ ms ∧ 15 ∉ ms ∧ (0 ∉ ms ∨ (0 ∈ fm.map Prod.fst ∧ (0, 13) ∉ fm))) : CdM C t := h.cg (hf.f (by decide) c.2.2.2) (hf.1 13 c.1) (hf.1 14 c.2.1) (hf.1 15 c.2.2.1)
theorem CdM.uq {k j : Nat} {v : Int} (h : CdM C s) (c : ¬ k = 13 ∧ ¬ k = 14 ∧ ¬ k = 15 ∧ (k = 0 → ¬ j = 13)) : CdM C (us s k j v) := by
  refine h.cg ?_ (us_k (fun e => c.1 e.symm)) (us_k (fun e => c.2.1 e.symm)) (us_k (fun e => c.2.2.1 e.symm))
  by_cases e : k = 0
  · rw [e]
    exact us_j (fun z => c.2.2.2 e z.symm) _
  · rw [us_k (fun z => e z.symm)]
theorem CdM.uk {k j : Nat} {v : Int} (h : CdM C s) (c : ¬ k = 0 ∧ ¬ k = 13 ∧ ¬ k = 14 ∧ ¬ k = 15) : CdM C (us s k j v) := h.uq ⟨c.2.1, c.2.2.1, c.2.2.2, fun e => absurd e c.1⟩
theorem WtW.cg : ∀ {w : List OPc} {b : Nat}, WtW w b s → (∀ i, i < b + w.length → t 20 i = s 20 i) → WtW w b t
  | [], _, _, _ => True.intro
  | o :: w, b, h, e => by
    obtain ⟨h1, h2, h0, h3⟩ := h
    rw [List.length_cons] at e
    exact ⟨(e (b + w.length) (by omega)).trans h1, h2, h0, h3.cg (fun i hi => e i (by omega))⟩
theorem WtL.cg : ∀ {ws : List (List OPc)}, WtL ws s → (∀ i, i < ws.length → t 19 i = s 19 i) → (∀ i, i < wtT ws → t 20 i = s 20 i) → WtL ws t
  | [], _, _, _ => True.intro
  | w :: ws, h, e1, e2 => by
    obtain ⟨h1, h2, h3⟩ := h
    rw [List.length_cons] at e1
    have e3 : wtT (w :: ws) = w.length + wtT ws := rfl
    exact ⟨(e1 ws.length (by omega)).trans h1, h2.cg (fun i hi => e2 i (by omega)), h3.cg (fun i hi => e1 i (by omega)) (fun i hi => e2 i (by omega))⟩
theorem WtM.cg (h : WtM ws s) (e0 : t 0 35 = s 0 35) (e19 : t 19 = s 19) (e20 : t 20 = s 20) : WtM ws t := ⟨e0.trans h.1, h.2.cg (fun i _ => by rw [e19]) (fun i _ => by rw [e20])⟩
theorem WtM.fr (h : WtM ws s) (hf : Fr intsM ms fm s t) (c : 19 ∉ ms ∧ 20 ∉ ms ∧ (0 ∉ ms ∨ (0 ∈ fm.map Prod.fst ∧ (0, 35) ∉ fm))) : WtM ws t := h.cg (hf.f (by decide) c.2.2) (hf.1 19 c.1) (hf.1 20 c.2.1)
theorem WtM.uq {k j : Nat} {v : Int} (h : WtM ws s) (c : ¬ k = 19 ∧ ¬ k = 20 ∧ (k = 0 → ¬ j = 35)) : WtM ws (us s k j v) := by
  refine h.cg ?_ (us_k (fun e => c.1 e.symm)) (us_k (fun e => c.2.1 e.symm))
  by_cases e : k = 0
  · rw [e]
    exact us_j (fun z => c.2.2 e z.symm) _
  · rw [us_k (fun z => e z.symm)]
theorem WtM.uk {k j : Nat} {v : Int} (h : WtM ws s) (c : ¬ k = 0 ∧ ¬ k = 19 ∧ ¬ k = 20) : WtM ws (us s k j v) := h.uq ⟨c.2.1, c.2.2, fun e => absurd e c.1⟩
/-- a code is put in -/
theorem addCM {x y : Int} (h : M_X12_add s x y r t) (hx : x = (o.1 : Int)) (hy : y = o.2.1) (h7 : o.1 = 7 → ∀ a : Nat, s 0 13 = (a : Int) → s 15 (1100 * a + C.length) = ((c8 o.2.2 : Nat) : Int)) (hC : CdM C s) : CdM (C ++ [o]) t := by
  unfold M_X12_add T_X12_add_e at h
  obtain ⟨_, _, s1, e1, s2, e2, s3, e3, _, es⟩ := h
  obtain ⟨a, ha, h13, h14, hO⟩ := hC
  have ea : (s 0 13).toNat = a := by omega
  rw [ea, h14] at e1 e2 e3
  have i1 : (2200 * s 0 13 + 2 * (C.length : Int)).toNat = 2200 * a + 2 * C.length := by omega
  have i2 : (2200 * s 0 13 + 2 * (C.length : Int) + 1).toNat = 2200 * a + 2 * C.length + 1 := by omega
  rw [i1] at e1
  rw [i2] at e2
  have ev : t = us (us (us s 13 (2200 * a + 2 * C.length) x) 13 (2200 * a + 2 * C.length + 1) y) 14 a ((C.length : Int) + 1) := by rw [es, e3, e2, e1]
  refine ⟨a, ha, ?_, ?_, fun i hi => ?_⟩
  · rw [ev, us_k (by decide), us_k (by decide), us_k (by decide)]
    exact h13
  · rw [ev, us_at, List.length_append]
    rfl
  · have f13 : ∀ j, ¬ j = 2200 * a + 2 * C.length → ¬ j = 2200 * a + 2 * C.length + 1 → t 13 j = s 13 j := by
      intro j j1 j2
      rw [ev, us_k (by decide), us_j j2, us_j j1]
    have f15 : ∀ j, t 15 j = s 15 j := by
      intro j
      rw [ev, us_k (by decide), us_k (by decide), us_k (by decide)]
    have n1 : t 13 (2200 * a + 2 * C.length) = x := by rw [ev, us_k (by decide), us_j (by omega), us_at]
    have n2 : t 13 (2200 * a + 2 * C.length + 1) = y := by rw [ev, us_k (by decide), us_at]
    rcases app_at hi with ⟨hi2, e⟩ | ⟨hi2, e⟩
    · obtain ⟨z1, z2, z3⟩ := hO i hi2
      rw [e]
      exact ⟨(f13 _ (by omega) (by omega)).trans z1, (f13 _ (by omega) (by omega)).trans z2, fun e7 => (f15 _).trans (z3 e7)⟩
    · rw [e, hi2]
      exact ⟨n1.trans hx, n2.trans hy, fun e7 => (f15 _).trans (h7 e7 a h13)⟩
theorem addCM0 {x y : Int} (h : M_X12_add s x y r t) (hx : x = (o.1 : Int)) (hy : y = o.2.1) (h7 : ¬ o.1 = 7) (hC : CdM C s) : CdM (C ++ [o]) t := addCM h hx hy (fun e => absurd e h7) hC
theorem addWM {wd : List Nat} {s1 : PS} (hC : CdM C s) (e : s1 = us s 15 (1100 * s 0 13 + s 14 (s 0 13).toNat).toNat ((c8 wd : Nat) : Int)) (h : M_X12_add s1 7 0 r t) : CdM (C ++ [(7, 0, wd)]) t := by
  obtain ⟨a, ha, h13, h14, hO⟩ := hC
  have ea : (s 0 13).toNat = a := by omega
  rw [ea, h14] at e
  have i1 : (1100 * s 0 13 + (C.length : Int)).toNat = 1100 * a + C.length := by omega
  rw [i1] at e
  have C1 : CdM C s1 := by
    refine ⟨a, ha, by rw [e, us_k (by decide)]; exact h13, by rw [e, us_k (by decide)]; exact h14, fun i hi => ?_⟩
    obtain ⟨z1, z2, z3⟩ := hO i hi
    refine ⟨?_, ?_, fun e7 => ?_⟩
    · rw [e, us_k (by decide)]
      exact z1
    · rw [e, us_k (by decide)]
      exact z2
    · rw [e, us_j (by omega)]
      exact z3 e7
  refine addCM (o := (7, 0, wd)) h rfl rfl (fun _ a2 h2 => ?_) C1
  have e13 : s1 0 13 = s 0 13 := by rw [e, us_k (by decide)]
  obtain rfl : a2 = a := by omega
  rw [e, us_at]
theorem rankC (h : M_X12_rank s (o.1 : Int) r t) : r = (rnO o : Int) ∧ t = s := by
  unfold M_X12_rank T_X12_rank_e at h
  unfold rnO
  obtain ⟨_, _, ⟨c, hr, e⟩ | ⟨c, ⟨c2, hr, e⟩ | ⟨c2, ⟨c3, hr, e⟩ | ⟨c3, ⟨c4, hr, e⟩ | ⟨c4, ⟨c5, hr, e⟩ | ⟨c5, ⟨c6, hr, e⟩ | ⟨c6, hr, e⟩⟩⟩⟩⟩⟩⟩ := h
  · rw [if_pos (by omega)]
    exact ⟨hr, e⟩
  · rw [if_neg (by omega), if_pos (by omega)]
    exact ⟨hr, e⟩
  · rw [if_neg (by omega), if_neg (by omega), if_pos (by omega)]
    exact ⟨hr, e⟩
  · rw [if_neg (by omega), if_neg (by omega), if_neg (by omega), if_pos (by omega)]
    exact ⟨hr, e⟩
  · rw [if_neg (by omega), if_neg (by omega), if_neg (by omega), if_pos (by omega)]
    exact ⟨hr, e⟩
  · rw [if_neg (by omega), if_neg (by omega), if_neg (by omega), if_pos (by omega)]
    exact ⟨hr, e⟩
  · rw [if_neg (by omega), if_neg (by omega), if_neg (by omega), if_neg (by omega)]
    exact ⟨hr, e⟩
/-- what ranks m or higher is put in -/
theorem joinsLC {m : Nat} {x : Int} (hx : x = (m : Int)) : ∀ (n : Nat) (s : PS) (r : Int) (t : PS) (w C : List OPc), It_X12_joins n x s r t → s 0 32 = (ws.length : Int) + 1 → CdM C s → WtM (w :: ws) s → CdM (C ++ tw m w) t ∧ WtM (dw m w :: ws) t
  | 0, s, r, t, w, C, h, _, _, _ => False.elim h
  | n + 1, s, r, t, w, C, h, hd, hC, hW => by
    have h := ul_X12_joins_0 h
    unfold T_X12_joins_0 at h
    obtain ⟨h35, h19, hw, hl⟩ := hW
    have i1 : (s 0 32 - 1).toNat = ws.length := by omega
    have e35 : wtT (w :: ws) = w.length + wtT ws := rfl
    rw [i1, h19, h35] at h
    obtain ⟨_, _, ⟨c1, _, e⟩ | ⟨c1, r1, s1, hm, _, _, _, h⟩⟩ := h
    · have w0 : w = [] := List.eq_nil_of_length_eq_zero (by omega)
      subst w0
      rw [e]
      exact ⟨by rw [show tw m [] = [] from rfl, List.append_nil]; exact hC, h35, h19, hw, hl⟩
    · cases w with
      | nil => exact absurd (show (wtT ([] :: ws) : Int) ≤ (wtT ws : Int) by have z : wtT ([] :: ws) = 0 + wtT ws := rfl; omega) c1
      | cons o w =>
        obtain ⟨g1, g2, g0, g3⟩ := hw
        rw [List.length_cons] at e35
        have i2 : ((wtT ((o :: w) :: ws) : Int) - 1).toNat = wtT ws + w.length := by omega
        rw [i2, g1] at hm h
        obtain ⟨k1, k2⟩ := rankC hm
        rw [k2] at h
        rcases h with ⟨c2, _, e⟩ | ⟨c2, s2, e2, s3, hm3, hf3, _, h⟩
        · have st := tw_stop (m := m) (o := o) (by omega) w
          rw [e, st.1, st.2, List.append_nil]
          exact ⟨hC, h35, h19, ⟨g1, g2, g0, g3⟩, hl⟩
        · have pu := tw_push (m := m) (o := o) (by omega) w
          have C2 : CdM C s2 := by
            rw [e2]
            exact hC.uq (by decide)
          have C3 : CdM (C ++ [o]) s3 := by
            refine addCM0 hm3 rfl ?_ (by omega) C2
            rw [g2]
          have W2 : WtM (w :: ws) s2 := by
            rw [e2]
            refine ⟨?_, ?_, ?_, ?_⟩
            · rw [us_at]
              show _ = ((w.length + wtT ws : Nat) : Int)
              omega
            · rw [us_k (by decide)]
              exact h19
            · exact g3.cg (fun i _ => by rw [us_k (by decide)])
            · exact hl.cg (fun i _ => by rw [us_k (by decide)]) (fun i _ => by rw [us_k (by decide)])
          have W3 := W2.fr hf3 (by decide)
          have d3 : s3 0 32 = (ws.length : Int) + 1 := by
            rw [hf3.1 0 (by decide), e2, us_j (by decide)]
            exact hd
          have ih := joinsLC hx n s3 r t w (C ++ [o]) h d3 C3 W3
          rw [pu.1, pu.2]
          rw [List.append_assoc] at ih
          exact ih
theorem joinsC {m : Nat} {x : Int} (hx : x = (m : Int)) (h : M_X12_joins s x r t) (hd : s 0 32 = (ws.length : Int) + 1) (hC : CdM C s) (hW : WtM (w :: ws) s) : CdM (C ++ tw m w) t ∧ WtM (dw m w :: ws) t := by
  obtain ⟨n, h⟩ := h
  have h2 : T_X12_joins_0 (It_X12_joins n) x s r t := h
  exact joinsLC hx (n + 1) s r t w C (rl_X12_joins_0 h2) hd hC hW
theorem waitsC {x : Int} (hx : x = (o.1 : Int)) (ho : o.2 = (0, [])) (h : M_X12_waits s x r t) (hC : CdM C s) (hW : WtM (w :: ws) s) : CdM C t ∧ WtM ((o :: w) :: ws) t := by
  unfold M_X12_waits T_X12_waits_e at h
  obtain ⟨_, b, s1, e1, s2, e2, _, es⟩ := h
  obtain ⟨h35, h19, hw, hl⟩ := hW
  have e35 : wtT (w :: ws) = w.length + wtT ws := rfl
  rw [h35, Int.toNat_natCast] at e1
  rw [h35] at e2
  have ev : t = us (us s 20 (wtT (w :: ws)) x) 0 35 ((wtT (w :: ws) : Int) + 1) := by rw [es, e2, e1]
  rw [ev]
  refine ⟨(hC.uk (by decide)).uq (by decide), ?_, ?_, ⟨?_, ho, by omega, ?_⟩, ?_⟩
  · rw [us_at]
    show _ = (((o :: w).length + wtT ws : Nat) : Int)
    rw [List.length_cons]
    omega
  · rw [us_k (by decide), us_k (by decide)]
    exact h19
  · rw [us_k (by decide), e35, Nat.add_comm, us_at]
    exact hx
  · exact hw.cg (fun i hi => by rw [us_k (by decide), us_j (by omega)])
  · exact hl.cg (fun i _ => by rw [us_k (by decide), us_k (by decide)]) (fun i hi => by rw [us_k (by decide), us_j (by omega)])
theorem pushC {k : Int} (h : M_X12_pushes s k r t) (hd : s 0 32 = (ws.length : Int)) (hC : CdM C s) (hW : WtM ws s) : CdM C t ∧ WtM ([] :: ws) t := by
  have ev := pushM h
  obtain ⟨h35, hl⟩ := hW
  have i1 : (s 0 32).toNat = ws.length := by omega
  rw [i1, h35] at ev
  rw [ev]
  refine ⟨((((hC.uk (by decide)).uk (by decide)).uk (by decide)).uk (by decide)).uq (by decide), ?_, ?_, True.intro, ?_⟩
  · rw [us_j (by decide), us_k (by decide), us_k (by decide), us_k (by decide), us_k (by decide), h35]
    have z : wtT ([] :: ws) = 0 + wtT ws := rfl
    omega
  · rw [us_k (by decide), us_at]
  · exact hl.cg (fun i hi => by rw [us_k (by decide), us_j (by omega), us_k (by decide), us_k (by decide), us_k (by decide)]) (fun i hi => by rw [us_k (by decide), us_k (by decide), us_k (by decide), us_k (by decide), us_k (by decide)])
theorem WtM.pop (h : WtM ([] :: ws) s) : WtM ws s := by
  obtain ⟨h35, _, _, hl⟩ := h
  have z : wtT ([] :: ws) = 0 + wtT ws := rfl
  exact ⟨by omega, hl⟩
theorem dw_1 (w : List OPc) : dw 1 w = [] := (tw_1 w).2
end CodeM
