/-! the reference's reader with its codes: a part -/
abbrev CB (g : Nat → Nat) (N : Nat) (K M : List (List Nat)) (k f : Nat) (w : List OPc) (fs : List (Nat × Nat)) (ws : List (List OPc)) (b : Bool) (q : Nat) : List OPc := cdB (tkq g N) (nxq g N) 1001 (nvq g N) (ltq g N) (knK (ltq g N) K M) K M k f w fs ws b q
abbrev CA (g : Nat → Nat) (N : Nat) (K M : List (List Nat)) (k f : Nat) (w : List OPc) (fs : List (Nat × Nat)) (ws : List (List OPc)) (q : Nat) : List OPc := cdA (tkq g N) (nxq g N) 1001 (nvq g N) (ltq g N) (knK (ltq g N) K M) K M ((k, f) :: fs) (w :: ws) false q
def CdS (C w : List OPc) (ws : List (List OPc)) (fs : List (Nat × Nat)) (s : PS) : Prop := ws.length = fs.length ∧ CdM C s ∧ WtM (w :: ws) s
def HdC (g : Nat → Nat) (N : Nat) (K M : List (List Nat)) (Tt : List OPc) (k f : Nat) (fs : List (Nat × Nat)) (b : Bool) (q : Nat) (s : PS) : Prop := HdM g N K M k f fs b q s ∧ ∃ C w ws, CdS C w ws fs s ∧ (b = true → lowW w) ∧ Tt = C ++ CB g N K M k f w fs ws b q
def TlC (g : Nat → Nat) (N : Nat) (K M : List (List Nat)) (Tt : List OPc) (k f : Nat) (fs : List (Nat × Nat)) (q : Nat) (s : PS) : Prop := TlM g N K M k f fs q s ∧ ∃ C w ws, CdS C w ws fs s ∧ Tt = C ++ CA g N K M k f w fs ws q
/-- what a part comes to, if there is no fault -/
def PaC (g : Nat → Nat) (N : Nat) (K M : List (List Nat)) (Tt : List OPc) (S : Option Nat) (r : Int) (t : PS) : Prop := (r = 0 ∧ ∃ k f fs b q, S = SpM g N K M k f fs b q ∧ HdC g N K M Tt k f fs b q t) ∨ (r = 1 ∧ ∃ k f fs q, S = StM g N K M k f fs q ∧ TlC g N K M Tt k f fs q t)
section PartCo
variable {g : Nat → Nat} {N q k f : Nat} {s t u : PS} {r : Int} {K M : List (List Nat)} {fs : List (Nat × Nat)} {b : Bool} {C w Tt : List OPc} {ws : List (List OPc)} {ms : List Nat} {fm : List (Nat × Nat)}
theorem CdS.fr (h : CdS C w ws fs s) (hf : Fr intsM ms fm s t) (c : 13 ∉ ms ∧ 14 ∉ ms ∧ 15 ∉ ms ∧ 19 ∉ ms ∧ 20 ∉ ms ∧ (0 ∉ ms ∨ (0 ∈ fm.map Prod.fst ∧ (0, 13) ∉ fm ∧ (0, 35) ∉ fm))) : CdS C w ws fs t := by
  refine ⟨h.1, h.2.1.fr hf ⟨c.1, c.2.1, c.2.2.1, ?_⟩, h.2.2.fr hf ⟨c.2.2.2.1, c.2.2.2.2.1, ?_⟩⟩
  · exact c.2.2.2.2.2.imp id (fun z => ⟨z.1, z.2.1⟩)
  · exact c.2.2.2.2.2.imp id (fun z => ⟨z.1, z.2.2⟩)
theorem CdS.uq {c j : Nat} {v : Int} (h : CdS C w ws fs s) (e : ¬ c = 13 ∧ ¬ c = 14 ∧ ¬ c = 15 ∧ ¬ c = 19 ∧ ¬ c = 20 ∧ (c = 0 → ¬ j = 13 ∧ ¬ j = 35)) : CdS C w ws fs (us s c j v) := ⟨h.1, h.2.1.uq ⟨e.1, e.2.1, e.2.2.1, fun z => (e.2.2.2.2.2 z).1⟩, h.2.2.uq ⟨e.2.2.2.1, e.2.2.2.2.1, fun z => (e.2.2.2.2.2 z).2⟩⟩
theorem CdS.uk {c j : Nat} {v : Int} (h : CdS C w ws fs s) (e : ¬ c = 0 ∧ ¬ c = 13 ∧ ¬ c = 14 ∧ ¬ c = 15 ∧ ¬ c = 19 ∧ ¬ c = 20) : CdS C w ws fs (us s c j v) := h.uq ⟨e.2.1, e.2.2.1, e.2.2.2.1, e.2.2.2.2.1, e.2.2.2.2.2, fun z => absurd z e.1⟩
theorem CdS.add {x y : Int} {o : OPc} (h : CdS C w ws fs s) (ha : M_X12_add s x y r t) (hf : Fr intsM [13, 14] [] s t) (hx : x = (o.1 : Int)) (hy : y = o.2.1) (h7 : ¬ o.1 = 7) : CdS (C ++ [o]) w ws fs t := ⟨h.1, addCM0 ha hx hy h7 h.2.1, h.2.2.fr hf (by decide)⟩
theorem appT {o : OPc} {R : List OPc} (h : Tt = C ++ (o :: R)) : Tt = (C ++ [o]) ++ R := by
  rw [h, List.append_assoc]
  rfl
theorem endC (hN : N ≤ 1000) (hg : ∀ i, g i ≤ 255) {S : Option Nat} (h : MdM g N K M k f fs q s) (h0 : ¬ tkq g N q = 256) (hS : S = StM g N K M k f fs (nxq g N q)) (hk : k = 2 ∨ k = 5 → f = 2) (hm : M_X12_looks s 0 t) (hf : Fr intsM [0] [(0, 3), (0, 4), (0, 5), (0, 6), (0, 7), (0, 8), (0, 9)] s t) (hr : r = 1) (hz : t 0 8 = 0) (hc : CdS C w ws fs s) (hT : Tt = C ++ CA g N K M k f w fs ws (nxq g N q)) : PaC g N K M Tt S r t := by
  obtain ⟨h1, h2, h3, h4, h5, h6, h7, h8⟩ := h
  rcases lookX hN hg (h1.mw h0) hm hf with ⟨k1, _⟩ | k1
  · exact absurd hz k1
  · exact Or.inr ⟨hr, k, f, fs, _, hS, ⟨k1, h2.fr hf (by decide), (hf.f (by decide) (by decide)).trans h3, (hf.f (by decide) (by decide)).trans h4, h5, h6.fr hf (by decide), h7, h8, hk⟩, C, w, ws, hc.fr hf (by decide), hT⟩
/-- a bracket opens -/
theorem openC (hN : N ≤ 1000) (hg : ∀ i, g i ≤ 255) {S : Option Nat} {k2 : Nat} (hS : fs.length < 8 → S = SpM g N K M k2 0 ((k, f) :: fs) true (nxq g N q)) (hM : MX g N q s) (h0 : ¬ tkq g N q = 256) (hB : BkM K M s) (h32 : s 0 32 = (fs.length : Int) + 1) (h33 : s 0 33 = (fs.length : Int)) (hl : fs.length ≤ 8) (hF : FmM ((k, f) :: fs) s) (hL : Low k2 ((k, f) :: fs)) (h : M_X12_opens s (k2 : Int) 0 t) (hr : r = 0) (hz : t 0 8 = 0) (hc : CdS C w ws fs s) (hT : fs.length < 8 → Tt = C ++ CB g N K M k2 0 [] ((k, f) :: fs) (w :: ws) true (nxq g N q)) : PaC g N K M Tt S r t := by
  unfold M_X12_opens T_X12_opens_e at h
  obtain ⟨ty, _, h⟩ := h
  rcases h with ⟨c, s1, hm, hf, _, c2, _, es⟩ | ⟨c, _, s1, e1, s2, hm2, hf2, _, s3, hm3, hf3, _, _, es⟩
  · rw [es] at hz
    exact absurd hz (by omega)
  · have l8 : fs.length < 8 := by omega
    have W1 : MW g N q s1 := (hM.mw h0).cg (by rw [e1, us_k (by decide)]) (by rw [e1, us_j (by decide)]) (by rw [e1, us_j (by decide)]) (by rw [e1, us_j (by decide)])
    have F1 : FmM ((k, f) :: fs) s1 := hF.cg (fun i _ => ⟨by rw [e1, us_k (by decide)], by rw [e1, us_k (by decide)], by rw [e1, us_k (by decide)]⟩)
    have B1 : BkM K M s1 := hB.cg (by rw [e1, us_j (by decide)]) (by rw [e1, us_k (by decide)]) (by rw [e1, us_k (by decide)]) (by rw [e1, us_k (by decide)]) (by rw [e1, us_k (by decide)])
    have z32 : s2 0 32 = ((fs.length + 1 : Nat) : Int) := by
      rw [hf2.f (by decide) (by decide), e1, us_j (by decide), h32]
      omega
    have z33 : s2 0 33 = (fs.length : Int) + 1 := by rw [hf2.f (by decide) (by decide), e1, us_at, h33]
    have e3 := pushM hm3
    rw [z32, Int.toNat_natCast] at e3
    have k16 : s3 16 (fs.length + 1) = (k2 : Int) := by rw [e3, us_k (by decide), us_k (by decide), us_k (by decide), us_k (by decide), us_at]
    have k17 : s3 17 (fs.length + 1) = 0 := by rw [e3, us_k (by decide), us_k (by decide), us_k (by decide), us_at]
    have k18 : s3 18 (fs.length + 1) = 1 := by rw [e3, us_k (by decide), us_k (by decide), us_at]
    rcases lookX hN hg W1 hm2 hf2 with ⟨k1, kb⟩ | k1
    · refine absurd hz ?_
      rw [es, e3, us_j (by decide), us_k (by decide), us_k (by decide), us_k (by decide), us_k (by decide)]
      exact k1
    · have c1 : CdS C w ws fs s1 := by
        rw [e1]
        exact hc.uq (by decide)
      have c2 := c1.fr hf2 (by decide)
      have cp := pushC hm3 (show s2 0 32 = ((w :: ws).length : Int) by rw [z32, List.length_cons, hc.1]) c2.2.1 c2.2.2
      refine Or.inl ⟨hr, k2, 0, (k, f) :: fs, true, nxq g N q, hS l8, ⟨?_, ?_, ?_, ?_, ?_, ?_, ?_, ?_, ?_, hL, fun _ => rfl, fun _ => rfl, fun z => absurd z (by decide), by decide⟩, C, [], w :: ws, ⟨by rw [List.length_cons, List.length_cons, hc.1], by rw [es]; exact cp.1, by rw [es]; exact cp.2⟩, fun _ => ⟨rfl, rfl⟩, hT l8⟩
      · rw [es]
        refine k1.cg (by rw [e3, us_k (by decide), us_k (by decide), us_k (by decide), us_k (by decide), us_k (by decide)]) (fun j j1 j2 => ?_)
        rw [e3, us_j (by omega), us_k (by decide), us_k (by decide), us_k (by decide), us_k (by decide)]
      · rw [es]
        refine (B1.fr hf2 (by decide)).cg ?_ ?_ ?_ ?_ ?_
        · rw [e3, us_j (by decide), us_k (by decide), us_k (by decide), us_k (by decide), us_k (by decide)]
        · rw [e3, us_k (by decide), us_k (by decide), us_k (by decide), us_k (by decide), us_k (by decide)]
        · rw [e3, us_k (by decide), us_k (by decide), us_k (by decide), us_k (by decide), us_k (by decide)]
        · rw [e3, us_k (by decide), us_k (by decide), us_k (by decide), us_k (by decide), us_k (by decide)]
        · rw [e3, us_k (by decide), us_k (by decide), us_k (by decide), us_k (by decide), us_k (by decide)]
      · rw [es, e3, us_at, List.length_cons]
      · rw [es, e3, us_j (by decide), us_k (by decide), us_k (by decide), us_k (by decide), us_k (by decide), z33, List.length_cons]
        omega
      · rw [List.length_cons]
        omega
      · rw [es, List.length_cons, k16]
      · rw [es, List.length_cons, k17]
        rfl
      · rw [es, List.length_cons, k18]
        rfl
      · rw [es]
        have F2 : FmM ((k, f) :: fs) s2 := F1.fr hf2 (by decide)
        refine F2.cg (fun i hi => ?_)
        rw [List.length_cons] at hi
        have ni : ¬ i = fs.length + 1 := by omega
        refine ⟨?_, ?_, ?_⟩
        · rw [e3, us_k (by decide), us_k (by decide), us_k (by decide), us_k (by decide), us_j ni]
        · rw [e3, us_k (by decide), us_k (by decide), us_k (by decide), us_j ni, us_k (by decide)]
        · rw [e3, us_k (by decide), us_k (by decide), us_j ni, us_k (by decide), us_k (by decide)]
/-- a number, a fact, a bracket -/
theorem k258C (hN : N ≤ 1000) (hg : ∀ i, g i ≤ 255) {n : Nat} {x3 : Int} (h : It_X12_part n 258 (fs.length : Int) (k : Int) x3 s r t) (hM : MdM g N K M k f fs q s) (hw : ¬ (k = 2 ∨ k = 5)) (hf1 : k = 0 ∨ k = 3 ∨ f ≤ 1) {S : Option Nat} {b : Bool} (hS : S = SpM g N K M k f fs b q) (hb : k = 0 ∨ k = 3 ∨ b = false) (hz : t 0 8 = 0) (hc : CdS C w ws fs s) (hT : Tt = C ++ CB g N K M k f w fs ws b q) : PaC g N K M Tt S r t := by
  cases n with
  | zero => exact False.elim h
  | succ n =>
    have h := ul_X12_part_258 h
    unfold T_X12_part_258 at h
    obtain ⟨_, _, _, _, r1, s1, hm, _, _, _, h⟩ := h
    have hMX := hM.1
    obtain ⟨e1, k1⟩ := isSignM (c := 40) (by decide) hm hMX
    rw [e1] at h
    have wk : ∀ (i : Nat) (hi : i < 22) (c : Int) (r2 : Int) (s2 : PS), c = ((c8 (ownW[i]'(by show i < 22; exact hi)) : Nat) : Int) → M_X12_isWord s c r2 s2 → s2 = s ∧ ((r2 = 1 ∧ tkq g N q = 261 + i) ∨ (r2 = 0 ∧ ¬ tkq g N q = 261 + i)) := fun i hi c r2 s2 hc hm => isWordM hg hi hc hm hMX
    -- a fact
    have fact : ∀ (a : Int) (s2 s3 : PS), 278 ≤ tkq g N q → tkq g N q ≤ 282 → a = (tkq g N q : Int) - 277 → M_X12_add s a 0 0 s2 → Fr intsM [13, 14] [] s s2 → M_X12_looks s2 0 s3 → Fr intsM [0] [(0, 3), (0, 4), (0, 5), (0, 6), (0, 7), (0, 8), (0, 9)] s2 s3 → r = 1 → t = s3 → PaC g N K M Tt S r t := by
      intro a s2 s3 b1 b2 hab ha hfa hl hf hr ht
      rw [ht] at hz ⊢
      refine endC hN hg (hM.add ha) (by omega) ?_ (fun z => absurd z hw) hl hf hr hz (hc.add (o := (tkq g N q - 277, 0, [])) ha hfa (by show a = ((tkq g N q - 277 : Nat) : Int); omega) rfl (by show ¬ tkq g N q - 277 = 7; omega)) (appT ?_)
      · rw [hS]
        exact P_nf (by omega) (by omega) hb
      · rw [hT]
        have e := E_nf (T := tkq g N) (N := nxq g N) (F := 1001) (V := nvq g N) (Lw := ltq g N) (kn := knK (ltq g N) K M) (K := K) (M := M) (k := k) (f := f) (fs := fs) (w := w) (ws := ws) (q := q) (by omega) (Or.inr ⟨b1, b2⟩) hb
        rw [if_neg (by omega)] at e
        exact congrArg (C ++ ·) e
    rcases h with ⟨c1, h⟩ | ⟨c1, s2, hm2, _, _, hr, ht⟩
    · have n40 : ¬ tkq g N q = 40 := by rcases k1 with k | k <;> omega
      rcases h with ⟨c2, s2, ha, hfa, _, _, s3, hl, hf, _, hr, ht⟩ | ⟨c2, r2, s2, hm2, _, _, _, h⟩
      · have e59 : tkq g N q = 259 := by
          rcases hMX.sg.2.2.2 with ⟨_, z⟩ | ⟨_, _, z, _⟩ | ⟨z, _, _⟩ | ⟨_, z, _⟩ <;> omega
        have v6 : s 0 6 = (nvq g N q : Int) := by
          rcases hMX.sg.2.2.2 with ⟨_, z⟩ | ⟨_, _, z, _⟩ | ⟨_, _, z⟩ | ⟨_, z, _⟩
          · omega
          · omega
          · exact z
          · omega
        rw [ht] at hz ⊢
        refine endC hN hg (hM.add ha) (by omega) ?_ (fun z => absurd z hw) hl hf hr hz (hc.add (o := (0, (nvq g N q : Int), [])) ha hfa rfl v6 (show ¬ (0 : Nat) = 7 by decide)) (appT ?_)
        · rw [hS]
          exact P_nf n40 (by omega) hb
        · rw [hT]
          have e := E_nf (T := tkq g N) (N := nxq g N) (F := 1001) (V := nvq g N) (Lw := ltq g N) (kn := knK (ltq g N) K M) (K := K) (M := M) (k := k) (f := f) (fs := fs) (w := w) (ws := ws) (q := q) n40 (Or.inl e59) hb
          rw [if_pos e59] at e
          exact congrArg (C ++ ·) e
      · have n59 : ¬ tkq g N q = 259 := by
          rcases hMX.sg.2.2.2 with ⟨z, _⟩ | ⟨_, z, _, _⟩ | ⟨_, z, _⟩ | ⟨z, _, _⟩ <;> omega
        obtain ⟨e2, k2⟩ := wk 17 (by decide) _ _ _ (by decide) hm2
        rw [e2] at h
        rcases h with ⟨c3, r3, s3, hm3, _, _, _, h⟩ | ⟨c3, s3, ha, hfa, _, _, s4, hl, hf, _, hr, ht⟩
        · obtain ⟨e3, k3⟩ := wk 18 (by decide) _ _ _ (by decide) hm3
          rw [e3] at h
          rcases h with ⟨c4, r4, s4, hm4, _, _, _, h⟩ | ⟨c4, s4, ha, hfa, _, _, s5, hl, hf, _, hr, ht⟩
          · obtain ⟨e4, k4⟩ := wk 19 (by decide) _ _ _ (by decide) hm4
            rw [e4] at h
            rcases h with ⟨c5, r5, s5, hm5, _, _, _, h⟩ | ⟨c5, s5, ha, hfa, _, _, s6, hl, hf, _, hr, ht⟩
            · obtain ⟨e5', k5⟩ := wk 20 (by decide) _ _ _ (by decide) hm5
              rw [e5'] at h
              rcases h with ⟨c6, r6, s6, hm6, _, _, _, h⟩ | ⟨c6, s6, ha, hfa, _, _, s7, hl, hf, _, hr, ht⟩
              · obtain ⟨e6, k6⟩ := wk 21 (by decide) _ _ _ (by decide) hm6
                rw [e6] at h
                rcases h with ⟨c7, s7, _, _, _, z, _, ht⟩ | ⟨c7, s7, ha, hfa, _, _, s8, hl, hf, _, hr, ht⟩
                · rw [ht] at hz
                  exact absurd hz z
                · have y : tkq g N q = 261 + 21 := by rcases k6 with k | k; exact k.2; exact absurd k.1 c7
                  exact fact _ _ _ (by omega) (by omega) (by omega) ha hfa hl hf hr ht
              · have y : tkq g N q = 261 + 20 := by rcases k5 with k | k; exact k.2; exact absurd k.1 c6
                exact fact _ _ _ (by omega) (by omega) (by omega) ha hfa hl hf hr ht
            · have y : tkq g N q = 261 + 19 := by rcases k4 with k | k; exact k.2; exact absurd k.1 c5
              exact fact _ _ _ (by omega) (by omega) (by omega) ha hfa hl hf hr ht
          · have y : tkq g N q = 261 + 18 := by rcases k3 with k | k; exact k.2; exact absurd k.1 c4
            exact fact _ _ _ (by omega) (by omega) (by omega) ha hfa hl hf hr ht
        · have y : tkq g N q = 261 + 17 := by rcases k2 with k | k; exact k.2; exact absurd k.1 c3
          exact fact _ _ _ (by omega) (by omega) (by omega) ha hfa hl hf hr ht
    · have e40 : tkq g N q = 40 := by rcases k1 with k | k <;> omega
      obtain ⟨h1, h2, h3, h4, h5, h6, h7, h8⟩ := hM
      have hk5 := low_k h7
      rw [ht] at hz ⊢
      refine openC (k2 := 3) hN hg (fun l8 => ?_) h1 (by omega) h2 h3 h4 h5 h6 ⟨Or.inl ⟨rfl, by omega⟩, h8, h7⟩ hm2 hr hz hc (fun l8 => ?_)
      · rw [hS]
        exact P_rd l8 e40 hb
      · rw [hT]
        have e := E_rd (T := tkq g N) (N := nxq g N) (F := 1001) (V := nvq g N) (Lw := ltq g N) (kn := knK (ltq g N) K M) (K := K) (M := M) (k := k) (f := f) (fs := fs) (w := w) (ws := ws) (q := q) l8 e40 (b2 := true) hb
        exact congrArg (C ++ ·) e
end PartCo
