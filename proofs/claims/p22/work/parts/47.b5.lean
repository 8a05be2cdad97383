/-! the reference's reader: ahead of a part -/
/-- what may stand below a frame of kind k -/
def Low : Nat → List (Nat × Nat) → Prop
  | kt, [] => kt = 0 ∨ kt = 1 ∨ kt = 2
  | kt, (k, f) :: r => ((kt = 3 ∧ (k = 0 ∨ k = 3 ∨ ((k = 1 ∨ k = 4) ∧ f ≤ 1))) ∨ (kt = 4 ∧ (k = 1 ∨ k = 4)) ∨ (kt = 5 ∧ (k = 2 ∨ k = 5))) ∧ f ≤ 2 ∧ Low k r
def bI (b : Bool) : Int := if b = true then 1 else 0
/-- ahead of a part -/
def HdM (g : Nat → Nat) (N : Nat) (K M : List (List Nat)) (k f : Nat) (fs : List (Nat × Nat)) (b : Bool) (q : Nat) (s : PS) : Prop := MX g N q s ∧ BkM K M s ∧ s 0 32 = (fs.length : Int) + 1 ∧ s 0 33 = (fs.length : Int) ∧ fs.length ≤ 8 ∧ s 16 fs.length = (k : Int) ∧ s 17 fs.length = (f : Int) ∧ s 18 fs.length = bI b ∧ FmM fs s ∧ Low k fs ∧ (b = true → f = 0) ∧ (k = 2 ∨ k = 5 → b = true) ∧ (b = false → k = 0 ∨ k = 3 ∨ f ≤ 1) ∧ f ≤ 2
/-- behind one -/
def TlM (g : Nat → Nat) (N : Nat) (K M : List (List Nat)) (k f : Nat) (fs : List (Nat × Nat)) (q : Nat) (s : PS) : Prop := MX g N q s ∧ BkM K M s ∧ s 0 32 = (fs.length : Int) + 1 ∧ s 0 33 = (fs.length : Int) ∧ fs.length ≤ 8 ∧ FmM ((k, f) :: fs) s ∧ Low k fs ∧ f ≤ 2 ∧ (k = 2 ∨ k = 5 → f = 2)
section PartM
variable {g : Nat → Nat} {N q k f : Nat} {s t u : PS} {r : Int} {K M : List (List Nat)} {fs : List (Nat × Nat)} {b : Bool}
theorem low_k : ∀ {kt : Nat} {fs : List (Nat × Nat)}, Low kt fs → kt ≤ 5
  | kt, [], h => by
    have h2 : kt = 0 ∨ kt = 1 ∨ kt = 2 := h
    omega
  | kt, (k, f) :: r, h => by
    have h2 := h.1
    omega
/-- the word behind which nothing of the frames is changed by a look -/
theorem FmM.fr {ms : List Nat} {fm : List (Nat × Nat)} (h : FmM fs s) (hf : Fr intsM ms fm s t) (c : 16 ∉ ms ∧ 17 ∉ ms ∧ 18 ∉ ms) : FmM fs t := h.cg (fun i _ => ⟨by rw [hf.1 16 c.1], by rw [hf.1 17 c.2.1], by rw [hf.1 18 c.2.2]⟩)
abbrev SpM (g : Nat → Nat) (N : Nat) (K M : List (List Nat)) (k f : Nat) (fs : List (Nat × Nat)) (b : Bool) (q : Nat) : Option Nat := conB (tkq g N) (nxq g N) 1001 (knK (ltq g N) K M) k f fs b q
abbrev StM (g : Nat → Nat) (N : Nat) (K M : List (List Nat)) (k f : Nat) (fs : List (Nat × Nat)) (q : Nat) : Option Nat := conA (tkq g N) (nxq g N) 1001 (knK (ltq g N) K M) ((k, f) :: fs) false q
/-- what a part comes to -/
def PaR (g : Nat → Nat) (N : Nat) (K M : List (List Nat)) (S : Option Nat) (r : Int) (t : PS) : Prop := (¬ t 0 8 = 0 ∧ Bd (tkq g N) S) ∨ (r = 0 ∧ ∃ k f fs b q, S = SpM g N K M k f fs b q ∧ HdM g N K M k f fs b q t) ∨ (r = 1 ∧ ∃ k f fs q, S = StM g N K M k f fs q ∧ TlM g N K M k f fs q t)
/-- a look behind a part's last sign: the frame's top as it is to be -/
theorem endPart (hN : N ≤ 1000) (hg : ∀ i, g i ≤ 255) {S : Option Nat} {f2 : Nat} (hS : S = StM g N K M k f2 fs (nxq g N q)) (hW : MW g N q s) (hB : BkM K M s) (h32 : s 0 32 = (fs.length : Int) + 1) (h33 : s 0 33 = (fs.length : Int)) (hl : fs.length ≤ 8) (hF : FmM ((k, f2) :: fs) s) (hL : Low k fs) (hf2 : f2 ≤ 2) (hk : k = 2 ∨ k = 5 → f2 = 2) (h : M_X12_looks s 0 t) (hf : Fr intsM [0] [(0, 3), (0, 4), (0, 5), (0, 6), (0, 7), (0, 8), (0, 9)] s t) (hr : r = 1) : PaR g N K M S r t := by
  rcases lookX hN hg hW h hf with ⟨k1, k2⟩ | k1
  · refine Or.inl ⟨k1, ?_⟩
    rw [hS]
    exact bad_conA k2
  · exact Or.inr (Or.inr ⟨hr, k, f2, fs, _, hS, k1, hB.fr hf (by decide), (hf.f (by decide) (by decide)).trans h32, (hf.f (by decide) (by decide)).trans h33, hl, hF.fr hf (by decide), hL, hf2, hk⟩)
/-- a bracket opens -/
theorem openM (hN : N ≤ 1000) (hg : ∀ i, g i ≤ 255) {S : Option Nat} {k2 : Nat} (hS8 : fs.length = 8 → S = none) (hS : fs.length < 8 → S = SpM g N K M k2 0 ((k, f) :: fs) true (nxq g N q)) (hM : MX g N q s) (h0 : ¬ tkq g N q = 256) (hB : BkM K M s) (h32 : s 0 32 = (fs.length : Int) + 1) (h33 : s 0 33 = (fs.length : Int)) (hl : fs.length ≤ 8) (hF : FmM ((k, f) :: fs) s) (hL : Low k2 ((k, f) :: fs)) (h : M_X12_opens s (k2 : Int) 0 t) (hr : r = 0) : PaR g N K M S r t := by
  unfold M_X12_opens T_X12_opens_e at h
  obtain ⟨ty, _, h⟩ := h
  rcases h with ⟨c, s1, hm, hf, _, c2, _, es⟩ | ⟨c, _, s1, e1, s2, hm2, hf2, _, s3, hm3, hf3, _, _, es⟩
  · refine Or.inl ⟨?_, Bd.non (hS8 (by omega))⟩
    rw [es]
    omega
  · have l8 : fs.length < 8 := by omega
    have W1 : MW g N q s1 := (hM.mw h0).cg (by rw [e1, us_k (by decide)]) (by rw [e1, us_j (by decide)]) (by rw [e1, us_j (by decide)]) (by rw [e1, us_j (by decide)])
    have F1 : FmM ((k, f) :: fs) s1 := hF.cg (fun i _ => ⟨by rw [e1, us_k (by decide)], by rw [e1, us_k (by decide)], by rw [e1, us_k (by decide)]⟩)
    have B1 : BkM K M s1 := hB.cg (by rw [e1, us_j (by decide)]) (by rw [e1, us_k (by decide)]) (by rw [e1, us_k (by decide)]) (by rw [e1, us_k (by decide)]) (by rw [e1, us_k (by decide)])
    have z32 : s2 0 32 = ((fs.length + 1 : Nat) : Int) := by
      rw [hf2.f (by decide) (by decide), e1, us_j (by decide), h32]
      omega
    have z33 : s2 0 33 = (fs.length : Int) + 1 := by rw [hf2.f (by decide) (by decide), e1, us_at, h33]
    have e3 := pushM hm3
    rw [z32, Int.toNat_natCast] at e3
    have k16 : s3 16 (fs.length + 1) = (k2 : Int) := by rw [e3, us_k (by decide), us_k (by decide), us_k (by decide), us_k (by decide), us_at]
    have k17 : s3 17 (fs.length + 1) = 0 := by rw [e3, us_k (by decide), us_k (by decide), us_k (by decide), us_at]
    have k18 : s3 18 (fs.length + 1) = 1 := by rw [e3, us_k (by decide), us_k (by decide), us_at]
    rcases lookX hN hg W1 hm2 hf2 with ⟨k1, kb⟩ | k1
    · refine Or.inl ⟨?_, ?_⟩
      · rw [es, e3, us_j (by decide), us_k (by decide), us_k (by decide), us_k (by decide), us_k (by decide)]
        exact k1
      · rw [hS l8]
        exact Bd.non (bad_conB kb)
    · refine Or.inr (Or.inl ⟨hr, k2, 0, (k, f) :: fs, true, nxq g N q, hS l8, ?_, ?_, ?_, ?_, ?_, ?_, ?_, ?_, ?_, hL, fun _ => rfl, fun _ => rfl, fun z => absurd z (by decide), by decide⟩)
      · rw [es]
        refine k1.cg (by rw [e3, us_k (by decide), us_k (by decide), us_k (by decide), us_k (by decide), us_k (by decide)]) (fun j j1 j2 => ?_)
        rw [e3, us_j (by omega), us_k (by decide), us_k (by decide), us_k (by decide), us_k (by decide)]
      · rw [es]
        refine (B1.fr hf2 (by decide)).cg ?_ ?_ ?_ ?_ ?_
        · rw [e3, us_j (by decide), us_k (by decide), us_k (by decide), us_k (by decide), us_k (by decide)]
        · rw [e3, us_k (by decide), us_k (by decide), us_k (by decide), us_k (by decide), us_k (by decide)]
        · rw [e3, us_k (by decide), us_k (by decide), us_k (by decide), us_k (by decide), us_k (by decide)]
        · rw [e3, us_k (by decide), us_k (by decide), us_k (by decide), us_k (by decide), us_k (by decide)]
        · rw [e3, us_k (by decide), us_k (by decide), us_k (by decide), us_k (by decide), us_k (by decide)]
      · rw [es, e3, us_at, List.length_cons]
      · rw [es, e3, us_j (by decide), us_k (by decide), us_k (by decide), us_k (by decide), us_k (by decide), z33, List.length_cons]
        omega
      · rw [List.length_cons]
        omega
      · rw [es, List.length_cons, k16]
      · rw [es, List.length_cons, k17]
        rfl
      · rw [es, List.length_cons, k18]
        rfl
      · rw [es]
        have F2 : FmM ((k, f) :: fs) s2 := F1.fr hf2 (by decide)
        refine F2.cg (fun i hi => ?_)
        rw [List.length_cons] at hi
        have ni : ¬ i = fs.length + 1 := by omega
        refine ⟨?_, ?_, ?_⟩
        · rw [e3, us_k (by decide), us_k (by decide), us_k (by decide), us_k (by decide), us_j ni]
        · rw [e3, us_k (by decide), us_k (by decide), us_k (by decide), us_j ni, us_k (by decide)]
        · rw [e3, us_k (by decide), us_k (by decide), us_j ni, us_k (by decide), us_k (by decide)]
end PartM
