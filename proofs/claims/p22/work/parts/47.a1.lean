/-! the class's tape, in numbers -/
def TpX (g : Nat → Nat) (N : Nat) (s : PS) : Prop := (∀ i, s 32 i = (g i : Int)) ∧ s 31 1 = (N : Int)
def OWX (s : PS) : Prop := ∀ i : Nat, (h : i < 22) → s 33 i = ((e5 (ownW[i]'(by show i < 22; exact h)) : Nat) : Int)
theorem TpX.cg {g : Nat → Nat} {N : Nat} {s t : PS} (h : TpX g N s) (e1 : t 32 = s 32) (e2 : t 31 1 = s 31 1) : TpX g N t := ⟨fun i => by rw [e1]; exact h.1 i, by rw [e2]; exact h.2⟩
theorem OWX.cg {s t : PS} (h : OWX s) (e : t 33 = s 33) : OWX t := fun i hi => by rw [e]; exact h i hi
theorem tyX_len {s : PS} (h : TyX s) : 0 ≤ s 31 1 ∧ s 31 1 ≤ 1000 := h.1 (31, 1, 0, 1000) (by decide)
theorem tyX_pos {s : PS} (h : TyX s) : 0 ≤ s 31 3 ∧ s 31 3 ≤ 1000 := h.1 (31, 3, 0, 1000) (by decide)
theorem tyX_byt {s : PS} (h : TyX s) (i : Nat) : 0 ≤ s 32 i ∧ s 32 i ≤ 255 := h.2 (32, 0, 255) (by decide) i
theorem dgF_le {g : Nat → Nat} {s : Nat} (hg : ∀ i, g i ≤ 255) : ∀ k, dgF g s k + 23 ≤ 23 * 10 ^ k
  | 0 => by
    show 0 + 23 ≤ 23 * 10 ^ 0
    omega
  | k + 1 => by
    have ih := dgF_le (s := s) hg k
    have a := hg (s + k)
    show 10 * dgF g s k + (g (s + k) - 48) + 23 ≤ 23 * 10 ^ (k + 1)
    rw [Nat.pow_succ]
    omega
theorem dgF_5 {g : Nat → Nat} {s k : Nat} (hg : ∀ i, g i ≤ 255) (hk : k ≤ 5) : dgF g s k ≤ 2300000 := by
  have a := dgF_le (s := s) hg k
  have b : 10 ^ k ≤ 10 ^ 5 := Nat.pow_le_pow_right (by decide) hk
  have c : (10 : Nat) ^ 5 = 100000 := by decide
  omega
/-- a number's digits -/
theorem rdNum {g : Nat → Nat} {N a : Nat} (hN : N ≤ 1000) (hg : ∀ i, g i ≤ 255) : ∀ (n p : Nat) (s : PS) (r : Int) (t : PS), It_X10_readNumber n s r t → TpX g N s → s 31 3 = (p : Int) → s 31 5 = (a : Int) → a ≤ p → p ≤ N → (∀ i, a ≤ i → i < p → i < N ∧ bD (g i) = true) → p - a ≤ 5 → s 31 7 = (dgF g a (p - a) : Int) → (5 < rn bD g N a - a → t 31 4 = 257) ∧ (¬ 5 < rn bD g N a - a → t 31 4 = 259 ∧ t 31 3 = (rn bD g N a : Int) ∧ t 31 5 = (a : Int) ∧ t 31 7 = (dgF g a (rn bD g N a - a) : Int))
  | 0, p, s, r, t, h, _, _, _, _, _, _, _, _ => False.elim h
  | n + 1, p, s, r, t, h, hT, h3, h5, hap, hpN, hall, hk, h7 => by
    have h := ul_X10_readNumber_5 h
    unfold T_X10_readNumber_5 at h
    obtain ⟨hty, h⟩ := h
    have hb : s 32 (s 31 3).toNat = (g p : Int) := by rw [h3, Int.toNat_natCast]; exact hT.1 p
    rw [hb, hT.2, h3, h5, h7] at h
    have fin : ¬ (p < N ∧ bD (g p) = true) → t = us s 31 4 259 → (5 < rn bD g N a - a → t 31 4 = 257) ∧ (¬ 5 < rn bD g N a - a → t 31 4 = 259 ∧ t 31 3 = (rn bD g N a : Int) ∧ t 31 5 = (a : Int) ∧ t 31 7 = (dgF g a (rn bD g N a - a) : Int)) := by
      intro hno et
      have er : rn bD g N a = p := rn_eq hap hall hno
      rw [er, et]
      refine ⟨fun q => absurd q (by omega), fun _ => ⟨us_at, ?_, ?_, ?_⟩⟩
      · rw [us_j (by decide), h3]
      · rw [us_j (by decide), h5]
      · rw [us_j (by decide), h7]
    rcases h with ⟨c1, s2, e2, _, es⟩ | ⟨c1, h⟩
    · exact fin (by omega) (es.trans e2)
    · rcases h with ⟨c2, s2, e2, _, es⟩ | ⟨c2, h⟩
      · exact fin (by rw [bD_iff]; omega) (es.trans e2)
      · rcases h with ⟨c3, s2, e2, _, es⟩ | ⟨c3, h⟩
        · exact fin (by rw [bD_iff]; omega) (es.trans e2)
        · have hd : bD (g p) = true := by rw [bD_iff]; omega
          rw [wi_id (by omega) (by omega)] at h
          rcases h with ⟨c4, s2, e2, s3, e3, _, es⟩ | ⟨c4, s2, e2, s3, e3, h⟩
          · have bad : 5 < rn bD g N a - a := by
              by_cases q : rn bD g N a ≤ p
              · by_cases r2 : rn bD g N a = p
                · have no := rn_no (P := bD) (g := g) (n := N) (p := a)
                  rw [r2] at no
                  exact absurd ⟨by omega, hd⟩ no
                · have ge : a ≤ rn bD g N a := rn_ge
                  have no := rn_no (P := bD) (g := g) (n := N) (p := a)
                  exact absurd (hall _ ge (by omega)) no
              · omega
            refine ⟨fun _ => ?_, fun q => absurd bad q⟩
            rw [es, e3, us_at]
          · have b5 := dgF_5 (s := a) (k := p - a) hg hk
            have gp := hg p
            rw [wi_id (z := (dgF g a (p - a) : Int) * 10) (by omega) (by omega), wi_id (z := (dgF g a (p - a) : Int) * 10 + (g p : Int)) (by omega) (by omega), wi_id (by omega) (by omega)] at e2
            have hs : p + 1 - a = (p - a) + 1 := by omega
            have hp : a + (p - a) = p := by omega
            refine rdNum hN hg n (p + 1) s3 r t h (hT.cg ?_ ?_) ?_ ?_ (by omega) (by omega) ?_ (by omega) ?_
            · rw [e3, us_k (by decide), e2, us_k (by decide)]
            · rw [e3, us_j (by decide), e2, us_j (by decide)]
            · rw [e3, us_at]
              omega
            · rw [e3, us_j (by decide), e2, us_j (by decide), h5]
            · intro i h1 h2
              by_cases q : i = p
              · rw [q]
                exact ⟨by omega, hd⟩
              · exact hall i h1 (by omega)
            · rw [e3, us_j (by decide), e2, us_at, hs]
              show _ = ((10 * dgF g a (p - a) + (g (a + (p - a)) - 48) : Nat) : Int)
              rw [hp]
              rw [bD_iff] at hd
              omega
