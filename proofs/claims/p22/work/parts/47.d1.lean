/-! the bytes of both tapes -/
def btX (x s : Int32) : Int32 := (x.toUInt32 >>> (s.toUInt32 &&& Int32.toUInt32 31)).toInt32 &&& 255
def btM (x s : Int32) : Int32 := (x >>> (s &&& 31)) &&& 255
theorem bt_same {x s : Int32} (h : s = 0 ∨ s = 8 ∨ s = 16 ∨ s = 24) : btX x s = btM x s := by
  apply Int32.toBitVec_inj.mp
  rcases h with h | h | h | h <;> subst h
  · show (x.toBitVec >>> (0 : Nat)) &&& 255#32 = (x.toBitVec.sshiftRight 0) &&& 255#32
    apply BitVec.eq_of_getLsbD_eq
    intro i hi
    simp
  · show (x.toBitVec >>> (8 : Nat)) &&& 255#32 = (x.toBitVec.sshiftRight 8) &&& 255#32
    apply BitVec.eq_of_getLsbD_eq
    intro i hi
    simp only [BitVec.getLsbD_and, BitVec.getLsbD_ushiftRight, BitVec.getLsbD_sshiftRight]
    by_cases q : i < 8
    · simp [show 8 + i < 32 by omega, hi, show ¬ 32 ≤ i by omega]
    · have z : (255#32).getLsbD i = false := by
        have : ∀ j : Fin 32, 8 ≤ j.val → (255#32).getLsbD j.val = false := by decide
        exact this ⟨i, hi⟩ (by show 8 ≤ i; omega)
      rw [z, Bool.and_false, Bool.and_false]
  · show (x.toBitVec >>> (16 : Nat)) &&& 255#32 = (x.toBitVec.sshiftRight 16) &&& 255#32
    apply BitVec.eq_of_getLsbD_eq
    intro i hi
    simp only [BitVec.getLsbD_and, BitVec.getLsbD_ushiftRight, BitVec.getLsbD_sshiftRight]
    by_cases q : i < 8
    · simp [show 16 + i < 32 by omega, hi, show ¬ 32 ≤ i by omega]
    · have z : (255#32).getLsbD i = false := by
        have : ∀ j : Fin 32, 8 ≤ j.val → (255#32).getLsbD j.val = false := by decide
        exact this ⟨i, hi⟩ (by show 8 ≤ i; omega)
      rw [z, Bool.and_false, Bool.and_false]
  · show (x.toBitVec >>> (24 : Nat)) &&& 255#32 = (x.toBitVec.sshiftRight 24) &&& 255#32
    apply BitVec.eq_of_getLsbD_eq
    intro i hi
    simp only [BitVec.getLsbD_and, BitVec.getLsbD_ushiftRight, BitVec.getLsbD_sshiftRight]
    by_cases q : i < 8
    · simp [show 24 + i < 32 by omega, hi, show ¬ 32 ≤ i by omega]
    · have z : (255#32).getLsbD i = false := by
        have : ∀ j : Fin 32, 8 ≤ j.val → (255#32).getLsbD j.val = false := by decide
        exact this ⟨i, hi⟩ (by show 8 ≤ i; omega)
      rw [z, Bool.and_false, Bool.and_false]
theorem by_eq {v k : Int} (h : k = 0 ∨ k = 8 ∨ k = 16 ∨ k = 24) : iAnd (iUsr v k) 255 = iAnd (iShr v k) 255 := by
  unfold iAnd iUsr iShr
  rw [Int32.ofInt_toInt, Int32.ofInt_toInt]
  have e := bt_same (x := Int32.ofInt v) (s := Int32.ofInt k) (by
    rcases h with h | h | h | h
    · exact Or.inl (by rw [h]; decide)
    · exact Or.inr (Or.inl (by rw [h]; decide))
    · exact Or.inr (Or.inr (Or.inl (by rw [h]; decide)))
    · exact Or.inr (Or.inr (Or.inr (by rw [h]; decide))))
  exact congrArg Int32.toInt e
/-- k bytes of v written at n and on -/
def wrB : Nat → Int → Nat → (Nat → Int) → (Nat → Int)
  | 0, _, _, f => f
  | k + 1, v, n, f => wrB k v (n + 1) (fun j => if j = n then iAnd (iShr v (8 * (k : Int))) 255 else f j)
theorem us_f {s : PS} {k n : Nat} {z : Int} : us s k n z k = fun j => if j = n then z else s k j := by
  funext j
  by_cases c : j = n
  · rw [if_pos c, c, us_at]
  · rw [if_neg c, us_j c]
theorem putX {v : Int} : ∀ (k m n : Nat) (x : Int) (s : PS) (r : Int) (t : PS), It_X10_put m 3 v x s r t → x = 8 * (k : Int) - 8 → k ≤ 4 → s 31 1 = (n : Int) → n + k ≤ 1000 → t 32 = wrB k v n (s 32) ∧ t 31 1 = ((n + k : Nat) : Int)
  | 0, m, n, x, s, r, t, h, hx, _, hn, _ => by
    cases m with
    | zero => exact False.elim h
    | succ m =>
      have h := ul_X10_put_3 h
      unfold T_X10_put_3 at h
      obtain ⟨_, _, ⟨_, _, e⟩ | ⟨c, _⟩⟩ := h
      · rw [e]
        exact ⟨rfl, hn⟩
      · exact absurd (by omega) c
  | k + 1, m, n, x, s, r, t, h, hx, hk, hn, hl => by
    cases m with
    | zero => exact False.elim h
    | succ m =>
      have h := ul_X10_put_3 h
      unfold T_X10_put_3 at h
      have ex : x = 8 * (k : Int) := by clear h; omega
      have ew : x = 0 ∨ x = 8 ∨ x = 16 ∨ x = 24 := by clear h; omega
      have en : (s 31 1).toNat = n := by rw [hn]; rfl
      obtain ⟨_, _, ⟨c, _⟩ | ⟨_, ⟨c, _⟩ | ⟨_, s1, e1, s2, e2, h⟩⟩⟩ := h
      · exact absurd c (by clear h; omega)
      · exact absurd c (by omega)
      · cases m with
        | zero => exact False.elim h
        | succ m =>
          have h := ul_X10_put_43 h
          unfold T_X10_put_43 at h
          obtain ⟨_, _, h⟩ := h
          rw [en] at e1
          have f1 : s2 31 1 = ((n + 1 : Nat) : Int) := by
            rw [e2, us_at, hn]
            rfl
          have f2 : s2 32 = fun j => if j = n then iAnd (iShr v (8 * (k : Int))) 255 else s 32 j := by
            rw [e2, us_k (by decide), e1, us_f, by_eq ew, ex]
          have z := putX k m (n + 1) _ s2 r t h (by clear h; omega) (by omega) f1 (by omega)
          refine ⟨?_, ?_⟩
          · rw [z.1, f2]
            rfl
          · rw [z.2]
            congr 1
            omega
theorem putM {v : Int} : ∀ (k m n : Nat) (x : Int) (s : PS) (r : Int) (t : PS), It_X12_put m v x s r t → x = 8 * (k : Int) - 8 → k ≤ 4 → s 0 1 = (n : Int) → t 1 = wrB k v n (s 1) ∧ t 0 1 = ((n + k : Nat) : Int)
  | 0, m, n, x, s, r, t, h, hx, _, hn => by
    cases m with
    | zero => exact False.elim h
    | succ m =>
      have h := ul_X12_put_3 h
      unfold T_X12_put_3 at h
      obtain ⟨_, _, ⟨_, _, e⟩ | ⟨c, _⟩⟩ := h
      · rw [e]
        exact ⟨rfl, hn⟩
      · exact absurd (by omega) c
  | k + 1, m, n, x, s, r, t, h, hx, hk, hn => by
    cases m with
    | zero => exact False.elim h
    | succ m =>
      have h := ul_X12_put_3 h
      unfold T_X12_put_3 at h
      have ex : x = 8 * (k : Int) := by clear h; omega
      have en : (s 0 1).toNat = n := by rw [hn]; rfl
      obtain ⟨_, _, ⟨c, _⟩ | ⟨_, s1, e1, s2, e2, h⟩⟩ := h
      · exact absurd c (by clear h; omega)
      · rw [en] at e1
        have q0 : s1 0 1 = (n : Int) := by
          rw [e1, us_k (by decide)]
          exact hn
        have f1 : s2 0 1 = ((n + 1 : Nat) : Int) := by
          rw [e2, us_at, hn]
          rfl
        have f2 : s2 1 = fun j => if j = n then iAnd (iShr v (8 * (k : Int))) 255 else s 1 j := by
          rw [e2, us_k (by decide), e1, us_f, ex]
        have z := putM k m (n + 1) _ s2 r t h (by clear h; omega) (by omega) f1
        refine ⟨?_, ?_⟩
        · rw [z.1, f2]
          rfl
        · rw [z.2]
          congr 1
          omega
/-- both tapes: the same bytes, the same length -/
def TT (s u : PS) : Prop := s 32 = u 1 ∧ s 31 1 = u 0 1
theorem put2 {s t u v : PS} {x r r2 : Int} (hT : TT s u) (h0 : 0 ≤ s 31 1) (hl : s 31 1 + 4 ≤ 1000) (h1 : M_X10_put s x r t) (h2 : M_X12_put u x r2 v) : TT t v ∧ t 31 1 = s 31 1 + 4 := by
  obtain ⟨m1, h1⟩ := h1
  obtain ⟨m2, h2⟩ := h2
  unfold T_X10_put_e at h1
  unfold T_X12_put_e at h2
  have en : s 31 1 = (((s 31 1).toNat : Nat) : Int) := by clear h1 h2; omega
  have a := putX 4 m1 (s 31 1).toNat 24 s r t h1.2 (by decide) (by decide) en (by clear h1 h2; omega)
  have b := putM 4 m2 (s 31 1).toNat 24 u r2 v h2.2 (by decide) (by decide) (by rw [← hT.2]; exact en)
  refine ⟨⟨?_, ?_⟩, ?_⟩
  · rw [a.1, b.1, hT.1]
  · rw [a.2, b.2]
  · rw [a.2]
    clear h1 h2
    omega
theorem feed2 {s t u v : PS} {x1 x2 x3 x4 x5 r r2 : Int} (hT : TT s u) (h1 : M_X11_feed s x1 x2 x3 x4 x5 r t) (h2 : M_X12_feed u x1 x2 x3 x4 x5 r2 v) (h0 : 0 ≤ s 31 1) : TT t v := by
  unfold M_X11_feed T_X11_feed_e at h1
  unfold M_X12_feed T_X12_feed_e at h2
  obtain ⟨_, h1⟩ := h1
  obtain ⟨_, h2⟩ := h2
  rw [← hT.2] at h2
  rcases h1 with ⟨c1, s1, a1, _, _, s2, a2, _, _, s3, a3, _, _, s4, a4, _, _, s5, a5, _, _, _, es⟩ | ⟨c1, _, es⟩
  · rcases h2 with ⟨_, u1, b1, _, _, u2, b2, _, _, u3, b3, _, _, u4, b4, _, _, u5, b5, _, _, _, eu⟩ | ⟨c2, _⟩
    · have p1 := put2 hT h0 (by omega) a1 b1
      have p2 := put2 p1.1 (by omega) (by omega) a2 b2
      have p3 := put2 p2.1 (by omega) (by omega) a3 b3
      have p4 := put2 p3.1 (by omega) (by omega) a4 b4
      have p5 := put2 p4.1 (by omega) (by omega) a5 b5
      rw [es, eu]
      exact p5.1
    · exact absurd c1 c2
  · rcases h2 with ⟨c2, _⟩ | ⟨_, _, eu⟩
    · exact absurd c2 c1
    · rw [es, eu]
      exact hT
theorem end2 {s t u v : PS} {x r r2 : Int} (hT : TT s u) (h1 : M_X11_end s x r t) (h2 : M_X12_end u x r2 v) : TT t v := by
  unfold M_X11_end T_X11_end_e at h1
  unfold M_X12_end T_X12_end_e at h2
  obtain ⟨_, h1⟩ := h1
  obtain ⟨_, h2⟩ := h2
  rw [← hT.2] at h2
  rcases h1 with ⟨c1, _, es⟩ | ⟨c1, ⟨d1, s1, e1, _, es⟩ | ⟨d1, _, es⟩⟩
  · rcases h2 with ⟨c2, _, eu⟩ | ⟨c2, _⟩
    · rw [es, eu]
      exact hT
    · exact absurd c1 c2
  · rcases h2 with ⟨c2, _⟩ | ⟨c2, ⟨d2, u1, e2, _, eu⟩ | ⟨d2, _⟩⟩
    · exact absurd c2 c1
    · rw [es, eu, e1, e2]
      exact ⟨by rw [us_k (by decide), us_k (by decide)]; exact hT.1, by rw [us_at, us_at]⟩
    · exact absurd d1 d2
  · rcases h2 with ⟨c2, _⟩ | ⟨c2, ⟨d2, _⟩ | ⟨d2, _, eu⟩⟩
    · exact absurd c2 c1
    · exact absurd d2 d1
    · rw [es, eu]
      exact hT
/-- rules of the class: its answer -/
theorem rulesX {g : Nat → Nat} {N : Nat} {s t : PS} {r : Int} (hN : N ≤ 1000) (hg : ∀ i, g i ≤ 255) (h : M_X11_rules s r t) (hT : TpX g N s) (hO : OWX s) : r = rlA g N := by
  unfold M_X11_rules T_X11_rules_e at h
  obtain ⟨_, r2, s1, hm, _, _, _, s2, e2, h⟩ := h
  have k := allX hN hg hm hT hO
  unfold rlA
  rcases h with ⟨c, er, _⟩ | ⟨c, s3, _, s4, _, s5, _, _, _, s6, _, _, _, s7, _, s8, _, _, _, s9, _, er, _⟩
  · rcases k with ⟨k1, _⟩ | ⟨_, k2⟩
    · exact absurd (c.symm.trans k1) (by decide)
    · rw [k2]
      exact er
  · rcases k with ⟨_, b, q, k2, k3⟩ | ⟨k1, _⟩
    · rw [k2, er]
      obtain ⟨⟨_, _, k4, _⟩, ⟨_, _, k5, _⟩, _, _⟩ := k3
      rw [k4.1, k5]
    · exact absurd k1 c
/-- p4: rules of both, over the same text -/
theorem rules2 {s t u v : PS} {r r2 : Int} (hT : TT s u) (hO : OWX s) (hX : TyX s) (hM : TyM u) (h1 : M_X11_rules s r t) (h2 : M_X12_rules u r2 v) : r = r2 := by
  have ba : ∀ i, 0 ≤ u 1 i ∧ u 1 i ≤ 255 := fun i => tyM_byt hM i
  have ln : 0 ≤ u 0 1 ∧ u 0 1 ≤ 1000 := hM.1 (0, 1, 0, 1000) (by decide)
  have hb : ∀ i, u 1 i = (((u 1 i).toNat : Nat) : Int) := fun i => by
    have := ba i
    omega
  have hl : u 0 1 = (((u 0 1).toNat : Nat) : Int) := by omega
  have hg : ∀ i, (fun i => (u 1 i).toNat) i ≤ 255 := fun i => by
    have := ba i
    show (u 1 i).toNat ≤ 255
    omega
  have hN : (u 0 1).toNat ≤ 1000 := by omega
  have a := rulesX (g := fun i => (u 1 i).toNat) hN hg h1 ⟨fun i => by rw [hT.1]; exact hb i, by rw [hT.2]; exact hl⟩ hO
  have b := rulesM (g := fun i => (u 1 i).toNat) hN hg h2 hb hl
  rw [a, b]
