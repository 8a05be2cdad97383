/-! the bank that isn't read into keeps its codes -/
section OldCodes
def OKC (o : Nat) (s t : PS) : Prop := t 0 13 = s 0 13 ∧ (∀ j, 168 * o ≤ j → j < 168 * o + 168 → t 12 j = s 12 j) ∧ (∀ j, 2200 * o ≤ j → j < 2200 * o + 2200 → t 13 j = s 13 j) ∧ t 14 o = s 14 o ∧ ∀ j, 1100 * o ≤ j → j < 1100 * o + 1100 → t 15 j = s 15 j
variable {o : Nat} {s t u : PS} {ms : List Nat} {fm : List (Nat × Nat)} {r : Int}
theorem OKC.refl : OKC o s s := ⟨rfl, fun _ _ _ => rfl, fun _ _ _ => rfl, rfl, fun _ _ _ => rfl⟩
theorem OKC.trans (h : OKC o s t) (k : OKC o t u) : OKC o s u := ⟨k.1.trans h.1, fun j a b => (k.2.1 j a b).trans (h.2.1 j a b), fun j a b => (k.2.2.1 j a b).trans (h.2.2.1 j a b), k.2.2.2.1.trans h.2.2.2.1, fun j a b => (k.2.2.2.2 j a b).trans (h.2.2.2.2 j a b)⟩
abbrev okOC (ms : List Nat) (fm : List (Nat × Nat)) : Prop := (12 ∉ ms ∧ 13 ∉ ms ∧ 14 ∉ ms ∧ 15 ∉ ms) ∧ (0 ∉ ms ∨ (0 ∈ fm.map Prod.fst ∧ (0, 13) ∉ fm))
theorem OKC.of (e0 : t 0 13 = s 0 13) (e12 : t 12 = s 12) (e13 : t 13 = s 13) (e14 : t 14 = s 14) (e15 : t 15 = s 15) : OKC o s t := ⟨e0, fun _ _ _ => by rw [e12], fun _ _ _ => by rw [e13], by rw [e14], fun _ _ _ => by rw [e15]⟩
theorem OKC.fr (hf : Fr intsM ms fm s t) (c : okOC ms fm) : OKC o s t := OKC.of (hf.f (by decide) c.2) (hf.1 12 c.1.1) (hf.1 13 c.1.2.1) (hf.1 14 c.1.2.2.1) (hf.1 15 c.1.2.2.2)
theorem OKC.us0 {j : Nat} {v : Int} (h : ¬ 13 = j) : OKC o s (us s 0 j v) := OKC.of (us_n (fun e => h e.2)) (us_k (by decide)) (us_k (by decide)) (us_k (by decide)) (us_k (by decide))
theorem OKC.usk {k j : Nat} {v : Int} (h : ¬ k = 0 ∧ ¬ k = 12 ∧ ¬ k = 13 ∧ ¬ k = 14 ∧ ¬ k = 15) : OKC o s (us s k j v) := OKC.of (us_n (fun e => h.1 e.1.symm)) (us_k (fun e => h.2.1 e.symm)) (us_k (fun e => h.2.2.1 e.symm)) (us_k (fun e => h.2.2.2.1 e.symm)) (us_k (fun e => h.2.2.2.2 e.symm))
theorem OKC.u12 {j : Nat} {v : Int} (ho : o ≤ 1) (hj : ¬ (168 * o ≤ j ∧ j < 168 * o + 168)) : OKC o s (us s 12 j v) := ⟨us_n (by omega), fun i h1 h2 => us_n (by omega), fun i _ _ => us_n (by omega), us_n (by omega), fun i _ _ => us_n (by omega)⟩
theorem OKC.u13 {j : Nat} {v : Int} (ho : o ≤ 1) (hj : ¬ (2200 * o ≤ j ∧ j < 2200 * o + 2200)) : OKC o s (us s 13 j v) := ⟨us_n (by omega), fun i h1 h2 => us_n (by omega), fun i _ _ => us_n (by omega), us_n (by omega), fun i _ _ => us_n (by omega)⟩
theorem OKC.u14 {c v : Int} (ho : o ≤ 1) (hc : c = 1 - (o : Int)) : OKC o s (us s 14 c.toNat v) := ⟨us_n (by omega), fun i h1 h2 => us_n (by omega), fun i _ _ => us_n (by omega), us_n (by omega), fun i _ _ => us_n (by omega)⟩
theorem OKC.u15 {j : Nat} {v : Int} (ho : o ≤ 1) (hj : ¬ (1100 * o ≤ j ∧ j < 1100 * o + 1100)) : OKC o s (us s 15 j v) := ⟨us_n (by omega), fun i h1 h2 => us_n (by omega), fun i _ _ => us_n (by omega), us_n (by omega), fun i _ _ => us_n (by omega)⟩
theorem tyM_cds (h : TyM s) (i : Nat) : 0 ≤ s 14 i ∧ s 14 i ≤ 1100 := h.2 (14, 0, 1100) (by decide) i
/-- how many codes there can be ahead of one more -/
theorem add_lt {x y : Int} {a : Nat} (h : M_X12_add s x y r t) (ty : TyM t) (ha : (s 0 13).toNat = a) : 0 ≤ s 14 a ∧ s 14 a ≤ 1099 := by
  unfold M_X12_add T_X12_add_e at h
  obtain ⟨t1, _, s2, e2, s3, e3, s4, e4, _, es⟩ := h
  rw [ha] at e4
  have k : t 14 a = s 14 a + 1 := by rw [es, e4, us_at]
  have b := tyM_cds ty a
  have b2 := tyM_cds t1 a
  omega
theorem addOC {x y : Int} (h : M_X12_add s x y r t) (ty : TyM t) (ho : o ≤ 1) (h13 : s 0 13 = 1 - (o : Int)) : OKC o s t := by
  have b := add_lt h ty rfl
  unfold M_X12_add T_X12_add_e at h
  obtain ⟨_, _, s2, e2, s3, e3, s4, e4, _, es⟩ := h
  have k2 : OKC o s s2 := by
    rw [e2]
    exact OKC.u13 ho (by omega)
  have k3 : OKC o s2 s3 := by
    rw [e3]
    exact OKC.u13 ho (by omega)
  have k4 : OKC o s3 s4 := by
    rw [e4]
    exact OKC.u14 ho h13
  rw [es]
  exact (k2.trans k3).trans k4
theorem wantOC {s0 s1 : PS} {v x y : Int} (e : s1 = us s 15 ((1100 * (s0 0 13)) + (s0 14 (s0 0 13).toNat)).toNat v) (h13 : s0 0 13 = 1 - (o : Int)) (ho : o ≤ 1) (h : M_X12_add s1 x y r t) (ty : TyM t) (q : s 14 = s0 14) (k : OKC o s0 s) : OKC o s t := by
  have z : s1 0 13 = 1 - (o : Int) := by
    rw [e, us_k (by decide)]
    exact k.1.trans h13
  have b := add_lt h ty rfl
  have e14 : s1 14 = s0 14 := by rw [e, us_k (by decide), q]
  rw [e14, z, ← h13] at b
  refine OKC.trans ?_ (addOC h ty ho z)
  rw [e]
  exact OKC.u15 ho (by omega)
end OldCodes
theorem joinsOCL {o : Nat} (ho : o ≤ 1) : ∀ (n : Nat) (x0 : Int) (s : PS) (r : Int) (t : PS), It_X12_joins n x0 s r t → s 0 13 = 1 - (o : Int) → OKC o s t
  | 0, x0, s, r, t, h, _ => False.elim h
  | n + 1, x0, s, r, t, h, h13 => by
    have ih := joinsOCL ho n
    have k0 : OKC o s s := OKC.refl
    replace h := ul_X12_joins_0 h
    unfold T_X12_joins_0 at h
    obtain ⟨a0, h⟩ := h
    obtain ⟨a1, h⟩ := h
    rcases h with ⟨c2, h⟩ | ⟨c2, h⟩
    · obtain ⟨er, es⟩ := h
      rw [es]
      exact k0
    · obtain ⟨r_5, h⟩ := h
      obtain ⟨s_w_4, h⟩ := h
      obtain ⟨a3, h⟩ := h
      obtain ⟨a4, h⟩ := h
      have ka4 : OKC o s s_w_4 := k0.trans (OKC.fr a4 (by decide))
      obtain ⟨a5, h⟩ := h
      obtain ⟨a6, h⟩ := h
      rcases h with ⟨c7, h⟩ | ⟨c7, h⟩
      · obtain ⟨er, es⟩ := h
        rw [es]
        exact ka4
      · obtain ⟨s_w_9, e8, h⟩ := h
        have ke8 : OKC o s s_w_9 := ka4.trans (by rw [e8]; exact OKC.us0 (by decide))
        obtain ⟨s_w_10, h⟩ := h
        obtain ⟨a9, h⟩ := h
        obtain ⟨a10, h⟩ := h
        obtain ⟨a11, h⟩ := h
        have ka11 : OKC o s s_w_10 := ke8.trans (addOC a9 a11 ho (ke8.1.trans h13))
        exact ka11.trans (ih _ _ _ _ h (ka11.1.trans h13))
theorem joinsOC {o : Nat} {s t : PS} {r p1 : Int} (h : M_X12_joins s p1 r t) (_ : TyM t) (ho : o ≤ 1) (h13 : s 0 13 = 1 - (o : Int)) : OKC o s t := by
  obtain ⟨n, h⟩ := h
  have k0 : OKC o s s := OKC.refl
  unfold T_X12_joins_e at h
  obtain ⟨a0, h⟩ := h
  obtain ⟨a1, h⟩ := h
  rcases h with ⟨c2, h⟩ | ⟨c2, h⟩
  · obtain ⟨er, es⟩ := h
    rw [es]
    exact k0
  · obtain ⟨r_18, h⟩ := h
    obtain ⟨s_w_17, h⟩ := h
    obtain ⟨a3, h⟩ := h
    obtain ⟨a4, h⟩ := h
    have ka4 : OKC o s s_w_17 := k0.trans (OKC.fr a4 (by decide))
    obtain ⟨a5, h⟩ := h
    obtain ⟨a6, h⟩ := h
    rcases h with ⟨c7, h⟩ | ⟨c7, h⟩
    · obtain ⟨er, es⟩ := h
      rw [es]
      exact ka4
    · obtain ⟨s_w_22, e8, h⟩ := h
      have ke8 : OKC o s s_w_22 := ka4.trans (by rw [e8]; exact OKC.us0 (by decide))
      obtain ⟨s_w_23, h⟩ := h
      obtain ⟨a9, h⟩ := h
      obtain ⟨a10, h⟩ := h
      obtain ⟨a11, h⟩ := h
      have ka11 : OKC o s s_w_23 := ke8.trans (addOC a9 a11 ho (ke8.1.trans h13))
      exact ka11.trans (joinsOCL ho n _ _ _ _ h (ka11.1.trans h13))
theorem atomOC {o : Nat} {s t : PS} {r p1 : Int} (h : M_X12_atom s p1 r t) (_ : TyM t) (ho : o ≤ 1) (h13 : s 0 13 = 1 - (o : Int)) : OKC o s t := by
  have k0 : OKC o s s := OKC.refl
  unfold M_X12_atom T_X12_atom_e at h
  obtain ⟨a0, h⟩ := h
  obtain ⟨a1, h⟩ := h
  obtain ⟨r_2, h⟩ := h
  obtain ⟨s_w_1, h⟩ := h
  obtain ⟨a2, h⟩ := h
  obtain ⟨a3, h⟩ := h
  have ka3 : OKC o s s_w_1 := k0.trans (OKC.fr a3 (by decide))
  obtain ⟨a4, h⟩ := h
  obtain ⟨a5, h⟩ := h
  rcases h with ⟨c6, h⟩ | ⟨c6, h⟩
  · rcases h with ⟨c7, h⟩ | ⟨c7, h⟩
    · obtain ⟨r_16, h⟩ := h
      obtain ⟨s_w_15, h⟩ := h
      obtain ⟨a8, h⟩ := h
      obtain ⟨a9, h⟩ := h
      have ka9 : OKC o s s_w_15 := ka3.trans (OKC.fr a9 (by decide))
      obtain ⟨a10, h⟩ := h
      obtain ⟨a11, h⟩ := h
      rcases h with ⟨c12, h⟩ | ⟨c12, h⟩
      · obtain ⟨a13, h⟩ := h
        obtain ⟨r_21, h⟩ := h
        obtain ⟨s_w_20, h⟩ := h
        obtain ⟨a14, h⟩ := h
        obtain ⟨a15, h⟩ := h
        have ka15 : OKC o s s_w_20 := ka9.trans (OKC.fr a15 (by decide))
        obtain ⟨a16, h⟩ := h
        obtain ⟨a17, h⟩ := h
        obtain ⟨r_24, h⟩ := h
        obtain ⟨s_w_23, h⟩ := h
        obtain ⟨a18, h⟩ := h
        obtain ⟨a19, h⟩ := h
        have ka19 : OKC o s s_w_23 := ka15.trans (OKC.fr a19 (by decide))
        obtain ⟨a20, h⟩ := h
        obtain ⟨a21, h⟩ := h
        rcases h with ⟨c22, h⟩ | ⟨c22, h⟩
        · obtain ⟨a23, h⟩ := h
          obtain ⟨a24, h⟩ := h
          obtain ⟨s_w_29, h⟩ := h
          obtain ⟨a25, h⟩ := h
          obtain ⟨a26, h⟩ := h
          obtain ⟨a27, h⟩ := h
          have ka27 : OKC o s s_w_29 := ka19.trans (addOC a25 a27 ho (ka19.1.trans h13))
          obtain ⟨s_w_33, e28, h⟩ := h
          have ke28 : OKC o s s_w_33 := ka27.trans (by rw [e28]; exact OKC.usk (by decide))
          obtain ⟨a29, h⟩ := h
          obtain ⟨s_w_35, h⟩ := h
          obtain ⟨a30, h⟩ := h
          obtain ⟨a31, h⟩ := h
          have ka31 : OKC o s s_w_35 := ke28.trans (OKC.fr a31 (by decide))
          obtain ⟨a32, h⟩ := h
          obtain ⟨er, es⟩ := h
          rw [es]
          exact ka31
        · rcases h with ⟨c23, h⟩ | ⟨c23, h⟩
          · obtain ⟨a24, h⟩ := h
            obtain ⟨a25, h⟩ := h
            obtain ⟨s_w_44, h⟩ := h
            obtain ⟨a26, h⟩ := h
            obtain ⟨a27, h⟩ := h
            obtain ⟨a28, h⟩ := h
            have ka28 : OKC o s s_w_44 := ka19.trans (addOC a26 a28 ho (ka19.1.trans h13))
            obtain ⟨s_w_48, e29, h⟩ := h
            have ke29 : OKC o s s_w_48 := ka28.trans (by rw [e29]; exact OKC.usk (by decide))
            obtain ⟨a30, h⟩ := h
            obtain ⟨s_w_50, h⟩ := h
            obtain ⟨a31, h⟩ := h
            obtain ⟨a32, h⟩ := h
            have ka32 : OKC o s s_w_50 := ke29.trans (OKC.fr a32 (by decide))
            obtain ⟨a33, h⟩ := h
            obtain ⟨er, es⟩ := h
            rw [es]
            exact ka32
          · obtain ⟨s_w_56, h⟩ := h
            obtain ⟨a24, h⟩ := h
            obtain ⟨a25, h⟩ := h
            have ka25 : OKC o s s_w_56 := ka19.trans (OKC.fr a25 (by decide))
            obtain ⟨a26, h⟩ := h
            obtain ⟨a27, h⟩ := h
            obtain ⟨a28, h⟩ := h
            obtain ⟨s_w_64, h⟩ := h
            obtain ⟨a29, h⟩ := h
            obtain ⟨a30, h⟩ := h
            obtain ⟨a31, h⟩ := h
            have ka31 : OKC o s s_w_64 := ka25.trans (addOC a29 a31 ho (ka25.1.trans h13))
            obtain ⟨s_w_68, e32, h⟩ := h
            have ke32 : OKC o s s_w_68 := ka31.trans (by rw [e32]; exact OKC.usk (by decide))
            obtain ⟨a33, h⟩ := h
            obtain ⟨er, es⟩ := h
            rw [es]
            exact ke32
      · obtain ⟨s_w_70, h⟩ := h
        obtain ⟨a13, h⟩ := h
        obtain ⟨a14, h⟩ := h
        have ka14 : OKC o s s_w_70 := ka9.trans (OKC.fr a14 (by decide))
        obtain ⟨a15, h⟩ := h
        obtain ⟨a16, h⟩ := h
        obtain ⟨er, es⟩ := h
        rw [es]
        exact ka14
    · obtain ⟨s_w_8, h⟩ := h
      obtain ⟨a8, h⟩ := h
      obtain ⟨a9, h⟩ := h
      have ka9 : OKC o s s_w_8 := ka3.trans (OKC.fr a9 (by decide))
      obtain ⟨a10, h⟩ := h
      obtain ⟨a11, h⟩ := h
      obtain ⟨er, es⟩ := h
      rw [es]
      exact ka9
  · obtain ⟨s_w_77, h⟩ := h
    obtain ⟨a7, h⟩ := h
    obtain ⟨a8, h⟩ := h
    obtain ⟨a9, h⟩ := h
    have ka9 : OKC o s s_w_77 := ka3.trans (addOC a7 a9 ho (ka3.1.trans h13))
    obtain ⟨s_w_81, e10, h⟩ := h
    have ke10 : OKC o s s_w_81 := ka9.trans (by rw [e10]; exact OKC.usk (by decide))
    obtain ⟨a11, h⟩ := h
    obtain ⟨s_w_83, h⟩ := h
    obtain ⟨a12, h⟩ := h
    obtain ⟨a13, h⟩ := h
    have ka13 : OKC o s s_w_83 := ke10.trans (OKC.fr a13 (by decide))
    obtain ⟨a14, h⟩ := h
    obtain ⟨er, es⟩ := h
    rw [es]
    exact ka13
theorem partOCL {o : Nat} (ho : o ≤ 1) : ∀ (n pc : Nat) (x0 x1 x2 : Int) (s : PS) (r : Int) (t : PS), It_X12_part n pc x0 x1 x2 s r t → s 0 13 = 1 - (o : Int) → OKC o s t
  | 0, pc, x0, x1, x2, s, r, t, h, _ => False.elim h
  | n + 1, pc, x0, x1, x2, s, r, t, h, h13 => by
    have ih := partOCL ho n
    have k0 : OKC o s s := OKC.refl
    rcases h with ⟨_, h⟩ | ⟨_, h⟩ | ⟨_, h⟩ | ⟨_, h⟩
    · unfold T_X12_part_64 at h
      obtain ⟨a0, h⟩ := h
      obtain ⟨a1, h⟩ := h
      obtain ⟨a2, h⟩ := h
      obtain ⟨a3, h⟩ := h
      obtain ⟨r_195, h⟩ := h
      obtain ⟨s_w_194, h⟩ := h
      obtain ⟨a4, h⟩ := h
      obtain ⟨a5, h⟩ := h
      have ka5 : OKC o s s_w_194 := k0.trans (OKC.fr a5 (by decide))
      obtain ⟨a6, h⟩ := h
      obtain ⟨a7, h⟩ := h
      rcases h with ⟨c8, h⟩ | ⟨c8, h⟩
      · exact ka5.trans (ih _ _ _ _ _ _ _ h (ka5.1.trans h13))
      · rcases h with ⟨c9, h⟩ | ⟨c9, h⟩
        · exact ka5.trans (ih _ _ _ _ _ _ _ h (ka5.1.trans h13))
        · obtain ⟨s_w_200, e10, h⟩ := h
          have ke10 : OKC o s s_w_200 := ka5.trans (by rw [e10]; exact OKC.usk (by decide))
          obtain ⟨r_202, h⟩ := h
          obtain ⟨s_w_201, h⟩ := h
          obtain ⟨a11, h⟩ := h
          obtain ⟨a12, h⟩ := h
          have ka12 : OKC o s s_w_201 := ke10.trans (OKC.fr a12 (by decide))
          obtain ⟨a13, h⟩ := h
          obtain ⟨a14, h⟩ := h
          rcases h with ⟨c15, h⟩ | ⟨c15, h⟩
          · obtain ⟨s_w_206, h⟩ := h
            obtain ⟨a16, h⟩ := h
            obtain ⟨a17, h⟩ := h
            have ka17 : OKC o s s_w_206 := ka12.trans (OKC.fr a17 (by decide))
            obtain ⟨a18, h⟩ := h
            obtain ⟨er, es⟩ := h
            rw [es]
            exact ka17
          · obtain ⟨s_w_213, h⟩ := h
            obtain ⟨a16, h⟩ := h
            obtain ⟨a17, h⟩ := h
            have ka17 : OKC o s s_w_213 := ka12.trans (OKC.fr a17 (by decide))
            obtain ⟨a18, h⟩ := h
            obtain ⟨er, es⟩ := h
            rw [es]
            exact ka17
    · unfold T_X12_part_102 at h
      obtain ⟨a0, h⟩ := h
      obtain ⟨a1, h⟩ := h
      obtain ⟨a2, h⟩ := h
      obtain ⟨a3, h⟩ := h
      obtain ⟨s_w_163, e4, h⟩ := h
      have ke4 : OKC o s s_w_163 := k0.trans (by rw [e4]; exact OKC.usk (by decide))
      obtain ⟨r_165, h⟩ := h
      obtain ⟨s_w_164, h⟩ := h
      obtain ⟨a5, h⟩ := h
      obtain ⟨a6, h⟩ := h
      have ka6 : OKC o s s_w_164 := ke4.trans (OKC.fr a6 (by decide))
      obtain ⟨a7, h⟩ := h
      obtain ⟨a8, h⟩ := h
      rcases h with ⟨c9, h⟩ | ⟨c9, h⟩
      · rcases h with ⟨c10, h⟩ | ⟨c10, h⟩
        · exact ka6.trans (ih _ _ _ _ _ _ _ h (ka6.1.trans h13))
        · obtain ⟨r_172, h⟩ := h
          obtain ⟨s_w_171, h⟩ := h
          obtain ⟨a11, h⟩ := h
          obtain ⟨a12, h⟩ := h
          have ka12 : OKC o s s_w_171 := ka6.trans (OKC.fr a12 (by decide))
          obtain ⟨a13, h⟩ := h
          obtain ⟨a14, h⟩ := h
          rcases h with ⟨c15, h⟩ | ⟨c15, h⟩
          · exact ka12.trans (ih _ _ _ _ _ _ _ h (ka12.1.trans h13))
          · obtain ⟨s_w_177, h⟩ := h
            obtain ⟨a16, h⟩ := h
            obtain ⟨a17, h⟩ := h
            obtain ⟨a18, h⟩ := h
            have ka18 : OKC o s s_w_177 := ka12.trans (addOC a16 a18 ho (ka12.1.trans h13))
            obtain ⟨s_w_181, e19, h⟩ := h
            have ke19 : OKC o s s_w_181 := ka18.trans (by rw [e19]; exact OKC.usk (by decide))
            obtain ⟨s_w_182, h⟩ := h
            obtain ⟨a20, h⟩ := h
            obtain ⟨a21, h⟩ := h
            have ka21 : OKC o s s_w_182 := ke19.trans (OKC.fr a21 (by decide))
            obtain ⟨a22, h⟩ := h
            obtain ⟨er, es⟩ := h
            rw [es]
            exact ka21
      · obtain ⟨r_189, h⟩ := h
        obtain ⟨s_w_188, h⟩ := h
        obtain ⟨a10, h⟩ := h
        obtain ⟨a11, h⟩ := h
        obtain ⟨a12, h⟩ := h
        have ka12 : OKC o s s_w_188 := ka6.trans (atomOC a10 a12 ho (ka6.1.trans h13))
        obtain ⟨a13, h⟩ := h
        obtain ⟨er, es⟩ := h
        rw [es]
        exact ka12
    · unfold T_X12_part_156 at h
      obtain ⟨a0, h⟩ := h
      obtain ⟨a1, h⟩ := h
      obtain ⟨a2, h⟩ := h
      obtain ⟨a3, h⟩ := h
      rcases h with ⟨c4, h⟩ | ⟨c4, h⟩
      · exact k0.trans (ih _ _ _ _ _ _ _ h (k0.1.trans h13))
      · obtain ⟨r_119, h⟩ := h
        obtain ⟨s_w_118, h⟩ := h
        obtain ⟨a5, h⟩ := h
        obtain ⟨a6, h⟩ := h
        have qa6 : s_w_118 14 = s 14 := (a6.1 14 (by decide)).trans rfl
        have ka6 : OKC o s s_w_118 := k0.trans (OKC.fr a6 (by decide))
        obtain ⟨a7, h⟩ := h
        obtain ⟨a8, h⟩ := h
        rcases h with ⟨c9, h⟩ | ⟨c9, h⟩
        · exact ka6.trans (ih _ _ _ _ _ _ _ h (ka6.1.trans h13))
        · obtain ⟨s_w_124, h⟩ := h
          obtain ⟨a10, h⟩ := h
          obtain ⟨a11, h⟩ := h
          have qa11 : s_w_124 14 = s 14 := (a11.1 14 (by decide)).trans qa6
          have ka11 : OKC o s s_w_124 := ka6.trans (OKC.fr a11 (by decide))
          obtain ⟨a12, h⟩ := h
          rcases h with ⟨c13, h⟩ | ⟨c13, h⟩
          · obtain ⟨r_139, h⟩ := h
            obtain ⟨s_w_138, h⟩ := h
            obtain ⟨a14, h⟩ := h
            obtain ⟨a15, h⟩ := h
            have qa15 : s_w_138 14 = s 14 := (a15.1 14 (by decide)).trans qa11
            have ka15 : OKC o s s_w_138 := ka11.trans (OKC.fr a15 (by decide))
            obtain ⟨a16, h⟩ := h
            obtain ⟨a17, h⟩ := h
            rcases h with ⟨c18, h⟩ | ⟨c18, h⟩
            · rcases h with ⟨c19, h⟩ | ⟨c19, h⟩
              · obtain ⟨s_w_144, e20, h⟩ := h
                obtain ⟨s_w_145, h⟩ := h
                obtain ⟨a21, h⟩ := h
                obtain ⟨a22, h⟩ := h
                obtain ⟨a23, h⟩ := h
                have kea21 : OKC o s s_w_145 := ka15.trans (wantOC e20 (show s 0 13 = 1 - (o : Int) from h13) ho a21 a23 (qa15) (ka15))
                obtain ⟨s_w_149, e24, h⟩ := h
                have ke24 : OKC o s s_w_149 := kea21.trans (by rw [e24]; exact OKC.usk (by decide))
                obtain ⟨s_w_150, h⟩ := h
                obtain ⟨a25, h⟩ := h
                obtain ⟨a26, h⟩ := h
                have ka26 : OKC o s s_w_150 := ke24.trans (OKC.fr a26 (by decide))
                obtain ⟨a27, h⟩ := h
                obtain ⟨er, es⟩ := h
                rw [es]
                exact ka26
              · obtain ⟨er, es⟩ := h
                rw [es]
                exact ka15
            · obtain ⟨s_w_156, h⟩ := h
              obtain ⟨a19, h⟩ := h
              obtain ⟨a20, h⟩ := h
              have qa20 : s_w_156 14 = s 14 := (a20.1 14 (by decide)).trans qa15
              have ka20 : OKC o s s_w_156 := ka15.trans (OKC.fr a20 (by decide))
              obtain ⟨a21, h⟩ := h
              obtain ⟨a22, h⟩ := h
              obtain ⟨er, es⟩ := h
              rw [es]
              exact ka20
          · obtain ⟨s_w_131, h⟩ := h
            obtain ⟨a14, h⟩ := h
            obtain ⟨a15, h⟩ := h
            have qa15 : s_w_131 14 = s 14 := (a15.1 14 (by decide)).trans qa11
            have ka15 : OKC o s s_w_131 := ka11.trans (OKC.fr a15 (by decide))
            obtain ⟨a16, h⟩ := h
            obtain ⟨a17, h⟩ := h
            obtain ⟨er, es⟩ := h
            rw [es]
            exact ka15
    · unfold T_X12_part_258 at h
      obtain ⟨a0, h⟩ := h
      obtain ⟨a1, h⟩ := h
      obtain ⟨a2, h⟩ := h
      obtain ⟨a3, h⟩ := h
      obtain ⟨r_2, h⟩ := h
      obtain ⟨s_w_1, h⟩ := h
      obtain ⟨a4, h⟩ := h
      obtain ⟨a5, h⟩ := h
      have ka5 : OKC o s s_w_1 := k0.trans (OKC.fr a5 (by decide))
      obtain ⟨a6, h⟩ := h
      obtain ⟨a7, h⟩ := h
      rcases h with ⟨c8, h⟩ | ⟨c8, h⟩
      · rcases h with ⟨c9, h⟩ | ⟨c9, h⟩
        · obtain ⟨s_w_99, h⟩ := h
          obtain ⟨a10, h⟩ := h
          obtain ⟨a11, h⟩ := h
          obtain ⟨a12, h⟩ := h
          have ka12 : OKC o s s_w_99 := ka5.trans (addOC a10 a12 ho (ka5.1.trans h13))
          obtain ⟨a13, h⟩ := h
          obtain ⟨s_w_104, h⟩ := h
          obtain ⟨a14, h⟩ := h
          obtain ⟨a15, h⟩ := h
          have ka15 : OKC o s s_w_104 := ka12.trans (OKC.fr a15 (by decide))
          obtain ⟨a16, h⟩ := h
          obtain ⟨er, es⟩ := h
          rw [es]
          exact ka15
        · obtain ⟨r_8, h⟩ := h
          obtain ⟨s_w_7, h⟩ := h
          obtain ⟨a10, h⟩ := h
          obtain ⟨a11, h⟩ := h
          have ka11 : OKC o s s_w_7 := ka5.trans (OKC.fr a11 (by decide))
          obtain ⟨a12, h⟩ := h
          obtain ⟨a13, h⟩ := h
          rcases h with ⟨c14, h⟩ | ⟨c14, h⟩
          · obtain ⟨r_14, h⟩ := h
            obtain ⟨s_w_13, h⟩ := h
            obtain ⟨a15, h⟩ := h
            obtain ⟨a16, h⟩ := h
            have ka16 : OKC o s s_w_13 := ka11.trans (OKC.fr a16 (by decide))
            obtain ⟨a17, h⟩ := h
            obtain ⟨a18, h⟩ := h
            rcases h with ⟨c19, h⟩ | ⟨c19, h⟩
            · obtain ⟨r_20, h⟩ := h
              obtain ⟨s_w_19, h⟩ := h
              obtain ⟨a20, h⟩ := h
              obtain ⟨a21, h⟩ := h
              have ka21 : OKC o s s_w_19 := ka16.trans (OKC.fr a21 (by decide))
              obtain ⟨a22, h⟩ := h
              obtain ⟨a23, h⟩ := h
              rcases h with ⟨c24, h⟩ | ⟨c24, h⟩
              · obtain ⟨r_26, h⟩ := h
                obtain ⟨s_w_25, h⟩ := h
                obtain ⟨a25, h⟩ := h
                obtain ⟨a26, h⟩ := h
                have ka26 : OKC o s s_w_25 := ka21.trans (OKC.fr a26 (by decide))
                obtain ⟨a27, h⟩ := h
                obtain ⟨a28, h⟩ := h
                rcases h with ⟨c29, h⟩ | ⟨c29, h⟩
                · obtain ⟨r_32, h⟩ := h
                  obtain ⟨s_w_31, h⟩ := h
                  obtain ⟨a30, h⟩ := h
                  obtain ⟨a31, h⟩ := h
                  have ka31 : OKC o s s_w_31 := ka26.trans (OKC.fr a31 (by decide))
                  obtain ⟨a32, h⟩ := h
                  obtain ⟨a33, h⟩ := h
                  rcases h with ⟨c34, h⟩ | ⟨c34, h⟩
                  · obtain ⟨s_w_37, h⟩ := h
                    obtain ⟨a35, h⟩ := h
                    obtain ⟨a36, h⟩ := h
                    have ka36 : OKC o s s_w_37 := ka31.trans (OKC.fr a36 (by decide))
                    obtain ⟨a37, h⟩ := h
                    obtain ⟨a38, h⟩ := h
                    obtain ⟨er, es⟩ := h
                    rw [es]
                    exact ka36
                  · obtain ⟨s_w_44, h⟩ := h
                    obtain ⟨a35, h⟩ := h
                    obtain ⟨a36, h⟩ := h
                    obtain ⟨a37, h⟩ := h
                    have ka37 : OKC o s s_w_44 := ka31.trans (addOC a35 a37 ho (ka31.1.trans h13))
                    obtain ⟨a38, h⟩ := h
                    obtain ⟨s_w_49, h⟩ := h
                    obtain ⟨a39, h⟩ := h
                    obtain ⟨a40, h⟩ := h
                    have ka40 : OKC o s s_w_49 := ka37.trans (OKC.fr a40 (by decide))
                    obtain ⟨a41, h⟩ := h
                    obtain ⟨er, es⟩ := h
                    rw [es]
                    exact ka40
                · obtain ⟨s_w_55, h⟩ := h
                  obtain ⟨a30, h⟩ := h
                  obtain ⟨a31, h⟩ := h
                  obtain ⟨a32, h⟩ := h
                  have ka32 : OKC o s s_w_55 := ka26.trans (addOC a30 a32 ho (ka26.1.trans h13))
                  obtain ⟨a33, h⟩ := h
                  obtain ⟨s_w_60, h⟩ := h
                  obtain ⟨a34, h⟩ := h
                  obtain ⟨a35, h⟩ := h
                  have ka35 : OKC o s s_w_60 := ka32.trans (OKC.fr a35 (by decide))
                  obtain ⟨a36, h⟩ := h
                  obtain ⟨er, es⟩ := h
                  rw [es]
                  exact ka35
              · obtain ⟨s_w_66, h⟩ := h
                obtain ⟨a25, h⟩ := h
                obtain ⟨a26, h⟩ := h
                obtain ⟨a27, h⟩ := h
                have ka27 : OKC o s s_w_66 := ka21.trans (addOC a25 a27 ho (ka21.1.trans h13))
                obtain ⟨a28, h⟩ := h
                obtain ⟨s_w_71, h⟩ := h
                obtain ⟨a29, h⟩ := h
                obtain ⟨a30, h⟩ := h
                have ka30 : OKC o s s_w_71 := ka27.trans (OKC.fr a30 (by decide))
                obtain ⟨a31, h⟩ := h
                obtain ⟨er, es⟩ := h
                rw [es]
                exact ka30
            · obtain ⟨s_w_77, h⟩ := h
              obtain ⟨a20, h⟩ := h
              obtain ⟨a21, h⟩ := h
              obtain ⟨a22, h⟩ := h
              have ka22 : OKC o s s_w_77 := ka16.trans (addOC a20 a22 ho (ka16.1.trans h13))
              obtain ⟨a23, h⟩ := h
              obtain ⟨s_w_82, h⟩ := h
              obtain ⟨a24, h⟩ := h
              obtain ⟨a25, h⟩ := h
              have ka25 : OKC o s s_w_82 := ka22.trans (OKC.fr a25 (by decide))
              obtain ⟨a26, h⟩ := h
              obtain ⟨er, es⟩ := h
              rw [es]
              exact ka25
          · obtain ⟨s_w_88, h⟩ := h
            obtain ⟨a15, h⟩ := h
            obtain ⟨a16, h⟩ := h
            obtain ⟨a17, h⟩ := h
            have ka17 : OKC o s s_w_88 := ka11.trans (addOC a15 a17 ho (ka11.1.trans h13))
            obtain ⟨a18, h⟩ := h
            obtain ⟨s_w_93, h⟩ := h
            obtain ⟨a19, h⟩ := h
            obtain ⟨a20, h⟩ := h
            have ka20 : OKC o s s_w_93 := ka17.trans (OKC.fr a20 (by decide))
            obtain ⟨a21, h⟩ := h
            obtain ⟨er, es⟩ := h
            rw [es]
            exact ka20
      · obtain ⟨s_w_110, h⟩ := h
        obtain ⟨a9, h⟩ := h
        obtain ⟨a10, h⟩ := h
        have ka10 : OKC o s s_w_110 := ka5.trans (OKC.fr a10 (by decide))
        obtain ⟨a11, h⟩ := h
        obtain ⟨er, es⟩ := h
        rw [es]
        exact ka10
theorem partOC {o : Nat} {s t : PS} {r : Int} (h : M_X12_part s r t) (_ : TyM t) (ho : o ≤ 1) (h13 : s 0 13 = 1 - (o : Int)) : OKC o s t := by
  obtain ⟨n, h⟩ := h
  have k0 : OKC o s s := OKC.refl
  unfold T_X12_part_e at h
  obtain ⟨a0, h⟩ := h
  rcases h with ⟨c1, h⟩ | ⟨c1, h⟩
  · obtain ⟨r_224, h⟩ := h
    obtain ⟨s_w_223, h⟩ := h
    obtain ⟨a2, h⟩ := h
    obtain ⟨a3, h⟩ := h
    have ka3 : OKC o s s_w_223 := k0.trans (OKC.fr a3 (by decide))
    obtain ⟨a4, h⟩ := h
    obtain ⟨a5, h⟩ := h
    rcases h with ⟨c6, h⟩ | ⟨c6, h⟩
    · exact ka3.trans (partOCL ho n _ _ _ _ _ _ _ h (ka3.1.trans h13))
    · exact ka3.trans (partOCL ho n _ _ _ _ _ _ _ h (ka3.1.trans h13))
  · rcases h with ⟨c2, h⟩ | ⟨c2, h⟩
    · obtain ⟨r_232, h⟩ := h
      obtain ⟨s_w_231, h⟩ := h
      obtain ⟨a3, h⟩ := h
      obtain ⟨a4, h⟩ := h
      have ka4 : OKC o s s_w_231 := k0.trans (OKC.fr a4 (by decide))
      obtain ⟨a5, h⟩ := h
      obtain ⟨a6, h⟩ := h
      rcases h with ⟨c7, h⟩ | ⟨c7, h⟩
      · exact ka4.trans (partOCL ho n _ _ _ _ _ _ _ h (ka4.1.trans h13))
      · exact ka4.trans (partOCL ho n _ _ _ _ _ _ _ h (ka4.1.trans h13))
    · rcases h with ⟨c3, h⟩ | ⟨c3, h⟩
      · obtain ⟨r_240, h⟩ := h
        obtain ⟨s_w_239, h⟩ := h
        obtain ⟨a4, h⟩ := h
        obtain ⟨a5, h⟩ := h
        have ka5 : OKC o s s_w_239 := k0.trans (OKC.fr a5 (by decide))
        obtain ⟨a6, h⟩ := h
        obtain ⟨a7, h⟩ := h
        rcases h with ⟨c8, h⟩ | ⟨c8, h⟩
        · exact ka5.trans (partOCL ho n _ _ _ _ _ _ _ h (ka5.1.trans h13))
        · exact ka5.trans (partOCL ho n _ _ _ _ _ _ _ h (ka5.1.trans h13))
      · obtain ⟨r_247, h⟩ := h
        obtain ⟨s_w_246, h⟩ := h
        obtain ⟨a4, h⟩ := h
        obtain ⟨a5, h⟩ := h
        have ka5 : OKC o s s_w_246 := k0.trans (OKC.fr a5 (by decide))
        obtain ⟨a6, h⟩ := h
        obtain ⟨a7, h⟩ := h
        rcases h with ⟨c8, h⟩ | ⟨c8, h⟩
        · exact ka5.trans (partOCL ho n _ _ _ _ _ _ _ h (ka5.1.trans h13))
        · obtain ⟨s_w_253, h⟩ := h
          obtain ⟨a9, h⟩ := h
          obtain ⟨a10, h⟩ := h
          have ka10 : OKC o s s_w_253 := ka5.trans (OKC.fr a10 (by decide))
          obtain ⟨a11, h⟩ := h
          obtain ⟨s_w_259, h⟩ := h
          obtain ⟨a12, h⟩ := h
          obtain ⟨a13, h⟩ := h
          have ka13 : OKC o s s_w_259 := ka10.trans (OKC.fr a13 (by decide))
          obtain ⟨a14, h⟩ := h
          obtain ⟨er, es⟩ := h
          rw [es]
          exact ka13
theorem goesOCL {o : Nat} (ho : o ≤ 1) : ∀ (n pc : Nat) (x0 x1 x2 : Int) (s : PS) (r : Int) (t : PS), It_X12_goesOn n pc x0 x1 x2 s r t → s 0 13 = 1 - (o : Int) → OKC o s t
  | 0, pc, x0, x1, x2, s, r, t, h, _ => False.elim h
  | n + 1, pc, x0, x1, x2, s, r, t, h, h13 => by
    have ih := goesOCL ho n
    have k0 : OKC o s s := OKC.refl
    rcases h with ⟨_, h⟩ | ⟨_, h⟩ | ⟨_, h⟩ | ⟨_, h⟩ | ⟨_, h⟩ | ⟨_, h⟩ | ⟨_, h⟩
    · unfold T_X12_goesOn_77 at h
      obtain ⟨a0, h⟩ := h
      obtain ⟨a1, h⟩ := h
      obtain ⟨a2, h⟩ := h
      obtain ⟨a3, h⟩ := h
      obtain ⟨s_w_1, h⟩ := h
      obtain ⟨a4, h⟩ := h
      obtain ⟨a5, h⟩ := h
      obtain ⟨a6, h⟩ := h
      have ka6 : OKC o s s_w_1 := k0.trans (joinsOC a4 a6 ho (k0.1.trans h13))
      obtain ⟨r_8, h⟩ := h
      obtain ⟨s_w_7, h⟩ := h
      obtain ⟨a7, h⟩ := h
      obtain ⟨a8, h⟩ := h
      have ka8 : OKC o s s_w_7 := ka6.trans (OKC.fr a8 (by decide))
      obtain ⟨a9, h⟩ := h
      obtain ⟨a10, h⟩ := h
      rcases h with ⟨c11, h⟩ | ⟨c11, h⟩
      · obtain ⟨r_13, h⟩ := h
        obtain ⟨s_w_12, h⟩ := h
        obtain ⟨a12, h⟩ := h
        obtain ⟨a13, h⟩ := h
        have ka13 : OKC o s s_w_12 := ka8.trans (OKC.fr a13 (by decide))
        obtain ⟨a14, h⟩ := h
        obtain ⟨a15, h⟩ := h
        rcases h with ⟨c16, h⟩ | ⟨c16, h⟩
        · obtain ⟨s_w_17, h⟩ := h
          obtain ⟨a17, h⟩ := h
          obtain ⟨a18, h⟩ := h
          have ka18 : OKC o s s_w_17 := ka13.trans (OKC.fr a18 (by decide))
          obtain ⟨a19, h⟩ := h
          obtain ⟨s_w_23, h⟩ := h
          obtain ⟨a20, h⟩ := h
          obtain ⟨a21, h⟩ := h
          have ka21 : OKC o s s_w_23 := ka18.trans (OKC.fr a21 (by decide))
          obtain ⟨a22, h⟩ := h
          obtain ⟨s_w_29, e23, h⟩ := h
          have ke23 : OKC o s s_w_29 := ka21.trans (by rw [e23]; exact OKC.us0 (by decide))
          obtain ⟨er, es⟩ := h
          rw [es]
          exact ke23
        · obtain ⟨s_w_30, h⟩ := h
          obtain ⟨a17, h⟩ := h
          obtain ⟨a18, h⟩ := h
          have ka18 : OKC o s s_w_30 := ka13.trans (OKC.fr a18 (by decide))
          obtain ⟨a19, h⟩ := h
          obtain ⟨s_w_36, h⟩ := h
          obtain ⟨a20, h⟩ := h
          obtain ⟨a21, h⟩ := h
          have ka21 : OKC o s s_w_36 := ka18.trans (OKC.fr a21 (by decide))
          obtain ⟨a22, h⟩ := h
          obtain ⟨s_w_42, e23, h⟩ := h
          have ke23 : OKC o s s_w_42 := ka21.trans (by rw [e23]; exact OKC.us0 (by decide))
          obtain ⟨er, es⟩ := h
          rw [es]
          exact ke23
      · obtain ⟨s_w_43, h⟩ := h
        obtain ⟨a12, h⟩ := h
        obtain ⟨a13, h⟩ := h
        have ka13 : OKC o s s_w_43 := ka8.trans (OKC.fr a13 (by decide))
        obtain ⟨a14, h⟩ := h
        obtain ⟨s_w_49, h⟩ := h
        obtain ⟨a15, h⟩ := h
        obtain ⟨a16, h⟩ := h
        have ka16 : OKC o s s_w_49 := ka13.trans (OKC.fr a16 (by decide))
        obtain ⟨a17, h⟩ := h
        obtain ⟨s_w_55, e18, h⟩ := h
        have ke18 : OKC o s s_w_55 := ka16.trans (by rw [e18]; exact OKC.us0 (by decide))
        obtain ⟨er, es⟩ := h
        rw [es]
        exact ke18
    · unfold T_X12_goesOn_127 at h
      obtain ⟨a0, h⟩ := h
      obtain ⟨a1, h⟩ := h
      obtain ⟨a2, h⟩ := h
      obtain ⟨a3, h⟩ := h
      obtain ⟨r_372, h⟩ := h
      obtain ⟨s_w_371, h⟩ := h
      obtain ⟨a4, h⟩ := h
      obtain ⟨a5, h⟩ := h
      have ka5 : OKC o s s_w_371 := k0.trans (OKC.fr a5 (by decide))
      obtain ⟨a6, h⟩ := h
      obtain ⟨a7, h⟩ := h
      rcases h with ⟨c8, h⟩ | ⟨c8, h⟩
      · exact ka5.trans (ih _ _ _ _ _ _ _ h (ka5.1.trans h13))
      · rcases h with ⟨c9, h⟩ | ⟨c9, h⟩
        · obtain ⟨r_379, h⟩ := h
          obtain ⟨s_w_378, h⟩ := h
          obtain ⟨a10, h⟩ := h
          obtain ⟨a11, h⟩ := h
          have ka11 : OKC o s s_w_378 := ka5.trans (OKC.fr a11 (by decide))
          obtain ⟨a12, h⟩ := h
          obtain ⟨a13, h⟩ := h
          rcases h with ⟨c14, h⟩ | ⟨c14, h⟩
          · obtain ⟨r_384, h⟩ := h
            obtain ⟨s_w_383, h⟩ := h
            obtain ⟨a15, h⟩ := h
            obtain ⟨a16, h⟩ := h
            have ka16 : OKC o s s_w_383 := ka11.trans (OKC.fr a16 (by decide))
            obtain ⟨a17, h⟩ := h
            obtain ⟨a18, h⟩ := h
            rcases h with ⟨c19, h⟩ | ⟨c19, h⟩
            · obtain ⟨r_389, h⟩ := h
              obtain ⟨s_w_388, h⟩ := h
              obtain ⟨a20, h⟩ := h
              obtain ⟨a21, h⟩ := h
              have ka21 : OKC o s s_w_388 := ka16.trans (OKC.fr a21 (by decide))
              obtain ⟨a22, h⟩ := h
              obtain ⟨a23, h⟩ := h
              rcases h with ⟨c24, h⟩ | ⟨c24, h⟩
              · exact ka21.trans (ih _ _ _ _ _ _ _ h (ka21.1.trans h13))
              · exact ka21.trans (ih _ _ _ _ _ _ _ h (ka21.1.trans h13))
            · exact ka16.trans (ih _ _ _ _ _ _ _ h (ka16.1.trans h13))
          · exact ka11.trans (ih _ _ _ _ _ _ _ h (ka11.1.trans h13))
        · exact ka5.trans (ih _ _ _ _ _ _ _ h (ka5.1.trans h13))
    · unfold T_X12_goesOn_170 at h
      obtain ⟨a0, h⟩ := h
      obtain ⟨a1, h⟩ := h
      obtain ⟨a2, h⟩ := h
      obtain ⟨a3, h⟩ := h
      obtain ⟨s_w_56, h⟩ := h
      obtain ⟨a4, h⟩ := h
      obtain ⟨a5, h⟩ := h
      obtain ⟨a6, h⟩ := h
      have ka6 : OKC o s s_w_56 := k0.trans (joinsOC a4 a6 ho (k0.1.trans h13))
      obtain ⟨r_63, h⟩ := h
      obtain ⟨s_w_62, h⟩ := h
      obtain ⟨a7, h⟩ := h
      obtain ⟨a8, h⟩ := h
      have ka8 : OKC o s s_w_62 := ka6.trans (OKC.fr a8 (by decide))
      obtain ⟨a9, h⟩ := h
      obtain ⟨a10, h⟩ := h
      rcases h with ⟨c11, h⟩ | ⟨c11, h⟩
      · obtain ⟨r_68, h⟩ := h
        obtain ⟨s_w_67, h⟩ := h
        obtain ⟨a12, h⟩ := h
        obtain ⟨a13, h⟩ := h
        have ka13 : OKC o s s_w_67 := ka8.trans (OKC.fr a13 (by decide))
        obtain ⟨a14, h⟩ := h
        obtain ⟨a15, h⟩ := h
        rcases h with ⟨c16, h⟩ | ⟨c16, h⟩
        · obtain ⟨s_w_72, h⟩ := h
          obtain ⟨a17, h⟩ := h
          obtain ⟨a18, h⟩ := h
          have ka18 : OKC o s s_w_72 := ka13.trans (OKC.fr a18 (by decide))
          obtain ⟨a19, h⟩ := h
          obtain ⟨s_w_78, e20, h⟩ := h
          have ke20 : OKC o s s_w_78 := ka18.trans (by rw [e20]; exact OKC.usk (by decide))
          obtain ⟨s_w_79, h⟩ := h
          obtain ⟨a21, h⟩ := h
          obtain ⟨a22, h⟩ := h
          have ka22 : OKC o s s_w_79 := ke20.trans (OKC.fr a22 (by decide))
          obtain ⟨a23, h⟩ := h
          obtain ⟨s_w_85, e24, h⟩ := h
          have ke24 : OKC o s s_w_85 := ka22.trans (by rw [e24]; exact OKC.us0 (by decide))
          obtain ⟨er, es⟩ := h
          rw [es]
          exact ke24
        · obtain ⟨s_w_86, h⟩ := h
          obtain ⟨a17, h⟩ := h
          obtain ⟨a18, h⟩ := h
          have ka18 : OKC o s s_w_86 := ka13.trans (OKC.fr a18 (by decide))
          obtain ⟨a19, h⟩ := h
          obtain ⟨s_w_92, e20, h⟩ := h
          have ke20 : OKC o s s_w_92 := ka18.trans (by rw [e20]; exact OKC.usk (by decide))
          obtain ⟨s_w_93, h⟩ := h
          obtain ⟨a21, h⟩ := h
          obtain ⟨a22, h⟩ := h
          have ka22 : OKC o s s_w_93 := ke20.trans (OKC.fr a22 (by decide))
          obtain ⟨a23, h⟩ := h
          obtain ⟨s_w_99, e24, h⟩ := h
          have ke24 : OKC o s s_w_99 := ka22.trans (by rw [e24]; exact OKC.us0 (by decide))
          obtain ⟨er, es⟩ := h
          rw [es]
          exact ke24
      · obtain ⟨s_w_100, h⟩ := h
        obtain ⟨a12, h⟩ := h
        obtain ⟨a13, h⟩ := h
        have ka13 : OKC o s s_w_100 := ka8.trans (OKC.fr a13 (by decide))
        obtain ⟨a14, h⟩ := h
        obtain ⟨s_w_106, e15, h⟩ := h
        have ke15 : OKC o s s_w_106 := ka13.trans (by rw [e15]; exact OKC.usk (by decide))
        obtain ⟨s_w_107, h⟩ := h
        obtain ⟨a16, h⟩ := h
        obtain ⟨a17, h⟩ := h
        have ka17 : OKC o s s_w_107 := ke15.trans (OKC.fr a17 (by decide))
        obtain ⟨a18, h⟩ := h
        obtain ⟨s_w_113, e19, h⟩ := h
        have ke19 : OKC o s s_w_113 := ka17.trans (by rw [e19]; exact OKC.us0 (by decide))
        obtain ⟨er, es⟩ := h
        rw [es]
        exact ke19
    · unfold T_X12_goesOn_227 at h
      obtain ⟨a0, h⟩ := h
      obtain ⟨a1, h⟩ := h
      obtain ⟨a2, h⟩ := h
      obtain ⟨a3, h⟩ := h
      obtain ⟨r_361, h⟩ := h
      obtain ⟨s_w_360, h⟩ := h
      obtain ⟨a4, h⟩ := h
      obtain ⟨a5, h⟩ := h
      have ka5 : OKC o s s_w_360 := k0.trans (OKC.fr a5 (by decide))
      obtain ⟨a6, h⟩ := h
      obtain ⟨a7, h⟩ := h
      rcases h with ⟨c8, h⟩ | ⟨c8, h⟩
      · obtain ⟨r_366, h⟩ := h
        obtain ⟨s_w_365, h⟩ := h
        obtain ⟨a9, h⟩ := h
        obtain ⟨a10, h⟩ := h
        have ka10 : OKC o s s_w_365 := ka5.trans (OKC.fr a10 (by decide))
        obtain ⟨a11, h⟩ := h
        obtain ⟨a12, h⟩ := h
        rcases h with ⟨c13, h⟩ | ⟨c13, h⟩
        · exact ka10.trans (ih _ _ _ _ _ _ _ h (ka10.1.trans h13))
        · exact ka10.trans (ih _ _ _ _ _ _ _ h (ka10.1.trans h13))
      · exact ka5.trans (ih _ _ _ _ _ _ _ h (ka5.1.trans h13))
    · unfold T_X12_goesOn_241 at h
      obtain ⟨a0, h⟩ := h
      obtain ⟨a1, h⟩ := h
      obtain ⟨a2, h⟩ := h
      obtain ⟨a3, h⟩ := h
      obtain ⟨r_349, h⟩ := h
      obtain ⟨s_w_348, h⟩ := h
      obtain ⟨a4, h⟩ := h
      obtain ⟨a5, h⟩ := h
      have ka5 : OKC o s s_w_348 := k0.trans (OKC.fr a5 (by decide))
      obtain ⟨a6, h⟩ := h
      obtain ⟨a7, h⟩ := h
      rcases h with ⟨c8, h⟩ | ⟨c8, h⟩
      · obtain ⟨r_355, h⟩ := h
        obtain ⟨s_w_354, h⟩ := h
        obtain ⟨a9, h⟩ := h
        obtain ⟨a10, h⟩ := h
        have ka10 : OKC o s s_w_354 := ka5.trans (OKC.fr a10 (by decide))
        obtain ⟨a11, h⟩ := h
        obtain ⟨a12, h⟩ := h
        rcases h with ⟨c13, h⟩ | ⟨c13, h⟩
        · exact ka10.trans (ih _ _ _ _ _ _ _ h (ka10.1.trans h13))
        · exact ka10.trans (ih _ _ _ _ _ _ _ h (ka10.1.trans h13))
      · exact ka5.trans (ih _ _ _ _ _ _ _ h (ka5.1.trans h13))
    · unfold T_X12_goesOn_261 at h
      obtain ⟨a0, h⟩ := h
      obtain ⟨a1, h⟩ := h
      obtain ⟨a2, h⟩ := h
      obtain ⟨a3, h⟩ := h
      rcases h with ⟨c4, h⟩ | ⟨c4, h⟩
      · obtain ⟨s_w_167, h⟩ := h
        obtain ⟨a5, h⟩ := h
        obtain ⟨a6, h⟩ := h
        have ka6 : OKC o s s_w_167 := k0.trans (OKC.fr a6 (by decide))
        obtain ⟨a7, h⟩ := h
        obtain ⟨a8, h⟩ := h
        obtain ⟨er, es⟩ := h
        rw [es]
        exact ka6
      · obtain ⟨a5, h⟩ := h
        obtain ⟨r_118, h⟩ := h
        obtain ⟨s_w_117, h⟩ := h
        obtain ⟨a6, h⟩ := h
        obtain ⟨a7, h⟩ := h
        have ka7 : OKC o s s_w_117 := k0.trans (OKC.fr a7 (by decide))
        obtain ⟨a8, h⟩ := h
        obtain ⟨a9, h⟩ := h
        rcases h with ⟨c10, h⟩ | ⟨c10, h⟩
        · obtain ⟨s_w_123, h⟩ := h
          obtain ⟨a11, h⟩ := h
          obtain ⟨a12, h⟩ := h
          obtain ⟨a13, h⟩ := h
          have ka13 : OKC o s s_w_123 := ka7.trans (joinsOC a11 a13 ho (ka7.1.trans h13))
          obtain ⟨a14, h⟩ := h
          obtain ⟨s_w_130, h⟩ := h
          obtain ⟨a15, h⟩ := h
          obtain ⟨a16, h⟩ := h
          have ka16 : OKC o s s_w_130 := ka13.trans (OKC.fr a16 (by decide))
          obtain ⟨a17, h⟩ := h
          obtain ⟨s_w_136, e18, h⟩ := h
          have ke18 : OKC o s s_w_136 := ka16.trans (by rw [e18]; exact OKC.usk (by decide))
          obtain ⟨s_w_137, e19, h⟩ := h
          have ke19 : OKC o s s_w_137 := ke18.trans (by rw [e19]; exact OKC.usk (by decide))
          obtain ⟨s_w_138, h⟩ := h
          obtain ⟨a20, h⟩ := h
          obtain ⟨a21, h⟩ := h
          have ka21 : OKC o s s_w_138 := ke19.trans (OKC.fr a21 (by decide))
          obtain ⟨a22, h⟩ := h
          obtain ⟨s_w_144, e23, h⟩ := h
          have ke23 : OKC o s s_w_144 := ka21.trans (by rw [e23]; exact OKC.us0 (by decide))
          obtain ⟨er, es⟩ := h
          rw [es]
          exact ke23
        · obtain ⟨s_w_145, h⟩ := h
          obtain ⟨a11, h⟩ := h
          obtain ⟨a12, h⟩ := h
          obtain ⟨a13, h⟩ := h
          have ka13 : OKC o s s_w_145 := ka7.trans (joinsOC a11 a13 ho (ka7.1.trans h13))
          obtain ⟨a14, h⟩ := h
          obtain ⟨s_w_152, h⟩ := h
          obtain ⟨a15, h⟩ := h
          obtain ⟨a16, h⟩ := h
          have ka16 : OKC o s s_w_152 := ka13.trans (OKC.fr a16 (by decide))
          obtain ⟨a17, h⟩ := h
          obtain ⟨s_w_158, e18, h⟩ := h
          have ke18 : OKC o s s_w_158 := ka16.trans (by rw [e18]; exact OKC.usk (by decide))
          obtain ⟨s_w_159, e19, h⟩ := h
          have ke19 : OKC o s s_w_159 := ke18.trans (by rw [e19]; exact OKC.usk (by decide))
          obtain ⟨s_w_160, h⟩ := h
          obtain ⟨a20, h⟩ := h
          obtain ⟨a21, h⟩ := h
          have ka21 : OKC o s s_w_160 := ke19.trans (OKC.fr a21 (by decide))
          obtain ⟨a22, h⟩ := h
          obtain ⟨s_w_166, e23, h⟩ := h
          have ke23 : OKC o s s_w_166 := ka21.trans (by rw [e23]; exact OKC.us0 (by decide))
          obtain ⟨er, es⟩ := h
          rw [es]
          exact ke23
    · unfold T_X12_goesOn_352 at h
      obtain ⟨a0, h⟩ := h
      obtain ⟨a1, h⟩ := h
      obtain ⟨a2, h⟩ := h
      obtain ⟨a3, h⟩ := h
      obtain ⟨r_175, h⟩ := h
      obtain ⟨s_w_174, h⟩ := h
      obtain ⟨a4, h⟩ := h
      obtain ⟨a5, h⟩ := h
      have ka5 : OKC o s s_w_174 := k0.trans (OKC.fr a5 (by decide))
      obtain ⟨a6, h⟩ := h
      obtain ⟨a7, h⟩ := h
      rcases h with ⟨c8, h⟩ | ⟨c8, h⟩
      · rcases h with ⟨c9, h⟩ | ⟨c9, h⟩
        · rcases h with ⟨c10, h⟩ | ⟨c10, h⟩
          · obtain ⟨r_211, h⟩ := h
            obtain ⟨s_w_210, h⟩ := h
            obtain ⟨a11, h⟩ := h
            obtain ⟨a12, h⟩ := h
            have ka12 : OKC o s s_w_210 := ka5.trans (OKC.fr a12 (by decide))
            obtain ⟨a13, h⟩ := h
            obtain ⟨a14, h⟩ := h
            rcases h with ⟨c15, h⟩ | ⟨c15, h⟩
            · obtain ⟨s_w_231, h⟩ := h
              obtain ⟨a16, h⟩ := h
              obtain ⟨a17, h⟩ := h
              have ka17 : OKC o s s_w_231 := ka12.trans (OKC.fr a17 (by decide))
              obtain ⟨a18, h⟩ := h
              obtain ⟨a19, h⟩ := h
              obtain ⟨er, es⟩ := h
              rw [es]
              exact ka17
            · obtain ⟨a16, h⟩ := h
              obtain ⟨s_w_216, h⟩ := h
              obtain ⟨a17, h⟩ := h
              obtain ⟨a18, h⟩ := h
              obtain ⟨a19, h⟩ := h
              have ka19 : OKC o s s_w_216 := ka12.trans (joinsOC a17 a19 ho (ka12.1.trans h13))
              obtain ⟨s_w_222, e20, h⟩ := h
              have ke20 : OKC o s s_w_222 := ka19.trans (by rw [e20]; exact OKC.us0 (by decide))
              obtain ⟨s_w_223, e21, h⟩ := h
              have ke21 : OKC o s s_w_223 := ke20.trans (by rw [e21]; exact OKC.us0 (by decide))
              obtain ⟨a22, h⟩ := h
              obtain ⟨s_w_225, h⟩ := h
              obtain ⟨a23, h⟩ := h
              obtain ⟨a24, h⟩ := h
              have ka24 : OKC o s s_w_225 := ke21.trans (OKC.fr a24 (by decide))
              obtain ⟨a25, h⟩ := h
              obtain ⟨er, es⟩ := h
              rw [es]
              exact ka24
          · obtain ⟨r_182, h⟩ := h
            obtain ⟨s_w_181, h⟩ := h
            obtain ⟨a11, h⟩ := h
            obtain ⟨a12, h⟩ := h
            have ka12 : OKC o s s_w_181 := ka5.trans (OKC.fr a12 (by decide))
            obtain ⟨a13, h⟩ := h
            obtain ⟨a14, h⟩ := h
            rcases h with ⟨c15, h⟩ | ⟨c15, h⟩
            · obtain ⟨s_w_203, h⟩ := h
              obtain ⟨a16, h⟩ := h
              obtain ⟨a17, h⟩ := h
              have ka17 : OKC o s s_w_203 := ka12.trans (OKC.fr a17 (by decide))
              obtain ⟨a18, h⟩ := h
              obtain ⟨a19, h⟩ := h
              obtain ⟨er, es⟩ := h
              rw [es]
              exact ka17
            · obtain ⟨a16, h⟩ := h
              obtain ⟨s_w_187, h⟩ := h
              obtain ⟨a17, h⟩ := h
              obtain ⟨a18, h⟩ := h
              obtain ⟨a19, h⟩ := h
              have ka19 : OKC o s s_w_187 := ka12.trans (joinsOC a17 a19 ho (ka12.1.trans h13))
              obtain ⟨s_w_193, e20, h⟩ := h
              have ke20 : OKC o s s_w_193 := ka19.trans (by rw [e20]; exact OKC.us0 (by decide))
              obtain ⟨s_w_194, e21, h⟩ := h
              have ke21 : OKC o s s_w_194 := ke20.trans (by rw [e21]; exact OKC.us0 (by decide))
              obtain ⟨a22, h⟩ := h
              obtain ⟨s_w_196, e23, h⟩ := h
              have ke23 : OKC o s s_w_196 := ke21.trans (by rw [e23]; exact OKC.usk (by decide))
              obtain ⟨s_w_197, h⟩ := h
              obtain ⟨a24, h⟩ := h
              obtain ⟨a25, h⟩ := h
              have ka25 : OKC o s s_w_197 := ke23.trans (OKC.fr a25 (by decide))
              obtain ⟨a26, h⟩ := h
              obtain ⟨er, es⟩ := h
              rw [es]
              exact ka25
        · obtain ⟨a10, h⟩ := h
          obtain ⟨s_w_239, h⟩ := h
          obtain ⟨a11, h⟩ := h
          obtain ⟨a12, h⟩ := h
          obtain ⟨a13, h⟩ := h
          have ka13 : OKC o s s_w_239 := ka5.trans (joinsOC a11 a13 ho (ka5.1.trans h13))
          obtain ⟨er, es⟩ := h
          rw [es]
          exact ka13
      · rcases h with ⟨c9, h⟩ | ⟨c9, h⟩
        · obtain ⟨s_w_313, h⟩ := h
          obtain ⟨a10, h⟩ := h
          obtain ⟨a11, h⟩ := h
          have ka11 : OKC o s s_w_313 := ka5.trans (OKC.fr a11 (by decide))
          obtain ⟨a12, h⟩ := h
          rcases h with ⟨c13, h⟩ | ⟨c13, h⟩
          · rcases h with ⟨c14, h⟩ | ⟨c14, h⟩
            · obtain ⟨r_335, h⟩ := h
              obtain ⟨s_w_334, h⟩ := h
              obtain ⟨a15, h⟩ := h
              obtain ⟨a16, h⟩ := h
              have ka16 : OKC o s s_w_334 := ka11.trans (OKC.fr a16 (by decide))
              obtain ⟨a17, h⟩ := h
              obtain ⟨a18, h⟩ := h
              rcases h with ⟨c19, h⟩ | ⟨c19, h⟩
              · obtain ⟨s_w_340, h⟩ := h
                obtain ⟨a20, h⟩ := h
                obtain ⟨a21, h⟩ := h
                have ka21 : OKC o s s_w_340 := ka16.trans (OKC.fr a21 (by decide))
                obtain ⟨a22, h⟩ := h
                obtain ⟨a23, h⟩ := h
                obtain ⟨er, es⟩ := h
                rw [es]
                exact ka21
              · obtain ⟨a20, h⟩ := h
                obtain ⟨er, es⟩ := h
                rw [es]
                exact ka16
            · obtain ⟨r_322, h⟩ := h
              obtain ⟨s_w_321, h⟩ := h
              obtain ⟨a15, h⟩ := h
              obtain ⟨a16, h⟩ := h
              have ka16 : OKC o s s_w_321 := ka11.trans (OKC.fr a16 (by decide))
              obtain ⟨a17, h⟩ := h
              obtain ⟨a18, h⟩ := h
              rcases h with ⟨c19, h⟩ | ⟨c19, h⟩
              · obtain ⟨s_w_327, h⟩ := h
                obtain ⟨a20, h⟩ := h
                obtain ⟨a21, h⟩ := h
                have ka21 : OKC o s s_w_327 := ka16.trans (OKC.fr a21 (by decide))
                obtain ⟨a22, h⟩ := h
                obtain ⟨a23, h⟩ := h
                obtain ⟨er, es⟩ := h
                rw [es]
                exact ka21
              · obtain ⟨a20, h⟩ := h
                obtain ⟨er, es⟩ := h
                rw [es]
                exact ka16
          · obtain ⟨a14, h⟩ := h
            obtain ⟨er, es⟩ := h
            rw [es]
            exact ka11
        · rcases h with ⟨c10, h⟩ | ⟨c10, h⟩
          · rcases h with ⟨c11, h⟩ | ⟨c11, h⟩
            · obtain ⟨r_279, h⟩ := h
              obtain ⟨s_w_278, h⟩ := h
              obtain ⟨a12, h⟩ := h
              obtain ⟨a13, h⟩ := h
              have ka13 : OKC o s s_w_278 := ka5.trans (OKC.fr a13 (by decide))
              obtain ⟨a14, h⟩ := h
              obtain ⟨a15, h⟩ := h
              rcases h with ⟨c16, h⟩ | ⟨c16, h⟩
              · obtain ⟨s_w_299, h⟩ := h
                obtain ⟨a17, h⟩ := h
                obtain ⟨a18, h⟩ := h
                have ka18 : OKC o s s_w_299 := ka13.trans (OKC.fr a18 (by decide))
                obtain ⟨a19, h⟩ := h
                obtain ⟨a20, h⟩ := h
                obtain ⟨er, es⟩ := h
                rw [es]
                exact ka18
              · obtain ⟨a17, h⟩ := h
                obtain ⟨s_w_284, h⟩ := h
                obtain ⟨a18, h⟩ := h
                obtain ⟨a19, h⟩ := h
                obtain ⟨a20, h⟩ := h
                have ka20 : OKC o s s_w_284 := ka13.trans (joinsOC a18 a20 ho (ka13.1.trans h13))
                obtain ⟨s_w_290, e21, h⟩ := h
                have ke21 : OKC o s s_w_290 := ka20.trans (by rw [e21]; exact OKC.us0 (by decide))
                obtain ⟨s_w_291, e22, h⟩ := h
                have ke22 : OKC o s s_w_291 := ke21.trans (by rw [e22]; exact OKC.us0 (by decide))
                obtain ⟨a23, h⟩ := h
                obtain ⟨s_w_293, h⟩ := h
                obtain ⟨a24, h⟩ := h
                obtain ⟨a25, h⟩ := h
                have ka25 : OKC o s s_w_293 := ke22.trans (OKC.fr a25 (by decide))
                obtain ⟨a26, h⟩ := h
                obtain ⟨er, es⟩ := h
                rw [es]
                exact ka25
            · obtain ⟨r_250, h⟩ := h
              obtain ⟨s_w_249, h⟩ := h
              obtain ⟨a12, h⟩ := h
              obtain ⟨a13, h⟩ := h
              have ka13 : OKC o s s_w_249 := ka5.trans (OKC.fr a13 (by decide))
              obtain ⟨a14, h⟩ := h
              obtain ⟨a15, h⟩ := h
              rcases h with ⟨c16, h⟩ | ⟨c16, h⟩
              · obtain ⟨s_w_271, h⟩ := h
                obtain ⟨a17, h⟩ := h
                obtain ⟨a18, h⟩ := h
                have ka18 : OKC o s s_w_271 := ka13.trans (OKC.fr a18 (by decide))
                obtain ⟨a19, h⟩ := h
                obtain ⟨a20, h⟩ := h
                obtain ⟨er, es⟩ := h
                rw [es]
                exact ka18
              · obtain ⟨a17, h⟩ := h
                obtain ⟨s_w_255, h⟩ := h
                obtain ⟨a18, h⟩ := h
                obtain ⟨a19, h⟩ := h
                obtain ⟨a20, h⟩ := h
                have ka20 : OKC o s s_w_255 := ka13.trans (joinsOC a18 a20 ho (ka13.1.trans h13))
                obtain ⟨s_w_261, e21, h⟩ := h
                have ke21 : OKC o s s_w_261 := ka20.trans (by rw [e21]; exact OKC.us0 (by decide))
                obtain ⟨s_w_262, e22, h⟩ := h
                have ke22 : OKC o s s_w_262 := ke21.trans (by rw [e22]; exact OKC.us0 (by decide))
                obtain ⟨a23, h⟩ := h
                obtain ⟨s_w_264, e24, h⟩ := h
                have ke24 : OKC o s s_w_264 := ke22.trans (by rw [e24]; exact OKC.usk (by decide))
                obtain ⟨s_w_265, h⟩ := h
                obtain ⟨a25, h⟩ := h
                obtain ⟨a26, h⟩ := h
                have ka26 : OKC o s s_w_265 := ke24.trans (OKC.fr a26 (by decide))
                obtain ⟨a27, h⟩ := h
                obtain ⟨er, es⟩ := h
                rw [es]
                exact ka26
          · obtain ⟨a11, h⟩ := h
            obtain ⟨s_w_307, h⟩ := h
            obtain ⟨a12, h⟩ := h
            obtain ⟨a13, h⟩ := h
            obtain ⟨a14, h⟩ := h
            have ka14 : OKC o s s_w_307 := ka5.trans (joinsOC a12 a14 ho (ka5.1.trans h13))
            obtain ⟨er, es⟩ := h
            rw [es]
            exact ka14
theorem goesOC {o : Nat} {s t : PS} {r : Int} (h : M_X12_goesOn s r t) (_ : TyM t) (ho : o ≤ 1) (h13 : s 0 13 = 1 - (o : Int)) : OKC o s t := by
  obtain ⟨n, h⟩ := h
  have k0 : OKC o s s := OKC.refl
  unfold T_X12_goesOn_e at h
  obtain ⟨a0, h⟩ := h
  rcases h with ⟨c1, h⟩ | ⟨c1, h⟩
  · obtain ⟨r_397, h⟩ := h
    obtain ⟨s_w_396, h⟩ := h
    obtain ⟨a2, h⟩ := h
    obtain ⟨a3, h⟩ := h
    have ka3 : OKC o s s_w_396 := k0.trans (OKC.fr a3 (by decide))
    obtain ⟨a4, h⟩ := h
    obtain ⟨a5, h⟩ := h
    rcases h with ⟨c6, h⟩ | ⟨c6, h⟩
    · obtain ⟨r_402, h⟩ := h
      obtain ⟨s_w_401, h⟩ := h
      obtain ⟨a7, h⟩ := h
      obtain ⟨a8, h⟩ := h
      have ka8 : OKC o s s_w_401 := ka3.trans (OKC.fr a8 (by decide))
      obtain ⟨a9, h⟩ := h
      obtain ⟨a10, h⟩ := h
      rcases h with ⟨c11, h⟩ | ⟨c11, h⟩
      · obtain ⟨r_407, h⟩ := h
        obtain ⟨s_w_406, h⟩ := h
        obtain ⟨a12, h⟩ := h
        obtain ⟨a13, h⟩ := h
        have ka13 : OKC o s s_w_406 := ka8.trans (OKC.fr a13 (by decide))
        obtain ⟨a14, h⟩ := h
        obtain ⟨a15, h⟩ := h
        rcases h with ⟨c16, h⟩ | ⟨c16, h⟩
        · exact ka13.trans (goesOCL ho n _ _ _ _ _ _ _ h (ka13.1.trans h13))
        · exact ka13.trans (goesOCL ho n _ _ _ _ _ _ _ h (ka13.1.trans h13))
      · exact ka8.trans (goesOCL ho n _ _ _ _ _ _ _ h (ka8.1.trans h13))
    · exact ka3.trans (goesOCL ho n _ _ _ _ _ _ _ h (ka3.1.trans h13))
  · rcases h with ⟨c2, h⟩ | ⟨c2, h⟩
    · obtain ⟨r_414, h⟩ := h
      obtain ⟨s_w_413, h⟩ := h
      obtain ⟨a3, h⟩ := h
      obtain ⟨a4, h⟩ := h
      have ka4 : OKC o s s_w_413 := k0.trans (OKC.fr a4 (by decide))
      obtain ⟨a5, h⟩ := h
      obtain ⟨a6, h⟩ := h
      rcases h with ⟨c7, h⟩ | ⟨c7, h⟩
      · obtain ⟨r_419, h⟩ := h
        obtain ⟨s_w_418, h⟩ := h
        obtain ⟨a8, h⟩ := h
        obtain ⟨a9, h⟩ := h
        have ka9 : OKC o s s_w_418 := ka4.trans (OKC.fr a9 (by decide))
        obtain ⟨a10, h⟩ := h
        obtain ⟨a11, h⟩ := h
        rcases h with ⟨c12, h⟩ | ⟨c12, h⟩
        · obtain ⟨r_424, h⟩ := h
          obtain ⟨s_w_423, h⟩ := h
          obtain ⟨a13, h⟩ := h
          obtain ⟨a14, h⟩ := h
          have ka14 : OKC o s s_w_423 := ka9.trans (OKC.fr a14 (by decide))
          obtain ⟨a15, h⟩ := h
          obtain ⟨a16, h⟩ := h
          rcases h with ⟨c17, h⟩ | ⟨c17, h⟩
          · exact ka14.trans (goesOCL ho n _ _ _ _ _ _ _ h (ka14.1.trans h13))
          · exact ka14.trans (goesOCL ho n _ _ _ _ _ _ _ h (ka14.1.trans h13))
        · exact ka9.trans (goesOCL ho n _ _ _ _ _ _ _ h (ka9.1.trans h13))
      · exact ka4.trans (goesOCL ho n _ _ _ _ _ _ _ h (ka4.1.trans h13))
    · obtain ⟨r_429, h⟩ := h
      obtain ⟨s_w_428, h⟩ := h
      obtain ⟨a3, h⟩ := h
      obtain ⟨a4, h⟩ := h
      have ka4 : OKC o s s_w_428 := k0.trans (OKC.fr a4 (by decide))
      obtain ⟨a5, h⟩ := h
      obtain ⟨a6, h⟩ := h
      rcases h with ⟨c7, h⟩ | ⟨c7, h⟩
      · exact ka4.trans (goesOCL ho n _ _ _ _ _ _ _ h (ka4.1.trans h13))
      · rcases h with ⟨c8, h⟩ | ⟨c8, h⟩
        · exact ka4.trans (goesOCL ho n _ _ _ _ _ _ _ h (ka4.1.trans h13))
        · obtain ⟨r_439, h⟩ := h
          obtain ⟨s_w_438, h⟩ := h
          obtain ⟨a9, h⟩ := h
          obtain ⟨a10, h⟩ := h
          have ka10 : OKC o s s_w_438 := ka4.trans (OKC.fr a10 (by decide))
          obtain ⟨a11, h⟩ := h
          obtain ⟨a12, h⟩ := h
          rcases h with ⟨c13, h⟩ | ⟨c13, h⟩
          · obtain ⟨r_444, h⟩ := h
            obtain ⟨s_w_443, h⟩ := h
            obtain ⟨a14, h⟩ := h
            obtain ⟨a15, h⟩ := h
            have ka15 : OKC o s s_w_443 := ka10.trans (OKC.fr a15 (by decide))
            obtain ⟨a16, h⟩ := h
            obtain ⟨a17, h⟩ := h
            rcases h with ⟨c18, h⟩ | ⟨c18, h⟩
            · obtain ⟨r_449, h⟩ := h
              obtain ⟨s_w_448, h⟩ := h
              obtain ⟨a19, h⟩ := h
              obtain ⟨a20, h⟩ := h
              have ka20 : OKC o s s_w_448 := ka15.trans (OKC.fr a20 (by decide))
              obtain ⟨a21, h⟩ := h
              obtain ⟨a22, h⟩ := h
              rcases h with ⟨c23, h⟩ | ⟨c23, h⟩
              · exact ka20.trans (goesOCL ho n _ _ _ _ _ _ _ h (ka20.1.trans h13))
              · exact ka20.trans (goesOCL ho n _ _ _ _ _ _ _ h (ka20.1.trans h13))
            · exact ka15.trans (goesOCL ho n _ _ _ _ _ _ _ h (ka15.1.trans h13))
          · exact ka10.trans (goesOCL ho n _ _ _ _ _ _ _ h (ka10.1.trans h13))
theorem readsOCL {o : Nat} (ho : o ≤ 1) : ∀ (n : Nat) (x0 x1 : Int) (s : PS) (r : Int) (t : PS), It_X12_reads n x0 x1 s r t → s 0 13 = 1 - (o : Int) → OKC o s t
  | 0, x0, x1, s, r, t, h, _ => False.elim h
  | n + 1, x0, x1, s, r, t, h, h13 => by
    have ih := readsOCL ho n
    have k0 : OKC o s s := OKC.refl
    replace h := ul_X12_reads_38 h
    unfold T_X12_reads_38 at h
    obtain ⟨a0, h⟩ := h
    obtain ⟨a1, h⟩ := h
    obtain ⟨a2, h⟩ := h
    rcases h with ⟨c3, h⟩ | ⟨c3, h⟩
    · obtain ⟨er, es⟩ := h
      rw [es]
      exact k0
    · rcases h with ⟨c4, h⟩ | ⟨c4, h⟩
      · obtain ⟨r_15, h⟩ := h
        obtain ⟨s_w_14, h⟩ := h
        obtain ⟨a5, h⟩ := h
        obtain ⟨a6, h⟩ := h
        obtain ⟨a7, h⟩ := h
        have ka7 : OKC o s s_w_14 := k0.trans (partOC a5 a7 ho (k0.1.trans h13))
        obtain ⟨a8, h⟩ := h
        obtain ⟨s_w_22, e9, h⟩ := h
        have ke9 : OKC o s s_w_22 := ka7.trans (by rw [e9]; exact OKC.us0 (by decide))
        obtain ⟨a10, h⟩ := h
        rcases h with ⟨c11, h⟩ | ⟨c11, h⟩
        · exact ke9.trans (ih _ _ _ _ _ h (ke9.1.trans h13))
        · exact ke9.trans (ih _ _ _ _ _ h (ke9.1.trans h13))
      · obtain ⟨r_4, h⟩ := h
        obtain ⟨s_w_3, h⟩ := h
        obtain ⟨a5, h⟩ := h
        obtain ⟨a6, h⟩ := h
        obtain ⟨a7, h⟩ := h
        have ka7 : OKC o s s_w_3 := k0.trans (goesOC a5 a7 ho (k0.1.trans h13))
        obtain ⟨a8, h⟩ := h
        rcases h with ⟨c9, h⟩ | ⟨c9, h⟩
        · exact ka7.trans (ih _ _ _ _ _ h (ka7.1.trans h13))
        · rcases h with ⟨c10, h⟩ | ⟨c10, h⟩
          · exact ka7.trans (ih _ _ _ _ _ h (ka7.1.trans h13))
          · exact ka7.trans (ih _ _ _ _ _ h (ka7.1.trans h13))
theorem readsOC {o : Nat} {s t : PS} {r p1 : Int} (h : M_X12_reads s p1 r t) (_ : TyM t) (ho : o ≤ 1) (h13 : s 0 13 = 1 - (o : Int)) : OKC o s t := by
  obtain ⟨n, h⟩ := h
  have k0 : OKC o s s := OKC.refl
  unfold T_X12_reads_e at h
  obtain ⟨a0, h⟩ := h
  obtain ⟨a1, h⟩ := h
  obtain ⟨s_w_25, e2, h⟩ := h
  have ke2 : OKC o s s_w_25 := k0.trans (by rw [e2]; exact OKC.us0 (by decide))
  obtain ⟨s_w_26, e3, h⟩ := h
  have ke3 : OKC o s s_w_26 := ke2.trans (by rw [e3]; exact OKC.us0 (by decide))
  obtain ⟨s_w_27, e4, h⟩ := h
  have ke4 : OKC o s s_w_27 := ke3.trans (by rw [e4]; exact OKC.us0 (by decide))
  obtain ⟨s_w_28, e5, h⟩ := h
  have ke5 : OKC o s s_w_28 := ke4.trans (by rw [e5]; exact OKC.us0 (by decide))
  obtain ⟨s_w_29, h⟩ := h
  obtain ⟨a6, h⟩ := h
  obtain ⟨a7, h⟩ := h
  have ka7 : OKC o s s_w_29 := ke5.trans (OKC.fr a7 (by decide))
  obtain ⟨a8, h⟩ := h
  obtain ⟨a9, h⟩ := h
  exact ka7.trans (readsOCL ho n _ _ _ _ _ h (ka7.1.trans h13))
theorem ruleOCL {o : Nat} (ho : o ≤ 1) : ∀ (n pc : Nat) (x0 x1 x2 : Int) (s : PS) (r : Int) (t : PS), It_X12_rule n pc x0 x1 x2 s r t → (168 - 168 * (o : Int) ≤ x2 ∧ x2 ≤ 329 - 168 * (o : Int)) → s 0 13 = 1 - (o : Int) → OKC o s t
  | 0, pc, x0, x1, x2, s, r, t, h, _, _ => False.elim h
  | n + 1, pc, x0, x1, x2, s, r, t, h, HX, h13 => by
    have ih := ruleOCL ho n
    have k0 : OKC o s s := OKC.refl
    rcases h with ⟨_, h⟩ | ⟨_, h⟩ | ⟨_, h⟩ | ⟨_, h⟩ | ⟨_, h⟩ | ⟨_, h⟩
    · unfold T_X12_rule_88 at h
      obtain ⟨a0, h⟩ := h
      obtain ⟨a1, h⟩ := h
      obtain ⟨a2, h⟩ := h
      obtain ⟨a3, h⟩ := h
      obtain ⟨s_w_45, e4, h⟩ := h
      have ke4 : OKC o s s_w_45 := k0.trans (by rw [e4]; exact OKC.u12 ho (by clear h; omega))
      obtain ⟨s_w_47, e5, h⟩ := h
      have ke5 : OKC o s s_w_47 := ke4.trans (by rw [e5]; exact OKC.u12 ho (by clear h; omega))
      rcases h with ⟨c6, h⟩ | ⟨c6, h⟩
      · rcases h with ⟨c7, h⟩ | ⟨c7, h⟩
        · obtain ⟨s_w_50, h⟩ := h
          obtain ⟨a8, h⟩ := h
          obtain ⟨a9, h⟩ := h
          obtain ⟨a10, h⟩ := h
          have ka10 : OKC o s s_w_50 := ke5.trans (readsOC a8 a10 ho (ke5.1.trans h13))
          exact ka10.trans (ih _ _ _ _ _ _ _ h HX (ka10.1.trans h13))
        · exact ke5.trans (ih _ _ _ _ _ _ _ h HX (ke5.1.trans h13))
      · rcases h with ⟨c7, h⟩ | ⟨c7, h⟩
        · rcases h with ⟨c8, h⟩ | ⟨c8, h⟩
          · obtain ⟨s_w_58, h⟩ := h
            obtain ⟨a9, h⟩ := h
            obtain ⟨a10, h⟩ := h
            obtain ⟨a11, h⟩ := h
            have ka11 : OKC o s s_w_58 := ke5.trans (readsOC a9 a11 ho (ke5.1.trans h13))
            exact ka11.trans (ih _ _ _ _ _ _ _ h HX (ka11.1.trans h13))
          · exact ke5.trans (ih _ _ _ _ _ _ _ h HX (ke5.1.trans h13))
        · exact ke5.trans (ih _ _ _ _ _ _ _ h HX (ke5.1.trans h13))
    · unfold T_X12_rule_134 at h
      obtain ⟨a0, h⟩ := h
      obtain ⟨a1, h⟩ := h
      obtain ⟨a2, h⟩ := h
      obtain ⟨a3, h⟩ := h
      obtain ⟨s_w_36, e4, h⟩ := h
      have ke4 : OKC o s s_w_36 := k0.trans (by rw [e4]; exact OKC.u12 ho (by clear h; omega))
      rcases h with ⟨c5, h⟩ | ⟨c5, h⟩
      · rcases h with ⟨c6, h⟩ | ⟨c6, h⟩
        · obtain ⟨s_w_39, h⟩ := h
          obtain ⟨a7, h⟩ := h
          obtain ⟨a8, h⟩ := h
          have ka8 : OKC o s s_w_39 := ke4.trans (OKC.fr a8 (by decide))
          obtain ⟨a9, h⟩ := h
          exact ka8.trans (ih _ _ _ _ _ _ _ h HX (ka8.1.trans h13))
        · exact ke4.trans (ih _ _ _ _ _ _ _ h HX (ke4.1.trans h13))
      · exact ke4.trans (ih _ _ _ _ _ _ _ h HX (ke4.1.trans h13))
    · unfold T_X12_rule_170 at h
      obtain ⟨a0, h⟩ := h
      obtain ⟨a1, h⟩ := h
      obtain ⟨a2, h⟩ := h
      obtain ⟨a3, h⟩ := h
      obtain ⟨s_w_26, e4, h⟩ := h
      have ke4 : OKC o s s_w_26 := k0.trans (by rw [e4]; exact OKC.u12 ho (by clear h; omega))
      rcases h with ⟨c5, h⟩ | ⟨c5, h⟩
      · exact ke4.trans (ih _ _ _ _ _ _ _ h HX (ke4.1.trans h13))
      · rcases h with ⟨c6, h⟩ | ⟨c6, h⟩
        · obtain ⟨s_w_29, h⟩ := h
          obtain ⟨a7, h⟩ := h
          obtain ⟨a8, h⟩ := h
          obtain ⟨a9, h⟩ := h
          have ka9 : OKC o s s_w_29 := ke4.trans (readsOC a7 a9 ho (ke4.1.trans h13))
          exact ka9.trans (ih _ _ _ _ _ _ _ h HX (ka9.1.trans h13))
        · exact ke4.trans (ih _ _ _ _ _ _ _ h HX (ke4.1.trans h13))
    · unfold T_X12_rule_204 at h
      obtain ⟨a0, h⟩ := h
      obtain ⟨a1, h⟩ := h
      obtain ⟨a2, h⟩ := h
      obtain ⟨a3, h⟩ := h
      obtain ⟨s_w_16, e4, h⟩ := h
      have ke4 : OKC o s s_w_16 := k0.trans (by rw [e4]; exact OKC.u12 ho (by clear h; omega))
      rcases h with ⟨c5, h⟩ | ⟨c5, h⟩
      · exact ke4.trans (ih _ _ _ _ _ _ _ h HX (ke4.1.trans h13))
      · rcases h with ⟨c6, h⟩ | ⟨c6, h⟩
        · obtain ⟨s_w_19, h⟩ := h
          obtain ⟨a7, h⟩ := h
          obtain ⟨a8, h⟩ := h
          have ka8 : OKC o s s_w_19 := ke4.trans (OKC.fr a8 (by decide))
          obtain ⟨a9, h⟩ := h
          exact ka8.trans (ih _ _ _ _ _ _ _ h HX (ka8.1.trans h13))
        · exact ke4.trans (ih _ _ _ _ _ _ _ h HX (ke4.1.trans h13))
    · unfold T_X12_rule_240 at h
      obtain ⟨a0, h⟩ := h
      obtain ⟨a1, h⟩ := h
      obtain ⟨a2, h⟩ := h
      obtain ⟨a3, h⟩ := h
      obtain ⟨s_w_6, e4, h⟩ := h
      have ke4 : OKC o s s_w_6 := k0.trans (by rw [e4]; exact OKC.u12 ho (by clear h; omega))
      rcases h with ⟨c5, h⟩ | ⟨c5, h⟩
      · exact ke4.trans (ih _ _ _ _ _ _ _ h HX (ke4.1.trans h13))
      · rcases h with ⟨c6, h⟩ | ⟨c6, h⟩
        · obtain ⟨s_w_9, h⟩ := h
          obtain ⟨a7, h⟩ := h
          obtain ⟨a8, h⟩ := h
          obtain ⟨a9, h⟩ := h
          have ka9 : OKC o s s_w_9 := ke4.trans (readsOC a7 a9 ho (ke4.1.trans h13))
          exact ka9.trans (ih _ _ _ _ _ _ _ h HX (ka9.1.trans h13))
        · exact ke4.trans (ih _ _ _ _ _ _ _ h HX (ke4.1.trans h13))
    · unfold T_X12_rule_274 at h
      obtain ⟨a0, h⟩ := h
      obtain ⟨a1, h⟩ := h
      obtain ⟨a2, h⟩ := h
      obtain ⟨a3, h⟩ := h
      obtain ⟨s_w_2, e4, h⟩ := h
      have ke4 : OKC o s s_w_2 := k0.trans (by rw [e4]; exact OKC.u12 ho (by clear h; omega))
      obtain ⟨s_w_4, e5, h⟩ := h
      have ke5 : OKC o s s_w_4 := ke4.trans (by rw [e5]; exact OKC.usk (by decide))
      obtain ⟨er, es⟩ := h
      rw [es]
      exact ke5
theorem ruleOC {o : Nat} {s t : PS} {r p1 : Int} (h : M_X12_rule s p1 r t) (_ : TyM t) (ho : o ≤ 1) (h13 : s 0 13 = 1 - (o : Int)) : OKC o s t := by
  obtain ⟨n, h⟩ := h
  have k0 : OKC o s s := OKC.refl
  unfold T_X12_rule_e at h
  obtain ⟨a0, h⟩ := h
  obtain ⟨a1, h⟩ := h
  rcases h with ⟨c2, h⟩ | ⟨c2, h⟩
  · obtain ⟨s_w_82, h⟩ := h
    obtain ⟨a3, h⟩ := h
    obtain ⟨a4, h⟩ := h
    have ka4 : OKC o s s_w_82 := k0.trans (OKC.fr a4 (by decide))
    obtain ⟨a5, h⟩ := h
    obtain ⟨er, es⟩ := h
    rw [es]
    exact ka4
  · obtain ⟨s_w_66, h⟩ := h
    obtain ⟨a3, h⟩ := h
    obtain ⟨a4, h⟩ := h
    have ka4 : OKC o s s_w_66 := k0.trans (OKC.fr a4 (by decide))
    obtain ⟨a5, h⟩ := h
    rcases h with ⟨c6, h⟩ | ⟨c6, h⟩
    · rcases h with ⟨c7, h⟩ | ⟨c7, h⟩
      · obtain ⟨r_76, h⟩ := h
        obtain ⟨s_w_75, h⟩ := h
        obtain ⟨a8, h⟩ := h
        obtain ⟨a9, h⟩ := h
        have ka9 : OKC o s s_w_75 := ka4.trans (OKC.fr a9 (by decide))
        obtain ⟨a10, h⟩ := h
        rcases h with ⟨c11, h⟩ | ⟨c11, h⟩
        · obtain ⟨s_w_81, e12, h⟩ := h
          have ke12 : OKC o s s_w_81 := ka9.trans (by rw [e12]; exact OKC.usk (by decide))
          exact ke12.trans (ruleOCL ho n _ _ _ _ _ _ _ h (by have := tyM_oth a0 (s 0 13).toNat; clear h; omega) (ke12.1.trans h13))
        · exact ka9.trans (ruleOCL ho n _ _ _ _ _ _ _ h (by have := tyM_oth a0 (s 0 13).toNat; clear h; omega) (ka9.1.trans h13))
      · obtain ⟨a8, h⟩ := h
        exact ka4.trans (ruleOCL ho n _ _ _ _ _ _ _ h (by have := tyM_oth a0 (s 0 13).toNat; clear h; omega) (ka4.1.trans h13))
    · exact ka4.trans (ruleOCL ho n _ _ _ _ _ _ _ h (by have := tyM_oth a0 (s 0 13).toNat; clear h; omega) (ka4.1.trans h13))
theorem stmtOC {o : Nat} {s t : PS} {r : Int} (h : M_X12_statement s r t) (_ : TyM t) (ho : o ≤ 1) (h13 : s 0 13 = 1 - (o : Int)) : OKC o s t := by
  have k0 : OKC o s s := OKC.refl
  unfold M_X12_statement T_X12_statement_e at h
  obtain ⟨a0, h⟩ := h
  obtain ⟨r_2, h⟩ := h
  obtain ⟨s_w_1, h⟩ := h
  obtain ⟨a1, h⟩ := h
  obtain ⟨a2, h⟩ := h
  have ka2 : OKC o s s_w_1 := k0.trans (OKC.fr a2 (by decide))
  obtain ⟨a3, h⟩ := h
  obtain ⟨a4, h⟩ := h
  rcases h with ⟨c5, h⟩ | ⟨c5, h⟩
  · obtain ⟨r_8, h⟩ := h
    obtain ⟨s_w_7, h⟩ := h
    obtain ⟨a6, h⟩ := h
    obtain ⟨a7, h⟩ := h
    have ka7 : OKC o s s_w_7 := ka2.trans (OKC.fr a7 (by decide))
    obtain ⟨a8, h⟩ := h
    obtain ⟨a9, h⟩ := h
    rcases h with ⟨c10, h⟩ | ⟨c10, h⟩
    · obtain ⟨r_14, h⟩ := h
      obtain ⟨s_w_13, h⟩ := h
      obtain ⟨a11, h⟩ := h
      obtain ⟨a12, h⟩ := h
      have ka12 : OKC o s s_w_13 := ka7.trans (OKC.fr a12 (by decide))
      obtain ⟨a13, h⟩ := h
      obtain ⟨a14, h⟩ := h
      rcases h with ⟨c15, h⟩ | ⟨c15, h⟩
      · obtain ⟨r_20, h⟩ := h
        obtain ⟨s_w_19, h⟩ := h
        obtain ⟨a16, h⟩ := h
        obtain ⟨a17, h⟩ := h
        have ka17 : OKC o s s_w_19 := ka12.trans (OKC.fr a17 (by decide))
        obtain ⟨a18, h⟩ := h
        obtain ⟨a19, h⟩ := h
        rcases h with ⟨c20, h⟩ | ⟨c20, h⟩
        · obtain ⟨r_26, h⟩ := h
          obtain ⟨s_w_25, h⟩ := h
          obtain ⟨a21, h⟩ := h
          obtain ⟨a22, h⟩ := h
          have ka22 : OKC o s s_w_25 := ka17.trans (OKC.fr a22 (by decide))
          obtain ⟨a23, h⟩ := h
          obtain ⟨a24, h⟩ := h
          rcases h with ⟨c25, h⟩ | ⟨c25, h⟩
          · obtain ⟨s_w_31, h⟩ := h
            obtain ⟨a26, h⟩ := h
            obtain ⟨a27, h⟩ := h
            have ka27 : OKC o s s_w_31 := ka22.trans (OKC.fr a27 (by decide))
            obtain ⟨a28, h⟩ := h
            obtain ⟨a29, h⟩ := h
            obtain ⟨er, es⟩ := h
            rw [es]
            exact ka27
          · obtain ⟨s_w_38, h⟩ := h
            obtain ⟨a26, h⟩ := h
            obtain ⟨a27, h⟩ := h
            obtain ⟨a28, h⟩ := h
            have ka28 : OKC o s s_w_38 := ka22.trans (ruleOC a26 a28 ho (ka22.1.trans h13))
            rcases h with ⟨c29, h⟩ | ⟨c29, h⟩
            · obtain ⟨s_w_45, h⟩ := h
              obtain ⟨a30, h⟩ := h
              obtain ⟨a31, h⟩ := h
              have ka31 : OKC o s s_w_45 := ka28.trans (OKC.fr a31 (by decide))
              obtain ⟨a32, h⟩ := h
              obtain ⟨er, es⟩ := h
              rw [es]
              exact ka31
            · obtain ⟨er, es⟩ := h
              rw [es]
              exact ka28
        · obtain ⟨s_w_50, h⟩ := h
          obtain ⟨a21, h⟩ := h
          obtain ⟨a22, h⟩ := h
          obtain ⟨a23, h⟩ := h
          have ka23 : OKC o s s_w_50 := ka17.trans (ruleOC a21 a23 ho (ka17.1.trans h13))
          rcases h with ⟨c24, h⟩ | ⟨c24, h⟩
          · obtain ⟨s_w_57, h⟩ := h
            obtain ⟨a25, h⟩ := h
            obtain ⟨a26, h⟩ := h
            have ka26 : OKC o s s_w_57 := ka23.trans (OKC.fr a26 (by decide))
            obtain ⟨a27, h⟩ := h
            obtain ⟨er, es⟩ := h
            rw [es]
            exact ka26
          · obtain ⟨er, es⟩ := h
            rw [es]
            exact ka23
      · obtain ⟨s_w_62, h⟩ := h
        obtain ⟨a16, h⟩ := h
        obtain ⟨a17, h⟩ := h
        obtain ⟨a18, h⟩ := h
        have ka18 : OKC o s s_w_62 := ka12.trans (ruleOC a16 a18 ho (ka12.1.trans h13))
        rcases h with ⟨c19, h⟩ | ⟨c19, h⟩
        · obtain ⟨s_w_69, h⟩ := h
          obtain ⟨a20, h⟩ := h
          obtain ⟨a21, h⟩ := h
          have ka21 : OKC o s s_w_69 := ka18.trans (OKC.fr a21 (by decide))
          obtain ⟨a22, h⟩ := h
          obtain ⟨er, es⟩ := h
          rw [es]
          exact ka21
        · obtain ⟨er, es⟩ := h
          rw [es]
          exact ka18
    · obtain ⟨s_w_74, h⟩ := h
      obtain ⟨a11, h⟩ := h
      obtain ⟨a12, h⟩ := h
      obtain ⟨a13, h⟩ := h
      have ka13 : OKC o s s_w_74 := ka7.trans (ruleOC a11 a13 ho (ka7.1.trans h13))
      rcases h with ⟨c14, h⟩ | ⟨c14, h⟩
      · obtain ⟨s_w_81, h⟩ := h
        obtain ⟨a15, h⟩ := h
        obtain ⟨a16, h⟩ := h
        have ka16 : OKC o s s_w_81 := ka13.trans (OKC.fr a16 (by decide))
        obtain ⟨a17, h⟩ := h
        obtain ⟨er, es⟩ := h
        rw [es]
        exact ka16
      · obtain ⟨er, es⟩ := h
        rw [es]
        exact ka13
  · obtain ⟨s_w_86, h⟩ := h
    obtain ⟨a6, h⟩ := h
    obtain ⟨a7, h⟩ := h
    have ka7 : OKC o s s_w_86 := ka2.trans (OKC.fr a7 (by decide))
    obtain ⟨a8, h⟩ := h
    rcases h with ⟨c9, h⟩ | ⟨c9, h⟩
    · obtain ⟨s_w_91, h⟩ := h
      obtain ⟨a10, h⟩ := h
      obtain ⟨a11, h⟩ := h
      have ka11 : OKC o s s_w_91 := ka7.trans (OKC.fr a11 (by decide))
      obtain ⟨a12, h⟩ := h
      obtain ⟨er, es⟩ := h
      rw [es]
      exact ka11
    · obtain ⟨er, es⟩ := h
      rw [es]
      exact ka7
