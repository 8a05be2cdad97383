/-! the bank that isn't read into is kept -/
section OldBank
theorem us_n {s : PS} {k j k2 j2 : Nat} {v : Int} (h : ¬ (k2 = k ∧ j2 = j)) : us s k j v k2 j2 = s k2 j2 := by
  unfold us
  rw [if_neg h]
def OKB (o : Nat) (s t : PS) : Prop := t 0 13 = s 0 13 ∧ t 2 o = s 2 o ∧ t 3 o = s 3 o ∧ t 4 o = s 4 o ∧ t 5 o = s 5 o ∧ (∀ i, i < 10 → t 6 (10 * o + i) = s 6 (10 * o + i) ∧ t 8 (10 * o + i) = s 8 (10 * o + i) ∧ t 9 (10 * o + i) = s 9 (10 * o + i) ∧ t 10 (10 * o + i) = s 10 (10 * o + i) ∧ t 11 (10 * o + i) = s 11 (10 * o + i)) ∧ ∀ i, i < 8 → t 7 (8 * o + i) = s 7 (8 * o + i)
variable {o : Nat} {s t u : PS} {ms : List Nat} {fm : List (Nat × Nat)}
theorem OKB.refl : OKB o s s := ⟨rfl, rfl, rfl, rfl, rfl, fun _ _ => ⟨rfl, rfl, rfl, rfl, rfl⟩, fun _ _ => rfl⟩
theorem OKB.trans (h : OKB o s t) (k : OKB o t u) : OKB o s u := ⟨k.1.trans h.1, k.2.1.trans h.2.1, k.2.2.1.trans h.2.2.1, k.2.2.2.1.trans h.2.2.2.1, k.2.2.2.2.1.trans h.2.2.2.2.1, fun i hi => ⟨(k.2.2.2.2.2.1 i hi).1.trans (h.2.2.2.2.2.1 i hi).1, (k.2.2.2.2.2.1 i hi).2.1.trans (h.2.2.2.2.2.1 i hi).2.1, (k.2.2.2.2.2.1 i hi).2.2.1.trans (h.2.2.2.2.2.1 i hi).2.2.1, (k.2.2.2.2.2.1 i hi).2.2.2.1.trans (h.2.2.2.2.2.1 i hi).2.2.2.1, (k.2.2.2.2.2.1 i hi).2.2.2.2.trans (h.2.2.2.2.2.1 i hi).2.2.2.2⟩, fun i hi => (k.2.2.2.2.2.2 i hi).trans (h.2.2.2.2.2.2 i hi)⟩
abbrev okOB (ms : List Nat) (fm : List (Nat × Nat)) : Prop := (2 ∉ ms ∧ 3 ∉ ms ∧ 4 ∉ ms ∧ 5 ∉ ms ∧ 6 ∉ ms ∧ 7 ∉ ms ∧ 8 ∉ ms ∧ 9 ∉ ms ∧ 10 ∉ ms ∧ 11 ∉ ms) ∧ (0 ∉ ms ∨ (0 ∈ fm.map Prod.fst ∧ (0, 13) ∉ fm))
theorem OKB.of (e0 : t 0 13 = s 0 13) (e2 : t 2 = s 2) (e3 : t 3 = s 3) (e4 : t 4 = s 4) (e5' : t 5 = s 5) (e6 : t 6 = s 6) (e7 : t 7 = s 7) (e8' : t 8 = s 8) (e9 : t 9 = s 9) (e10 : t 10 = s 10) (e11 : t 11 = s 11) : OKB o s t := ⟨e0, by rw [e2], by rw [e3], by rw [e4], by rw [e5'], fun i _ => ⟨by rw [e6], by rw [e8'], by rw [e9], by rw [e10], by rw [e11]⟩, fun i _ => by rw [e7]⟩
theorem OKB.fr (hf : Fr intsM ms fm s t) (c : okOB ms fm) : OKB o s t := OKB.of (hf.f (by decide) c.2) (hf.1 2 c.1.1) (hf.1 3 c.1.2.1) (hf.1 4 c.1.2.2.1) (hf.1 5 c.1.2.2.2.1) (hf.1 6 c.1.2.2.2.2.1) (hf.1 7 c.1.2.2.2.2.2.1) (hf.1 8 c.1.2.2.2.2.2.2.1) (hf.1 9 c.1.2.2.2.2.2.2.2.1) (hf.1 10 c.1.2.2.2.2.2.2.2.2.1) (hf.1 11 c.1.2.2.2.2.2.2.2.2.2)
theorem OKB.us0 {j : Nat} {v : Int} (h : ¬ 13 = j) : OKB o s (us s 0 j v) := OKB.of (us_n (fun e => h e.2)) (us_k (by decide)) (us_k (by decide)) (us_k (by decide)) (us_k (by decide)) (us_k (by decide)) (us_k (by decide)) (us_k (by decide)) (us_k (by decide)) (us_k (by decide)) (us_k (by decide))
theorem OKB.usk {k j : Nat} {v : Int} (h : 12 ≤ k) : OKB o s (us s k j v) := OKB.of (us_n (by omega)) (us_k (by omega)) (us_k (by omega)) (us_k (by omega)) (us_k (by omega)) (us_k (by omega)) (us_k (by omega)) (us_k (by omega)) (us_k (by omega)) (us_k (by omega)) (us_k (by omega))
theorem OKB.u1 {k : Nat} {c v : Int} (hk : k = 2 ∨ k = 3 ∨ k = 4 ∨ k = 5) (ho : o ≤ 1) (hc : c = 1 - (o : Int)) : OKB o s (us s k c.toNat v) := ⟨us_n (by omega), us_n (by omega), us_n (by omega), us_n (by omega), us_n (by omega), fun i _ => ⟨us_n (by omega), us_n (by omega), us_n (by omega), us_n (by omega), us_n (by omega)⟩, fun i _ => us_n (by omega)⟩
theorem OKB.u10 {k : Nat} {c x v : Int} (hk : k = 6 ∨ k = 8 ∨ k = 9 ∨ k = 10 ∨ k = 11) (ho : o ≤ 1) (hc : c = 1 - (o : Int)) (hx : 0 ≤ x ∧ x < 10) : OKB o s (us s k ((10 * c) + x).toNat v) := ⟨us_n (by omega), us_n (by omega), us_n (by omega), us_n (by omega), us_n (by omega), fun i _ => ⟨us_n (by omega), us_n (by omega), us_n (by omega), us_n (by omega), us_n (by omega)⟩, fun i _ => us_n (by omega)⟩
theorem OKB.u8 {c x v : Int} (ho : o ≤ 1) (hc : c = 1 - (o : Int)) (hx : 0 ≤ x ∧ x < 8) : OKB o s (us s 7 ((8 * c) + x).toNat v) := ⟨us_n (by omega), us_n (by omega), us_n (by omega), us_n (by omega), us_n (by omega), fun i _ => ⟨us_n (by omega), us_n (by omega), us_n (by omega), us_n (by omega), us_n (by omega)⟩, fun i _ => us_n (by omega)⟩
theorem tyM_k2 (h : TyM s) (i : Nat) : 0 ≤ s 2 i ∧ s 2 i ≤ 10 := h.2 (2, 0, 10) (by decide) i
theorem tyM_k3 (h : TyM s) (i : Nat) : 0 ≤ s 3 i ∧ s 3 i ≤ 8 := h.2 (3, 0, 8) (by decide) i
end OldBank
theorem markOB {o : Nat} {s t : PS} {r p1 p2 : Int} (h : M_X12_mark s p1 p2 r t) (ho : o ≤ 1) (h13 : s 0 13 = 1 - (o : Int)) : OKB o s t := by
  have k0 : OKB o s s := OKB.refl
  unfold M_X12_mark T_X12_mark_e at h
  obtain ⟨a0, h⟩ := h
  rcases h with ⟨c1, h⟩ | ⟨c1, h⟩
  · rcases h with ⟨c2, h⟩ | ⟨c2, h⟩
    · obtain ⟨r_12, h⟩ := h
      obtain ⟨s_w_11, h⟩ := h
      obtain ⟨a3, h⟩ := h
      obtain ⟨a4, h⟩ := h
      have ka4 : OKB o s s_w_11 := k0.trans (OKB.fr a4 (by decide))
      obtain ⟨a5, h⟩ := h
      obtain ⟨a6, h⟩ := h
      rcases h with ⟨c7, h⟩ | ⟨c7, h⟩
      · obtain ⟨a8, h⟩ := h
        obtain ⟨r_17, h⟩ := h
        obtain ⟨s_w_16, h⟩ := h
        obtain ⟨a9, h⟩ := h
        obtain ⟨a10, h⟩ := h
        have ka10 : OKB o s s_w_16 := ka4.trans (OKB.fr a10 (by decide))
        obtain ⟨a11, h⟩ := h
        obtain ⟨a12, h⟩ := h
        rcases h with ⟨c13, h⟩ | ⟨c13, h⟩
        · obtain ⟨s_w_21, h⟩ := h
          obtain ⟨a14, h⟩ := h
          obtain ⟨a15, h⟩ := h
          have ka15 : OKB o s s_w_21 := ka10.trans (OKB.fr a15 (by decide))
          obtain ⟨a16, h⟩ := h
          rcases h with ⟨c17, h⟩ | ⟨c17, h⟩
          · obtain ⟨a18, h⟩ := h
            obtain ⟨er, es⟩ := h
            rw [es]
            exact ka15
          · rcases h with ⟨c18, h⟩ | ⟨c18, h⟩
            · obtain ⟨s_w_32, h⟩ := h
              obtain ⟨a19, h⟩ := h
              obtain ⟨a20, h⟩ := h
              have ka20 : OKB o s s_w_32 := ka15.trans (OKB.fr a20 (by decide))
              obtain ⟨a21, h⟩ := h
              obtain ⟨a22, h⟩ := h
              obtain ⟨er, es⟩ := h
              rw [es]
              exact ka20
            · obtain ⟨a19, h⟩ := h
              obtain ⟨er, es⟩ := h
              rw [es]
              exact ka15
        · obtain ⟨r_40, h⟩ := h
          obtain ⟨s_w_39, h⟩ := h
          obtain ⟨a14, h⟩ := h
          obtain ⟨a15, h⟩ := h
          have ka15 : OKB o s s_w_39 := ka10.trans (OKB.fr a15 (by decide))
          obtain ⟨a16, h⟩ := h
          obtain ⟨a17, h⟩ := h
          rcases h with ⟨c18, h⟩ | ⟨c18, h⟩
          · obtain ⟨s_w_43, h⟩ := h
            obtain ⟨a19, h⟩ := h
            obtain ⟨a20, h⟩ := h
            have ka20 : OKB o s s_w_43 := ka15.trans (OKB.fr a20 (by decide))
            obtain ⟨a21, h⟩ := h
            rcases h with ⟨c22, h⟩ | ⟨c22, h⟩
            · obtain ⟨a23, h⟩ := h
              obtain ⟨er, es⟩ := h
              rw [es]
              exact ka20
            · rcases h with ⟨c23, h⟩ | ⟨c23, h⟩
              · obtain ⟨s_w_54, h⟩ := h
                obtain ⟨a24, h⟩ := h
                obtain ⟨a25, h⟩ := h
                have ka25 : OKB o s s_w_54 := ka20.trans (OKB.fr a25 (by decide))
                obtain ⟨a26, h⟩ := h
                obtain ⟨a27, h⟩ := h
                obtain ⟨er, es⟩ := h
                rw [es]
                exact ka25
              · obtain ⟨a24, h⟩ := h
                obtain ⟨er, es⟩ := h
                rw [es]
                exact ka20
          · rcases h with ⟨c19, h⟩ | ⟨c19, h⟩
            · obtain ⟨a20, h⟩ := h
              rcases h with ⟨c21, h⟩ | ⟨c21, h⟩
              · obtain ⟨s_w_77, h⟩ := h
                obtain ⟨a22, h⟩ := h
                obtain ⟨a23, h⟩ := h
                have ka23 : OKB o s s_w_77 := ka15.trans (OKB.fr a23 (by decide))
                obtain ⟨a24, h⟩ := h
                obtain ⟨a25, h⟩ := h
                obtain ⟨er, es⟩ := h
                rw [es]
                exact ka23
              · obtain ⟨a22, h⟩ := h
                obtain ⟨a23, h⟩ := h
                obtain ⟨s_w_67, e24, h⟩ := h
                have ke24 : OKB o s s_w_67 := ka15.trans (by rw [e24]; exact OKB.u8 ho (k0.1.trans h13) (by clear h; have := (tyM_k3 a0 (s 0 13).toNat); omega))
                obtain ⟨s_w_68, e25, h⟩ := h
                have ke25 : OKB o s s_w_68 := ke24.trans (by rw [e25]; exact OKB.u1 (by decide) ho (k0.1.trans h13))
                obtain ⟨s_w_69, h⟩ := h
                obtain ⟨a26, h⟩ := h
                obtain ⟨a27, h⟩ := h
                have ka27 : OKB o s s_w_69 := ke25.trans (OKB.fr a27 (by decide))
                obtain ⟨a28, h⟩ := h
                obtain ⟨er, es⟩ := h
                rw [es]
                exact ka27
            · rcases h with ⟨c20, h⟩ | ⟨c20, h⟩
              · obtain ⟨s_w_97, h⟩ := h
                obtain ⟨a21, h⟩ := h
                obtain ⟨a22, h⟩ := h
                have ka22 : OKB o s s_w_97 := ka15.trans (OKB.fr a22 (by decide))
                obtain ⟨a23, h⟩ := h
                obtain ⟨a24, h⟩ := h
                obtain ⟨a25, h⟩ := h
                obtain ⟨er, es⟩ := h
                rw [es]
                exact ka22
              · obtain ⟨a21, h⟩ := h
                obtain ⟨a22, h⟩ := h
                obtain ⟨a23, h⟩ := h
                obtain ⟨s_w_89, h⟩ := h
                obtain ⟨a24, h⟩ := h
                obtain ⟨a25, h⟩ := h
                have ka25 : OKB o s s_w_89 := ka15.trans (OKB.fr a25 (by decide))
                obtain ⟨a26, h⟩ := h
                obtain ⟨er, es⟩ := h
                rw [es]
                exact ka25
      · obtain ⟨s_w_105, h⟩ := h
        obtain ⟨a8, h⟩ := h
        obtain ⟨a9, h⟩ := h
        have ka9 : OKB o s s_w_105 := ka4.trans (OKB.fr a9 (by decide))
        obtain ⟨a10, h⟩ := h
        obtain ⟨a11, h⟩ := h
        obtain ⟨er, es⟩ := h
        rw [es]
        exact ka9
    · obtain ⟨s_w_4, h⟩ := h
      obtain ⟨a3, h⟩ := h
      obtain ⟨a4, h⟩ := h
      have ka4 : OKB o s s_w_4 := k0.trans (OKB.fr a4 (by decide))
      obtain ⟨a5, h⟩ := h
      obtain ⟨a6, h⟩ := h
      obtain ⟨er, es⟩ := h
      rw [es]
      exact ka4
  · obtain ⟨a2, h⟩ := h
    obtain ⟨er, es⟩ := h
    rw [es]
    exact k0
theorem kindOBL {o : Nat} (ho : o ≤ 1) : ∀ (n pc : Nat) (x0 x1 x2 x3 x4 x5 x6 : Int) (s : PS) (r : Int) (t : PS), It_X12_kind n pc x0 x1 x2 x3 x4 x5 x6 s r t → 0 ≤ x0 → (x0 < 10 ∨ (¬ s 0 8 = 0 ∧ x6 = 0)) → s 0 13 = 1 - (o : Int) → OKB o s t
  | 0, pc, x0, x1, x2, x3, x4, x5, x6, s, r, t, h, _, _, _ => False.elim h
  | n + 1, pc, x0, x1, x2, x3, x4, x5, x6, s, r, t, h, hx0, HX, h13 => by
    have ih := kindOBL ho n
    have k0 : OKB o s s := OKB.refl
    rcases h with ⟨_, h⟩ | ⟨_, h⟩ | ⟨_, h⟩ | ⟨_, h⟩ | ⟨_, h⟩ | ⟨_, h⟩ | ⟨_, h⟩ | ⟨_, h⟩ | ⟨_, h⟩ | ⟨_, h⟩ | ⟨_, h⟩ | ⟨_, h⟩ | ⟨_, h⟩ | ⟨_, h⟩ | ⟨_, h⟩ | ⟨_, h⟩
    · unfold T_X12_kind_25 at h
      obtain ⟨a0, h⟩ := h
      obtain ⟨a1, h⟩ := h
      rcases h with ⟨c2, h⟩ | ⟨c2, h⟩
      · obtain ⟨s_w_108, h⟩ := h
        obtain ⟨a3, h⟩ := h
        obtain ⟨a4, h⟩ := h
        have ka4 : OKB o s s_w_108 := k0.trans (OKB.fr a4 (by decide))
        obtain ⟨a5, h⟩ := h
        refine ka4.trans (ih _ _ _ _ _ _ _ _ _ _ _ h (by omega) ?_ (ka4.1.trans h13))
        rcases HX with z | z
        · exact Or.inl z
        · exact Or.inr ⟨by first | exact z.1 | (exact absurd (by assumption) z.1) | (exact absurd z.2 (by assumption)) | (omega), by first | exact z.2 | rfl | (exact absurd (by assumption) z.1) | (exact absurd z.2 (by assumption))⟩
      · refine k0.trans (ih _ _ _ _ _ _ _ _ _ _ _ h (by omega) ?_ (k0.1.trans h13))
        rcases HX with z | z
        · exact Or.inl z
        · exact Or.inr ⟨by first | exact z.1 | (exact absurd (by assumption) z.1) | (exact absurd z.2 (by assumption)) | (omega), by first | exact z.2 | rfl | (exact absurd (by assumption) z.1) | (exact absurd z.2 (by assumption))⟩
    · unfold T_X12_kind_36 at h
      obtain ⟨a0, h⟩ := h
      obtain ⟨a1, h⟩ := h
      rcases h with ⟨c2, h⟩ | ⟨c2, h⟩
      · rcases h with ⟨c3, h⟩ | ⟨c3, h⟩
        · obtain ⟨r_104, h⟩ := h
          obtain ⟨s_w_103, h⟩ := h
          obtain ⟨a4, h⟩ := h
          obtain ⟨a5, h⟩ := h
          have ka5 : OKB o s s_w_103 := k0.trans (OKB.fr a5 (by decide))
          obtain ⟨a6, h⟩ := h
          obtain ⟨a7, h⟩ := h
          rcases h with ⟨c8, h⟩ | ⟨c8, h⟩
          · refine ka5.trans (ih _ _ _ _ _ _ _ _ _ _ _ h (by omega) ?_ (ka5.1.trans h13))
            rcases HX with z | z
            · exact Or.inl z
            · exact Or.inr ⟨by first | exact z.1 | (exact absurd (by assumption) z.1) | (exact absurd z.2 (by assumption)) | (omega), by first | exact z.2 | rfl | (exact absurd (by assumption) z.1) | (exact absurd z.2 (by assumption))⟩
          · refine ka5.trans (ih _ _ _ _ _ _ _ _ _ _ _ h (by omega) ?_ (ka5.1.trans h13))
            rcases HX with z | z
            · exact Or.inl z
            · exact Or.inr ⟨by first | exact z.1 | (exact absurd (by assumption) z.1) | (exact absurd z.2 (by assumption)) | (omega), by first | exact z.2 | rfl | (exact absurd (by assumption) z.1) | (exact absurd z.2 (by assumption))⟩
        · refine k0.trans (ih _ _ _ _ _ _ _ _ _ _ _ h (by omega) ?_ (k0.1.trans h13))
          rcases HX with z | z
          · exact Or.inl z
          · exact Or.inr ⟨by first | exact z.1 | (exact absurd (by assumption) z.1) | (exact absurd z.2 (by assumption)) | (omega), by first | exact z.2 | rfl | (exact absurd (by assumption) z.1) | (exact absurd z.2 (by assumption))⟩
      · refine k0.trans (ih _ _ _ _ _ _ _ _ _ _ _ h (by omega) ?_ (k0.1.trans h13))
        rcases HX with z | z
        · exact Or.inl z
        · exact Or.inr ⟨by first | exact z.1 | (exact absurd (by assumption) z.1) | (exact absurd z.2 (by assumption)) | (omega), by first | exact z.2 | rfl | (exact absurd (by assumption) z.1) | (exact absurd z.2 (by assumption))⟩
    · unfold T_X12_kind_62 at h
      obtain ⟨a0, h⟩ := h
      obtain ⟨a1, h⟩ := h
      obtain ⟨s_w_95, h⟩ := h
      obtain ⟨a2, h⟩ := h
      obtain ⟨a3, h⟩ := h
      have ka3 : OKB o s s_w_95 := k0.trans (OKB.fr a3 (by decide))
      obtain ⟨a4, h⟩ := h
      refine ka3.trans (ih _ _ _ _ _ _ _ _ _ _ _ h (by omega) ?_ (ka3.1.trans h13))
      rcases HX with z | z
      · exact Or.inl z
      · exact Or.inr ⟨by first | exact z.1 | (exact absurd (by assumption) z.1) | (exact absurd z.2 (by assumption)) | (exact (blameF a2 (tyM_flt a0).1).1), by first | exact z.2 | rfl | (exact absurd (by assumption) z.1) | (exact absurd z.2 (by assumption))⟩
    · unfold T_X12_kind_71 at h
      obtain ⟨a0, h⟩ := h
      obtain ⟨a1, h⟩ := h
      rcases h with ⟨c2, h⟩ | ⟨c2, h⟩
      · obtain ⟨r_88, h⟩ := h
        obtain ⟨s_w_87, h⟩ := h
        obtain ⟨a3, h⟩ := h
        obtain ⟨a4, h⟩ := h
        have ka4 : OKB o s s_w_87 := k0.trans (OKB.fr a4 (by decide))
        obtain ⟨a5, h⟩ := h
        obtain ⟨a6, h⟩ := h
        rcases h with ⟨c7, h⟩ | ⟨c7, h⟩
        · refine ka4.trans (ih _ _ _ _ _ _ _ _ _ _ _ h (by omega) ?_ (ka4.1.trans h13))
          rcases HX with z | z
          · exact Or.inl z
          · exact Or.inr ⟨by first | exact z.1 | (exact absurd (by assumption) z.1) | (exact absurd z.2 (by assumption)) | (omega), by first | exact z.2 | rfl | (exact absurd (by assumption) z.1) | (exact absurd z.2 (by assumption))⟩
        · obtain ⟨r_92, h⟩ := h
          obtain ⟨s_w_91, h⟩ := h
          obtain ⟨a8, h⟩ := h
          obtain ⟨a9, h⟩ := h
          have ka9 : OKB o s s_w_91 := ka4.trans (OKB.fr a9 (by decide))
          obtain ⟨a10, h⟩ := h
          obtain ⟨a11, h⟩ := h
          rcases h with ⟨c12, h⟩ | ⟨c12, h⟩
          · refine ka9.trans (ih _ _ _ _ _ _ _ _ _ _ _ h (by omega) ?_ (ka9.1.trans h13))
            rcases HX with z | z
            · exact Or.inl z
            · exact Or.inr ⟨by first | exact z.1 | (exact absurd (by assumption) z.1) | (exact absurd z.2 (by assumption)) | (omega), by first | exact z.2 | rfl | (exact absurd (by assumption) z.1) | (exact absurd z.2 (by assumption))⟩
          · refine ka9.trans (ih _ _ _ _ _ _ _ _ _ _ _ h (by omega) ?_ (ka9.1.trans h13))
            rcases HX with z | z
            · exact Or.inl z
            · exact Or.inr ⟨by first | exact z.1 | (exact absurd (by assumption) z.1) | (exact absurd z.2 (by assumption)) | (omega), by first | exact z.2 | rfl | (exact absurd (by assumption) z.1) | (exact absurd z.2 (by assumption))⟩
      · refine k0.trans (ih _ _ _ _ _ _ _ _ _ _ _ h (by omega) ?_ (k0.1.trans h13))
        rcases HX with z | z
        · exact Or.inl z
        · exact Or.inr ⟨by first | exact z.1 | (exact absurd (by assumption) z.1) | (exact absurd z.2 (by assumption)) | (omega), by first | exact z.2 | rfl | (exact absurd (by assumption) z.1) | (exact absurd z.2 (by assumption))⟩
    · unfold T_X12_kind_100 at h
      obtain ⟨a0, h⟩ := h
      obtain ⟨a1, h⟩ := h
      obtain ⟨s_w_80, h⟩ := h
      obtain ⟨a2, h⟩ := h
      obtain ⟨a3, h⟩ := h
      have ka3 : OKB o s s_w_80 := k0.trans (OKB.fr a3 (by decide))
      obtain ⟨a4, h⟩ := h
      refine ka3.trans (ih _ _ _ _ _ _ _ _ _ _ _ h (by omega) ?_ (ka3.1.trans h13))
      rcases HX with z | z
      · exact Or.inl z
      · exact Or.inr ⟨by first | exact z.1 | (exact absurd (by assumption) z.1) | (exact absurd z.2 (by assumption)) | (exact (blameF a2 (tyM_flt a0).1).1), by first | exact z.2 | rfl | (exact absurd (by assumption) z.1) | (exact absurd z.2 (by assumption))⟩
    · unfold T_X12_kind_109 at h
      obtain ⟨a0, h⟩ := h
      obtain ⟨a1, h⟩ := h
      rcases h with ⟨c2, h⟩ | ⟨c2, h⟩
      · obtain ⟨s_w_74, h⟩ := h
        obtain ⟨a3, h⟩ := h
        obtain ⟨a4, h⟩ := h
        have ka4 : OKB o s s_w_74 := k0.trans (OKB.fr a4 (by decide))
        obtain ⟨a5, h⟩ := h
        refine ka4.trans (ih _ _ _ _ _ _ _ _ _ _ _ h (by omega) ?_ (ka4.1.trans h13))
        rcases HX with z | z
        · exact Or.inl z
        · exact Or.inr ⟨by first | exact z.1 | (exact absurd (by assumption) z.1) | (exact absurd z.2 (by assumption)) | (omega), by first | exact z.2 | rfl | (exact absurd (by assumption) z.1) | (exact absurd z.2 (by assumption))⟩
      · refine k0.trans (ih _ _ _ _ _ _ _ _ _ _ _ h (by omega) ?_ (k0.1.trans h13))
        rcases HX with z | z
        · exact Or.inl z
        · exact Or.inr ⟨by first | exact z.1 | (exact absurd (by assumption) z.1) | (exact absurd z.2 (by assumption)) | (omega), by first | exact z.2 | rfl | (exact absurd (by assumption) z.1) | (exact absurd z.2 (by assumption))⟩
    · unfold T_X12_kind_125 at h
      obtain ⟨a0, h⟩ := h
      obtain ⟨a1, h⟩ := h
      rcases h with ⟨c2, h⟩ | ⟨c2, h⟩
      · obtain ⟨s_w_67, h⟩ := h
        obtain ⟨a3, h⟩ := h
        obtain ⟨a4, h⟩ := h
        have ka4 : OKB o s s_w_67 := k0.trans (OKB.fr a4 (by decide))
        obtain ⟨a5, h⟩ := h
        refine ka4.trans (ih _ _ _ _ _ _ _ _ _ _ _ h (by omega) ?_ (ka4.1.trans h13))
        rcases HX with z | z
        · exact Or.inl z
        · exact Or.inr ⟨by first | exact z.1 | (exact absurd (by assumption) z.1) | (exact absurd z.2 (by assumption)) | (omega), by first | exact z.2 | rfl | (exact absurd (by assumption) z.1) | (exact absurd z.2 (by assumption))⟩
      · refine k0.trans (ih _ _ _ _ _ _ _ _ _ _ _ h (by omega) ?_ (k0.1.trans h13))
        rcases HX with z | z
        · exact Or.inl z
        · exact Or.inr ⟨by first | exact z.1 | (exact absurd (by assumption) z.1) | (exact absurd z.2 (by assumption)) | (omega), by first | exact z.2 | rfl | (exact absurd (by assumption) z.1) | (exact absurd z.2 (by assumption))⟩
    · unfold T_X12_kind_139 at h
      obtain ⟨a0, h⟩ := h
      obtain ⟨a1, h⟩ := h
      rcases h with ⟨c2, h⟩ | ⟨c2, h⟩
      · obtain ⟨r_62, h⟩ := h
        obtain ⟨s_w_61, h⟩ := h
        obtain ⟨a3, h⟩ := h
        obtain ⟨a4, h⟩ := h
        have ka4 : OKB o s s_w_61 := k0.trans (OKB.fr a4 (by decide))
        obtain ⟨a5, h⟩ := h
        refine ka4.trans (ih _ _ _ _ _ _ _ _ _ _ _ h (by omega) ?_ (ka4.1.trans h13))
        rcases HX with z | z
        · exact Or.inl z
        · exact Or.inr ⟨by first | exact z.1 | (exact absurd (by assumption) z.1) | (exact absurd z.2 (by assumption)) | (omega), by first | exact z.2 | rfl | (exact absurd (by assumption) z.1) | (exact absurd z.2 (by assumption))⟩
      · refine k0.trans (ih _ _ _ _ _ _ _ _ _ _ _ h (by omega) ?_ (k0.1.trans h13))
        rcases HX with z | z
        · exact Or.inl z
        · exact Or.inr ⟨by first | exact z.1 | (exact absurd (by assumption) z.1) | (exact absurd z.2 (by assumption)) | (omega), by first | exact z.2 | rfl | (exact absurd (by assumption) z.1) | (exact absurd z.2 (by assumption))⟩
    · unfold T_X12_kind_158 at h
      obtain ⟨a0, h⟩ := h
      obtain ⟨a1, h⟩ := h
      rcases h with ⟨c2, h⟩ | ⟨c2, h⟩
      · obtain ⟨s_w_54, h⟩ := h
        obtain ⟨a3, h⟩ := h
        obtain ⟨a4, h⟩ := h
        have ka4 : OKB o s s_w_54 := k0.trans (OKB.fr a4 (by decide))
        obtain ⟨a5, h⟩ := h
        refine ka4.trans (ih _ _ _ _ _ _ _ _ _ _ _ h (by omega) ?_ (ka4.1.trans h13))
        rcases HX with z | z
        · exact Or.inl z
        · exact Or.inr ⟨by first | exact z.1 | (exact absurd (by assumption) z.1) | (exact absurd z.2 (by assumption)) | (omega), by first | exact z.2 | rfl | (exact absurd (by assumption) z.1) | (exact absurd z.2 (by assumption))⟩
      · refine k0.trans (ih _ _ _ _ _ _ _ _ _ _ _ h (by omega) ?_ (k0.1.trans h13))
        rcases HX with z | z
        · exact Or.inl z
        · exact Or.inr ⟨by first | exact z.1 | (exact absurd (by assumption) z.1) | (exact absurd z.2 (by assumption)) | (omega), by first | exact z.2 | rfl | (exact absurd (by assumption) z.1) | (exact absurd z.2 (by assumption))⟩
    · unfold T_X12_kind_174 at h
      obtain ⟨a0, h⟩ := h
      obtain ⟨a1, h⟩ := h
      rcases h with ⟨c2, h⟩ | ⟨c2, h⟩
      · obtain ⟨r_49, h⟩ := h
        obtain ⟨s_w_48, h⟩ := h
        obtain ⟨a3, h⟩ := h
        obtain ⟨a4, h⟩ := h
        have ka4 : OKB o s s_w_48 := k0.trans (OKB.fr a4 (by decide))
        obtain ⟨a5, h⟩ := h
        refine ka4.trans (ih _ _ _ _ _ _ _ _ _ _ _ h (by omega) ?_ (ka4.1.trans h13))
        rcases HX with z | z
        · exact Or.inl z
        · exact Or.inr ⟨by first | exact z.1 | (exact absurd (by assumption) z.1) | (exact absurd z.2 (by assumption)) | (omega), by first | exact z.2 | rfl | (exact absurd (by assumption) z.1) | (exact absurd z.2 (by assumption))⟩
      · refine k0.trans (ih _ _ _ _ _ _ _ _ _ _ _ h (by omega) ?_ (k0.1.trans h13))
        rcases HX with z | z
        · exact Or.inl z
        · exact Or.inr ⟨by first | exact z.1 | (exact absurd (by assumption) z.1) | (exact absurd z.2 (by assumption)) | (omega), by first | exact z.2 | rfl | (exact absurd (by assumption) z.1) | (exact absurd z.2 (by assumption))⟩
    · unfold T_X12_kind_193 at h
      obtain ⟨a0, h⟩ := h
      obtain ⟨a1, h⟩ := h
      rcases h with ⟨c2, h⟩ | ⟨c2, h⟩
      · obtain ⟨s_w_41, h⟩ := h
        obtain ⟨a3, h⟩ := h
        obtain ⟨a4, h⟩ := h
        have ka4 : OKB o s s_w_41 := k0.trans (OKB.fr a4 (by decide))
        obtain ⟨a5, h⟩ := h
        refine ka4.trans (ih _ _ _ _ _ _ _ _ _ _ _ h (by omega) ?_ (ka4.1.trans h13))
        rcases HX with z | z
        · exact Or.inl z
        · exact Or.inr ⟨by first | exact z.1 | (exact absurd (by assumption) z.1) | (exact absurd z.2 (by assumption)) | (omega), by first | exact z.2 | rfl | (exact absurd (by assumption) z.1) | (exact absurd z.2 (by assumption))⟩
      · refine k0.trans (ih _ _ _ _ _ _ _ _ _ _ _ h (by omega) ?_ (k0.1.trans h13))
        rcases HX with z | z
        · exact Or.inl z
        · exact Or.inr ⟨by first | exact z.1 | (exact absurd (by assumption) z.1) | (exact absurd z.2 (by assumption)) | (omega), by first | exact z.2 | rfl | (exact absurd (by assumption) z.1) | (exact absurd z.2 (by assumption))⟩
    · unfold T_X12_kind_209 at h
      obtain ⟨a0, h⟩ := h
      obtain ⟨a1, h⟩ := h
      rcases h with ⟨c2, h⟩ | ⟨c2, h⟩
      · obtain ⟨r_36, h⟩ := h
        obtain ⟨s_w_35, h⟩ := h
        obtain ⟨a3, h⟩ := h
        obtain ⟨a4, h⟩ := h
        have ka4 : OKB o s s_w_35 := k0.trans (OKB.fr a4 (by decide))
        obtain ⟨a5, h⟩ := h
        refine ka4.trans (ih _ _ _ _ _ _ _ _ _ _ _ h (by omega) ?_ (ka4.1.trans h13))
        rcases HX with z | z
        · exact Or.inl z
        · exact Or.inr ⟨by first | exact z.1 | (exact absurd (by assumption) z.1) | (exact absurd z.2 (by assumption)) | (omega), by first | exact z.2 | rfl | (exact absurd (by assumption) z.1) | (exact absurd z.2 (by assumption))⟩
      · refine k0.trans (ih _ _ _ _ _ _ _ _ _ _ _ h (by omega) ?_ (k0.1.trans h13))
        rcases HX with z | z
        · exact Or.inl z
        · exact Or.inr ⟨by first | exact z.1 | (exact absurd (by assumption) z.1) | (exact absurd z.2 (by assumption)) | (omega), by first | exact z.2 | rfl | (exact absurd (by assumption) z.1) | (exact absurd z.2 (by assumption))⟩
    · unfold T_X12_kind_228 at h
      obtain ⟨a0, h⟩ := h
      obtain ⟨a1, h⟩ := h
      rcases h with ⟨c2, h⟩ | ⟨c2, h⟩
      · obtain ⟨r_29, h⟩ := h
        obtain ⟨s_w_28, h⟩ := h
        obtain ⟨a3, h⟩ := h
        obtain ⟨a4, h⟩ := h
        have ka4 : OKB o s s_w_28 := k0.trans (OKB.fr a4 (by decide))
        obtain ⟨a5, h⟩ := h
        obtain ⟨a6, h⟩ := h
        rcases h with ⟨c7, h⟩ | ⟨c7, h⟩
        · refine ka4.trans (ih _ _ _ _ _ _ _ _ _ _ _ h (by omega) ?_ (ka4.1.trans h13))
          rcases HX with z | z
          · exact Or.inl z
          · exact Or.inr ⟨by first | exact z.1 | (exact absurd (by assumption) z.1) | (exact absurd z.2 (by assumption)) | (omega), by first | exact z.2 | rfl | (exact absurd (by assumption) z.1) | (exact absurd z.2 (by assumption))⟩
        · refine ka4.trans (ih _ _ _ _ _ _ _ _ _ _ _ h (by omega) ?_ (ka4.1.trans h13))
          rcases HX with z | z
          · exact Or.inl z
          · exact Or.inr ⟨by first | exact z.1 | (exact absurd (by assumption) z.1) | (exact absurd z.2 (by assumption)) | (omega), by first | exact z.2 | rfl | (exact absurd (by assumption) z.1) | (exact absurd z.2 (by assumption))⟩
      · refine k0.trans (ih _ _ _ _ _ _ _ _ _ _ _ h (by omega) ?_ (k0.1.trans h13))
        rcases HX with z | z
        · exact Or.inl z
        · exact Or.inr ⟨by first | exact z.1 | (exact absurd (by assumption) z.1) | (exact absurd z.2 (by assumption)) | (omega), by first | exact z.2 | rfl | (exact absurd (by assumption) z.1) | (exact absurd z.2 (by assumption))⟩
    · unfold T_X12_kind_254 at h
      obtain ⟨a0, h⟩ := h
      obtain ⟨a1, h⟩ := h
      obtain ⟨a2, h⟩ := h
      refine k0.trans (ih _ _ _ _ _ _ _ _ _ _ _ h (by omega) ?_ (k0.1.trans h13))
      rcases HX with z | z
      · exact Or.inl z
      · exact Or.inr ⟨by first | exact z.1 | (exact absurd (by assumption) z.1) | (exact absurd z.2 (by assumption)) | (omega), by first | exact z.2 | rfl | (exact absurd (by assumption) z.1) | (exact absurd z.2 (by assumption))⟩
    · unfold T_X12_kind_255 at h
      obtain ⟨a0, h⟩ := h
      obtain ⟨a1, h⟩ := h
      obtain ⟨a2, h⟩ := h
      obtain ⟨a3, h⟩ := h
      refine k0.trans (ih _ _ _ _ _ _ _ _ _ _ _ h (by omega) ?_ (k0.1.trans h13))
      rcases HX with z | z
      · exact Or.inl z
      · exact Or.inr ⟨by first | exact z.1 | (exact absurd (by assumption) z.1) | (exact absurd z.2 (by assumption)) | (omega), by first | exact z.2 | rfl | (exact absurd (by assumption) z.1) | (exact absurd z.2 (by assumption))⟩
    · unfold T_X12_kind_257 at h
      obtain ⟨a0, h⟩ := h
      obtain ⟨a1, h⟩ := h
      obtain ⟨a2, h⟩ := h
      rcases h with ⟨c3, h⟩ | ⟨c3, h⟩
      · rcases h with ⟨c4, h⟩ | ⟨c4, h⟩
        · obtain ⟨s_w_3, e5, h⟩ := h
          have ke5 : OKB o s s_w_3 := k0.trans (by rw [e5]; exact OKB.u10 (by decide) ho (k0.1.trans h13) (by clear h; have := tyM_flt a0; rcases HX with z | z <;> omega))
          obtain ⟨s_w_4, e6, h⟩ := h
          have ke6 : OKB o s s_w_4 := ke5.trans (by rw [e6]; exact OKB.u10 (by decide) ho (k0.1.trans h13) (by clear h; have := tyM_flt a0; rcases HX with z | z <;> omega))
          obtain ⟨s_w_5, e7, h⟩ := h
          have ke7 : OKB o s s_w_5 := ke6.trans (by rw [e7]; exact OKB.u10 (by decide) ho (k0.1.trans h13) (by clear h; have := tyM_flt a0; rcases HX with z | z <;> omega))
          obtain ⟨s_w_6, e8, h⟩ := h
          have ke8 : OKB o s s_w_6 := ke7.trans (by rw [e8]; exact OKB.u10 (by decide) ho (k0.1.trans h13) (by clear h; have := tyM_flt a0; rcases HX with z | z <;> omega))
          obtain ⟨s_w_7, e9, h⟩ := h
          have ke9 : OKB o s s_w_7 := ke8.trans (by rw [e9]; exact OKB.u10 (by decide) ho (k0.1.trans h13) (by clear h; have := tyM_flt a0; rcases HX with z | z <;> omega))
          obtain ⟨s_w_9, e10, h⟩ := h
          have ke10 : OKB o s s_w_9 := ke9.trans (by rw [e10]; exact OKB.u1 (by decide) ho (k0.1.trans h13))
          obtain ⟨er, es⟩ := h
          rw [es]
          exact ke10
        · obtain ⟨er, es⟩ := h
          rw [es]
          exact k0
      · obtain ⟨s_w_10, h⟩ := h
        obtain ⟨a4, h⟩ := h
        obtain ⟨a5, h⟩ := h
        have ka5 : OKB o s s_w_10 := k0.trans (OKB.fr a5 (by decide))
        obtain ⟨a6, h⟩ := h
        obtain ⟨r_17, h⟩ := h
        obtain ⟨s_w_16, h⟩ := h
        obtain ⟨a7, h⟩ := h
        have ka7 : OKB o s s_w_16 := ka5.trans (markOB a7 ho (ka5.1.trans h13))
        obtain ⟨a8, h⟩ := h
        obtain ⟨a9, h⟩ := h
        rcases h with ⟨c10, h⟩ | ⟨c10, h⟩
        · obtain ⟨r_23, h⟩ := h
          obtain ⟨s_w_22, h⟩ := h
          obtain ⟨a11, h⟩ := h
          obtain ⟨a12, h⟩ := h
          have ka12 : OKB o s s_w_22 := ka7.trans (OKB.fr a12 (by decide))
          obtain ⟨a13, h⟩ := h
          obtain ⟨a14, h⟩ := h
          rcases h with ⟨c15, h⟩ | ⟨c15, h⟩
          · refine ka12.trans (ih _ _ _ _ _ _ _ _ _ _ _ h (by omega) ?_ (ka12.1.trans h13))
            rcases HX with z | z
            · exact Or.inl z
            · exact Or.inr ⟨by first | exact z.1 | (exact absurd (by assumption) z.1) | (exact absurd z.2 (by assumption)) | (omega), by first | exact z.2 | rfl | (exact absurd (by assumption) z.1) | (exact absurd z.2 (by assumption))⟩
          · refine ka12.trans (ih _ _ _ _ _ _ _ _ _ _ _ h (by omega) ?_ (ka12.1.trans h13))
            rcases HX with z | z
            · exact Or.inl z
            · exact Or.inr ⟨by first | exact z.1 | (exact absurd (by assumption) z.1) | (exact absurd z.2 (by assumption)) | (omega), by first | exact z.2 | rfl | (exact absurd (by assumption) z.1) | (exact absurd z.2 (by assumption))⟩
        · refine ka7.trans (ih _ _ _ _ _ _ _ _ _ _ _ h (by omega) ?_ (ka7.1.trans h13))
          rcases HX with z | z
          · exact Or.inl z
          · exact Or.inr ⟨by first | exact z.1 | (exact absurd (by assumption) z.1) | (exact absurd z.2 (by assumption)) | (omega), by first | exact z.2 | rfl | (exact absurd (by assumption) z.1) | (exact absurd z.2 (by assumption))⟩
theorem kindOB {o : Nat} {s t : PS} {r : Int} (h : M_X12_kind s r t) (ho : o ≤ 1) (h13 : s 0 13 = 1 - (o : Int)) : OKB o s t := by
  obtain ⟨n, h⟩ := h
  have k0 : OKB o s s := OKB.refl
  unfold T_X12_kind_e at h
  obtain ⟨a0, h⟩ := h
  rcases h with ⟨c1, h⟩ | ⟨c1, h⟩
  · obtain ⟨s_w_116, h⟩ := h
    obtain ⟨a2, h⟩ := h
    obtain ⟨a3, h⟩ := h
    have ka3 : OKB o s s_w_116 := k0.trans (OKB.fr a3 (by decide))
    obtain ⟨a4, h⟩ := h
    refine ka3.trans (kindOBL ho n _ _ _ _ _ _ _ _ _ _ _ h (tyM_k2 a0 _).1 ?_ (ka3.1.trans h13))
    exact Or.inr ⟨(blameF a2 (tyM_flt a0).1).1, rfl⟩
  · refine k0.trans (kindOBL ho n _ _ _ _ _ _ _ _ _ _ _ h (tyM_k2 a0 _).1 ?_ (k0.1.trans h13))
    exact Or.inl (by have := (tyM_k2 a0 (s 0 13).toNat).2; omega)
theorem ruleOBL {o : Nat} (ho : o ≤ 1) : ∀ (n pc : Nat) (x0 x1 x2 : Int) (s : PS) (r : Int) (t : PS), It_X12_rule n pc x0 x1 x2 s r t → s 0 13 = 1 - (o : Int) → OKB o s t
  | 0, pc, x0, x1, x2, s, r, t, h, _ => False.elim h
  | n + 1, pc, x0, x1, x2, s, r, t, h, h13 => by
    have ih := ruleOBL ho n
    have k0 : OKB o s s := OKB.refl
    rcases h with ⟨_, h⟩ | ⟨_, h⟩ | ⟨_, h⟩ | ⟨_, h⟩ | ⟨_, h⟩ | ⟨_, h⟩
    · unfold T_X12_rule_88 at h
      obtain ⟨a0, h⟩ := h
      obtain ⟨a1, h⟩ := h
      obtain ⟨a2, h⟩ := h
      obtain ⟨a3, h⟩ := h
      obtain ⟨s_w_45, e4, h⟩ := h
      have ke4 : OKB o s s_w_45 := k0.trans (by rw [e4]; exact OKB.usk (by decide))
      obtain ⟨s_w_47, e5, h⟩ := h
      have ke5 : OKB o s s_w_47 := ke4.trans (by rw [e5]; exact OKB.usk (by decide))
      rcases h with ⟨c6, h⟩ | ⟨c6, h⟩
      · rcases h with ⟨c7, h⟩ | ⟨c7, h⟩
        · obtain ⟨s_w_50, h⟩ := h
          obtain ⟨a8, h⟩ := h
          obtain ⟨a9, h⟩ := h
          have ka9 : OKB o s s_w_50 := ke5.trans (OKB.fr a9 (by decide))
          obtain ⟨a10, h⟩ := h
          exact ka9.trans (ih _ _ _ _ _ _ _ h (ka9.1.trans h13))
        · exact ke5.trans (ih _ _ _ _ _ _ _ h (ke5.1.trans h13))
      · rcases h with ⟨c7, h⟩ | ⟨c7, h⟩
        · rcases h with ⟨c8, h⟩ | ⟨c8, h⟩
          · obtain ⟨s_w_58, h⟩ := h
            obtain ⟨a9, h⟩ := h
            obtain ⟨a10, h⟩ := h
            have ka10 : OKB o s s_w_58 := ke5.trans (OKB.fr a10 (by decide))
            obtain ⟨a11, h⟩ := h
            exact ka10.trans (ih _ _ _ _ _ _ _ h (ka10.1.trans h13))
          · exact ke5.trans (ih _ _ _ _ _ _ _ h (ke5.1.trans h13))
        · exact ke5.trans (ih _ _ _ _ _ _ _ h (ke5.1.trans h13))
    · unfold T_X12_rule_134 at h
      obtain ⟨a0, h⟩ := h
      obtain ⟨a1, h⟩ := h
      obtain ⟨a2, h⟩ := h
      obtain ⟨a3, h⟩ := h
      obtain ⟨s_w_36, e4, h⟩ := h
      have ke4 : OKB o s s_w_36 := k0.trans (by rw [e4]; exact OKB.usk (by decide))
      rcases h with ⟨c5, h⟩ | ⟨c5, h⟩
      · rcases h with ⟨c6, h⟩ | ⟨c6, h⟩
        · obtain ⟨s_w_39, h⟩ := h
          obtain ⟨a7, h⟩ := h
          obtain ⟨a8, h⟩ := h
          have ka8 : OKB o s s_w_39 := ke4.trans (OKB.fr a8 (by decide))
          obtain ⟨a9, h⟩ := h
          exact ka8.trans (ih _ _ _ _ _ _ _ h (ka8.1.trans h13))
        · exact ke4.trans (ih _ _ _ _ _ _ _ h (ke4.1.trans h13))
      · exact ke4.trans (ih _ _ _ _ _ _ _ h (ke4.1.trans h13))
    · unfold T_X12_rule_170 at h
      obtain ⟨a0, h⟩ := h
      obtain ⟨a1, h⟩ := h
      obtain ⟨a2, h⟩ := h
      obtain ⟨a3, h⟩ := h
      obtain ⟨s_w_26, e4, h⟩ := h
      have ke4 : OKB o s s_w_26 := k0.trans (by rw [e4]; exact OKB.usk (by decide))
      rcases h with ⟨c5, h⟩ | ⟨c5, h⟩
      · exact ke4.trans (ih _ _ _ _ _ _ _ h (ke4.1.trans h13))
      · rcases h with ⟨c6, h⟩ | ⟨c6, h⟩
        · obtain ⟨s_w_29, h⟩ := h
          obtain ⟨a7, h⟩ := h
          obtain ⟨a8, h⟩ := h
          have ka8 : OKB o s s_w_29 := ke4.trans (OKB.fr a8 (by decide))
          obtain ⟨a9, h⟩ := h
          exact ka8.trans (ih _ _ _ _ _ _ _ h (ka8.1.trans h13))
        · exact ke4.trans (ih _ _ _ _ _ _ _ h (ke4.1.trans h13))
    · unfold T_X12_rule_204 at h
      obtain ⟨a0, h⟩ := h
      obtain ⟨a1, h⟩ := h
      obtain ⟨a2, h⟩ := h
      obtain ⟨a3, h⟩ := h
      obtain ⟨s_w_16, e4, h⟩ := h
      have ke4 : OKB o s s_w_16 := k0.trans (by rw [e4]; exact OKB.usk (by decide))
      rcases h with ⟨c5, h⟩ | ⟨c5, h⟩
      · exact ke4.trans (ih _ _ _ _ _ _ _ h (ke4.1.trans h13))
      · rcases h with ⟨c6, h⟩ | ⟨c6, h⟩
        · obtain ⟨s_w_19, h⟩ := h
          obtain ⟨a7, h⟩ := h
          obtain ⟨a8, h⟩ := h
          have ka8 : OKB o s s_w_19 := ke4.trans (OKB.fr a8 (by decide))
          obtain ⟨a9, h⟩ := h
          exact ka8.trans (ih _ _ _ _ _ _ _ h (ka8.1.trans h13))
        · exact ke4.trans (ih _ _ _ _ _ _ _ h (ke4.1.trans h13))
    · unfold T_X12_rule_240 at h
      obtain ⟨a0, h⟩ := h
      obtain ⟨a1, h⟩ := h
      obtain ⟨a2, h⟩ := h
      obtain ⟨a3, h⟩ := h
      obtain ⟨s_w_6, e4, h⟩ := h
      have ke4 : OKB o s s_w_6 := k0.trans (by rw [e4]; exact OKB.usk (by decide))
      rcases h with ⟨c5, h⟩ | ⟨c5, h⟩
      · exact ke4.trans (ih _ _ _ _ _ _ _ h (ke4.1.trans h13))
      · rcases h with ⟨c6, h⟩ | ⟨c6, h⟩
        · obtain ⟨s_w_9, h⟩ := h
          obtain ⟨a7, h⟩ := h
          obtain ⟨a8, h⟩ := h
          have ka8 : OKB o s s_w_9 := ke4.trans (OKB.fr a8 (by decide))
          obtain ⟨a9, h⟩ := h
          exact ka8.trans (ih _ _ _ _ _ _ _ h (ka8.1.trans h13))
        · exact ke4.trans (ih _ _ _ _ _ _ _ h (ke4.1.trans h13))
    · unfold T_X12_rule_274 at h
      obtain ⟨a0, h⟩ := h
      obtain ⟨a1, h⟩ := h
      obtain ⟨a2, h⟩ := h
      obtain ⟨a3, h⟩ := h
      obtain ⟨s_w_2, e4, h⟩ := h
      have ke4 : OKB o s s_w_2 := k0.trans (by rw [e4]; exact OKB.usk (by decide))
      obtain ⟨s_w_4, e5, h⟩ := h
      have ke5 : OKB o s s_w_4 := ke4.trans (by rw [e5]; exact OKB.u1 (by decide) ho (k0.1.trans h13))
      obtain ⟨er, es⟩ := h
      rw [es]
      exact ke5
theorem ruleOB {o : Nat} {s t : PS} {p1 r : Int} (h : M_X12_rule s p1 r t) (ho : o ≤ 1) (h13 : s 0 13 = 1 - (o : Int)) : OKB o s t := by
  obtain ⟨n, h⟩ := h
  have k0 : OKB o s s := OKB.refl
  unfold T_X12_rule_e at h
  obtain ⟨a0, h⟩ := h
  obtain ⟨a1, h⟩ := h
  rcases h with ⟨c2, h⟩ | ⟨c2, h⟩
  · obtain ⟨s_w_82, h⟩ := h
    obtain ⟨a3, h⟩ := h
    obtain ⟨a4, h⟩ := h
    have ka4 : OKB o s s_w_82 := k0.trans (OKB.fr a4 (by decide))
    obtain ⟨a5, h⟩ := h
    obtain ⟨er, es⟩ := h
    rw [es]
    exact ka4
  · obtain ⟨s_w_66, h⟩ := h
    obtain ⟨a3, h⟩ := h
    obtain ⟨a4, h⟩ := h
    have ka4 : OKB o s s_w_66 := k0.trans (OKB.fr a4 (by decide))
    obtain ⟨a5, h⟩ := h
    rcases h with ⟨c6, h⟩ | ⟨c6, h⟩
    · rcases h with ⟨c7, h⟩ | ⟨c7, h⟩
      · obtain ⟨r_76, h⟩ := h
        obtain ⟨s_w_75, h⟩ := h
        obtain ⟨a8, h⟩ := h
        obtain ⟨a9, h⟩ := h
        have ka9 : OKB o s s_w_75 := ka4.trans (OKB.fr a9 (by decide))
        obtain ⟨a10, h⟩ := h
        rcases h with ⟨c11, h⟩ | ⟨c11, h⟩
        · obtain ⟨s_w_81, e12, h⟩ := h
          have ke12 : OKB o s s_w_81 := ka9.trans (by rw [e12]; exact OKB.u1 (by decide) ho (k0.1.trans h13))
          exact ke12.trans (ruleOBL ho n _ _ _ _ _ _ _ h (ke12.1.trans h13))
        · exact ka9.trans (ruleOBL ho n _ _ _ _ _ _ _ h (ka9.1.trans h13))
      · obtain ⟨a8, h⟩ := h
        exact ka4.trans (ruleOBL ho n _ _ _ _ _ _ _ h (ka4.1.trans h13))
    · exact ka4.trans (ruleOBL ho n _ _ _ _ _ _ _ h (ka4.1.trans h13))
theorem stmtOB {o : Nat} {s t : PS} {r : Int} (h : M_X12_statement s r t) (ho : o ≤ 1) (h13 : s 0 13 = 1 - (o : Int)) : OKB o s t := by
  have k0 : OKB o s s := OKB.refl
  unfold M_X12_statement T_X12_statement_e at h
  obtain ⟨a0, h⟩ := h
  obtain ⟨r_2, h⟩ := h
  obtain ⟨s_w_1, h⟩ := h
  obtain ⟨a1, h⟩ := h
  obtain ⟨a2, h⟩ := h
  have ka2 : OKB o s s_w_1 := k0.trans (OKB.fr a2 (by decide))
  obtain ⟨a3, h⟩ := h
  obtain ⟨a4, h⟩ := h
  rcases h with ⟨c5, h⟩ | ⟨c5, h⟩
  · obtain ⟨r_8, h⟩ := h
    obtain ⟨s_w_7, h⟩ := h
    obtain ⟨a6, h⟩ := h
    obtain ⟨a7, h⟩ := h
    have ka7 : OKB o s s_w_7 := ka2.trans (OKB.fr a7 (by decide))
    obtain ⟨a8, h⟩ := h
    obtain ⟨a9, h⟩ := h
    rcases h with ⟨c10, h⟩ | ⟨c10, h⟩
    · obtain ⟨r_14, h⟩ := h
      obtain ⟨s_w_13, h⟩ := h
      obtain ⟨a11, h⟩ := h
      obtain ⟨a12, h⟩ := h
      have ka12 : OKB o s s_w_13 := ka7.trans (OKB.fr a12 (by decide))
      obtain ⟨a13, h⟩ := h
      obtain ⟨a14, h⟩ := h
      rcases h with ⟨c15, h⟩ | ⟨c15, h⟩
      · obtain ⟨r_20, h⟩ := h
        obtain ⟨s_w_19, h⟩ := h
        obtain ⟨a16, h⟩ := h
        obtain ⟨a17, h⟩ := h
        have ka17 : OKB o s s_w_19 := ka12.trans (OKB.fr a17 (by decide))
        obtain ⟨a18, h⟩ := h
        obtain ⟨a19, h⟩ := h
        rcases h with ⟨c20, h⟩ | ⟨c20, h⟩
        · obtain ⟨r_26, h⟩ := h
          obtain ⟨s_w_25, h⟩ := h
          obtain ⟨a21, h⟩ := h
          obtain ⟨a22, h⟩ := h
          have ka22 : OKB o s s_w_25 := ka17.trans (OKB.fr a22 (by decide))
          obtain ⟨a23, h⟩ := h
          obtain ⟨a24, h⟩ := h
          rcases h with ⟨c25, h⟩ | ⟨c25, h⟩
          · obtain ⟨s_w_31, h⟩ := h
            obtain ⟨a26, h⟩ := h
            obtain ⟨a27, h⟩ := h
            have ka27 : OKB o s s_w_31 := ka22.trans (OKB.fr a27 (by decide))
            obtain ⟨a28, h⟩ := h
            obtain ⟨a29, h⟩ := h
            obtain ⟨er, es⟩ := h
            rw [es]
            exact ka27
          · obtain ⟨s_w_38, h⟩ := h
            obtain ⟨a26, h⟩ := h
            have ka26 : OKB o s s_w_38 := ka22.trans (ruleOB a26 ho (ka22.1.trans h13))
            obtain ⟨a27, h⟩ := h
            obtain ⟨a28, h⟩ := h
            rcases h with ⟨c29, h⟩ | ⟨c29, h⟩
            · obtain ⟨s_w_45, h⟩ := h
              obtain ⟨a30, h⟩ := h
              obtain ⟨a31, h⟩ := h
              have ka31 : OKB o s s_w_45 := ka26.trans (OKB.fr a31 (by decide))
              obtain ⟨a32, h⟩ := h
              obtain ⟨er, es⟩ := h
              rw [es]
              exact ka31
            · obtain ⟨er, es⟩ := h
              rw [es]
              exact ka26
        · obtain ⟨s_w_50, h⟩ := h
          obtain ⟨a21, h⟩ := h
          have ka21 : OKB o s s_w_50 := ka17.trans (ruleOB a21 ho (ka17.1.trans h13))
          obtain ⟨a22, h⟩ := h
          obtain ⟨a23, h⟩ := h
          rcases h with ⟨c24, h⟩ | ⟨c24, h⟩
          · obtain ⟨s_w_57, h⟩ := h
            obtain ⟨a25, h⟩ := h
            obtain ⟨a26, h⟩ := h
            have ka26 : OKB o s s_w_57 := ka21.trans (OKB.fr a26 (by decide))
            obtain ⟨a27, h⟩ := h
            obtain ⟨er, es⟩ := h
            rw [es]
            exact ka26
          · obtain ⟨er, es⟩ := h
            rw [es]
            exact ka21
      · obtain ⟨s_w_62, h⟩ := h
        obtain ⟨a16, h⟩ := h
        have ka16 : OKB o s s_w_62 := ka12.trans (ruleOB a16 ho (ka12.1.trans h13))
        obtain ⟨a17, h⟩ := h
        obtain ⟨a18, h⟩ := h
        rcases h with ⟨c19, h⟩ | ⟨c19, h⟩
        · obtain ⟨s_w_69, h⟩ := h
          obtain ⟨a20, h⟩ := h
          obtain ⟨a21, h⟩ := h
          have ka21 : OKB o s s_w_69 := ka16.trans (OKB.fr a21 (by decide))
          obtain ⟨a22, h⟩ := h
          obtain ⟨er, es⟩ := h
          rw [es]
          exact ka21
        · obtain ⟨er, es⟩ := h
          rw [es]
          exact ka16
    · obtain ⟨s_w_74, h⟩ := h
      obtain ⟨a11, h⟩ := h
      have ka11 : OKB o s s_w_74 := ka7.trans (ruleOB a11 ho (ka7.1.trans h13))
      obtain ⟨a12, h⟩ := h
      obtain ⟨a13, h⟩ := h
      rcases h with ⟨c14, h⟩ | ⟨c14, h⟩
      · obtain ⟨s_w_81, h⟩ := h
        obtain ⟨a15, h⟩ := h
        obtain ⟨a16, h⟩ := h
        have ka16 : OKB o s s_w_81 := ka11.trans (OKB.fr a16 (by decide))
        obtain ⟨a17, h⟩ := h
        obtain ⟨er, es⟩ := h
        rw [es]
        exact ka16
      · obtain ⟨er, es⟩ := h
        rw [es]
        exact ka11
  · obtain ⟨s_w_86, h⟩ := h
    obtain ⟨a6, h⟩ := h
    have ka6 : OKB o s s_w_86 := ka2.trans (kindOB a6 ho (ka2.1.trans h13))
    obtain ⟨a7, h⟩ := h
    obtain ⟨a8, h⟩ := h
    rcases h with ⟨c9, h⟩ | ⟨c9, h⟩
    · obtain ⟨s_w_91, h⟩ := h
      obtain ⟨a10, h⟩ := h
      obtain ⟨a11, h⟩ := h
      have ka11 : OKB o s s_w_91 := ka6.trans (OKB.fr a11 (by decide))
      obtain ⟨a12, h⟩ := h
      obtain ⟨er, es⟩ := h
      rw [es]
      exact ka11
    · obtain ⟨er, es⟩ := h
      rw [es]
      exact ka6
