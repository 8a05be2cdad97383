theorem el_at : ∀ j, j < 106 → (flatC (Jvm.Cond.and given_1 narrow_1))[13 + j]? = some (Cond.eq (.elem (Term.field (Term.string "WinterToys$Tape" 19) "java/lang/String" "value" "[B") (.int (Int32.ofNat j))) (.int (bs_own.getD j 0))) := by decide +kernel
theorem el_in (j : Nat) (hj : j < 106) : Cond.eq (.elem (Term.field (Term.string "WinterToys$Tape" 19) "java/lang/String" "value" "[B") (.int (Int32.ofNat j))) (.int (bs_own.getD j 0)) ∈ (flatC (Jvm.Cond.and given_1 narrow_1)) := List.mem_of_getElem? (el_at j hj)
theorem env_of {b : Nat} {s : State} (htT : ∀ w ∈ tables_1, w.before #[Value.ref b] s = true) (hgv : (Jvm.Cond.and given_1 narrow_1).before #[Value.ref b] s = true) {A : Nat → Prop} (hA : ∀ a : Nat, a < s.heap.size → ¬ A a) : ∃ (aK aV : Nat), eS aK aV obf A s s.heap := by
  have hs := flat_of_before _ hgv
  obtain ⟨adK, adV, hSt, hadK⟩ := vk_Sof (args := #[Value.ref b]) (s := s) (N := 1) (tm := fun _ => (Term.string "WinterToys$Tape" 19)) (len := [106]) (byt := [bs_own]) (A := A)
    (fun i hi => by obtain rfl : i = 0 := by omega
                    decide)
    (fun i hi => hs _ (by decide +kernel)) (fun i hi => hs _ (by decide +kernel)) (fun i hi => hs _ (by decide +kernel))
    (fun i hi => by obtain rfl : i = 0 := by omega
                    exact hs (Cond.eq (.length (Term.field (Term.string "WinterToys$Tape" 19) "java/lang/String" "value" "[B")) (.int 106)) (by decide +kernel))
    (fun i hi j hj => by obtain rfl : i = 0 := by omega
                         exact hs _ (el_in j hj))
    (fun i j hi hj hne => absurd (show i = j by omega) hne) hA
  have h0 := hSt.1 0 (by decide)
  exact ⟨adK 0, adV 0, vk_R.of (htT _ wn_141) (hadK 0 (by decide)), h0.1, h0.2.1, h0.2.2.1, h0.2.2.2,
    va_Zof (htT _ wn_151) (htT _ (tb_1 (List.mem_of_getElem? (i := 4) (by rfl)))) (va_eqt (hs (Cond.eq (.static "java/lang/String" "COMPACT_STRINGS" "Z") (.int 1)) (by decide +kernel))) hA,
    va_Zqof (htT _ wn_167) (htT _ (tb_1 (List.mem_of_getElem? (i := 6) (by rfl)))) (hs (Cond.isRef (.static "jdk/internal/util/Preconditions" "SIOOBE_FORMATTER" "Ljava/util/function/BiFunction;")) (by decide +kernel)) hA⟩
theorem kn_all {args : Array Value} {s : State} (hts : ∀ w ∈ BIG, w.before args s = true) : ∃ (dC : Nat → ClassId) (dI : Nat → Nat → Nat), ∀ (k : Nat) (q : vw_C), vwCl[k]? = some q → u_Kn s q.1 q.2.1 q.2.2 (dC k) (dI k) := by
  obtain ⟨c0, iS0, hKn0⟩ := u_known (C := RX0) (T := TX0) (N := 11) (n := 11) hts inB_X0 (hts _ wd_627)
  obtain ⟨c1, iS1, hKn1⟩ := u_known (C := RX1) (T := TX1) (N := 20) (n := 20) hts inB_X1 (hts _ wd_30)
  obtain ⟨c2, iS2, hKn2⟩ := u_known (C := RX2) (T := TX2) (N := 11) (n := 11) hts inB_X2 (hts _ wd_462)
  obtain ⟨c3, iS3, hKn3⟩ := u_known (C := RX3) (T := TX3) (N := 12) (n := 12) hts inB_X3 (hts _ wd_395)
  obtain ⟨c4, iS4, hKn4⟩ := u_known (C := RX4) (T := TX4) (N := 17) (n := 17) hts inB_X4 (hts _ wd_561)
  obtain ⟨c5, iS5, hKn5⟩ := u_known (C := RX5) (T := TX5) (N := 7) (n := 7) hts inB_X5 (hts _ wd_358)
  obtain ⟨c6, iS6, hKn6⟩ := u_known (C := RX6) (T := TX6) (N := 16) (n := 16) hts inB_X6 (hts _ wd_285)
  obtain ⟨c7, iS7, hKn7⟩ := u_known (C := RX7) (T := TX7) (N := 8) (n := 8) hts inB_X7 (hts _ wd_246)
  obtain ⟨c8, iS8, hKn8⟩ := u_known (C := RX8) (T := TX8) (N := 5) (n := 5) hts inB_X8 (hts _ wd_222)
  obtain ⟨c9, iS9, hKn9⟩ := u_known (C := RX9) (T := TX9) (N := 16) (n := 16) hts inB_X9 (hts _ wd_506)
  obtain ⟨c10, iS10, hKn10⟩ := u_known (C := RX10) (T := TX10) (N := 8) (n := 8) hts inB_X10 (hts _ wd_136)
  obtain ⟨c11, iS11, hKn11⟩ := u_known (C := RX11) (T := TX11) (N := 14) (n := 14) hts inB_X11 (hts _ wd_22)
  obtain ⟨c12, iS12, hKn12⟩ := u_known (C := RX12) (T := TX12) (N := 94) (n := 94) hts inB_X12 (hts _ wd_1396)
  refine ⟨fun k => [c0, c1, c2, c3, c4, c5, c6, c7, c8, c9, c10, c11, c12].getD k c0, fun k => [iS0, iS1, iS2, iS3, iS4, iS5, iS6, iS7, iS8, iS9, iS10, iS11, iS12].getD k iS0, ?_⟩
  intro k q hq
  match k, hq with
  | 0, hq => cases hq; exact hKn0
  | 1, hq => cases hq; exact hKn1
  | 2, hq => cases hq; exact hKn2
  | 3, hq => cases hq; exact hKn3
  | 4, hq => cases hq; exact hKn4
  | 5, hq => cases hq; exact hKn5
  | 6, hq => cases hq; exact hKn6
  | 7, hq => cases hq; exact hKn7
  | 8, hq => cases hq; exact hKn8
  | 9, hq => cases hq; exact hKn9
  | 10, hq => cases hq; exact hKn10
  | 11, hq => cases hq; exact hKn11
  | 12, hq => cases hq; exact hKn12
  | k + 13, hq => simp [vwCl] at hq
theorem ka_all {args : Array Value} {s : State} (hts : ∀ w ∈ BIG, w.before args s = true) {D : va_G} (hKc : ∀ (k : Nat) (q : vw_C), vwCl[k]? = some q → u_Kn s q.1 q.2.1 q.2.2 (D.1 k) (D.2 k)) : ∃ (cI cJ cZ : ClassId), va_K D vwCl (tyK cI cJ cZ) s := by
  obtain ⟨cI, kI, pI, hI1, hI2, hI3⟩ := Cond.arrayClass_spec (hts _ wd_134)
  obtain ⟨cJ, kJ, pJ, hJ1, hJ2, hJ3⟩ := Cond.arrayClass_spec (hts _ wd_133)
  obtain ⟨cZ, kZ, pZ, hZ1, hZ2, hZ3⟩ := Cond.arrayClass_spec (hts _ wd_1684)
  refine ⟨cI, cJ, cZ, hKc, ?_⟩
  intro k q h
  match k, h with
  | 0, h => cases h; exact ⟨fun n z => ⟨fun k h => (by cases h), kI, hI2, pI, hI3⟩, hI1⟩
  | 1, h => cases h; exact ⟨fun n z => ⟨fun k h => (by cases h), kJ, hJ2, pJ, hJ3⟩, hJ1⟩
  | 2, h => cases h; exact ⟨fun n z => ⟨fun k h => (by cases h), kZ, hZ2, pZ, hZ3⟩, hZ1⟩
  | k + 3, h => simp [tyK] at h
