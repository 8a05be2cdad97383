set_option maxRecDepth 100000 in
set_option maxHeartbeats 8000000 in
theorem e_X6_fact (l : Launch) (D : va_G) (cI cJ cZ : ClassId) (q : Nat → Nat) (bb bs bp : Nat) (w : va_W) (hW_w : HT q (TX q cI cJ cZ bb bs bp) w) (p1 : Int32) (p2 : Int32) (i_p1 : In 0 39 p1) (hf_42_2 : In 1 40 (fI w 42 2)) : Con_i l yX6_fact cX6_fact 3 (some .int) ({ frames := 1, cells := 0, slots := 0, locals := 23 }) D cI cJ cZ eW [.ref (q 42), .int p1, .int p2] w (fun (r : Int32) (w1 : va_W) => HT q (TX q cI cJ cZ bb bs bp) w1 ∧ Sm [] [] w w1 ∧ M_X6_fact (vw w) p1.toInt p2.toInt r.toInt (vw w1)) := by
  refine eQ_i rfl (by decide) (Nat.le_of_ble_eq_true rfl) ⟨rfl, rfl⟩ ?_
  intro p e R s m args below meth c A Q hx hb hml hown hts hK hE hA hR hret hP hD hS ls hl
  have hown : s.vm.findClass RX6 = some m.cls := hown
  have hl : lv_has ls 3 [(0, .ref (q 42)), (1, .int p1), (2, .int p2)] := hl
  refine lv_iload_n hx hb dX6_fact_0 rfl (lv_at hl 2 rfl) ?_
  by_cases c_1 : p2 = 0
  · have c_1t : (p2 : Int32).toInt = 0 := by rw [c_1]; rfl
    refine lv_tableIn (tgt := 52) hx hb dX6_fact_1 (by rw [c_1t]; decide) (by rw [c_1t]; decide) (off := 51) (by rw [c_1t]; rfl) (by decide) ?_
    refine lv_aload_n hx hb dX6_fact_52 rfl (lv_at hl 0 rfl) ?_
    refine gt_X6 hx hb hts hown hK hP 42 (hW_w.o tX_42) 3 (by decide) wd_297 rfl (hW_w.fr tX_42 rfl) dX6_fact_53 ?_
    refine lv_iload_n hx hb dX6_fact_56 rfl (lv_at hl 1 rfl) ?_
    refine va_iald hx hb hK hP 43 0 (hW_w.a tX_43) rfl (in_I i_p1 (by decide)) dX6_fact_57 ?_
    refine lv_topi (fun v_2 ev_2 => ?_)
    exact hret _ _ _ _ _ _ hP hD hS dX6_fact_58 ⟨hW_w, Sm.rf, (mk_X6_fact (And.intro (tyX hW_w) (And.intro i_p1 (Or.inl (And.intro (z_eq c_1 (rfl : (p2 : Int32).toInt = _) (show (0 : Int32).toInt = 0 from by decide)) (And.intro (z_of ev_2 ((hW_w.va tX_43 _).trans (congrArg (vw w 43) (z_ix (rfl : (p1 : Int32).toInt = _))))) rfl))))))⟩
  by_cases c_3 : p2 = 1
  · have c_3t : (p2 : Int32).toInt = 1 := by rw [c_3]; rfl
    refine lv_tableIn (tgt := 59) hx hb dX6_fact_1 (by rw [c_3t]; decide) (by rw [c_3t]; decide) (off := 58) (by rw [c_3t]; rfl) (by decide) ?_
    refine lv_aload_n hx hb dX6_fact_59 rfl (lv_at hl 0 rfl) ?_
    refine gt_X6 hx hb hts hown hK hP 42 (hW_w.o tX_42) 4 (by decide) wd_298 rfl (hW_w.fr tX_42 rfl) dX6_fact_60 ?_
    refine lv_iload_n hx hb dX6_fact_63 rfl (lv_at hl 1 rfl) ?_
    refine va_iald hx hb hK hP 44 0 (hW_w.a tX_44) rfl (in_I i_p1 (by decide)) dX6_fact_64 ?_
    refine lv_topi (fun v_4 ev_4 => ?_)
    exact hret _ _ _ _ _ _ hP hD hS dX6_fact_65 ⟨hW_w, Sm.rf, (mk_X6_fact (And.intro (tyX hW_w) (And.intro i_p1 (Or.inr (And.intro (z_neq c_1 (rfl : (p2 : Int32).toInt = _) (show (0 : Int32).toInt = 0 from by decide)) (Or.inl (And.intro (z_eq c_3 (rfl : (p2 : Int32).toInt = _) (show (1 : Int32).toInt = 1 from by decide)) (And.intro (z_of ev_4 ((hW_w.va tX_44 _).trans (congrArg (vw w 44) (z_ix (rfl : (p1 : Int32).toInt = _))))) rfl))))))))⟩
  by_cases c_5 : p2 = 2
  · have c_5t : (p2 : Int32).toInt = 2 := by rw [c_5]; rfl
    refine lv_tableIn (tgt := 66) hx hb dX6_fact_1 (by rw [c_5t]; decide) (by rw [c_5t]; decide) (off := 65) (by rw [c_5t]; rfl) (by decide) ?_
    refine lv_aload_n hx hb dX6_fact_66 rfl (lv_at hl 0 rfl) ?_
    refine gt_X6 hx hb hts hown hK hP 42 (hW_w.o tX_42) 6 (by decide) wd_303 rfl (hW_w.fr tX_42 rfl) dX6_fact_67 ?_
    refine lv_iload_n hx hb dX6_fact_70 rfl (lv_at hl 1 rfl) ?_
    refine va_iald hx hb hK hP 46 0 (hW_w.a tX_46) rfl (in_I i_p1 (by decide)) dX6_fact_71 ?_
    refine lv_topi (fun v_6 ev_6 => ?_)
    refine lv_aload_n hx hb dX6_fact_72 rfl (lv_at hl 0 rfl) ?_
    refine gt_X6 hx hb hts hown hK hP 42 (hW_w.o tX_42) 5 (by decide) wd_301 rfl (hW_w.fr tX_42 rfl) dX6_fact_73 ?_
    refine lv_iload_n hx hb dX6_fact_76 rfl (lv_at hl 1 rfl) ?_
    refine va_iald hx hb hK hP 45 0 (hW_w.a tX_45) rfl (in_I i_p1 (by decide)) dX6_fact_77 ?_
    refine lv_topi (fun v_7 ev_7 => ?_)
    refine lv_isub hx hb dX6_fact_78 ?_
    refine lv_topi (fun v_8 ev_8 => ?_)
    exact hret _ _ _ _ _ _ hP hD hS dX6_fact_79 ⟨hW_w, Sm.rf, (mk_X6_fact (And.intro (tyX hW_w) (And.intro i_p1 (Or.inr (And.intro (z_neq c_1 (rfl : (p2 : Int32).toInt = _) (show (0 : Int32).toInt = 0 from by decide)) (Or.inr (And.intro (z_neq c_3 (rfl : (p2 : Int32).toInt = _) (show (1 : Int32).toInt = 1 from by decide)) (Or.inl (And.intro (z_eq c_5 (rfl : (p2 : Int32).toInt = _) (show (2 : Int32).toInt = 2 from by decide)) (And.intro (z_of ev_8 (z_subw (z_of ev_6 ((hW_w.va tX_46 _).trans (congrArg (vw w 46) (z_ix (rfl : (p1 : Int32).toInt = _))))) (z_of ev_7 ((hW_w.va tX_45 _).trans (congrArg (vw w 45) (z_ix (rfl : (p1 : Int32).toInt = _))))))) rfl))))))))))⟩
  by_cases c_9 : p2 = 3
  · have c_9t : (p2 : Int32).toInt = 3 := by rw [c_9]; rfl
    refine lv_tableIn (tgt := 80) hx hb dX6_fact_1 (by rw [c_9t]; decide) (by rw [c_9t]; decide) (off := 79) (by rw [c_9t]; rfl) (by decide) ?_
    refine lv_aload_n hx hb dX6_fact_80 rfl (lv_at hl 0 rfl) ?_
    refine gt_X6 hx hb hts hown hK hP 42 (hW_w.o tX_42) 7 (by decide) wd_305 rfl (hW_w.fr tX_42 rfl) dX6_fact_81 ?_
    refine lv_iload_n hx hb dX6_fact_84 rfl (lv_at hl 1 rfl) ?_
    refine va_iald hx hb hK hP 47 0 (hW_w.a tX_47) rfl (in_I i_p1 (by decide)) dX6_fact_85 ?_
    refine lv_topi (fun v_10 ev_10 => ?_)
    exact hret _ _ _ _ _ _ hP hD hS dX6_fact_86 ⟨hW_w, Sm.rf, (mk_X6_fact (And.intro (tyX hW_w) (And.intro i_p1 (Or.inr (And.intro (z_neq c_1 (rfl : (p2 : Int32).toInt = _) (show (0 : Int32).toInt = 0 from by decide)) (Or.inr (And.intro (z_neq c_3 (rfl : (p2 : Int32).toInt = _) (show (1 : Int32).toInt = 1 from by decide)) (Or.inr (And.intro (z_neq c_5 (rfl : (p2 : Int32).toInt = _) (show (2 : Int32).toInt = 2 from by decide)) (Or.inl (And.intro (z_eq c_9 (rfl : (p2 : Int32).toInt = _) (show (3 : Int32).toInt = 3 from by decide)) (And.intro (z_of ev_10 ((hW_w.va tX_47 _).trans (congrArg (vw w 47) (z_ix (rfl : (p1 : Int32).toInt = _))))) rfl))))))))))))⟩
  by_cases c_11 : p2 = 4
  · have c_11t : (p2 : Int32).toInt = 4 := by rw [c_11]; rfl
    refine lv_tableIn (tgt := 87) hx hb dX6_fact_1 (by rw [c_11t]; decide) (by rw [c_11t]; decide) (off := 86) (by rw [c_11t]; rfl) (by decide) ?_
    refine lv_aload_n hx hb dX6_fact_87 rfl (lv_at hl 0 rfl) ?_
    refine gt_X6 hx hb hts hown hK hP 42 (hW_w.o tX_42) 8 (by decide) wd_307 rfl (hW_w.fr tX_42 rfl) dX6_fact_88 ?_
    refine lv_iload_n hx hb dX6_fact_91 rfl (lv_at hl 1 rfl) ?_
    refine va_iald hx hb hK hP 48 0 (hW_w.a tX_48) rfl (in_I i_p1 (by decide)) dX6_fact_92 ?_
    refine lv_topi (fun v_12 ev_12 => ?_)
    exact hret _ _ _ _ _ _ hP hD hS dX6_fact_93 ⟨hW_w, Sm.rf, (mk_X6_fact (And.intro (tyX hW_w) (And.intro i_p1 (Or.inr (And.intro (z_neq c_1 (rfl : (p2 : Int32).toInt = _) (show (0 : Int32).toInt = 0 from by decide)) (Or.inr (And.intro (z_neq c_3 (rfl : (p2 : Int32).toInt = _) (show (1 : Int32).toInt = 1 from by decide)) (Or.inr (And.intro (z_neq c_5 (rfl : (p2 : Int32).toInt = _) (show (2 : Int32).toInt = 2 from by decide)) (Or.inr (And.intro (z_neq c_9 (rfl : (p2 : Int32).toInt = _) (show (3 : Int32).toInt = 3 from by decide)) (Or.inl (And.intro (z_eq c_11 (rfl : (p2 : Int32).toInt = _) (show (4 : Int32).toInt = 4 from by decide)) (And.intro (z_of ev_12 ((hW_w.va tX_48 _).trans (congrArg (vw w 48) (z_ix (rfl : (p1 : Int32).toInt = _))))) rfl))))))))))))))⟩
  by_cases c_13 : p2 = 5
  · have c_13t : (p2 : Int32).toInt = 5 := by rw [c_13]; rfl
    refine lv_tableIn (tgt := 94) hx hb dX6_fact_1 (by rw [c_13t]; decide) (by rw [c_13t]; decide) (off := 93) (by rw [c_13t]; rfl) (by decide) ?_
    refine lv_aload_n hx hb dX6_fact_94 rfl (lv_at hl 0 rfl) ?_
    refine gt_X6 hx hb hts hown hK hP 42 (hW_w.o tX_42) 9 (by decide) wd_309 rfl (hW_w.fr tX_42 rfl) dX6_fact_95 ?_
    refine lv_iload_n hx hb dX6_fact_98 rfl (lv_at hl 1 rfl) ?_
    refine va_iald hx hb hK hP 49 0 (hW_w.a tX_49) rfl (in_I i_p1 (by decide)) dX6_fact_99 ?_
    refine lv_topi (fun v_14 ev_14 => ?_)
    exact hret _ _ _ _ _ _ hP hD hS dX6_fact_100 ⟨hW_w, Sm.rf, (mk_X6_fact (And.intro (tyX hW_w) (And.intro i_p1 (Or.inr (And.intro (z_neq c_1 (rfl : (p2 : Int32).toInt = _) (show (0 : Int32).toInt = 0 from by decide)) (Or.inr (And.intro (z_neq c_3 (rfl : (p2 : Int32).toInt = _) (show (1 : Int32).toInt = 1 from by decide)) (Or.inr (And.intro (z_neq c_5 (rfl : (p2 : Int32).toInt = _) (show (2 : Int32).toInt = 2 from by decide)) (Or.inr (And.intro (z_neq c_9 (rfl : (p2 : Int32).toInt = _) (show (3 : Int32).toInt = 3 from by decide)) (Or.inr (And.intro (z_neq c_11 (rfl : (p2 : Int32).toInt = _) (show (4 : Int32).toInt = 4 from by decide)) (Or.inl (And.intro (z_eq c_13 (rfl : (p2 : Int32).toInt = _) (show (5 : Int32).toInt = 5 from by decide)) (And.intro (z_of ev_14 ((hW_w.va tX_49 _).trans (congrArg (vw w 49) (z_ix (rfl : (p1 : Int32).toInt = _))))) rfl))))))))))))))))⟩
  by_cases c_15 : p2 = 6
  · have c_15t : (p2 : Int32).toInt = 6 := by rw [c_15]; rfl
    refine lv_tableIn (tgt := 101) hx hb dX6_fact_1 (by rw [c_15t]; decide) (by rw [c_15t]; decide) (off := 100) (by rw [c_15t]; rfl) (by decide) ?_
    refine lv_aload_n hx hb dX6_fact_101 rfl (lv_at hl 0 rfl) ?_
    refine gt_X6 hx hb hts hown hK hP 42 (hW_w.o tX_42) 11 (by decide) wd_314 rfl (hW_w.fr tX_42 rfl) dX6_fact_102 ?_
    refine lv_iload_n hx hb dX6_fact_105 rfl (lv_at hl 1 rfl) ?_
    refine va_iald hx hb hK hP 51 0 (hW_w.a tX_51) rfl (in_I i_p1 (by decide)) dX6_fact_106 ?_
    refine lv_topi (fun v_16 ev_16 => ?_)
    exact hret _ _ _ _ _ _ hP hD hS dX6_fact_107 ⟨hW_w, Sm.rf, (mk_X6_fact (And.intro (tyX hW_w) (And.intro i_p1 (Or.inr (And.intro (z_neq c_1 (rfl : (p2 : Int32).toInt = _) (show (0 : Int32).toInt = 0 from by decide)) (Or.inr (And.intro (z_neq c_3 (rfl : (p2 : Int32).toInt = _) (show (1 : Int32).toInt = 1 from by decide)) (Or.inr (And.intro (z_neq c_5 (rfl : (p2 : Int32).toInt = _) (show (2 : Int32).toInt = 2 from by decide)) (Or.inr (And.intro (z_neq c_9 (rfl : (p2 : Int32).toInt = _) (show (3 : Int32).toInt = 3 from by decide)) (Or.inr (And.intro (z_neq c_11 (rfl : (p2 : Int32).toInt = _) (show (4 : Int32).toInt = 4 from by decide)) (Or.inr (And.intro (z_neq c_13 (rfl : (p2 : Int32).toInt = _) (show (5 : Int32).toInt = 5 from by decide)) (Or.inl (And.intro (z_eq c_15 (rfl : (p2 : Int32).toInt = _) (show (6 : Int32).toInt = 6 from by decide)) (And.intro (z_of ev_16 ((hW_w.va tX_51 _).trans (congrArg (vw w 51) (z_ix (rfl : (p1 : Int32).toInt = _))))) rfl))))))))))))))))))⟩
  by_cases c_17 : p2 = 7
  · have c_17t : (p2 : Int32).toInt = 7 := by rw [c_17]; rfl
    refine lv_tableIn (tgt := 108) hx hb dX6_fact_1 (by rw [c_17t]; decide) (by rw [c_17t]; decide) (off := 107) (by rw [c_17t]; rfl) (by decide) ?_
    refine lv_aload_n hx hb dX6_fact_108 rfl (lv_at hl 0 rfl) ?_
    refine lv_iload_n hx hb dX6_fact_109 rfl (lv_at hl 1 rfl) ?_
    refine kW_i ⟨rfl, rfl⟩ hP hD hS hA (rW_V (As := [.int p1]) (rest := []) hx hb hml hown hts hK hE hP hD (e_X6_mates l D cI cJ cZ q bb bs bp w hW_w p1 i_p1 hf_42_2 _) ⟨⟨rfl, rfl⟩, rfl, rfl⟩ sv_X6_114 ⟨(Nat.le_trans (by decide) hR.1), (Nat.le_trans (by decide) hR.2)⟩ 42 6 (hW_w.o tX_42) rfl rfl rfl hl.1 rfl (Nat.le_of_ble_eq_true rfl) dX6_fact_110) (fun r_19 w_18 H locs hw_w_18 hP hD hS => ?_)
    obtain ⟨hW_w_18, hs_w_18, hm_20⟩ := hw_w_18
    exact hret _ _ _ _ _ _ hP hD hS dX6_fact_113 ⟨hW_w_18, (Sm.rf.tr hs_w_18 (by decide)), (mk_X6_fact (And.intro (tyX hW_w) (And.intro i_p1 (Or.inr (And.intro (z_neq c_1 (rfl : (p2 : Int32).toInt = _) (show (0 : Int32).toInt = 0 from by decide)) (Or.inr (And.intro (z_neq c_3 (rfl : (p2 : Int32).toInt = _) (show (1 : Int32).toInt = 1 from by decide)) (Or.inr (And.intro (z_neq c_5 (rfl : (p2 : Int32).toInt = _) (show (2 : Int32).toInt = 2 from by decide)) (Or.inr (And.intro (z_neq c_9 (rfl : (p2 : Int32).toInt = _) (show (3 : Int32).toInt = 3 from by decide)) (Or.inr (And.intro (z_neq c_11 (rfl : (p2 : Int32).toInt = _) (show (4 : Int32).toInt = 4 from by decide)) (Or.inr (And.intro (z_neq c_13 (rfl : (p2 : Int32).toInt = _) (show (5 : Int32).toInt = 5 from by decide)) (Or.inr (And.intro (z_neq c_15 (rfl : (p2 : Int32).toInt = _) (show (6 : Int32).toInt = 6 from by decide)) (Or.inl (And.intro (z_eq c_17 (rfl : (p2 : Int32).toInt = _) (show (7 : Int32).toInt = 7 from by decide)) (Exists.intro r_19.toInt (Exists.intro (vw w_18) (And.intro (cgM_1 hm_20 (rfl : (p1 : Int32).toInt = _)) (And.intro (hs_w_18.Fr hW_w hW_w_18 intsX_ok intsX_ok) (And.intro (tyX hW_w_18) (And.intro (rfl : (r_19 : Int32).toInt = _) rfl)))))))))))))))))))))))))⟩
  by_cases c_21 : p2 = 8
  · have c_21t : (p2 : Int32).toInt = 8 := by rw [c_21]; rfl
    refine lv_tableIn (tgt := 114) hx hb dX6_fact_1 (by rw [c_21t]; decide) (by rw [c_21t]; decide) (off := 113) (by rw [c_21t]; rfl) (by decide) ?_
    refine lv_aload_n hx hb dX6_fact_114 rfl (lv_at hl 0 rfl) ?_
    refine gt_X6 hx hb hts hown hK hP 42 (hW_w.o tX_42) 10 (by decide) wd_313 rfl (hW_w.fr tX_42 rfl) dX6_fact_115 ?_
    refine lv_iload_n hx hb dX6_fact_118 rfl (lv_at hl 1 rfl) ?_
    refine va_iald hx hb hK hP 50 0 (hW_w.a tX_50) rfl (in_I i_p1 (by decide)) dX6_fact_119 ?_
    refine lv_topi (fun v_22 ev_22 => ?_)
    exact hret _ _ _ _ _ _ hP hD hS dX6_fact_120 ⟨hW_w, Sm.rf, (mk_X6_fact (And.intro (tyX hW_w) (And.intro i_p1 (Or.inr (And.intro (z_neq c_1 (rfl : (p2 : Int32).toInt = _) (show (0 : Int32).toInt = 0 from by decide)) (Or.inr (And.intro (z_neq c_3 (rfl : (p2 : Int32).toInt = _) (show (1 : Int32).toInt = 1 from by decide)) (Or.inr (And.intro (z_neq c_5 (rfl : (p2 : Int32).toInt = _) (show (2 : Int32).toInt = 2 from by decide)) (Or.inr (And.intro (z_neq c_9 (rfl : (p2 : Int32).toInt = _) (show (3 : Int32).toInt = 3 from by decide)) (Or.inr (And.intro (z_neq c_11 (rfl : (p2 : Int32).toInt = _) (show (4 : Int32).toInt = 4 from by decide)) (Or.inr (And.intro (z_neq c_13 (rfl : (p2 : Int32).toInt = _) (show (5 : Int32).toInt = 5 from by decide)) (Or.inr (And.intro (z_neq c_15 (rfl : (p2 : Int32).toInt = _) (show (6 : Int32).toInt = 6 from by decide)) (Or.inr (And.intro (z_neq c_17 (rfl : (p2 : Int32).toInt = _) (show (7 : Int32).toInt = 7 from by decide)) (Or.inl (And.intro (z_eq c_21 (rfl : (p2 : Int32).toInt = _) (show (8 : Int32).toInt = 8 from by decide)) (And.intro (z_of ev_22 ((hW_w.va tX_50 _).trans (congrArg (vw w 50) (z_ix (rfl : (p1 : Int32).toInt = _))))) rfl))))))))))))))))))))))⟩
  refine lv_tableOut (tgt := 121) hx hb dX6_fact_1 (by have h0 := lv_neT c_1 (a := 0) (by decide); have h1 := lv_neT c_3 (a := 1) (by decide); have h2 := lv_neT c_5 (a := 2) (by decide); have h3 := lv_neT c_9 (a := 3) (by decide); have h4 := lv_neT c_11 (a := 4) (by decide); have h5 := lv_neT c_13 (a := 5) (by decide); have h6 := lv_neT c_15 (a := 6) (by decide); have h7 := lv_neT c_17 (a := 7) (by decide); have h8 := lv_neT c_21 (a := 8) (by decide); omega) (by decide) ?_
  refine lv_iconst (v := (-1)) hx hb dX6_fact_121 (by decide) ?_
  exact hret _ _ _ _ _ _ hP hD hS dX6_fact_122 ⟨hW_w, Sm.rf, (mk_X6_fact (And.intro (tyX hW_w) (And.intro i_p1 (Or.inr (And.intro (z_neq c_1 (rfl : (p2 : Int32).toInt = _) (show (0 : Int32).toInt = 0 from by decide)) (Or.inr (And.intro (z_neq c_3 (rfl : (p2 : Int32).toInt = _) (show (1 : Int32).toInt = 1 from by decide)) (Or.inr (And.intro (z_neq c_5 (rfl : (p2 : Int32).toInt = _) (show (2 : Int32).toInt = 2 from by decide)) (Or.inr (And.intro (z_neq c_9 (rfl : (p2 : Int32).toInt = _) (show (3 : Int32).toInt = 3 from by decide)) (Or.inr (And.intro (z_neq c_11 (rfl : (p2 : Int32).toInt = _) (show (4 : Int32).toInt = 4 from by decide)) (Or.inr (And.intro (z_neq c_13 (rfl : (p2 : Int32).toInt = _) (show (5 : Int32).toInt = 5 from by decide)) (Or.inr (And.intro (z_neq c_15 (rfl : (p2 : Int32).toInt = _) (show (6 : Int32).toInt = 6 from by decide)) (Or.inr (And.intro (z_neq c_17 (rfl : (p2 : Int32).toInt = _) (show (7 : Int32).toInt = 7 from by decide)) (Or.inr (And.intro (z_neq c_21 (rfl : (p2 : Int32).toInt = _) (show (8 : Int32).toInt = 8 from by decide)) (And.intro (show ((-1) : Int32).toInt = (-1) from by decide) rfl))))))))))))))))))))))⟩
set_option maxRecDepth 100000 in
set_option maxHeartbeats 8000000 in
theorem e_X11_of (l : Launch) (D : va_G) (cI cJ cZ : ClassId) (q : Nat → Nat) (bp : Nat) (w : va_W) (hW_w : HT q (TX q cI cJ cZ 1 16 bp) w) (p1 : Int32) (p2 : Int32) (hLD : LD w) : Con_i l yX11_of cX11_of 3 (some .int) ({ frames := 7, cells := 0, slots := 0, locals := 161 }) D cI cJ cZ eW [.ref (q 0), .int p1, .int p2] w (fun (r : Int32) (w1 : va_W) => HT q (TX q cI cJ cZ 1 16 bp) w1 ∧ Sm [42, 43, 44, 45, 46, 47, 48, 49, 50, 51, 52, 53, 54, 55, 57, 58, 59, 60, 61, 62, 63] [(42, 0), (42, 1), (42, 2)] w w1 ∧ M_X11_of (vw w) p1.toInt p2.toInt r.toInt (vw w1)) := by
  refine eQ_i rfl (by decide) (Nat.le_of_ble_eq_true rfl) ⟨rfl, rfl⟩ ?_
  intro p e R s m args below meth c A Q hx hb hml hown hts hK hE hA hR hret hP hD hS ls hl
  have hown : s.vm.findClass RX11 = some m.cls := hown
  have hl : lv_has ls 3 [(0, .ref (q 0)), (1, .int p1), (2, .int p2)] := hl
  refine lv_aload_n hx hb dX11_of_0 rfl (lv_at hl 0 rfl) ?_
  refine lv_iload_n hx hb dX11_of_1 rfl (lv_at hl 1 rfl) ?_
  refine kW_i ⟨rfl, rfl⟩ hP hD hS hA (rW_V (As := [.int p1]) (rest := []) hx hb hml hown hts hK hE hP hD (e_X11_isChild l D cI cJ cZ q bp w hW_w p1 (LD_cg rfl rfl hLD) _) ⟨⟨rfl, rfl⟩, rfl, rfl⟩ sv_X11_222 ⟨(Nat.le_trans (by decide) hR.1), (Nat.le_trans (by decide) hR.2)⟩ 0 11 (hW_w.o tX_0) rfl rfl rfl hl.1 rfl (Nat.le_of_ble_eq_true rfl) dX11_of_2) (fun r_2 w_1 H locs hw_w_1 hP hD hS => ?_)
  obtain ⟨hW_w_1, hs_w_1, i_r_2, h_3, hm_4⟩ := hw_w_1
  refine lv_if_ne (tgt := 10) hx hb dX11_of_5 (by decide) (fun c_5 => ?_) (fun c_5 => ?_)
  · refine lv_iload_n hx hb dX11_of_10 rfl (lv_at hl 2 rfl) ?_
    refine lv_bipush (v := 9) hx hb dX11_of_11 (by decide) ?_
    refine lv_icmp_ne (tgt := 42) hx hb dX11_of_13 (by decide) (fun c_6 => ?_) (fun c_6 => ?_)
    · refine lv_aload_n hx hb dX11_of_42 rfl (lv_at hl 0 rfl) ?_
      refine gt_X11 hx hb hts hown hK hP 0 (hW_w_1.o tX_0) 5 (by decide) wd_678 rfl (hW_w_1.fr tX_0 rfl) dX11_of_43 ?_
      refine lv_iload_n hx hb dX11_of_46 rfl (lv_at hl 1 rfl) ?_
      refine lv_iload_n hx hb dX11_of_47 rfl (lv_at hl 2 rfl) ?_
      refine kW_i ⟨rfl, rfl⟩ hP hD hS hA (rW_V (As := [.int p1, .int p2]) (rest := []) hx hb hml hown hts hK hE hP hD (e_X6_fact l D cI cJ cZ q 1 16 bp w_1 hW_w_1 p1 p2 (h_3 c_5).2 (h_3 c_5).1 _) ⟨⟨rfl, rfl⟩, rfl, rfl⟩ sv_X11_232 ⟨(Nat.le_trans (by decide) hR.1), (Nat.le_trans (by decide) hR.2)⟩ 42 6 (hW_w_1.o tX_42) rfl rfl rfl hl.1 rfl (Nat.le_of_ble_eq_true rfl) dX11_of_48) (fun r_8 w_7 H locs hw_w_7 hP hD hS => ?_)
      obtain ⟨hW_w_7, hs_w_7, hm_9⟩ := hw_w_7
      exact hret _ _ _ _ _ _ hP hD hS dX11_of_51 ⟨hW_w_7, ((Sm.rf.tr hs_w_1 (by decide)).tr hs_w_7 (by decide)), (mk_X11_of (And.intro (tyX hW_w) (Exists.intro r_2.toInt (Exists.intro (vw w_1) (And.intro (cgM_1 hm_4 (rfl : (p1 : Int32).toInt = _)) (And.intro (hs_w_1.Fr hW_w hW_w_1 intsX_ok intsX_ok) (And.intro (tyX hW_w_1) (And.intro i_r_2 (Or.inr (And.intro (z_neq c_5 (rfl : (r_2 : Int32).toInt = _) (show (0 : Int32).toInt = 0 from by decide)) (Or.inr (And.intro (z_neq c_6 (rfl : (p2 : Int32).toInt = _) (show (9 : Int32).toInt = 9 from by decide)) (Exists.intro r_8.toInt (Exists.intro (vw w_7) (And.intro (cgM_2 hm_9 (rfl : (p1 : Int32).toInt = _) (rfl : (p2 : Int32).toInt = _)) (And.intro (hs_w_7.Fr hW_w_1 hW_w_7 intsX_ok intsX_ok) (And.intro (tyX hW_w_7) (And.intro (rfl : (r_8 : Int32).toInt = _) rfl))))))))))))))))))⟩
    · refine lv_aload_n hx hb dX11_of_16 rfl (lv_at hl 0 rfl) ?_
      refine gt_X11 hx hb hts hown hK hP 0 (hW_w_1.o tX_0) 6 (by decide) wd_679 rfl (hW_w_1.fr tX_0 rfl) dX11_of_17 ?_
      refine lv_aload_n hx hb dX11_of_20 rfl (lv_at hl 0 rfl) ?_
      refine gt_X11 hx hb hts hown hK hP 0 (hW_w_1.o tX_0) 0 (by decide) wd_673 rfl (hW_w_1.fr tX_0 rfl) dX11_of_21 ?_
      refine lv_aload_n hx hb dX11_of_24 rfl (lv_at hl 0 rfl) ?_
      refine gt_X11 hx hb hts hown hK hP 0 (hW_w_1.o tX_0) 5 (by decide) wd_678 rfl (hW_w_1.fr tX_0 rfl) dX11_of_25 ?_
      refine lv_iload_n hx hb dX11_of_28 rfl (lv_at hl 1 rfl) ?_
      refine kW_v ⟨rfl, rfl⟩ hP hD hS hA (rW_V (As := [.ref (q 1), .ref (q 42), .int p1]) (rest := []) hx hb hml hown hts hK hE hP hD (e_X5_weigh_1_42 l D cI cJ cZ q 1 16 bp w_1 hW_w_1 p1 (h_3 c_5).2 (h_3 c_5).1 _) ⟨⟨rfl, rfl⟩, rfl, rfl⟩ sv_X11_225 ⟨(Nat.le_trans (by decide) hR.1), (Nat.le_trans (by decide) hR.2)⟩ 56 5 (hW_w_1.o tX_56) rfl rfl rfl hl.1 rfl (Nat.le_of_ble_eq_true rfl) dX11_of_29) (fun w_10 H locs hw_w_10 hP hD hS => ?_)
      obtain ⟨hW_w_10, hs_w_10, hm_12⟩ := hw_w_10
      refine lv_aload_n hx hb dX11_of_32 rfl (lv_at hl 0 rfl) ?_
      refine gt_X11 hx hb hts hown hK hP 0 (hW_w_10.o tX_0) 6 (by decide) wd_679 rfl (hW_w_10.fr tX_0 rfl) dX11_of_33 ?_
      refine gt_X5 hx hb hts hown hK hP 56 (hW_w_10.o tX_56) 0 (by decide) wd_366 rfl (hW_w_10.fr tX_56 rfl) dX11_of_36 ?_
      refine lv_iload_n hx hb dX11_of_39 rfl (lv_at hl 1 rfl) ?_
      refine va_iald hx hb hK hP 57 0 (hW_w_10.a tX_57) rfl (in_I (h_3 c_5).2 (by decide)) dX11_of_40 ?_
      refine lv_topi (fun v_13 ev_13 => ?_)
      exact hret _ _ _ _ _ _ hP hD hS dX11_of_41 ⟨hW_w_10, ((Sm.rf.tr hs_w_1 (by decide)).tr hs_w_10 (by decide)), (mk_X11_of (And.intro (tyX hW_w) (Exists.intro r_2.toInt (Exists.intro (vw w_1) (And.intro (cgM_1 hm_4 (rfl : (p1 : Int32).toInt = _)) (And.intro (hs_w_1.Fr hW_w hW_w_1 intsX_ok intsX_ok) (And.intro (tyX hW_w_1) (And.intro i_r_2 (Or.inr (And.intro (z_neq c_5 (rfl : (r_2 : Int32).toInt = _) (show (0 : Int32).toInt = 0 from by decide)) (Or.inl (And.intro (z_eq c_6 (rfl : (p2 : Int32).toInt = _) (show (9 : Int32).toInt = 9 from by decide)) (Exists.intro (vw w_10) (And.intro (cgM_1 hm_12 (rfl : (p1 : Int32).toInt = _)) (And.intro (hs_w_10.Fr hW_w_1 hW_w_10 intsX_ok intsX_ok) (And.intro (tyX hW_w_10) (And.intro (z_of ev_13 ((hW_w_10.va tX_57 _).trans (congrArg (vw w_10 57) (z_ix (rfl : (p1 : Int32).toInt = _))))) rfl)))))))))))))))))⟩
  · refine lv_iconst (v := (-1)) hx hb dX11_of_8 (by decide) ?_
    exact hret _ _ _ _ _ _ hP hD hS dX11_of_9 ⟨hW_w_1, (Sm.rf.tr hs_w_1 (by decide)), (mk_X11_of (And.intro (tyX hW_w) (Exists.intro r_2.toInt (Exists.intro (vw w_1) (And.intro (cgM_1 hm_4 (rfl : (p1 : Int32).toInt = _)) (And.intro (hs_w_1.Fr hW_w hW_w_1 intsX_ok intsX_ok) (And.intro (tyX hW_w_1) (And.intro i_r_2 (Or.inl (And.intro (z_eq c_5 (rfl : (r_2 : Int32).toInt = _) (show (0 : Int32).toInt = 0 from by decide)) (And.intro (show ((-1) : Int32).toInt = (-1) from by decide) rfl)))))))))))⟩
set_option maxRecDepth 100000 in
set_option maxHeartbeats 8000000 in
theorem e_X11_wish (l : Launch) (D : va_G) (cI cJ cZ : ClassId) (q : Nat → Nat) (bp : Nat) (w : va_W) (hW_w : HT q (TX q cI cJ cZ 1 16 bp) w) (p1 : Int32) (p2 : Int32) (p3 : Int32) (hLD : LD w) : Con_i l yX11_wish cX11_wish 4 (some .int) ({ frames := 7, cells := 0, slots := 0, locals := 161 }) D cI cJ cZ eW [.ref (q 0), .int p1, .int p2, .int p3] w (fun (r : Int32) (w1 : va_W) => HT q (TX q cI cJ cZ 1 16 bp) w1 ∧ Sm [42, 43, 44, 45, 46, 47, 48, 49, 50, 51, 52, 53, 54, 55] [(42, 0), (42, 1), (42, 2)] w w1 ∧ In (-1) 127 r ∧ M_X11_wish (vw w) p1.toInt p2.toInt p3.toInt r.toInt (vw w1)) := by
  refine eQ_i rfl (by decide) (Nat.le_of_ble_eq_true rfl) ⟨rfl, rfl⟩ ?_
  intro p e R s m args below meth c A Q hx hb hml hown hts hK hE hA hR hret hP hD hS ls hl
  have hown : s.vm.findClass RX11 = some m.cls := hown
  have hl : lv_has ls 4 [(0, .ref (q 0)), (1, .int p1), (2, .int p2), (3, .int p3)] := hl
  refine lv_aload_n hx hb dX11_wish_0 rfl (lv_at hl 0 rfl) ?_
  refine lv_iload_n hx hb dX11_wish_1 rfl (lv_at hl 1 rfl) ?_
  refine kW_i ⟨rfl, rfl⟩ hP hD hS hA (rW_V (As := [.int p1]) (rest := []) hx hb hml hown hts hK hE hP hD (e_X11_isChild l D cI cJ cZ q bp w hW_w p1 (LD_cg rfl rfl hLD) _) ⟨⟨rfl, rfl⟩, rfl, rfl⟩ sv_X11_222 ⟨(Nat.le_trans (by decide) hR.1), (Nat.le_trans (by decide) hR.2)⟩ 0 11 (hW_w.o tX_0) rfl rfl rfl hl.1 rfl (Nat.le_of_ble_eq_true rfl) dX11_wish_2) (fun r_2 w_1 H locs hw_w_1 hP hD hS => ?_)
  obtain ⟨hW_w_1, hs_w_1, i_r_2, h_3, hm_4⟩ := hw_w_1
  refine lv_if_eq (tgt := 25) hx hb dX11_wish_5 (by decide) (fun c_5 => ?_) (fun c_5 => ?_)
  · refine lv_iconst (v := (-1)) hx hb dX11_wish_25 (by decide) ?_
    exact hret _ _ _ _ _ _ hP hD hS dX11_wish_26 ⟨hW_w_1, (Sm.rf.tr hs_w_1 (by decide)), (In_lit (n := (-1)) (by decide) (by decide) : In (-1) 127 (-1)), (mk_X11_wish (And.intro (tyX hW_w) (Exists.intro r_2.toInt (Exists.intro (vw w_1) (And.intro (cgM_1 hm_4 (rfl : (p1 : Int32).toInt = _)) (And.intro (hs_w_1.Fr hW_w hW_w_1 intsX_ok intsX_ok) (And.intro (tyX hW_w_1) (And.intro i_r_2 (Or.inl (And.intro (z_eq c_5 (rfl : (r_2 : Int32).toInt = _) (show (0 : Int32).toInt = 0 from by decide)) (And.intro (show ((-1) : Int32).toInt = (-1) from by decide) rfl)))))))))))⟩
  · refine lv_iload_n hx hb dX11_wish_8 rfl (lv_at hl 2 rfl) ?_
    refine lv_if_lt (tgt := 25) hx hb dX11_wish_9 (by decide) (fun c_6 => ?_) (fun c_6 => ?_)
    · refine lv_iconst (v := (-1)) hx hb dX11_wish_25 (by decide) ?_
      exact hret _ _ _ _ _ _ hP hD hS dX11_wish_26 ⟨hW_w_1, (Sm.rf.tr hs_w_1 (by decide)), (In_lit (n := (-1)) (by decide) (by decide) : In (-1) 127 (-1)), (mk_X11_wish (And.intro (tyX hW_w) (Exists.intro r_2.toInt (Exists.intro (vw w_1) (And.intro (cgM_1 hm_4 (rfl : (p1 : Int32).toInt = _)) (And.intro (hs_w_1.Fr hW_w hW_w_1 intsX_ok intsX_ok) (And.intro (tyX hW_w_1) (And.intro i_r_2 (Or.inr (And.intro (z_neq c_5 (rfl : (r_2 : Int32).toInt = _) (show (0 : Int32).toInt = 0 from by decide)) (Or.inl (And.intro (z_lt c_6 (rfl : (p2 : Int32).toInt = _) (show (0 : Int32).toInt = 0 from by decide)) (And.intro (show ((-1) : Int32).toInt = (-1) from by decide) rfl)))))))))))))⟩
    · refine lv_iload_n hx hb dX11_wish_12 rfl (lv_at hl 2 rfl) ?_
      refine lv_aload_n hx hb dX11_wish_13 rfl (lv_at hl 0 rfl) ?_
      refine gt_X11 hx hb hts hown hK hP 0 (hW_w_1.o tX_0) 5 (by decide) wd_678 rfl (hW_w_1.fr tX_0 rfl) dX11_wish_14 ?_
      refine gt_X6 hx hb hts hown hK hP 42 (hW_w_1.o tX_42) 11 (by decide) wd_316 rfl (hW_w_1.fr tX_42 rfl) dX11_wish_17 ?_
      refine lv_iload_n hx hb dX11_wish_20 rfl (lv_at hl 1 rfl) ?_
      refine va_iald hx hb hK hP 51 0 (hW_w_1.a tX_51) rfl (in_I (h_3 c_5).2 (by decide)) dX11_wish_21 ?_
      refine lv_topi (fun v_7 ev_7 => ?_)
      refine lv_icmp_lt (tgt := 27) hx hb dX11_wish_22 (by decide) (fun c_8 => ?_) (fun c_8 => ?_)
      · refine lv_aload_n hx hb dX11_wish_27 rfl (lv_at hl 0 rfl) ?_
        refine gt_X11 hx hb hts hown hK hP 0 (hW_w_1.o tX_0) 5 (by decide) wd_678 rfl (hW_w_1.fr tX_0 rfl) dX11_wish_28 ?_
        refine gt_X6 hx hb hts hown hK hP 42 (hW_w_1.o tX_42) 12 (by decide) wd_318 rfl (hW_w_1.fr tX_42 rfl) dX11_wish_31 ?_
        refine lv_iload_n hx hb dX11_wish_34 rfl (lv_at hl 1 rfl) ?_
        refine lv_iconst (v := 4) hx hb dX11_wish_35 (by decide) ?_
        refine lv_imul hx hb dX11_wish_36 ?_
        refine lv_iload_n hx hb dX11_wish_37 rfl (lv_at hl 2 rfl) ?_
        refine lv_iadd hx hb dX11_wish_38 ?_
        refine va_lald hx hb hK hP 52 1 (hW_w_1.al tX_52) rfl (in_I ((In_add ((In_mulr (h_3 c_5).2 (n := 4) (by decide) (by decide)) : In 0 156 (p1 * 4)) (R_lt_l (R_nlt_l (In_any p2) (In_lit (n := 0) (by decide) (by decide) : In 0 0 0) c_6 (by decide) : In 0 2147483647 p2) (In_of ev_7 (hW_w_1.ap tX_51 _) : In 0 4 v_7) c_8 (by decide) : In 0 3 p2) (by decide)) : In 0 159 ((p1 * 4) + p2)) (by decide)) dX11_wish_39 ?_
        refine lv_topl (fun v_9 ev_9 => ?_)
        refine lv_iload_n hx hb dX11_wish_40 rfl (lv_at hl 3 rfl) ?_
        refine kW_i ⟨rfl, rfl⟩ hP hD hS hA (rW_S (As := [.long v_9, .int p3]) (rest := []) hx hb hml hown hts hK hE hP hD (e_X11_letterOf l D cI cJ cZ q 1 16 bp w_1 hW_w_1 v_9 p3 _) ⟨⟨rfl, rfl⟩, rfl, rfl⟩ sv_X11_150 ⟨(Nat.le_trans (by decide) hR.1), (Nat.le_trans (by decide) hR.2)⟩ rfl hl.1 rfl (Nat.le_of_ble_eq_true rfl) dX11_wish_41) (fun r_11 w_10 H locs hw_w_10 hP hD hS => ?_)
        obtain ⟨hW_w_10, hs_w_10, i_r_11, hm_12⟩ := hw_w_10
        exact hret _ _ _ _ _ _ hP hD hS dX11_wish_44 ⟨hW_w_10, ((Sm.rf.tr hs_w_1 (by decide)).tr hs_w_10 (by decide)), i_r_11, (mk_X11_wish (And.intro (tyX hW_w) (Exists.intro r_2.toInt (Exists.intro (vw w_1) (And.intro (cgM_1 hm_4 (rfl : (p1 : Int32).toInt = _)) (And.intro (hs_w_1.Fr hW_w hW_w_1 intsX_ok intsX_ok) (And.intro (tyX hW_w_1) (And.intro i_r_2 (Or.inr (And.intro (z_neq c_5 (rfl : (r_2 : Int32).toInt = _) (show (0 : Int32).toInt = 0 from by decide)) (Or.inr (And.intro (z_nlt c_6 (rfl : (p2 : Int32).toInt = _) (show (0 : Int32).toInt = 0 from by decide)) (Or.inl (And.intro (z_lt c_8 (rfl : (p2 : Int32).toInt = _) (z_of ev_7 ((hW_w_1.va tX_51 _).trans (congrArg (vw w_1 51) (z_ix (rfl : (p1 : Int32).toInt = _)))))) (Exists.intro r_11.toInt (Exists.intro (vw w_10) (And.intro (cgM_2 hm_12 (z_ofl ev_9 ((hW_w_1.vb tX_52 _).trans (congrArg (vw w_1 52) (z_ix (z_add (t_add ((In_mulr (h_3 c_5).2 (n := 4) (by decide) (by decide)) : In 0 156 (p1 * 4)) (R_lt_l (R_nlt_l (In_any p2) (In_lit (n := 0) (by decide) (by decide) : In 0 0 0) c_6 (by decide) : In 0 2147483647 p2) (In_of ev_7 (hW_w_1.ap tX_51 _) : In 0 4 v_7) c_8 (by decide) : In 0 3 p2) (by decide)) (z_mul (h_3 c_5).2 (rfl : (p1 : Int32).toInt = _) (show (4 : Int32).toInt = 4 from by decide) (by decide)) (rfl : (p2 : Int32).toInt = _)))))) (rfl : (p3 : Int32).toInt = _)) (And.intro (hs_w_10.Fr hW_w_1 hW_w_10 intsX_ok intsX_ok) (And.intro (tyX hW_w_10) (And.intro i_r_11 (And.intro (rfl : (r_11 : Int32).toInt = _) rfl)))))))))))))))))))))⟩
      · refine lv_iconst (v := (-1)) hx hb dX11_wish_25 (by decide) ?_
        exact hret _ _ _ _ _ _ hP hD hS dX11_wish_26 ⟨hW_w_1, (Sm.rf.tr hs_w_1 (by decide)), (In_lit (n := (-1)) (by decide) (by decide) : In (-1) 127 (-1)), (mk_X11_wish (And.intro (tyX hW_w) (Exists.intro r_2.toInt (Exists.intro (vw w_1) (And.intro (cgM_1 hm_4 (rfl : (p1 : Int32).toInt = _)) (And.intro (hs_w_1.Fr hW_w hW_w_1 intsX_ok intsX_ok) (And.intro (tyX hW_w_1) (And.intro i_r_2 (Or.inr (And.intro (z_neq c_5 (rfl : (r_2 : Int32).toInt = _) (show (0 : Int32).toInt = 0 from by decide)) (Or.inr (And.intro (z_nlt c_6 (rfl : (p2 : Int32).toInt = _) (show (0 : Int32).toInt = 0 from by decide)) (Or.inr (And.intro (z_nlt c_8 (rfl : (p2 : Int32).toInt = _) (z_of ev_7 ((hW_w_1.va tX_51 _).trans (congrArg (vw w_1 51) (z_ix (rfl : (p1 : Int32).toInt = _)))))) (And.intro (show ((-1) : Int32).toInt = (-1) from by decide) rfl)))))))))))))))⟩
set_option maxRecDepth 100000 in
set_option maxHeartbeats 8000000 in
theorem e_X11_may (l : Launch) (D : va_G) (cI cJ cZ : ClassId) (q : Nat → Nat) (bp : Nat) (w : va_W) (hW_w : HT q (TX q cI cJ cZ 1 16 bp) w) (p1 : Int32) (p2 : Int32) (hLD : LD w) : Con_i l yX11_may cX11_may 3 (some .int) ({ frames := 7, cells := 0, slots := 0, locals := 161 }) D cI cJ cZ eW [.ref (q 0), .int p1, .int p2] w (fun (r : Int32) (w1 : va_W) => HT q (TX q cI cJ cZ 1 16 bp) w1 ∧ Sm [42, 43, 44, 45, 46, 47, 48, 49, 50, 51, 52, 53, 54, 55, 57, 58, 59, 60, 61, 62, 63] [(42, 0), (42, 1), (42, 2)] w w1 ∧ In (-1) 1 r ∧ M_X11_may (vw w) p1.toInt p2.toInt r.toInt (vw w1)) := by
  refine eQ_i rfl (by decide) (Nat.le_of_ble_eq_true rfl) ⟨rfl, rfl⟩ ?_
  intro p e R s m args below meth c A Q hx hb hml hown hts hK hE hA hR hret hP hD hS ls hl
  have hown : s.vm.findClass RX11 = some m.cls := hown
  have hl : lv_has ls 3 [(0, .ref (q 0)), (1, .int p1), (2, .int p2)] := hl
  refine lv_aload_n hx hb dX11_may_0 rfl (lv_at hl 0 rfl) ?_
  refine lv_iload_n hx hb dX11_may_1 rfl (lv_at hl 1 rfl) ?_
  refine kW_i ⟨rfl, rfl⟩ hP hD hS hA (rW_V (As := [.int p1]) (rest := []) hx hb hml hown hts hK hE hP hD (e_X11_isChild l D cI cJ cZ q bp w hW_w p1 (LD_cg rfl rfl hLD) _) ⟨⟨rfl, rfl⟩, rfl, rfl⟩ sv_X11_222 ⟨(Nat.le_trans (by decide) hR.1), (Nat.le_trans (by decide) hR.2)⟩ 0 11 (hW_w.o tX_0) rfl rfl rfl hl.1 rfl (Nat.le_of_ble_eq_true rfl) dX11_may_2) (fun r_2 w_1 H locs hw_w_1 hP hD hS => ?_)
  obtain ⟨hW_w_1, hs_w_1, i_r_2, h_3, hm_4⟩ := hw_w_1
  refine lv_if_eq (tgt := 16) hx hb dX11_may_5 (by decide) (fun c_5 => ?_) (fun c_5 => ?_)
  · refine lv_iconst (v := (-1)) hx hb dX11_may_16 (by decide) ?_
    exact hret _ _ _ _ _ _ hP hD hS dX11_may_17 ⟨hW_w_1, (Sm.rf.tr hs_w_1 (by decide)), (In_lit (n := (-1)) (by decide) (by decide) : In (-1) 1 (-1)), (mk_X11_may (And.intro (tyX hW_w) (Exists.intro r_2.toInt (Exists.intro (vw w_1) (And.intro (cgM_1 hm_4 (rfl : (p1 : Int32).toInt = _)) (And.intro (hs_w_1.Fr hW_w hW_w_1 intsX_ok intsX_ok) (And.intro (tyX hW_w_1) (And.intro i_r_2 (Or.inl (And.intro (z_eq c_5 (rfl : (r_2 : Int32).toInt = _) (show (0 : Int32).toInt = 0 from by decide)) (And.intro (show ((-1) : Int32).toInt = (-1) from by decide) rfl)))))))))))⟩
  · refine lv_aload_n hx hb dX11_may_8 rfl (lv_at hl 0 rfl) ?_
    refine lv_iload_n hx hb dX11_may_9 rfl (lv_at hl 2 rfl) ?_
    refine kW_i ⟨rfl, rfl⟩ hP hD hS hA (rW_V (As := [.int p2]) (rest := []) hx hb hml hown hts hK hE hP hD (e_X11_isKind l D cI cJ cZ q bp w_1 hW_w_1 p2 _) ⟨⟨rfl, rfl⟩, rfl, rfl⟩ sv_X11_154 ⟨(Nat.le_trans (by decide) hR.1), (Nat.le_trans (by decide) hR.2)⟩ 0 11 (hW_w_1.o tX_0) rfl rfl rfl hl.1 rfl (Nat.le_of_ble_eq_true rfl) dX11_may_10) (fun r_7 w_6 H locs hw_w_6 hP hD hS => ?_)
    obtain ⟨hW_w_6, hs_w_6, i_r_7, h_8, hm_9⟩ := hw_w_6
    refine lv_if_ne (tgt := 18) hx hb dX11_may_13 (by decide) (fun c_10 => ?_) (fun c_10 => ?_)
    · refine lv_aload_n hx hb dX11_may_18 rfl (lv_at hl 0 rfl) ?_
      refine gt_X11 hx hb hts hown hK hP 0 (hW_w_6.o tX_0) 6 (by decide) wd_679 rfl (hW_w_6.fr tX_0 rfl) dX11_may_19 ?_
      refine lv_aload_n hx hb dX11_may_22 rfl (lv_at hl 0 rfl) ?_
      refine gt_X11 hx hb hts hown hK hP 0 (hW_w_6.o tX_0) 0 (by decide) wd_673 rfl (hW_w_6.fr tX_0 rfl) dX11_may_23 ?_
      refine lv_aload_n hx hb dX11_may_26 rfl (lv_at hl 0 rfl) ?_
      refine gt_X11 hx hb hts hown hK hP 0 (hW_w_6.o tX_0) 5 (by decide) wd_678 rfl (hW_w_6.fr tX_0 rfl) dX11_may_27 ?_
      refine lv_iload_n hx hb dX11_may_30 rfl (lv_at hl 1 rfl) ?_
      refine kW_v ⟨rfl, rfl⟩ hP hD hS hA (rW_V (As := [.ref (q 1), .ref (q 42), .int p1]) (rest := []) hx hb hml hown hts hK hE hP hD (e_X5_weigh_1_42 l D cI cJ cZ q 1 16 bp w_6 hW_w_6 p1 (h_3 c_5).2 (In_of (hs_w_6.gI (by decide)) (h_3 c_5).1) _) ⟨⟨rfl, rfl⟩, rfl, rfl⟩ sv_X11_225 ⟨(Nat.le_trans (by decide) hR.1), (Nat.le_trans (by decide) hR.2)⟩ 56 5 (hW_w_6.o tX_56) rfl rfl rfl hl.1 rfl (Nat.le_of_ble_eq_true rfl) dX11_may_31) (fun w_11 H locs hw_w_11 hP hD hS => ?_)
      obtain ⟨hW_w_11, hs_w_11, hm_13⟩ := hw_w_11
      refine lv_aload_n hx hb dX11_may_34 rfl (lv_at hl 0 rfl) ?_
      refine gt_X11 hx hb hts hown hK hP 0 (hW_w_11.o tX_0) 6 (by decide) wd_679 rfl (hW_w_11.fr tX_0 rfl) dX11_may_35 ?_
      refine gt_X5 hx hb hts hown hK hP 56 (hW_w_11.o tX_56) 1 (by decide) wd_370 rfl (hW_w_11.fr tX_56 rfl) dX11_may_38 ?_
      refine lv_iload_n hx hb dX11_may_41 rfl (lv_at hl 1 rfl) ?_
      refine va_iald hx hb hK hP 58 0 (hW_w_11.a tX_58) rfl (in_I (h_3 c_5).2 (by decide)) dX11_may_42 ?_
      refine lv_topi (fun v_14 ev_14 => ?_)
      refine lv_iload_n hx hb dX11_may_43 rfl (lv_at hl 2 rfl) ?_
      refine lv_ishr hx hb dX11_may_44 ?_
      refine lv_topi (fun v_15 ev_15 => ?_)
      refine lv_iconst (v := 1) hx hb dX11_may_45 (by decide) ?_
      refine lv_iand hx hb dX11_may_46 ?_
      exact hret _ _ _ _ _ _ hP hD hS dX11_may_47 ⟨hW_w_11, (((Sm.rf.tr hs_w_1 (by decide)).tr hs_w_6 (by decide)).tr hs_w_11 (by decide)), (In_w ((In_and (n := 1) (by decide) (by decide)) : In 0 1 (v_15 &&& 1)) (by decide) : In (-1) 1 (v_15 &&& 1)), (mk_X11_may (And.intro (tyX hW_w) (Exists.intro r_2.toInt (Exists.intro (vw w_1) (And.intro (cgM_1 hm_4 (rfl : (p1 : Int32).toInt = _)) (And.intro (hs_w_1.Fr hW_w hW_w_1 intsX_ok intsX_ok) (And.intro (tyX hW_w_1) (And.intro i_r_2 (Or.inr (And.intro (z_neq c_5 (rfl : (r_2 : Int32).toInt = _) (show (0 : Int32).toInt = 0 from by decide)) (Exists.intro r_7.toInt (Exists.intro (vw w_6) (And.intro (cgM_1 hm_9 (rfl : (p2 : Int32).toInt = _)) (And.intro (hs_w_6.Fr hW_w_1 hW_w_6 intsX_ok intsX_ok) (And.intro (tyX hW_w_6) (And.intro i_r_7 (Or.inr (And.intro (z_neq c_10 (rfl : (r_7 : Int32).toInt = _) (show (0 : Int32).toInt = 0 from by decide)) (Exists.intro (vw w_11) (And.intro (cgM_1 hm_13 (rfl : (p1 : Int32).toInt = _)) (And.intro (hs_w_11.Fr hW_w_6 hW_w_11 intsX_ok intsX_ok) (And.intro (tyX hW_w_11) (And.intro (z_and (z_of ev_15 (z_shr (z_of ev_14 ((hW_w_11.va tX_58 _).trans (congrArg (vw w_11 58) (z_ix (rfl : (p1 : Int32).toInt = _))))) (rfl : (p2 : Int32).toInt = _))) (show (1 : Int32).toInt = 1 from by decide)) rfl)))))))))))))))))))))))⟩
    · refine lv_iconst (v := (-1)) hx hb dX11_may_16 (by decide) ?_
      exact hret _ _ _ _ _ _ hP hD hS dX11_may_17 ⟨hW_w_6, ((Sm.rf.tr hs_w_1 (by decide)).tr hs_w_6 (by decide)), (In_lit (n := (-1)) (by decide) (by decide) : In (-1) 1 (-1)), (mk_X11_may (And.intro (tyX hW_w) (Exists.intro r_2.toInt (Exists.intro (vw w_1) (And.intro (cgM_1 hm_4 (rfl : (p1 : Int32).toInt = _)) (And.intro (hs_w_1.Fr hW_w hW_w_1 intsX_ok intsX_ok) (And.intro (tyX hW_w_1) (And.intro i_r_2 (Or.inr (And.intro (z_neq c_5 (rfl : (r_2 : Int32).toInt = _) (show (0 : Int32).toInt = 0 from by decide)) (Exists.intro r_7.toInt (Exists.intro (vw w_6) (And.intro (cgM_1 hm_9 (rfl : (p2 : Int32).toInt = _)) (And.intro (hs_w_6.Fr hW_w_1 hW_w_6 intsX_ok intsX_ok) (And.intro (tyX hW_w_6) (And.intro i_r_7 (Or.inl (And.intro (z_eq c_10 (rfl : (r_7 : Int32).toInt = _) (show (0 : Int32).toInt = 0 from by decide)) (And.intro (show ((-1) : Int32).toInt = (-1) from by decide) rfl)))))))))))))))))))⟩
set_option maxRecDepth 100000 in
set_option maxHeartbeats 8000000 in
theorem e_X11_points (l : Launch) (D : va_G) (cI cJ cZ : ClassId) (q : Nat → Nat) (bp : Nat) (w : va_W) (hW_w : HT q (TX q cI cJ cZ 1 16 bp) w) (p1 : Int32) (p2 : Int32) (hLD : LD w) : Con_i l yX11_points cX11_points 3 (some .int) ({ frames := 7, cells := 0, slots := 0, locals := 161 }) D cI cJ cZ eW [.ref (q 0), .int p1, .int p2] w (fun (r : Int32) (w1 : va_W) => HT q (TX q cI cJ cZ 1 16 bp) w1 ∧ Sm [42, 43, 44, 45, 46, 47, 48, 49, 50, 51, 52, 53, 54, 55, 57, 58, 59, 60, 61, 62, 63] [(42, 0), (42, 1), (42, 2)] w w1 ∧ M_X11_points (vw w) p1.toInt p2.toInt r.toInt (vw w1)) := by
  refine eQ_i rfl (by decide) (Nat.le_of_ble_eq_true rfl) ⟨rfl, rfl⟩ ?_
  intro p e R s m args below meth c A Q hx hb hml hown hts hK hE hA hR hret hP hD hS ls hl
  have hown : s.vm.findClass RX11 = some m.cls := hown
  have hl : lv_has ls 3 [(0, .ref (q 0)), (1, .int p1), (2, .int p2)] := hl
  refine lv_aload_n hx hb dX11_points_0 rfl (lv_at hl 0 rfl) ?_
  refine lv_iload_n hx hb dX11_points_1 rfl (lv_at hl 1 rfl) ?_
  refine kW_i ⟨rfl, rfl⟩ hP hD hS hA (rW_V (As := [.int p1]) (rest := []) hx hb hml hown hts hK hE hP hD (e_X11_isChild l D cI cJ cZ q bp w hW_w p1 (LD_cg rfl rfl hLD) _) ⟨⟨rfl, rfl⟩, rfl, rfl⟩ sv_X11_222 ⟨(Nat.le_trans (by decide) hR.1), (Nat.le_trans (by decide) hR.2)⟩ 0 11 (hW_w.o tX_0) rfl rfl rfl hl.1 rfl (Nat.le_of_ble_eq_true rfl) dX11_points_2) (fun r_2 w_1 H locs hw_w_1 hP hD hS => ?_)
  obtain ⟨hW_w_1, hs_w_1, i_r_2, h_3, hm_4⟩ := hw_w_1
  refine lv_if_eq (tgt := 16) hx hb dX11_points_5 (by decide) (fun c_5 => ?_) (fun c_5 => ?_)
  · refine lv_ldc hx hb hown (hts _ wd_1065) dX11_points_16 ?_
    exact hret _ _ _ _ _ _ hP hD hS dX11_points_18 ⟨hW_w_1, (Sm.rf.tr hs_w_1 (by decide)), (mk_X11_points (And.intro (tyX hW_w) (Exists.intro r_2.toInt (Exists.intro (vw w_1) (And.intro (cgM_1 hm_4 (rfl : (p1 : Int32).toInt = _)) (And.intro (hs_w_1.Fr hW_w hW_w_1 intsX_ok intsX_ok) (And.intro (tyX hW_w_1) (And.intro i_r_2 (Or.inl (And.intro (z_eq c_5 (rfl : (r_2 : Int32).toInt = _) (show (0 : Int32).toInt = 0 from by decide)) (And.intro (show ((-2000000000) : Int32).toInt = (-2000000000) from by decide) rfl)))))))))))⟩
  · refine lv_aload_n hx hb dX11_points_8 rfl (lv_at hl 0 rfl) ?_
    refine lv_iload_n hx hb dX11_points_9 rfl (lv_at hl 2 rfl) ?_
    refine kW_i ⟨rfl, rfl⟩ hP hD hS hA (rW_V (As := [.int p2]) (rest := []) hx hb hml hown hts hK hE hP hD (e_X11_isKind l D cI cJ cZ q bp w_1 hW_w_1 p2 _) ⟨⟨rfl, rfl⟩, rfl, rfl⟩ sv_X11_154 ⟨(Nat.le_trans (by decide) hR.1), (Nat.le_trans (by decide) hR.2)⟩ 0 11 (hW_w_1.o tX_0) rfl rfl rfl hl.1 rfl (Nat.le_of_ble_eq_true rfl) dX11_points_10) (fun r_7 w_6 H locs hw_w_6 hP hD hS => ?_)
    obtain ⟨hW_w_6, hs_w_6, i_r_7, h_8, hm_9⟩ := hw_w_6
    refine lv_if_ne (tgt := 19) hx hb dX11_points_13 (by decide) (fun c_10 => ?_) (fun c_10 => ?_)
    · refine lv_aload_n hx hb dX11_points_19 rfl (lv_at hl 0 rfl) ?_
      refine gt_X11 hx hb hts hown hK hP 0 (hW_w_6.o tX_0) 6 (by decide) wd_679 rfl (hW_w_6.fr tX_0 rfl) dX11_points_20 ?_
      refine lv_aload_n hx hb dX11_points_23 rfl (lv_at hl 0 rfl) ?_
      refine gt_X11 hx hb hts hown hK hP 0 (hW_w_6.o tX_0) 0 (by decide) wd_673 rfl (hW_w_6.fr tX_0 rfl) dX11_points_24 ?_
      refine lv_aload_n hx hb dX11_points_27 rfl (lv_at hl 0 rfl) ?_
      refine gt_X11 hx hb hts hown hK hP 0 (hW_w_6.o tX_0) 5 (by decide) wd_678 rfl (hW_w_6.fr tX_0 rfl) dX11_points_28 ?_
      refine lv_iload_n hx hb dX11_points_31 rfl (lv_at hl 1 rfl) ?_
      refine kW_v ⟨rfl, rfl⟩ hP hD hS hA (rW_V (As := [.ref (q 1), .ref (q 42), .int p1]) (rest := []) hx hb hml hown hts hK hE hP hD (e_X5_weigh_1_42 l D cI cJ cZ q 1 16 bp w_6 hW_w_6 p1 (h_3 c_5).2 (In_of (hs_w_6.gI (by decide)) (h_3 c_5).1) _) ⟨⟨rfl, rfl⟩, rfl, rfl⟩ sv_X11_225 ⟨(Nat.le_trans (by decide) hR.1), (Nat.le_trans (by decide) hR.2)⟩ 56 5 (hW_w_6.o tX_56) rfl rfl rfl hl.1 rfl (Nat.le_of_ble_eq_true rfl) dX11_points_32) (fun w_11 H locs hw_w_11 hP hD hS => ?_)
      obtain ⟨hW_w_11, hs_w_11, hm_13⟩ := hw_w_11
      refine lv_aload_n hx hb dX11_points_35 rfl (lv_at hl 0 rfl) ?_
      refine gt_X11 hx hb hts hown hK hP 0 (hW_w_11.o tX_0) 6 (by decide) wd_679 rfl (hW_w_11.fr tX_0 rfl) dX11_points_36 ?_
      refine gt_X5 hx hb hts hown hK hP 56 (hW_w_11.o tX_56) 2 (by decide) wd_374 rfl (hW_w_11.fr tX_56 rfl) dX11_points_39 ?_
      refine lv_iload_n hx hb dX11_points_42 rfl (lv_at hl 1 rfl) ?_
      refine lv_bipush (v := 10) hx hb dX11_points_43 (by decide) ?_
      refine lv_imul hx hb dX11_points_45 ?_
      refine lv_iload_n hx hb dX11_points_46 rfl (lv_at hl 2 rfl) ?_
      refine lv_iadd hx hb dX11_points_47 ?_
      refine va_iald hx hb hK hP 59 0 (hW_w_11.a tX_59) rfl (in_I ((In_add ((In_mulr (h_3 c_5).2 (n := 10) (by decide) (by decide)) : In 0 390 (p1 * 10)) (h_8 c_10).2 (by decide)) : In 0 399 ((p1 * 10) + p2)) (by decide)) dX11_points_48 ?_
      refine lv_topi (fun v_14 ev_14 => ?_)
      exact hret _ _ _ _ _ _ hP hD hS dX11_points_49 ⟨hW_w_11, (((Sm.rf.tr hs_w_1 (by decide)).tr hs_w_6 (by decide)).tr hs_w_11 (by decide)), (mk_X11_points (And.intro (tyX hW_w) (Exists.intro r_2.toInt (Exists.intro (vw w_1) (And.intro (cgM_1 hm_4 (rfl : (p1 : Int32).toInt = _)) (And.intro (hs_w_1.Fr hW_w hW_w_1 intsX_ok intsX_ok) (And.intro (tyX hW_w_1) (And.intro i_r_2 (Or.inr (And.intro (z_neq c_5 (rfl : (r_2 : Int32).toInt = _) (show (0 : Int32).toInt = 0 from by decide)) (Exists.intro r_7.toInt (Exists.intro (vw w_6) (And.intro (cgM_1 hm_9 (rfl : (p2 : Int32).toInt = _)) (And.intro (hs_w_6.Fr hW_w_1 hW_w_6 intsX_ok intsX_ok) (And.intro (tyX hW_w_6) (And.intro i_r_7 (Or.inr (And.intro (z_neq c_10 (rfl : (r_7 : Int32).toInt = _) (show (0 : Int32).toInt = 0 from by decide)) (Exists.intro (vw w_11) (And.intro (cgM_1 hm_13 (rfl : (p1 : Int32).toInt = _)) (And.intro (hs_w_11.Fr hW_w_6 hW_w_11 intsX_ok intsX_ok) (And.intro (tyX hW_w_11) (And.intro (z_of ev_14 ((hW_w_11.va tX_59 _).trans (congrArg (vw w_11 59) (z_ix (z_add (t_add ((In_mulr (h_3 c_5).2 (n := 10) (by decide) (by decide)) : In 0 390 (p1 * 10)) (h_8 c_10).2 (by decide)) (z_mul (h_3 c_5).2 (rfl : (p1 : Int32).toInt = _) (show (10 : Int32).toInt = 10 from by decide) (by decide)) (rfl : (p2 : Int32).toInt = _)))))) rfl)))))))))))))))))))))))⟩
    · refine lv_ldc hx hb hown (hts _ wd_1065) dX11_points_16 ?_
      exact hret _ _ _ _ _ _ hP hD hS dX11_points_18 ⟨hW_w_6, ((Sm.rf.tr hs_w_1 (by decide)).tr hs_w_6 (by decide)), (mk_X11_points (And.intro (tyX hW_w) (Exists.intro r_2.toInt (Exists.intro (vw w_1) (And.intro (cgM_1 hm_4 (rfl : (p1 : Int32).toInt = _)) (And.intro (hs_w_1.Fr hW_w hW_w_1 intsX_ok intsX_ok) (And.intro (tyX hW_w_1) (And.intro i_r_2 (Or.inr (And.intro (z_neq c_5 (rfl : (r_2 : Int32).toInt = _) (show (0 : Int32).toInt = 0 from by decide)) (Exists.intro r_7.toInt (Exists.intro (vw w_6) (And.intro (cgM_1 hm_9 (rfl : (p2 : Int32).toInt = _)) (And.intro (hs_w_6.Fr hW_w_1 hW_w_6 intsX_ok intsX_ok) (And.intro (tyX hW_w_6) (And.intro i_r_7 (Or.inl (And.intro (z_eq c_10 (rfl : (r_7 : Int32).toInt = _) (show (0 : Int32).toInt = 0 from by decide)) (And.intro (show ((-2000000000) : Int32).toInt = (-2000000000) from by decide) rfl)))))))))))))))))))⟩
set_option maxRecDepth 100000 in
set_option maxHeartbeats 8000000 in
theorem e_J7_fill_53178_109 (l : Launch) (D : va_G) (cI cJ cZ : ClassId) (q : Nat → Nat) (bb bs bp : Nat) (w : va_W) (hW_w : HT q (TX q cI cJ cZ bb bs bp) w) (p1 : Int32) (i_p1 : In 0 0 p1) : Con_v l yJ7_fill_53178 cJ7_fill_53178 4 none ({ frames := 0, cells := 0, slots := 0, locals := 0 }) D cI cJ cZ eW [.ref (q 109), .int p1] w (fun (w1 : va_W) => HT q (TX q cI cJ cZ bb bs bp) w1 ∧ Sm [109] [] w w1 ∧ ((∀ i : Nat, i < 10 → aF w1 109 i = p1)) ∧ M_J7_fill_53178_109 (vw w) p1.toInt 0 (vw w1)) := by
  refine eQ_v rfl (by decide) (Nat.le_of_ble_eq_true rfl) ⟨rfl, rfl⟩ ?_
  intro p e R s m args below meth c A Q hx hb hml hown hts hK hE hA hR hret hP hD hS ls hl
  have hown : s.vm.findClass RJ7 = some m.cls := hown
  have hl : lv_has ls 4 [(0, .ref (q 109)), (1, .int p1)] := hl
  have J5 : ∀ (N : Nat) (x5_2 : Int32) (x5_3 : Int32) (w5 : va_W) (H : Heap) (locs : List Loc) (ls : Array Slot), (10 - x5_2.toInt).toNat < N → HT q (TX q cI cJ cZ bb bs bp) w5 → Sm [109] [] w w5 → (In 0 0 p1) → (In 0 10 x5_2) → (In 10 10 x5_3) → (∀ i : Nat, i < (x5_2 : Int32).toInt.toNat → aF w5 109 i = p1) → (∀ (n : Nat) (r : Int) (t : PS), It_J7_fill_53178_109 n p1.toInt x5_2.toInt x5_3.toInt (vw w5) r t → M_J7_fill_53178_109 (vw w) p1.toInt r t) → va_P D vwCl w5 H → va_D A w5 → va_S A s.heap H locs → lv_has ls 4 [(0, .ref (q 109)), (1, .int p1), (2, .int x5_2), (3, .int x5_3)] → W p l e R s m args below meth c H locs 0 0 Q (F0 m 5 ls []) := by
    intro N
    induction N with
    | zero => intro x5_2 x5_3 w5 H locs ls hmu; exact absurd hmu (Nat.not_lt_zero _)
    | succ N ih5 =>
      intro x5_2 x5_3 w5 H locs ls hmu5 hW_w5 hM_w5 i_x5_1 i_x5_2 i_x5_3 hj_5 hmi_5 hP hD hS hl
      refine lv_iload_n hx hb dJ7_fill_53178_5 rfl (lv_at hl 2 rfl) ?_
      refine lv_iload_n hx hb dJ7_fill_53178_6 rfl (lv_at hl 3 rfl) ?_
      refine lv_icmp_ge (tgt := 20) hx hb dJ7_fill_53178_7 (by decide) (fun c_1 => ?_) (fun c_1 => ?_)
      · have lb_c_1 : (x5_3 : Int32).toInt ≤ (x5_2 : Int32).toInt := q_le.mp c_1
        exact hret _ _ _ _ _ hP hD hS dJ7_fill_53178_20 ⟨hW_w5, hM_w5, (fun i hi => hj_5 i (by have q := i_x5_3; unfold In at q; omega)), (hmi_5 (0 + 1) _ _ (rl_J7_fill_53178_109_5 (n := 0) (And.intro (tyX hW_w5) (And.intro i_x5_1 (And.intro i_x5_2 (And.intro i_x5_3 (Or.inl (And.intro (z_le c_1 (rfl : (x5_3 : Int32).toInt = _) (rfl : (x5_2 : Int32).toInt = _)) (And.intro rfl rfl)))))))))⟩
      · have lb_c_1 : ¬ (x5_3 : Int32).toInt ≤ (x5_2 : Int32).toInt := fun h => c_1 (q_le.mpr h)
        refine lv_aload_n hx hb dJ7_fill_53178_10 rfl (lv_at hl 0 rfl) ?_
        refine lv_iload_n hx hb dJ7_fill_53178_11 rfl (lv_at hl 2 rfl) ?_
        refine lv_iload_n hx hb dJ7_fill_53178_12 rfl (lv_at hl 1 rfl) ?_
        refine va_iast hx hb hK hP hD hS 109 0 (hW_w5.a tX_109) rfl (in_I (R_nle_r i_x5_3 i_x5_2 c_1 (by decide) : In 0 9 x5_2) (by decide)) dJ7_fill_53178_13 (fun H locs hP hD hS => fr_w (hW_w5.uA tX_109 (In_w i_p1 (by decide) : In (-2147483648) 2147483647 p1)) hP hD (fun w_2 ew_2 hW_w_2 hP hD => ?_))
        have hv_w_2 := vw_uA hW_w5 tX_109 ew_2 (z_ix (rfl : (x5_2 : Int32).toInt = _)) (rfl : (p1 : Int32).toInt = _)
        refine lv_iinc (v := (x5_2 + 1)) (lv' := [(2, .int (x5_2 + 1)), (0, .ref (q 109)), (1, .int p1), (3, .int x5_3)]) hx hb dJ7_fill_53178_14 hl (k := 2) rfl (rfl) (by decide) rfl (fun ls hl => ?_)
        refine lv_goto (tgt := 5) hx hb dJ7_fill_53178_17 (by decide) ?_
        exact ih5 (x5_2 + 1) x5_3 w_2 _ _ ls (mu_inc hmu5 (R_nle_r i_x5_3 i_x5_2 c_1 (by decide) : In 0 9 x5_2) (In_lit (n := 1) (by decide) (by decide) : In 1 1 1) (by decide)) hW_w_2 (hM_w5.sa ew_2 (by decide)) i_p1 (In_w ((In_add (y := 1) (R_nle_r i_x5_3 i_x5_2 c_1 (by decide) : In 0 9 x5_2) (In_lit (n := 1) (by decide) (by decide) : In 1 1 1) (by decide)) : In 1 10 (x5_2 + 1)) (by decide) : In 0 10 (x5_2 + 1)) i_x5_3 (fill_si (R_nle_r i_x5_3 i_x5_2 c_1 (by decide) : In 0 9 x5_2) hj_5 (aF_eq (hW_w5.lt tX_109) ew_2)) (fun n r t hk => (hmi_5 (n + 1) r t (rl_J7_fill_53178_109_5 (n := n) (And.intro (tyX hW_w5) (And.intro i_x5_1 (And.intro i_x5_2 (And.intro i_x5_3 (Or.inr (And.intro (z_nle c_1 (rfl : (x5_3 : Int32).toInt = _) (rfl : (x5_2 : Int32).toInt = _)) (Exists.intro (vw w_2) (And.intro hv_w_2 (cgK_3 hk (rfl : (p1 : Int32).toInt = _) (z_add (t_add (R_nle_r i_x5_3 i_x5_2 c_1 (by decide) : In 0 9 x5_2) (In_lit (n := 1) (by decide) (by decide) : In 1 1 1) (by decide)) (rfl : (x5_2 : Int32).toInt = _) (show (1 : Int32).toInt = 1 from by decide)) (rfl : (x5_3 : Int32).toInt = _))))))))))))) hP hD hS (lv_sub hl [1, 2, 0, 3] rfl)
  refine lv_iconst (v := 0) hx hb dJ7_fill_53178_0 (by decide) ?_
  refine lv_istore_n (lv' := [(2, .int 0), (0, .ref (q 109)), (1, .int p1)]) hx hb dJ7_fill_53178_1 rfl hl (by decide) rfl (fun ls hl => ?_)
  refine lv_aload_n hx hb dJ7_fill_53178_2 rfl (lv_at hl 1 rfl) ?_
  refine va_alen hx hb hK hP 109 0 (hW_w.a tX_109) rfl (v := 10) (by show Int32.ofNat 10 = 10; decide) dJ7_fill_53178_3 ?_
  refine lv_istore_n (lv' := [(3, .int 10), (2, .int 0), (0, .ref (q 109)), (1, .int p1)]) hx hb dJ7_fill_53178_4 rfl hl (by decide) rfl (fun ls hl => ?_)
  exact J5 _ 0 10 w _ _ ls (Nat.lt_succ_self _) hW_w Sm.rf i_p1 (In_lit (n := 0) (by decide) (by decide) : In 0 10 0) (In_lit (n := 10) (by decide) (by decide) : In 10 10 10) (fun i h => absurd h (by have z : (0 : Int32).toInt = 0 := (by decide); omega)) (fun n r t hk => (mk_J7_fill_53178_109 (n := n) (And.intro (tyX hW_w) (And.intro i_p1 (cgK_3 hk (rfl : (p1 : Int32).toInt = _) (show (0 : Int32).toInt = 0 from by decide) (show (10 : Int32).toInt = 10 from by decide)))))) hP hD hS (lv_sub hl [2, 3, 1, 0] rfl)
set_option maxRecDepth 100000 in
set_option maxHeartbeats 8000000 in
theorem e_X11_weighAll (l : Launch) (D : va_G) (cI cJ cZ : ClassId) (q : Nat → Nat) (bp : Nat) (w : va_W) (hW_w : HT q (TX q cI cJ cZ 1 16 bp) w) (hLD : LD w) : Con_v l yX11_weighAll cX11_weighAll 2 none ({ frames := 6, cells := 0, slots := 0, locals := 142 }) D cI cJ cZ eW [.ref (q 0)] w (fun (w1 : va_W) => HT q (TX q cI cJ cZ 1 16 bp) w1 ∧ Sm [42, 43, 44, 45, 46, 47, 48, 49, 50, 51, 52, 53, 54, 55, 57, 58, 59, 60, 61, 62, 63] [(42, 0), (42, 1), (42, 2)] w w1 ∧ M_X11_weighAll (vw w) 0 (vw w1)) := by
  refine eQ_v rfl (by decide) (Nat.le_of_ble_eq_true rfl) ⟨rfl, rfl⟩ ?_
  intro p e R s m args below meth c A Q hx hb hml hown hts hK hE hA hR hret hP hD hS ls hl
  have hown : s.vm.findClass RX11 = some m.cls := hown
  have hl : lv_has ls 2 [(0, .ref (q 0))] := hl
  have J6 : ∀ (N : Nat) (x6_1 : Int32) (w6 : va_W) (H : Heap) (locs : List Loc) (ls : Array Slot), (40 - x6_1.toInt).toNat < N → HT q (TX q cI cJ cZ 1 16 bp) w6 → Sm [42, 43, 44, 45, 46, 47, 48, 49, 50, 51, 52, 53, 54, 55, 57, 58, 59, 60, 61, 62, 63] [(42, 0), (42, 1), (42, 2)] w w6 → (In 0 40 x6_1) → (∀ (n : Nat) (r : Int) (t : PS), It_X11_weighAll n x6_1.toInt (vw w6) r t → M_X11_weighAll (vw w) r t) → va_P D vwCl w6 H → va_D A w6 → va_S A s.heap H locs → lv_has ls 2 [(0, .ref (q 0)), (1, .int x6_1)] → W p l e R s m args below meth c H locs 0 0 Q (F0 m 6 ls []) := by
    intro N
    induction N with
    | zero => intro x6_1 w6 H locs ls hmu; exact absurd hmu (Nat.not_lt_zero _)
    | succ N ih6 =>
      intro x6_1 w6 H locs ls hmu6 hW_w6 hM_w6 i_x6_1 hmi_6 hP hD hS hl
      refine lv_iload_n hx hb dX11_weighAll_6 rfl (lv_at hl 1 rfl) ?_
      refine lv_aload_n hx hb dX11_weighAll_7 rfl (lv_at hl 0 rfl) ?_
      refine gt_X11 hx hb hts hown hK hP 0 (hW_w6.o tX_0) 5 (by decide) wd_678 rfl (hW_w6.fr tX_0 rfl) dX11_weighAll_8 ?_
      refine gt_X6 hx hb hts hown hK hP 42 (hW_w6.o tX_42) 2 (by decide) wd_296 rfl (hW_w6.fi tX_42 rfl) dX11_weighAll_11 ?_
      refine lv_icmp_ge (tgt := 39) hx hb dX11_weighAll_14 (by decide) (fun c_1 => ?_) (fun c_1 => ?_)
      · exact hret _ _ _ _ _ hP hD hS dX11_weighAll_39 ⟨hW_w6, hM_w6, (hmi_6 (0 + 1) _ _ (rl_X11_weighAll_6 (n := 0) (And.intro (tyX hW_w6) (And.intro i_x6_1 (Or.inl (And.intro (z_le c_1 (hW_w6.vi tX_42 rfl) (rfl : (x6_1 : Int32).toInt = _)) (And.intro rfl rfl)))))))⟩
      · refine lv_aload_n hx hb dX11_weighAll_17 rfl (lv_at hl 0 rfl) ?_
        refine gt_X11 hx hb hts hown hK hP 0 (hW_w6.o tX_0) 6 (by decide) wd_679 rfl (hW_w6.fr tX_0 rfl) dX11_weighAll_18 ?_
        refine lv_aload_n hx hb dX11_weighAll_21 rfl (lv_at hl 0 rfl) ?_
        refine gt_X11 hx hb hts hown hK hP 0 (hW_w6.o tX_0) 0 (by decide) wd_673 rfl (hW_w6.fr tX_0 rfl) dX11_weighAll_22 ?_
        refine lv_aload_n hx hb dX11_weighAll_25 rfl (lv_at hl 0 rfl) ?_
        refine gt_X11 hx hb hts hown hK hP 0 (hW_w6.o tX_0) 5 (by decide) wd_678 rfl (hW_w6.fr tX_0 rfl) dX11_weighAll_26 ?_
        refine lv_iload_n hx hb dX11_weighAll_29 rfl (lv_at hl 1 rfl) ?_
        refine kW_v ⟨rfl, rfl⟩ hP hD hS hA (rW_V (As := [.ref (q 1), .ref (q 42), .int x6_1]) (rest := []) hx hb hml hown hts hK hE hP hD (e_X5_weigh_1_42 l D cI cJ cZ q 1 16 bp w6 hW_w6 x6_1 (R_nle_r (hW_w6.fin tX_42 rfl : In 0 40 (fI w6 42 2)) i_x6_1 c_1 (by decide) : In 0 39 x6_1) (R_nle_l (hW_w6.fin tX_42 rfl : In 0 40 (fI w6 42 2)) i_x6_1 c_1 (by decide) : In 1 40 (fI w6 42 2)) _) ⟨⟨rfl, rfl⟩, rfl, rfl⟩ sv_X11_225 ⟨(Nat.le_trans (by decide) hR.1), (Nat.le_trans (by decide) hR.2)⟩ 56 5 (hW_w6.o tX_56) rfl rfl rfl hl.1 rfl (Nat.le_of_ble_eq_true rfl) dX11_weighAll_30) (fun w_2 H locs hw_w_2 hP hD hS => ?_)
        obtain ⟨hW_w_2, hs_w_2, hm_4⟩ := hw_w_2
        refine lv_iinc (v := (x6_1 + 1)) (lv' := [(1, .int (x6_1 + 1)), (0, .ref (q 0))]) hx hb dX11_weighAll_33 hl (k := 1) rfl (rfl) (by decide) rfl (fun ls hl => ?_)
        refine lv_goto (tgt := 6) hx hb dX11_weighAll_36 (by decide) ?_
        exact ih6 (x6_1 + 1) w_2 _ _ ls (mu_inc hmu6 (R_nle_r (hW_w6.fin tX_42 rfl : In 0 40 (fI w6 42 2)) i_x6_1 c_1 (by decide) : In 0 39 x6_1) (In_lit (n := 1) (by decide) (by decide) : In 1 1 1) (by decide)) hW_w_2 (hM_w6.tr hs_w_2 (by decide)) (In_w ((In_add (y := 1) (R_nle_r (hW_w6.fin tX_42 rfl : In 0 40 (fI w6 42 2)) i_x6_1 c_1 (by decide) : In 0 39 x6_1) (In_lit (n := 1) (by decide) (by decide) : In 1 1 1) (by decide)) : In 1 40 (x6_1 + 1)) (by decide) : In 0 40 (x6_1 + 1)) (fun n r t hk => (hmi_6 (n + 1) r t (rl_X11_weighAll_6 (n := n) (And.intro (tyX hW_w6) (And.intro i_x6_1 (Or.inr (And.intro (z_nle c_1 (hW_w6.vi tX_42 rfl) (rfl : (x6_1 : Int32).toInt = _)) (Exists.intro (vw w_2) (And.intro (cgM_1 hm_4 (rfl : (x6_1 : Int32).toInt = _)) (And.intro (hs_w_2.Fr hW_w6 hW_w_2 intsX_ok intsX_ok) (And.intro (tyX hW_w_2) (cgK_1 hk (z_add (t_add (R_nle_r (hW_w6.fin tX_42 rfl : In 0 40 (fI w6 42 2)) i_x6_1 c_1 (by decide) : In 0 39 x6_1) (In_lit (n := 1) (by decide) (by decide) : In 1 1 1) (by decide)) (rfl : (x6_1 : Int32).toInt = _) (show (1 : Int32).toInt = 1 from by decide)))))))))))))) hP hD hS (lv_sub hl [1, 0] rfl)
  refine lv_aload_n hx hb dX11_weighAll_0 rfl (lv_at hl 0 rfl) ?_
  refine kW_v ⟨rfl, rfl⟩ hP hD hS hA (rW_V (As := []) (rest := []) hx hb hml hown hts hK hE hP hD (e_X11_look l D cI cJ cZ q bp w hW_w (LD_cg rfl rfl hLD) _) ⟨⟨rfl, rfl⟩, rfl, rfl⟩ sv_X11_207 ⟨(Nat.le_trans (by decide) hR.1), (Nat.le_trans (by decide) hR.2)⟩ 0 11 (hW_w.o tX_0) rfl rfl rfl hl.1 rfl (Nat.le_of_ble_eq_true rfl) dX11_weighAll_1) (fun w_5 H locs hw_w_5 hP hD hS => ?_)
  obtain ⟨hW_w_5, hs_w_5, hm_7⟩ := hw_w_5
  refine lv_iconst (v := 0) hx hb dX11_weighAll_4 (by decide) ?_
  refine lv_istore_n (lv' := [(1, .int 0), (0, .ref (q 0))]) hx hb dX11_weighAll_5 rfl hl (by decide) rfl (fun ls hl => ?_)
  exact J6 _ 0 w_5 _ _ ls (Nat.lt_succ_self _) hW_w_5 (Sm.rf.tr hs_w_5 (by decide)) (In_lit (n := 0) (by decide) (by decide) : In 0 40 0) (fun n r t hk => (mk_X11_weighAll (n := n) (And.intro (tyX hW_w) (Exists.intro (vw w_5) (And.intro hm_7 (And.intro (hs_w_5.Fr hW_w hW_w_5 intsX_ok intsX_ok) (And.intro (tyX hW_w_5) (cgK_1 hk (show (0 : Int32).toInt = 0 from by decide))))))))) hP hD hS (lv_sub hl [1, 0] rfl)
set_option maxRecDepth 100000 in
set_option maxHeartbeats 8000000 in
theorem e_X3_addRow_56 (l : Launch) (D : va_G) (cI cJ cZ : ClassId) (q : Nat → Nat) (bb bs bp : Nat) (w : va_W) (hW_w : HT q (TX q cI cJ cZ bb bs bp) w) (p2 : Int32) (i_p2 : In 0 39 p2) (hf_42_2 : In 1 40 (fI w 42 2)) (hf_64_2 : In 0 23 (fI w 64 2)) : Con_v l yX3_addRow cX3_addRow 4 none ({ frames := 0, cells := 0, slots := 0, locals := 0 }) D cI cJ cZ eW [.ref (q 64), .ref (q 56), .int p2] w (fun (w1 : va_W) => HT q (TX q cI cJ cZ bb bs bp) w1 ∧ Sm [64, 65, 67, 68, 69, 70, 71, 72] [(64, 1)] w w1 ∧ In 1 40 (fI w1 64 1) ∧ ((fI w 64 1).toInt ≤ (fI w1 64 1).toInt) ∧ ((∀ r0 : Int, FM r0 w → FM r0 w1)) ∧ M_X3_addRow_56 (vw w) p2.toInt 0 (vw w1)) := by
  refine eQ_v rfl (by decide) (Nat.le_of_ble_eq_true rfl) ⟨rfl, rfl⟩ ?_
  intro p e R s m args below meth c A Q hx hb hml hown hts hK hE hA hR hret hP hD hS ls hl
  have hown : s.vm.findClass RX3 = some m.cls := hown
  have hl : lv_has ls 4 [(0, .ref (q 64)), (1, .ref (q 56)), (2, .int p2)] := hl
  have J85 : ∀ (N : Nat) (x85_3 : Int32) (w85 : va_W) (H : Heap) (locs : List Loc) (ls : Array Slot), (10 - x85_3.toInt).toNat < N → HT q (TX q cI cJ cZ bb bs bp) w85 → Sm [64, 65, 67, 68, 69, 70, 71, 72] [(64, 1)] w w85 → (In 0 39 p2) → (In 0 10 x85_3) → (In 1 40 (fI w85 42 2)) → (fI w85 64 1 = (fI w 64 1)) → (In 0 39 (fI w 64 1)) → (In 0 23 (fI w85 64 2)) → (aF w85 65 = upd (aF w 65) (fI w 64 1).toNatClampNeg (fI w 64 2) ∧ aF w85 67 = upd (aF w 67) p2.toNatClampNeg (fI w 64 1)) → (∀ (n : Nat) (r : Int) (t : PS), It_X3_addRow_56 n p2.toInt x85_3.toInt (vw w85) r t → M_X3_addRow_56 (vw w) p2.toInt r t) → va_P D vwCl w85 H → va_D A w85 → va_S A s.heap H locs → lv_has ls 4 [(0, .ref (q 64)), (1, .ref (q 56)), (2, .int p2), (3, .int x85_3)] → W p l e R s m args below meth c H locs 0 0 Q (F0 m 85 ls []) := by
    intro N
    induction N with
    | zero => intro x85_3 w85 H locs ls hmu; exact absurd hmu (Nat.not_lt_zero _)
    | succ N ih85 =>
      intro x85_3 w85 H locs ls hmu85 hW_w85 hM_w85 i_x85_2 i_x85_3 g85_42_2 g85_64_1e g85_64_1 g85_64_2 ha_85 hmi_85 hP hD hS hl
      refine lv_iload_n hx hb dX3_addRow_85 rfl (lv_at hl 3 rfl) ?_
      refine lv_aload_n hx hb dX3_addRow_86 rfl (lv_at hl 0 rfl) ?_
      refine gt_X3 hx hb hts hown hK hP 64 (hW_w85.o tX_64) 0 (by decide) wd_400 rfl (hW_w85.fi tX_64 rfl) dX3_addRow_87 ?_
      refine tov (v := (fI w 64 0)) (hM_w85.2 64 0 (by decide) (by decide)) ?_
      refine lv_icmp_ge (tgt := 124) hx hb dX3_addRow_90 (by decide) (fun c_1 => ?_) (fun c_1 => ?_)
      · refine lv_aload_n hx hb dX3_addRow_124 rfl (lv_at hl 0 rfl) ?_
        refine lv_dup hx hb dX3_addRow_125 rfl ?_
        refine gt_X3 hx hb hts hown hK hP 64 (hW_w85.o tX_64) 1 (by decide) wd_404 rfl (hW_w85.fi tX_64 rfl) dX3_addRow_126 ?_
        refine tov (v := (fI w 64 1)) g85_64_1e ?_
        refine lv_iconst (v := 1) hx hb dX3_addRow_129 (by decide) ?_
        refine lv_iadd hx hb dX3_addRow_130 ?_
        refine pt_X3 hx hb hts hown hK hP hD hS 64 (hW_w85.o tX_64) 1 (by decide) wd_404 rfl rfl (ty := .int) (v := .int ((fI w 64 1) + 1)) (by decide +kernel) rfl rfl (hW_w85.ll tX_64 (Nat.le_of_ble_eq_true rfl)) dX3_addRow_131 (fun H locs hP hD hS => fr_w (hW_w85.sI tX_64 rfl (In_w ((In_add g85_64_1 (In_lit (n := 1) (by decide) (by decide) : In 1 1 1) (by decide)) : In 1 40 ((fI w 64 1) + 1)) (by decide) : In 0 40 ((fI w 64 1) + 1))) hP hD (fun w_2 ew_2 hW_w_2 hP hD => ?_))
        have hv_w_2 := vw_sI (j := 1) hW_w85 tX_64 rfl ew_2 (z_add (t_add g85_64_1 (In_lit (n := 1) (by decide) (by decide) : In 1 1 1) (by decide)) (z_of g85_64_1e.symm (hW_w85.vi tX_64 rfl)) (show (1 : Int32).toInt = 1 from by decide))
        exact hret _ _ _ _ _ hP hD hS dX3_addRow_134 ⟨hW_w_2, (hM_w85.sf (hW_w85.lt tX_64) ew_2 (by decide)), (In_of (fI_eq (hW_w85.lt tX_64) ew_2 (hW_w85.ll tX_64 (Nat.le_of_ble_eq_true rfl))) ((In_add g85_64_1 (In_lit (n := 1) (by decide) (by decide) : In 1 1 1) (by decide)) : In 1 40 ((fI w 64 1) + 1))), (by have e64_1 : (fI w_2 64 1).toInt = (((fI w 64 1) + 1) : Int32).toInt := congrArg Int32.toInt (fI_eq (hW_w85.lt tX_64) ew_2 (hW_w85.ll tX_64 (Nat.le_of_ble_eq_true rfl))); have i64_1 := ((In_add g85_64_1 (In_lit (n := 1) (by decide) (by decide) : In 1 1 1) (by decide)) : In 1 40 ((fI w 64 1) + 1)); unfold In at i64_1; have t17 := t_add g85_64_1 (In_lit (n := 1) (by decide) (by decide) : In 1 1 1) (by decide); have z1 : (1 : Int32).toInt = 1 := (by decide); omega), (fun r0 h => FM_row (i := p2) (In_of (hM_w85.2 64 2 (by decide) (by decide)).symm g85_64_2) g85_64_1 (⟨((aF_cg (st_ne ew_2 (by decide))).trans ha_85.1), ((aF_cg (st_ne ew_2 (by decide))).trans ha_85.2)⟩ : aF w_2 65 = upd (aF w 65) (fI w 64 1).toNatClampNeg (fI w 64 2) ∧ aF w_2 67 = upd (aF w 67) p2.toNatClampNeg (fI w 64 1)).1 (⟨((aF_cg (st_ne ew_2 (by decide))).trans ha_85.1), ((aF_cg (st_ne ew_2 (by decide))).trans ha_85.2)⟩ : aF w_2 65 = upd (aF w 65) (fI w 64 1).toNatClampNeg (fI w 64 2) ∧ aF w_2 67 = upd (aF w 67) p2.toNatClampNeg (fI w 64 1)).2 ((aF_cg (st_ne ew_2 (by decide))).trans (hM_w85.hA (by decide))) ((fI_nej (hW_w85.lt tX_64) ew_2 (by decide)).trans (hM_w85.2 64 2 (by decide) (by decide))) (fI_eq (hW_w85.lt tX_64) ew_2 (hW_w85.ll tX_64 (Nat.le_of_ble_eq_true rfl))) h), (hmi_85 (0 + 1) _ _ (rl_X3_addRow_56_85 (n := 0) (And.intro (tyX hW_w85) (And.intro i_x85_2 (And.intro i_x85_3 (Or.inl (And.intro (z_le c_1 (z_of (hM_w85.2 64 0 (by decide) (by decide)).symm (hW_w85.vi tX_64 rfl)) (rfl : (x85_3 : Int32).toInt = _)) (Exists.intro (vw w_2) (And.intro hv_w_2 (And.intro rfl rfl))))))))))⟩
      · refine lv_aload_n hx hb dX3_addRow_93 rfl (lv_at hl 0 rfl) ?_
        refine gt_X3 hx hb hts hown hK hP 64 (hW_w85.o tX_64) 10 (by decide) wd_432 rfl (hW_w85.fr tX_64 rfl) dX3_addRow_94 ?_
        refine lv_aload_n hx hb dX3_addRow_97 rfl (lv_at hl 0 rfl) ?_
        refine gt_X3 hx hb hts hown hK hP 64 (hW_w85.o tX_64) 1 (by decide) wd_404 rfl (hW_w85.fi tX_64 rfl) dX3_addRow_98 ?_
        refine tov (v := (fI w 64 1)) g85_64_1e ?_
        refine lv_bipush (v := 10) hx hb dX3_addRow_101 (by decide) ?_
        refine lv_imul hx hb dX3_addRow_103 ?_
        refine lv_iload_n hx hb dX3_addRow_104 rfl (lv_at hl 3 rfl) ?_
        refine lv_iadd hx hb dX3_addRow_105 ?_
        refine lv_aload_n hx hb dX3_addRow_106 rfl (lv_at hl 1 rfl) ?_
        refine gt_X5 hx hb hts hown hK hP 56 (hW_w85.o tX_56) 2 (by decide) wd_373 rfl (hW_w85.fr tX_56 rfl) dX3_addRow_107 ?_
        refine lv_iload_n hx hb dX3_addRow_110 rfl (lv_at hl 2 rfl) ?_
        refine lv_bipush (v := 10) hx hb dX3_addRow_111 (by decide) ?_
        refine lv_imul hx hb dX3_addRow_113 ?_
        refine lv_iload_n hx hb dX3_addRow_114 rfl (lv_at hl 3 rfl) ?_
        refine lv_iadd hx hb dX3_addRow_115 ?_
        refine va_iald hx hb hK hP 59 0 (hW_w85.a tX_59) rfl (in_I ((In_add ((In_mulr i_p2 (n := 10) (by decide) (by decide)) : In 0 390 (p2 * 10)) (R_nle_r (hW_w.fin tX_64 rfl : In 0 10 (fI w 64 0)) i_x85_3 c_1 (by decide) : In 0 9 x85_3) (by decide)) : In 0 399 ((p2 * 10) + x85_3)) (by decide)) dX3_addRow_116 ?_
        refine lv_topi (fun v_3 ev_3 => ?_)
        refine va_iast hx hb hK hP hD hS 72 0 (hW_w85.a tX_72) rfl (in_I ((In_add ((In_mulr g85_64_1 (n := 10) (by decide) (by decide)) : In 0 390 ((fI w 64 1) * 10)) (R_nle_r (hW_w.fin tX_64 rfl : In 0 10 (fI w 64 0)) i_x85_3 c_1 (by decide) : In 0 9 x85_3) (by decide)) : In 0 399 (((fI w 64 1) * 10) + x85_3)) (by decide)) dX3_addRow_117 (fun H locs hP hD hS => fr_w (hW_w85.uA tX_72 (In_any v_3)) hP hD (fun w_4 ew_4 hW_w_4 hP hD => ?_))
        have hv_w_4 := vw_uA hW_w85 tX_72 ew_4 (z_ix (z_add (t_add ((In_mulr g85_64_1 (n := 10) (by decide) (by decide)) : In 0 390 ((fI w 64 1) * 10)) (R_nle_r (hW_w.fin tX_64 rfl : In 0 10 (fI w 64 0)) i_x85_3 c_1 (by decide) : In 0 9 x85_3) (by decide)) (z_mul g85_64_1 (z_of g85_64_1e.symm (hW_w85.vi tX_64 rfl)) (show (10 : Int32).toInt = 10 from by decide) (by decide)) (rfl : (x85_3 : Int32).toInt = _))) (z_of ev_3 ((hW_w85.va tX_59 _).trans (congrArg (vw w85 59) (z_ix (z_add (t_add ((In_mulr i_p2 (n := 10) (by decide) (by decide)) : In 0 390 (p2 * 10)) (R_nle_r (hW_w.fin tX_64 rfl : In 0 10 (fI w 64 0)) i_x85_3 c_1 (by decide) : In 0 9 x85_3) (by decide)) (z_mul i_p2 (rfl : (p2 : Int32).toInt = _) (show (10 : Int32).toInt = 10 from by decide) (by decide)) (rfl : (x85_3 : Int32).toInt = _))))))
        refine lv_iinc (v := (x85_3 + 1)) (lv' := [(3, .int (x85_3 + 1)), (0, .ref (q 64)), (1, .ref (q 56)), (2, .int p2)]) hx hb dX3_addRow_118 hl (k := 3) rfl (rfl) (by decide) rfl (fun ls hl => ?_)
        refine lv_goto (tgt := 85) hx hb dX3_addRow_121 (by decide) ?_
        exact ih85 (x85_3 + 1) w_4 _ _ ls (mu_inc hmu85 (R_nle_r (hW_w.fin tX_64 rfl : In 0 10 (fI w 64 0)) i_x85_3 c_1 (by decide) : In 0 9 x85_3) (In_lit (n := 1) (by decide) (by decide) : In 1 1 1) (by decide)) hW_w_4 (hM_w85.sa ew_4 (by decide)) i_p2 (In_w ((In_add (y := 1) (R_nle_r (hW_w.fin tX_64 rfl : In 0 10 (fI w 64 0)) i_x85_3 c_1 (by decide) : In 0 9 x85_3) (In_lit (n := 1) (by decide) (by decide) : In 1 1 1) (by decide)) : In 1 10 (x85_3 + 1)) (by decide) : In 0 10 (x85_3 + 1)) (In_of ((fI_cg (st_ne ew_4 (by decide))).trans (hM_w85.gI (by decide))) (In_of (hM_w85.gI (by decide)).symm g85_42_2)) ((fI_cg (st_ne ew_4 (by decide))).trans g85_64_1e) g85_64_1 (In_of ((fI_cg (st_ne ew_4 (by decide))).trans (hM_w85.2 64 2 (by decide) (by decide))) (In_of (hM_w85.2 64 2 (by decide) (by decide)).symm g85_64_2)) ⟨((aF_cg (st_ne ew_4 (by decide))).trans ha_85.1), ((aF_cg (st_ne ew_4 (by decide))).trans ha_85.2)⟩ (fun n r t hk => (hmi_85 (n + 1) r t (rl_X3_addRow_56_85 (n := n) (And.intro (tyX hW_w85) (And.intro i_x85_2 (And.intro i_x85_3 (Or.inr (And.intro (z_nle c_1 (z_of (hM_w85.2 64 0 (by decide) (by decide)).symm (hW_w85.vi tX_64 rfl)) (rfl : (x85_3 : Int32).toInt = _)) (Exists.intro (vw w_4) (And.intro hv_w_4 (cgK_2 hk (rfl : (p2 : Int32).toInt = _) (z_add (t_add (R_nle_r (hW_w.fin tX_64 rfl : In 0 10 (fI w 64 0)) i_x85_3 c_1 (by decide) : In 0 9 x85_3) (In_lit (n := 1) (by decide) (by decide) : In 1 1 1) (by decide)) (rfl : (x85_3 : Int32).toInt = _) (show (1 : Int32).toInt = 1 from by decide))))))))))))) hP hD hS (lv_sub hl [1, 2, 3, 0] rfl)
  refine lv_aload_n hx hb dX3_addRow_0 rfl (lv_at hl 0 rfl) ?_
  refine gt_X3 hx hb hts hown hK hP 64 (hW_w.o tX_64) 1 (by decide) wd_404 rfl (hW_w.fi tX_64 rfl) dX3_addRow_1 ?_
  refine lv_bipush (v := 40) hx hb dX3_addRow_4 (by decide) ?_
  refine lv_icmp_lt (tgt := 10) hx hb dX3_addRow_6 (by decide) (fun c_5 => ?_) (fun c_5 => ?_)
  · refine lv_aload_n hx hb dX3_addRow_10 rfl (lv_at hl 0 rfl) ?_
    refine gt_X3 hx hb hts hown hK hP 64 (hW_w.o tX_64) 3 (by decide) wd_410 rfl (hW_w.fr tX_64 rfl) dX3_addRow_11 ?_
    refine lv_aload_n hx hb dX3_addRow_14 rfl (lv_at hl 0 rfl) ?_
    refine gt_X3 hx hb hts hown hK hP 64 (hW_w.o tX_64) 1 (by decide) wd_404 rfl (hW_w.fi tX_64 rfl) dX3_addRow_15 ?_
    refine lv_aload_n hx hb dX3_addRow_18 rfl (lv_at hl 0 rfl) ?_
    refine gt_X3 hx hb hts hown hK hP 64 (hW_w.o tX_64) 2 (by decide) wd_407 rfl (hW_w.fi tX_64 rfl) dX3_addRow_19 ?_
    refine va_iast hx hb hK hP hD hS 65 0 (hW_w.a tX_65) rfl (in_I (R_lt_l (hW_w.fin tX_64 rfl : In 0 40 (fI w 64 1)) (In_lit (n := 40) (by decide) (by decide) : In 40 40 40) c_5 (by decide) : In 0 39 (fI w 64 1)) (by decide)) dX3_addRow_22 (fun H locs hP hD hS => fr_w (hW_w.uA tX_65 hf_64_2) hP hD (fun w_6 ew_6 hW_w_6 hP hD => ?_))
    have hv_w_6 := vw_uA hW_w tX_65 ew_6 (z_ix (hW_w.vi tX_64 rfl)) (hW_w.vi tX_64 rfl)
    refine lv_aload_n hx hb dX3_addRow_23 rfl (lv_at hl 0 rfl) ?_
    refine gt_X3 hx hb hts hown hK hP 64 (hW_w_6.o tX_64) 5 (by decide) wd_416 rfl (hW_w_6.fr tX_64 rfl) dX3_addRow_24 ?_
    refine lv_iload_n hx hb dX3_addRow_27 rfl (lv_at hl 2 rfl) ?_
    refine lv_aload_n hx hb dX3_addRow_28 rfl (lv_at hl 0 rfl) ?_
    refine gt_X3 hx hb hts hown hK hP 64 (hW_w_6.o tX_64) 1 (by decide) wd_404 rfl (hW_w_6.fi tX_64 rfl) dX3_addRow_29 ?_
    refine tov (v := (fI w 64 1)) (fI_cg (st_ne ew_6 (by decide))) ?_
    refine va_iast hx hb hK hP hD hS 67 0 (hW_w_6.a tX_67) rfl (in_I i_p2 (by decide)) dX3_addRow_32 (fun H locs hP hD hS => fr_w (hW_w_6.uA tX_67 (In_w (R_lt_l (hW_w.fin tX_64 rfl : In 0 40 (fI w 64 1)) (In_lit (n := 40) (by decide) (by decide) : In 40 40 40) c_5 (by decide) : In 0 39 (fI w 64 1)) (by decide) : In (-1) 39 (fI w 64 1))) hP hD (fun w_7 ew_7 hW_w_7 hP hD => ?_))
    have hv_w_7 := vw_uA hW_w_6 tX_67 ew_7 (z_ix (rfl : (p2 : Int32).toInt = _)) (hW_w.vi tX_64 rfl)
    refine lv_aload_n hx hb dX3_addRow_33 rfl (lv_at hl 0 rfl) ?_
    refine gt_X3 hx hb hts hown hK hP 64 (hW_w_7.o tX_64) 6 (by decide) wd_419 rfl (hW_w_7.fr tX_64 rfl) dX3_addRow_34 ?_
    refine lv_aload_n hx hb dX3_addRow_37 rfl (lv_at hl 0 rfl) ?_
    refine gt_X3 hx hb hts hown hK hP 64 (hW_w_7.o tX_64) 1 (by decide) wd_404 rfl (hW_w_7.fi tX_64 rfl) dX3_addRow_38 ?_
    refine tov (v := (fI w 64 1)) ((fI_cg (st_ne ew_7 (by decide))).trans (fI_cg (st_ne ew_6 (by decide)))) ?_
    refine lv_aload_n hx hb dX3_addRow_41 rfl (lv_at hl 1 rfl) ?_
    refine gt_X5 hx hb hts hown hK hP 56 (hW_w_7.o tX_56) 0 (by decide) wd_365 rfl (hW_w_7.fr tX_56 rfl) dX3_addRow_42 ?_
    refine lv_iload_n hx hb dX3_addRow_45 rfl (lv_at hl 2 rfl) ?_
    refine va_iald hx hb hK hP 57 0 (hW_w_7.a tX_57) rfl (in_I i_p2 (by decide)) dX3_addRow_46 ?_
    refine lv_topi (fun v_8 ev_8 => ?_)
    refine va_iast hx hb hK hP hD hS 68 0 (hW_w_7.a tX_68) rfl (in_I (R_lt_l (hW_w.fin tX_64 rfl : In 0 40 (fI w 64 1)) (In_lit (n := 40) (by decide) (by decide) : In 40 40 40) c_5 (by decide) : In 0 39 (fI w 64 1)) (by decide)) dX3_addRow_47 (fun H locs hP hD hS => fr_w (hW_w_7.uA tX_68 (In_any v_8)) hP hD (fun w_9 ew_9 hW_w_9 hP hD => ?_))
    have hv_w_9 := vw_uA hW_w_7 tX_68 ew_9 (z_ix (hW_w.vi tX_64 rfl)) (z_of (ev_8.trans (congrFun ((aF_cg (st_ne ew_7 (by decide))).trans (aF_cg (st_ne ew_6 (by decide)))) _)) ((hW_w.va tX_57 _).trans (congrArg (vw w 57) (z_ix (rfl : (p2 : Int32).toInt = _)))))
    refine lv_aload_n hx hb dX3_addRow_48 rfl (lv_at hl 0 rfl) ?_
    refine gt_X3 hx hb hts hown hK hP 64 (hW_w_9.o tX_64) 7 (by decide) wd_422 rfl (hW_w_9.fr tX_64 rfl) dX3_addRow_49 ?_
    refine lv_aload_n hx hb dX3_addRow_52 rfl (lv_at hl 0 rfl) ?_
    refine gt_X3 hx hb hts hown hK hP 64 (hW_w_9.o tX_64) 1 (by decide) wd_404 rfl (hW_w_9.fi tX_64 rfl) dX3_addRow_53 ?_
    refine tov (v := (fI w 64 1)) ((fI_cg (st_ne ew_9 (by decide))).trans ((fI_cg (st_ne ew_7 (by decide))).trans (fI_cg (st_ne ew_6 (by decide))))) ?_
    refine lv_aload_n hx hb dX3_addRow_56 rfl (lv_at hl 1 rfl) ?_
    refine gt_X5 hx hb hts hown hK hP 56 (hW_w_9.o tX_56) 1 (by decide) wd_369 rfl (hW_w_9.fr tX_56 rfl) dX3_addRow_57 ?_
    refine lv_iload_n hx hb dX3_addRow_60 rfl (lv_at hl 2 rfl) ?_
    refine va_iald hx hb hK hP 58 0 (hW_w_9.a tX_58) rfl (in_I i_p2 (by decide)) dX3_addRow_61 ?_
    refine lv_topi (fun v_10 ev_10 => ?_)
    refine va_iast hx hb hK hP hD hS 69 0 (hW_w_9.a tX_69) rfl (in_I (R_lt_l (hW_w.fin tX_64 rfl : In 0 40 (fI w 64 1)) (In_lit (n := 40) (by decide) (by decide) : In 40 40 40) c_5 (by decide) : In 0 39 (fI w 64 1)) (by decide)) dX3_addRow_62 (fun H locs hP hD hS => fr_w (hW_w_9.uA tX_69 (In_any v_10)) hP hD (fun w_11 ew_11 hW_w_11 hP hD => ?_))
    have hv_w_11 := vw_uA hW_w_9 tX_69 ew_11 (z_ix (hW_w.vi tX_64 rfl)) (z_of (ev_10.trans (congrFun (((aF_cg (st_ne ew_9 (by decide))).trans (aF_cg (st_ne ew_7 (by decide)))).trans (aF_cg (st_ne ew_6 (by decide)))) _)) ((hW_w.va tX_58 _).trans (congrArg (vw w 58) (z_ix (rfl : (p2 : Int32).toInt = _)))))
    refine lv_aload_n hx hb dX3_addRow_63 rfl (lv_at hl 0 rfl) ?_
    refine gt_X3 hx hb hts hown hK hP 64 (hW_w_11.o tX_64) 8 (by decide) wd_425 rfl (hW_w_11.fr tX_64 rfl) dX3_addRow_64 ?_
    refine lv_aload_n hx hb dX3_addRow_67 rfl (lv_at hl 0 rfl) ?_
    refine gt_X3 hx hb hts hown hK hP 64 (hW_w_11.o tX_64) 1 (by decide) wd_404 rfl (hW_w_11.fi tX_64 rfl) dX3_addRow_68 ?_
    refine tov (v := (fI w 64 1)) ((fI_cg (st_ne ew_11 (by decide))).trans ((fI_cg (st_ne ew_9 (by decide))).trans ((fI_cg (st_ne ew_7 (by decide))).trans (fI_cg (st_ne ew_6 (by decide)))))) ?_
    refine lv_iconst (v := 0) hx hb dX3_addRow_71 (by decide) ?_
    refine va_iast hx hb hK hP hD hS 70 0 (hW_w_11.a tX_70) rfl (in_I (R_lt_l (hW_w.fin tX_64 rfl : In 0 40 (fI w 64 1)) (In_lit (n := 40) (by decide) (by decide) : In 40 40 40) c_5 (by decide) : In 0 39 (fI w 64 1)) (by decide)) dX3_addRow_72 (fun H locs hP hD hS => fr_w (hW_w_11.uA tX_70 (In_lit (n := 0) (by decide) (by decide) : In (-2147483648) 2147483647 0)) hP hD (fun w_12 ew_12 hW_w_12 hP hD => ?_))
    have hv_w_12 := vw_uA hW_w_11 tX_70 ew_12 (z_ix (hW_w.vi tX_64 rfl)) (show (0 : Int32).toInt = 0 from by decide)
    refine lv_aload_n hx hb dX3_addRow_73 rfl (lv_at hl 0 rfl) ?_
    refine gt_X3 hx hb hts hown hK hP 64 (hW_w_12.o tX_64) 9 (by decide) wd_429 rfl (hW_w_12.fr tX_64 rfl) dX3_addRow_74 ?_
    refine lv_aload_n hx hb dX3_addRow_77 rfl (lv_at hl 0 rfl) ?_
    refine gt_X3 hx hb hts hown hK hP 64 (hW_w_12.o tX_64) 1 (by decide) wd_404 rfl (hW_w_12.fi tX_64 rfl) dX3_addRow_78 ?_
    refine tov (v := (fI w 64 1)) ((fI_cg (st_ne ew_12 (by decide))).trans ((fI_cg (st_ne ew_11 (by decide))).trans ((fI_cg (st_ne ew_9 (by decide))).trans ((fI_cg (st_ne ew_7 (by decide))).trans (fI_cg (st_ne ew_6 (by decide))))))) ?_
    refine lv_iconst (v := 0) hx hb dX3_addRow_81 (by decide) ?_
    refine va_iast hx hb hK hP hD hS 71 0 (hW_w_12.a tX_71) rfl (in_I (R_lt_l (hW_w.fin tX_64 rfl : In 0 40 (fI w 64 1)) (In_lit (n := 40) (by decide) (by decide) : In 40 40 40) c_5 (by decide) : In 0 39 (fI w 64 1)) (by decide)) dX3_addRow_82 (fun H locs hP hD hS => fr_w (hW_w_12.uA tX_71 (In_lit (n := 0) (by decide) (by decide) : In (-2147483648) 2147483647 0)) hP hD (fun w_13 ew_13 hW_w_13 hP hD => ?_))
    have hv_w_13 := vw_uA hW_w_12 tX_71 ew_13 (z_ix (hW_w.vi tX_64 rfl)) (show (0 : Int32).toInt = 0 from by decide)
    refine lv_iconst (v := 0) hx hb dX3_addRow_83 (by decide) ?_
    refine lv_istore_n (lv' := [(3, .int 0), (0, .ref (q 64)), (1, .ref (q 56)), (2, .int p2)]) hx hb dX3_addRow_84 rfl hl (by decide) rfl (fun ls hl => ?_)
    exact J85 _ 0 w_13 _ _ ls (Nat.lt_succ_self _) hW_w_13 ((((((Sm.rf.sa ew_6 (by decide)).sa ew_7 (by decide)).sa ew_9 (by decide)).sa ew_11 (by decide)).sa ew_12 (by decide)).sa ew_13 (by decide)) i_p2 (In_lit (n := 0) (by decide) (by decide) : In 0 10 0) (In_of ((fI_cg (st_ne ew_13 (by decide))).trans ((fI_cg (st_ne ew_12 (by decide))).trans ((fI_cg (st_ne ew_11 (by decide))).trans ((fI_cg (st_ne ew_9 (by decide))).trans ((fI_cg (st_ne ew_7 (by decide))).trans (fI_cg (st_ne ew_6 (by decide)))))))) hf_42_2) ((fI_cg (st_ne ew_13 (by decide))).trans ((fI_cg (st_ne ew_12 (by decide))).trans ((fI_cg (st_ne ew_11 (by decide))).trans ((fI_cg (st_ne ew_9 (by decide))).trans ((fI_cg (st_ne ew_7 (by decide))).trans (fI_cg (st_ne ew_6 (by decide)))))))) (R_lt_l (hW_w.fin tX_64 rfl : In 0 40 (fI w 64 1)) (In_lit (n := 40) (by decide) (by decide) : In 40 40 40) c_5 (by decide) : In 0 39 (fI w 64 1)) (In_of ((fI_cg (st_ne ew_13 (by decide))).trans ((fI_cg (st_ne ew_12 (by decide))).trans ((fI_cg (st_ne ew_11 (by decide))).trans ((fI_cg (st_ne ew_9 (by decide))).trans ((fI_cg (st_ne ew_7 (by decide))).trans (fI_cg (st_ne ew_6 (by decide)))))))) hf_64_2) ⟨(by rw [(aF_cg (st_ne ew_13 (by decide))), (aF_cg (st_ne ew_12 (by decide))), (aF_cg (st_ne ew_11 (by decide))), (aF_cg (st_ne ew_9 (by decide))), (aF_cg (st_ne ew_7 (by decide))), aF_eq (hW_w.lt tX_65) ew_6]), (by rw [(aF_cg (st_ne ew_13 (by decide))), (aF_cg (st_ne ew_12 (by decide))), (aF_cg (st_ne ew_11 (by decide))), (aF_cg (st_ne ew_9 (by decide))), aF_eq (hW_w_6.lt tX_67) ew_7, (aF_cg (st_ne ew_6 (by decide)))])⟩ (fun n r t hk => (mk_X3_addRow_56 (n := n) (And.intro (tyX hW_w) (And.intro i_p2 (Or.inl (And.intro (z_lt c_5 (hW_w.vi tX_64 rfl) (show (40 : Int32).toInt = 40 from by decide)) (Exists.intro (vw w_6) (And.intro hv_w_6 (Exists.intro (vw w_7) (And.intro hv_w_7 (Exists.intro (vw w_9) (And.intro hv_w_9 (Exists.intro (vw w_11) (And.intro hv_w_11 (Exists.intro (vw w_12) (And.intro hv_w_12 (Exists.intro (vw w_13) (And.intro hv_w_13 (cgK_2 hk (rfl : (p2 : Int32).toInt = _) (show (0 : Int32).toInt = 0 from by decide)))))))))))))))))))) hP hD hS (lv_sub hl [1, 2, 3, 0] rfl)
  · exact hret _ _ _ _ _ hP hD hS dX3_addRow_9 ⟨hW_w, Sm.rf, (In_w (R_nlt_l (hW_w.fin tX_64 rfl : In 0 40 (fI w 64 1)) (In_lit (n := 40) (by decide) (by decide) : In 40 40 40) c_5 (by decide) : In 40 40 (fI w 64 1)) (by decide) : In 1 40 (fI w 64 1)), (by have i64_1 := (R_nlt_l (hW_w.fin tX_64 rfl : In 0 40 (fI w 64 1)) (In_lit (n := 40) (by decide) (by decide) : In 40 40 40) c_5 (by decide) : In 40 40 (fI w 64 1)); unfold In at i64_1; omega), (fun r0 h => h), (mk_X3_addRow_56 (n := 0) (And.intro (tyX hW_w) (And.intro i_p2 (Or.inr (And.intro (z_nlt c_5 (hW_w.vi tX_64 rfl) (show (40 : Int32).toInt = 40 from by decide)) (And.intro rfl rfl))))))⟩
set_option maxRecDepth 100000 in
set_option maxHeartbeats 8000000 in
theorem e_X3_addDay_42_56_109 (l : Launch) (D : va_G) (cI cJ cZ : ClassId) (q : Nat → Nat) (bb bs bp : Nat) (w : va_W) (hW_w : HT q (TX q cI cJ cZ bb bs bp) w) (p3 : Int32) (i_p3 : In 1 24 p3) (hf_64_2 : In 0 23 (fI w 64 2)) (hSL : ¬ (fI w 64 1).toInt = 0 → 1 ≤ (fI w 64 2).toInt) : Con_v l yX3_addDay cX3_addDay 7 none ({ frames := 1, cells := 0, slots := 0, locals := 23 }) D cI cJ cZ eW [.ref (q 64), .ref (q 42), .ref (q 56), .int p3, .ref (q 109)] w (fun (w1 : va_W) => HT q (TX q cI cJ cZ bb bs bp) w1 ∧ Sm [64, 65, 66, 67, 68, 69, 70, 71, 72, 73] [(64, 1), (64, 2)] w w1 ∧ (¬ (fI w1 64 1).toInt = 0 → 1 ≤ (fI w1 64 2).toInt) ∧ ((fI w1 64 2).toInt ≤ (fI w 64 2).toInt + 1) ∧ ((FB w → FB w1)) ∧ M_X3_addDay_42_56_109 (vw w) p3.toInt 0 (vw w1)) := by
  refine eQ_v rfl (by decide) (Nat.le_of_ble_eq_true rfl) ⟨rfl, rfl⟩ ?_
  intro p e R s m args below meth c A Q hx hb hml hown hts hK hE hA hR hret hP hD hS ls hl
  have hown : s.vm.findClass RX3 = some m.cls := hown
  have hl : lv_has ls 7 [(0, .ref (q 64)), (1, .ref (q 42)), (2, .ref (q 56)), (3, .int p3), (4, .ref (q 109))] := hl
  have J73 : ∀ (N : Nat) (x73_6 : Int32) (w73 : va_W) (H : Heap) (locs : List Loc) (ls : Array Slot), (10 - x73_6.toInt).toNat < N → HT q (TX q cI cJ cZ bb bs bp) w73 → Sm [64, 65, 66, 67, 68, 69, 70, 71, 72, 73] [(64, 1), (64, 2)] w w73 → (In 1 24 p3) → (In 0 39 (fI w 64 1)) → (In 0 10 x73_6) → (fI w73 64 2 = (fI w 64 2)) → (In 0 23 (fI w 64 2)) → ((fI w 64 1).toInt ≤ (fI w73 64 1).toInt) → (FB w → FM (fI w 64 1).toInt w73) → (∀ (n : Nat) (r : Int) (t : PS), It_X3_addDay_42_56_109 n 73 p3.toInt ((fI w 64 1)).toInt x73_6.toInt (vw w73) r t → M_X3_addDay_42_56_109 (vw w) p3.toInt r t) → va_P D vwCl w73 H → va_D A w73 → va_S A s.heap H locs → lv_has ls 7 [(0, .ref (q 64)), (1, .ref (q 42)), (2, .ref (q 56)), (3, .int p3), (4, .ref (q 109)), (5, .int (fI w 64 1)), (6, .int x73_6)] → W p l e R s m args below meth c H locs 0 0 Q (F0 m 73 ls []) := by
    intro N
    induction N with
    | zero => intro x73_6 w73 H locs ls hmu; exact absurd hmu (Nat.not_lt_zero _)
    | succ N ih73 =>
      intro x73_6 w73 H locs ls hmu73 hW_w73 hM_w73 i_x73_3 i_x73_5 i_x73_6 g73_64_2e g73_64_2 hr_73 hf_73 hmi_73 hP hD hS hl
      refine lv_iload hx hb dX3_addDay_73 (lv_at hl 6 rfl) ?_
      refine lv_aload_n hx hb dX3_addDay_75 rfl (lv_at hl 0 rfl) ?_
      refine gt_X3 hx hb hts hown hK hP 64 (hW_w73.o tX_64) 0 (by decide) wd_400 rfl (hW_w73.fi tX_64 rfl) dX3_addDay_76 ?_
      refine tov (v := (fI w 64 0)) (hM_w73.2 64 0 (by decide) (by decide)) ?_
      refine lv_icmp_ge (tgt := 108) hx hb dX3_addDay_79 (by decide) (fun c_1 => ?_) (fun c_1 => ?_)
      · refine lv_aload_n hx hb dX3_addDay_108 rfl (lv_at hl 0 rfl) ?_
        refine lv_dup hx hb dX3_addDay_109 rfl ?_
        refine gt_X3 hx hb hts hown hK hP 64 (hW_w73.o tX_64) 2 (by decide) wd_407 rfl (hW_w73.fi tX_64 rfl) dX3_addDay_110 ?_
        refine tov (v := (fI w 64 2)) g73_64_2e ?_
        refine lv_iconst (v := 1) hx hb dX3_addDay_113 (by decide) ?_
        refine lv_iadd hx hb dX3_addDay_114 ?_
        refine pt_X3 hx hb hts hown hK hP hD hS 64 (hW_w73.o tX_64) 2 (by decide) wd_407 rfl rfl (ty := .int) (v := .int ((fI w 64 2) + 1)) (by decide +kernel) rfl rfl (hW_w73.ll tX_64 (Nat.le_of_ble_eq_true rfl)) dX3_addDay_115 (fun H locs hP hD hS => fr_w (hW_w73.sI tX_64 rfl (In_w ((In_add hf_64_2 (In_lit (n := 1) (by decide) (by decide) : In 1 1 1) (by decide)) : In 1 24 ((fI w 64 2) + 1)) (by decide) : In 0 24 ((fI w 64 2) + 1))) hP hD (fun w_2 ew_2 hW_w_2 hP hD => ?_))
        have hv_w_2 := vw_sI (j := 2) hW_w73 tX_64 rfl ew_2 (z_add (t_add hf_64_2 (In_lit (n := 1) (by decide) (by decide) : In 1 1 1) (by decide)) (z_of g73_64_2e.symm (hW_w73.vi tX_64 rfl)) (show (1 : Int32).toInt = 1 from by decide))
        refine lv_aload_n hx hb dX3_addDay_118 rfl (lv_at hl 0 rfl) ?_
        refine gt_X3 hx hb hts hown hK hP 64 (hW_w_2.o tX_64) 4 (by decide) wd_413 rfl (hW_w_2.fr tX_64 rfl) dX3_addDay_119 ?_
        refine lv_aload_n hx hb dX3_addDay_122 rfl (lv_at hl 0 rfl) ?_
        refine gt_X3 hx hb hts hown hK hP 64 (hW_w_2.o tX_64) 2 (by decide) wd_407 rfl (hW_w_2.fi tX_64 rfl) dX3_addDay_123 ?_
        refine tov (v := ((fI w 64 2) + 1)) (fI_eq (hW_w73.lt tX_64) ew_2 (hW_w73.ll tX_64 (Nat.le_of_ble_eq_true rfl))) ?_
        refine lv_aload_n hx hb dX3_addDay_126 rfl (lv_at hl 0 rfl) ?_
        refine gt_X3 hx hb hts hown hK hP 64 (hW_w_2.o tX_64) 1 (by decide) wd_404 rfl (hW_w_2.fi tX_64 rfl) dX3_addDay_127 ?_
        refine tov (v := (fI w73 64 1)) (fI_nej (hW_w73.lt tX_64) ew_2 (by decide)) ?_
        refine va_iast hx hb hK hP hD hS 66 0 (hW_w_2.a tX_66) rfl (in_I ((In_add hf_64_2 (In_lit (n := 1) (by decide) (by decide) : In 1 1 1) (by decide)) : In 1 24 ((fI w 64 2) + 1)) (by decide)) dX3_addDay_130 (fun H locs hP hD hS => fr_w (hW_w_2.uA tX_66 (hW_w73.fin tX_64 rfl : In 0 40 (fI w73 64 1))) hP hD (fun w_3 ew_3 hW_w_3 hP hD => ?_))
        have hv_w_3 := vw_uA hW_w_2 tX_66 ew_3 (z_ix (z_add (t_add hf_64_2 (In_lit (n := 1) (by decide) (by decide) : In 1 1 1) (by decide)) (z_of g73_64_2e.symm (hW_w73.vi tX_64 rfl)) (show (1 : Int32).toInt = 1 from by decide))) (hW_w73.vi tX_64 rfl)
        exact hret _ _ _ _ _ hP hD hS dX3_addDay_131 ⟨hW_w_3, ((hM_w73.sf (hW_w73.lt tX_64) ew_2 (by decide)).sa ew_3 (by decide)), (by intro hh; have e64_1 : (fI w_3 64 1).toInt = ((fI w73 64 1) : Int32).toInt := congrArg Int32.toInt ((fI_cg (st_ne ew_3 (by decide))).trans (fI_nej (hW_w73.lt tX_64) ew_2 (by decide))); have i64_1 := (hW_w73.fin tX_64 rfl : In 0 40 (fI w73 64 1)); unfold In at i64_1; have e64_2 : (fI w_3 64 2).toInt = (((fI w 64 2) + 1) : Int32).toInt := congrArg Int32.toInt ((fI_cg (st_ne ew_3 (by decide))).trans (fI_eq (hW_w73.lt tX_64) ew_2 (hW_w73.ll tX_64 (Nat.le_of_ble_eq_true rfl)))); have i64_2 := ((In_add hf_64_2 (In_lit (n := 1) (by decide) (by decide) : In 1 1 1) (by decide)) : In 1 24 ((fI w 64 2) + 1)); unfold In at i64_2; have t17 := t_add hf_64_2 (In_lit (n := 1) (by decide) (by decide) : In 1 1 1) (by decide); have z1 : (1 : Int32).toInt = 1 := (by decide); have q1 := hf_64_2; unfold In at q1; have q2 := hSL; omega), (by have e64_2 : (fI w_3 64 2).toInt = (((fI w 64 2) + 1) : Int32).toInt := congrArg Int32.toInt ((fI_cg (st_ne ew_3 (by decide))).trans (fI_eq (hW_w73.lt tX_64) ew_2 (hW_w73.ll tX_64 (Nat.le_of_ble_eq_true rfl)))); have i64_2 := ((In_add hf_64_2 (In_lit (n := 1) (by decide) (by decide) : In 1 1 1) (by decide)) : In 1 24 ((fI w 64 2) + 1)); unfold In at i64_2; have t17 := t_add hf_64_2 (In_lit (n := 1) (by decide) (by decide) : In 1 1 1) (by decide); have z1 : (1 : Int32).toInt = 1 := (by decide); omega), (fun h => FM_day (In_of g73_64_2e hf_64_2) (hW_w73.fin tX_64 rfl : In 0 40 (fI w73 64 1)) ((aF_cg (st_ne ew_3 (by decide))).trans (aF_cg (st_ne ew_2 (by decide)))) ((aF_cg (st_ne ew_3 (by decide))).trans (aF_cg (st_ne ew_2 (by decide)))) (by rw [aF_eq (hW_w_2.lt tX_66) ew_3, (aF_cg (st_ne ew_2 (by decide))), show fI w73 64 2 = (fI w 64 2) from g73_64_2e]) (((fI_cg (st_ne ew_3 (by decide))).trans (fI_eq (hW_w73.lt tX_64) ew_2 (hW_w73.ll tX_64 (Nat.le_of_ble_eq_true rfl)))).trans (congrArg (fun z : Int32 => z + 1) g73_64_2e.symm)) ((fI_cg (st_ne ew_3 (by decide))).trans (fI_nej (hW_w73.lt tX_64) ew_2 (by decide))) (hf_73 h)), (hmi_73 (0 + 1) _ _ (rl_X3_addDay_42_56_109_73 (n := 0) (And.intro (tyX hW_w73) (And.intro i_x73_3 (And.intro i_x73_5 (And.intro i_x73_6 (Or.inl (And.intro (z_le c_1 (z_of (hM_w73.2 64 0 (by decide) (by decide)).symm (hW_w73.vi tX_64 rfl)) (rfl : (x73_6 : Int32).toInt = _)) (Exists.intro (vw w_2) (And.intro hv_w_2 (Exists.intro (vw w_3) (And.intro hv_w_3 (And.intro rfl rfl)))))))))))))⟩
      · refine lv_aload_n hx hb dX3_addDay_82 rfl (lv_at hl 0 rfl) ?_
        refine gt_X3 hx hb hts hown hK hP 64 (hW_w73.o tX_64) 11 (by decide) wd_433 rfl (hW_w73.fr tX_64 rfl) dX3_addDay_83 ?_
        refine lv_iload hx hb dX3_addDay_86 (lv_at hl 6 rfl) ?_
        refine lv_bipush (v := 24) hx hb dX3_addDay_88 (by decide) ?_
        refine lv_imul hx hb dX3_addDay_90 ?_
        refine lv_aload_n hx hb dX3_addDay_91 rfl (lv_at hl 0 rfl) ?_
        refine gt_X3 hx hb hts hown hK hP 64 (hW_w73.o tX_64) 2 (by decide) wd_407 rfl (hW_w73.fi tX_64 rfl) dX3_addDay_92 ?_
        refine tov (v := (fI w 64 2)) g73_64_2e ?_
        refine lv_iadd hx hb dX3_addDay_95 ?_
        refine lv_aload hx hb dX3_addDay_96 (lv_at hl 4 rfl) ?_
        refine lv_iload hx hb dX3_addDay_98 (lv_at hl 6 rfl) ?_
        refine va_iald hx hb hK hP 109 0 (hW_w73.a tX_109) rfl (in_I (R_nle_r (hW_w.fin tX_64 rfl : In 0 10 (fI w 64 0)) i_x73_6 c_1 (by decide) : In 0 9 x73_6) (by decide)) dX3_addDay_100 ?_
        refine lv_topi (fun v_4 ev_4 => ?_)
        refine va_iast hx hb hK hP hD hS 73 0 (hW_w73.a tX_73) rfl (in_I ((In_add ((In_mulr (R_nle_r (hW_w.fin tX_64 rfl : In 0 10 (fI w 64 0)) i_x73_6 c_1 (by decide) : In 0 9 x73_6) (n := 24) (by decide) (by decide)) : In 0 216 (x73_6 * 24)) hf_64_2 (by decide)) : In 0 239 ((x73_6 * 24) + (fI w 64 2))) (by decide)) dX3_addDay_101 (fun H locs hP hD hS => fr_w (hW_w73.uA tX_73 (In_any v_4)) hP hD (fun w_5 ew_5 hW_w_5 hP hD => ?_))
        have hv_w_5 := vw_uA hW_w73 tX_73 ew_5 (z_ix (z_add (t_add ((In_mulr (R_nle_r (hW_w.fin tX_64 rfl : In 0 10 (fI w 64 0)) i_x73_6 c_1 (by decide) : In 0 9 x73_6) (n := 24) (by decide) (by decide)) : In 0 216 (x73_6 * 24)) hf_64_2 (by decide)) (z_mul (R_nle_r (hW_w.fin tX_64 rfl : In 0 10 (fI w 64 0)) i_x73_6 c_1 (by decide) : In 0 9 x73_6) (rfl : (x73_6 : Int32).toInt = _) (show (24 : Int32).toInt = 24 from by decide) (by decide)) (z_of g73_64_2e.symm (hW_w73.vi tX_64 rfl)))) (z_of ev_4 ((hW_w73.va tX_109 _).trans (congrArg (vw w73 109) (z_ix (rfl : (x73_6 : Int32).toInt = _)))))
        refine lv_iinc (v := (x73_6 + 1)) (lv' := [(6, .int (x73_6 + 1)), (0, .ref (q 64)), (1, .ref (q 42)), (2, .ref (q 56)), (3, .int p3), (4, .ref (q 109)), (5, .int (fI w 64 1))]) hx hb dX3_addDay_102 hl (k := 6) rfl (rfl) (by decide) rfl (fun ls hl => ?_)
        refine lv_goto (tgt := 73) hx hb dX3_addDay_105 (by decide) ?_
        exact ih73 (x73_6 + 1) w_5 _ _ ls (mu_inc hmu73 (R_nle_r (hW_w.fin tX_64 rfl : In 0 10 (fI w 64 0)) i_x73_6 c_1 (by decide) : In 0 9 x73_6) (In_lit (n := 1) (by decide) (by decide) : In 1 1 1) (by decide)) hW_w_5 (hM_w73.sa ew_5 (by decide)) i_p3 i_x73_5 (In_w ((In_add (y := 1) (R_nle_r (hW_w.fin tX_64 rfl : In 0 10 (fI w 64 0)) i_x73_6 c_1 (by decide) : In 0 9 x73_6) (In_lit (n := 1) (by decide) (by decide) : In 1 1 1) (by decide)) : In 1 10 (x73_6 + 1)) (by decide) : In 0 10 (x73_6 + 1)) ((fI_cg (st_ne ew_5 (by decide))).trans g73_64_2e) hf_64_2 (by have e64_1 : (fI w_5 64 1).toInt = ((fI w73 64 1) : Int32).toInt := congrArg Int32.toInt (fI_cg (st_ne ew_5 (by decide))); have i64_1 := (hW_w73.fin tX_64 rfl : In 0 40 (fI w73 64 1)); unfold In at i64_1; omega) (fun h => (FM_cg (fI_cg (st_ne ew_5 (by decide))) (fI_cg (st_ne ew_5 (by decide))) (aF_cg (st_ne ew_5 (by decide))) (aF_cg (st_ne ew_5 (by decide))) (aF_cg (st_ne ew_5 (by decide))) (hf_73 h))) (fun n r t hk => (hmi_73 (n + 1) r t (rl_X3_addDay_42_56_109_73 (n := n) (And.intro (tyX hW_w73) (And.intro i_x73_3 (And.intro i_x73_5 (And.intro i_x73_6 (Or.inr (And.intro (z_nle c_1 (z_of (hM_w73.2 64 0 (by decide) (by decide)).symm (hW_w73.vi tX_64 rfl)) (rfl : (x73_6 : Int32).toInt = _)) (Exists.intro (vw w_5) (And.intro hv_w_5 (cgK_3 hk (rfl : (p3 : Int32).toInt = _) (rfl : ((fI w 64 1) : Int32).toInt = _) (z_add (t_add (R_nle_r (hW_w.fin tX_64 rfl : In 0 10 (fI w 64 0)) i_x73_6 c_1 (by decide) : In 0 9 x73_6) (In_lit (n := 1) (by decide) (by decide) : In 1 1 1) (by decide)) (rfl : (x73_6 : Int32).toInt = _) (show (1 : Int32).toInt = 1 from by decide)))))))))))))) hP hD hS (lv_sub hl [1, 2, 3, 4, 5, 6, 0] rfl)
  have J9 : ∀ (N : Nat) (x9_6 : Int32) (w9 : va_W) (H : Heap) (locs : List Loc) (ls : Array Slot), (40 - x9_6.toInt).toNat < N → HT q (TX q cI cJ cZ bb bs bp) w9 → Sm [64, 65, 66, 67, 68, 69, 70, 71, 72, 73] [(64, 1), (64, 2)] w w9 → (In 1 24 p3) → (In 0 40 (fI w 64 1)) → (In 0 40 x9_6) → (fI w9 64 2 = (fI w 64 2)) → (In 0 23 (fI w 64 2)) → ((fI w 64 1).toInt ≤ (fI w9 64 1).toInt) → (FB w → FM (fI w 64 1).toInt w9) → (∀ (n : Nat) (r : Int) (t : PS), It_X3_addDay_42_56_109 n 9 p3.toInt ((fI w 64 1)).toInt x9_6.toInt (vw w9) r t → M_X3_addDay_42_56_109 (vw w) p3.toInt r t) → va_P D vwCl w9 H → va_D A w9 → va_S A s.heap H locs → lv_has ls 7 [(0, .ref (q 64)), (1, .ref (q 42)), (2, .ref (q 56)), (3, .int p3), (4, .ref (q 109)), (5, .int (fI w 64 1)), (6, .int x9_6)] → W p l e R s m args below meth c H locs 0 0 Q (F0 m 9 ls []) := by
    intro N
    induction N with
    | zero => intro x9_6 w9 H locs ls hmu; exact absurd hmu (Nat.not_lt_zero _)
    | succ N ih9 =>
      intro x9_6 w9 H locs ls hmu9 hW_w9 hM_w9 i_x9_3 i_x9_5 i_x9_6 g9_64_2e g9_64_2 hr_9 hf_9 hmi_9 hP hD hS hl
      have J46 : ∀ (w46 : va_W) (H : Heap) (locs : List Loc) (ls : Array Slot), HT q (TX q cI cJ cZ bb bs bp) w46 → Sm [64, 65, 66, 67, 68, 69, 70, 71, 72, 73] [(64, 1), (64, 2)] w w46 → (In 1 24 p3) → (In 0 40 (fI w 64 1)) → (In 0 39 x9_6) → (In 1 40 (fI w46 42 2)) → (fI w46 64 2 = (fI w 64 2)) → (In 0 23 (fI w 64 2)) → ((fI w 64 1).toInt ≤ (fI w46 64 1).toInt) → (FB w → FM (fI w 64 1).toInt w46) → (∀ (n : Nat) (r : Int) (t : PS), It_X3_addDay_42_56_109 n 46 p3.toInt ((fI w 64 1)).toInt x9_6.toInt (vw w46) r t → M_X3_addDay_42_56_109 (vw w) p3.toInt r t) → va_P D vwCl w46 H → va_D A w46 → va_S A s.heap H locs → lv_has ls 7 [(0, .ref (q 64)), (1, .ref (q 42)), (2, .ref (q 56)), (3, .int p3), (4, .ref (q 109)), (5, .int (fI w 64 1)), (6, .int x9_6)] → W p l e R s m args below meth c H locs 0 0 Q (F0 m 46 ls []) := by
        intro w46 H locs ls hW_w46 hM_w46 i_x46_3 i_x46_5 i_x46_6 g46_42_2 g46_64_2e g46_64_2 hr_46 hf_46 hmi_46 hP hD hS hl
        refine lv_iinc (v := (x9_6 + 1)) (lv' := [(6, .int (x9_6 + 1)), (0, .ref (q 64)), (1, .ref (q 42)), (2, .ref (q 56)), (3, .int p3), (4, .ref (q 109)), (5, .int (fI w 64 1))]) hx hb dX3_addDay_46 hl (k := 6) rfl (rfl) (by decide) rfl (fun ls hl => ?_)
        refine lv_goto (tgt := 9) hx hb dX3_addDay_49 (by decide) ?_
        exact ih9 (x9_6 + 1) w46 _ _ ls (mu_inc hmu9 i_x46_6 (In_lit (n := 1) (by decide) (by decide) : In 1 1 1) (by decide)) hW_w46 hM_w46 i_p3 i_x9_5 (In_w ((In_add (y := 1) i_x46_6 (In_lit (n := 1) (by decide) (by decide) : In 1 1 1) (by decide)) : In 1 40 (x9_6 + 1)) (by decide) : In 0 40 (x9_6 + 1)) g46_64_2e hf_64_2 (by have i64_1 := (hW_w46.fin tX_64 rfl : In 0 40 (fI w46 64 1)); unfold In at i64_1; omega) (fun h => (hf_46 h)) (fun n r t hk => (hmi_46 (n + 1) r t (rl_X3_addDay_42_56_109_46 (n := n) (And.intro (tyX hW_w46) (And.intro i_x46_3 (And.intro i_x46_5 (And.intro i_x46_6 (cgK_3 hk (rfl : (p3 : Int32).toInt = _) (rfl : ((fI w 64 1) : Int32).toInt = _) (z_add (t_add i_x46_6 (In_lit (n := 1) (by decide) (by decide) : In 1 1 1) (by decide)) (rfl : (x9_6 : Int32).toInt = _) (show (1 : Int32).toInt = 1 from by decide)))))))))) hP hD hS (lv_sub hl [1, 2, 3, 4, 5, 6, 0] rfl)
      refine lv_iload hx hb dX3_addDay_9 (lv_at hl 6 rfl) ?_
      refine lv_aload_n hx hb dX3_addDay_11 rfl (lv_at hl 1 rfl) ?_
      refine gt_X6 hx hb hts hown hK hP 42 (hW_w9.o tX_42) 2 (by decide) wd_294 rfl (hW_w9.fi tX_42 rfl) dX3_addDay_12 ?_
      refine tov (v := (fI w 42 2)) (hM_w9.gI (by decide)) ?_
      refine lv_icmp_ge (tgt := 52) hx hb dX3_addDay_15 (by decide) (fun c_6 => ?_) (fun c_6 => ?_)
      · refine lv_aload_n hx hb dX3_addDay_52 rfl (lv_at hl 0 rfl) ?_
        refine gt_X3 hx hb hts hown hK hP 64 (hW_w9.o tX_64) 1 (by decide) wd_404 rfl (hW_w9.fi tX_64 rfl) dX3_addDay_53 ?_
        refine lv_iload hx hb dX3_addDay_56 (lv_at hl 5 rfl) ?_
        refine lv_icmp_le (tgt := 131) hx hb dX3_addDay_58 (by decide) (fun c_7 => ?_) (fun c_7 => ?_)
        · have lb_c_7 : ((fI w9 64 1) : Int32).toInt ≤ ((fI w 64 1) : Int32).toInt := q_le.mp c_7
          exact hret _ _ _ _ _ hP hD hS dX3_addDay_131 ⟨hW_w9, hM_w9, (by intro hh; have i64_1 := (hW_w9.fin tX_64 rfl : In 0 40 (fI w9 64 1)); unfold In at i64_1; have e64_2 : (fI w9 64 2).toInt = ((fI w 64 2) : Int32).toInt := congrArg Int32.toInt g9_64_2e; have i64_2 := hf_64_2; unfold In at i64_2; have q1 := hf_64_2; unfold In at q1; have q2 := hSL; omega), (by have e64_2 : (fI w9 64 2).toInt = ((fI w 64 2) : Int32).toInt := congrArg Int32.toInt g9_64_2e; have i64_2 := hf_64_2; unfold In at i64_2; omega), (fun h => by have g := (hf_9 h); have e : (fI w9 64 1).toInt = (fI w 64 1).toInt := (by have i64_1 := (hW_w9.fin tX_64 rfl : In 0 40 (fI w9 64 1)); unfold In at i64_1; omega); rw [show FB w9 = FM (fI w9 64 1).toInt w9 from rfl, e]; exact g), (hmi_9 (0 + 1) _ _ (rl_X3_addDay_42_56_109_9 (n := 0) (And.intro (tyX hW_w9) (And.intro i_x9_3 (And.intro i_x9_5 (And.intro i_x9_6 (Or.inl (And.intro (z_le c_6 (z_of (hM_w9.gI (by decide)).symm (hW_w9.vi tX_42 rfl)) (rfl : (x9_6 : Int32).toInt = _)) (Or.inl (And.intro (z_le c_7 (hW_w9.vi tX_64 rfl) (rfl : ((fI w 64 1) : Int32).toInt = _)) (And.intro rfl rfl)))))))))))⟩
        · have lb_c_7 : ¬ ((fI w9 64 1) : Int32).toInt ≤ ((fI w 64 1) : Int32).toInt := fun h => c_7 (q_le.mpr h)
          refine lv_aload_n hx hb dX3_addDay_61 rfl (lv_at hl 0 rfl) ?_
          refine gt_X3 hx hb hts hown hK hP 64 (hW_w9.o tX_64) 2 (by decide) wd_407 rfl (hW_w9.fi tX_64 rfl) dX3_addDay_62 ?_
          refine tov (v := (fI w 64 2)) g9_64_2e ?_
          refine lv_bipush (v := 24) hx hb dX3_addDay_65 (by decide) ?_
          refine lv_icmp_ge (tgt := 131) hx hb dX3_addDay_67 (by decide) (fun c_8 => ?_) (fun c_8 => ?_)
          · have lb_c_8 : (24 : Int32).toInt ≤ ((fI w 64 2) : Int32).toInt := q_le.mp c_8
            have lq_c_8 : (24 : Int32).toInt = 24 := by decide
            exact (In_no (R_le_l (In_lit (n := 24) (by decide) (by decide) : In 24 24 24) hf_64_2 c_8 (by decide) : In 24 23 24) (by decide)).elim
          · have lb_c_8 : ¬ (24 : Int32).toInt ≤ ((fI w 64 2) : Int32).toInt := fun h => c_8 (q_le.mpr h)
            have lq_c_8 : (24 : Int32).toInt = 24 := by decide
            refine lv_iconst (v := 0) hx hb dX3_addDay_70 (by decide) ?_
            refine lv_istore (lv' := [(6, .int 0), (0, .ref (q 64)), (1, .ref (q 42)), (2, .ref (q 56)), (3, .int p3), (4, .ref (q 109)), (5, .int (fI w 64 1))]) hx hb dX3_addDay_71 hl (by decide) rfl (fun ls hl => ?_)
            exact J73 _ 0 w9 _ _ ls (Nat.lt_succ_self _) hW_w9 hM_w9 i_p3 (R_nle_r (hW_w9.fin tX_64 rfl : In 0 40 (fI w9 64 1)) i_x9_5 c_7 (by decide) : In 0 39 (fI w 64 1)) (In_lit (n := 0) (by decide) (by decide) : In 0 10 0) g9_64_2e hf_64_2 (by have i64_1 := (R_nle_l (hW_w9.fin tX_64 rfl : In 0 40 (fI w9 64 1)) i_x9_5 c_7 (by decide) : In 1 40 (fI w9 64 1)); unfold In at i64_1; omega) (fun h => (hf_9 h)) (fun n r t hk => (hmi_9 (n + 1) r t (rl_X3_addDay_42_56_109_9 (n := n) (And.intro (tyX hW_w9) (And.intro i_x9_3 (And.intro i_x9_5 (And.intro i_x9_6 (Or.inl (And.intro (z_le c_6 (z_of (hM_w9.gI (by decide)).symm (hW_w9.vi tX_42 rfl)) (rfl : (x9_6 : Int32).toInt = _)) (Or.inr (And.intro (z_nle c_7 (hW_w9.vi tX_64 rfl) (rfl : ((fI w 64 1) : Int32).toInt = _)) (And.intro (z_nle c_8 (show (24 : Int32).toInt = 24 from by decide) (z_of g9_64_2e.symm (hW_w9.vi tX_64 rfl))) (cgK_3 hk (rfl : (p3 : Int32).toInt = _) (rfl : ((fI w 64 1) : Int32).toInt = _) (show (0 : Int32).toInt = 0 from by decide)))))))))))))) hP hD hS (lv_sub hl [1, 2, 3, 4, 5, 6, 0] rfl)
      · refine lv_aload_n hx hb dX3_addDay_18 rfl (lv_at hl 1 rfl) ?_
        refine gt_X6 hx hb hts hown hK hP 42 (hW_w9.o tX_42) 9 (by decide) wd_311 rfl (hW_w9.fr tX_42 rfl) dX3_addDay_19 ?_
        refine lv_iload hx hb dX3_addDay_22 (lv_at hl 6 rfl) ?_
        refine va_iald hx hb hK hP 49 0 (hW_w9.a tX_49) rfl (in_I (R_nle_r (hW_w.fin tX_42 rfl : In 0 40 (fI w 42 2)) i_x9_6 c_6 (by decide) : In 0 39 x9_6) (by decide)) dX3_addDay_24 ?_
        refine lv_topi (fun v_9 ev_9 => ?_)
        refine lv_iload_n hx hb dX3_addDay_25 rfl (lv_at hl 3 rfl) ?_
        refine lv_icmp_ne (tgt := 46) hx hb dX3_addDay_26 (by decide) (fun c_10 => ?_) (fun c_10 => ?_)
        · exact J46 w9 _ _ ls hW_w9 hM_w9 i_p3 i_x9_5 (R_nle_r (hW_w.fin tX_42 rfl : In 0 40 (fI w 42 2)) i_x9_6 c_6 (by decide) : In 0 39 x9_6) (In_of (hM_w9.gI (by decide)) (R_nle_l (hW_w.fin tX_42 rfl : In 0 40 (fI w 42 2)) i_x9_6 c_6 (by decide) : In 1 40 (fI w 42 2))) g9_64_2e hf_64_2 (by have i64_1 := (hW_w9.fin tX_64 rfl : In 0 40 (fI w9 64 1)); unfold In at i64_1; omega) (fun h => (hf_9 h)) (fun n r t hk => (hmi_9 (n + 1) r t (rl_X3_addDay_42_56_109_9 (n := n) (And.intro (tyX hW_w9) (And.intro i_x9_3 (And.intro i_x9_5 (And.intro i_x9_6 (Or.inr (And.intro (z_nle c_6 (z_of (hM_w9.gI (by decide)).symm (hW_w9.vi tX_42 rfl)) (rfl : (x9_6 : Int32).toInt = _)) (Or.inr (And.intro (z_neq c_10 (z_of ev_9 ((hW_w9.va tX_49 _).trans (congrArg (vw w9 49) (z_ix (rfl : (x9_6 : Int32).toInt = _))))) (rfl : (p3 : Int32).toInt = _)) (cgK_3 hk (rfl : (p3 : Int32).toInt = _) (rfl : ((fI w 64 1) : Int32).toInt = _) (rfl : (x9_6 : Int32).toInt = _))))))))))))) hP hD hS (lv_sub hl [0, 1, 2, 3, 4, 5, 6] rfl)
        · refine lv_aload_n hx hb dX3_addDay_29 rfl (lv_at hl 2 rfl) ?_
          refine gt_X5 hx hb hts hown hK hP 56 (hW_w9.o tX_56) 0 (by decide) wd_365 rfl (hW_w9.fr tX_56 rfl) dX3_addDay_30 ?_
          refine lv_iload hx hb dX3_addDay_33 (lv_at hl 6 rfl) ?_
          refine va_iald hx hb hK hP 57 0 (hW_w9.a tX_57) rfl (in_I (R_nle_r (hW_w.fin tX_42 rfl : In 0 40 (fI w 42 2)) i_x9_6 c_6 (by decide) : In 0 39 x9_6) (by decide)) dX3_addDay_35 ?_
          refine lv_topi (fun v_11 ev_11 => ?_)
          refine lv_if_le (tgt := 46) hx hb dX3_addDay_36 (by decide) (fun c_12 => ?_) (fun c_12 => ?_)
          · exact J46 w9 _ _ ls hW_w9 hM_w9 i_p3 i_x9_5 (R_nle_r (hW_w.fin tX_42 rfl : In 0 40 (fI w 42 2)) i_x9_6 c_6 (by decide) : In 0 39 x9_6) (In_of (hM_w9.gI (by decide)) (R_nle_l (hW_w.fin tX_42 rfl : In 0 40 (fI w 42 2)) i_x9_6 c_6 (by decide) : In 1 40 (fI w 42 2))) g9_64_2e hf_64_2 (by have i64_1 := (hW_w9.fin tX_64 rfl : In 0 40 (fI w9 64 1)); unfold In at i64_1; omega) (fun h => (hf_9 h)) (fun n r t hk => (hmi_9 (n + 1) r t (rl_X3_addDay_42_56_109_9 (n := n) (And.intro (tyX hW_w9) (And.intro i_x9_3 (And.intro i_x9_5 (And.intro i_x9_6 (Or.inr (And.intro (z_nle c_6 (z_of (hM_w9.gI (by decide)).symm (hW_w9.vi tX_42 rfl)) (rfl : (x9_6 : Int32).toInt = _)) (Or.inl (And.intro (z_eq c_10 (z_of ev_9 ((hW_w9.va tX_49 _).trans (congrArg (vw w9 49) (z_ix (rfl : (x9_6 : Int32).toInt = _))))) (rfl : (p3 : Int32).toInt = _)) (Or.inl (And.intro (z_le c_12 (z_of ev_11 ((hW_w9.va tX_57 _).trans (congrArg (vw w9 57) (z_ix (rfl : (x9_6 : Int32).toInt = _))))) (show (0 : Int32).toInt = 0 from by decide)) (cgK_3 hk (rfl : (p3 : Int32).toInt = _) (rfl : ((fI w 64 1) : Int32).toInt = _) (rfl : (x9_6 : Int32).toInt = _))))))))))))))) hP hD hS (lv_sub hl [0, 1, 2, 3, 4, 5, 6] rfl)
          · refine lv_aload_n hx hb dX3_addDay_39 rfl (lv_at hl 0 rfl) ?_
            refine lv_aload_n hx hb dX3_addDay_40 rfl (lv_at hl 2 rfl) ?_
            refine lv_iload hx hb dX3_addDay_41 (lv_at hl 6 rfl) ?_
            refine kW_v ⟨rfl, rfl⟩ hP hD hS hA (rW_V (As := [.ref (q 56), .int x9_6]) (rest := []) hx hb hml hown hts hK hE hP hD (e_X3_addRow_56 l D cI cJ cZ q bb bs bp w9 hW_w9 x9_6 (R_nle_r (hW_w.fin tX_42 rfl : In 0 40 (fI w 42 2)) i_x9_6 c_6 (by decide) : In 0 39 x9_6) (In_of (hM_w9.gI (by decide)) (R_nle_l (hW_w.fin tX_42 rfl : In 0 40 (fI w 42 2)) i_x9_6 c_6 (by decide) : In 1 40 (fI w 42 2))) (In_of g9_64_2e hf_64_2) _) ⟨⟨rfl, rfl⟩, rfl, rfl⟩ sv_X3_66 ⟨(Nat.le_trans (by decide) hR.1), (Nat.le_trans (by decide) hR.2)⟩ 64 3 (hW_w9.o tX_64) rfl rfl rfl hl.1 rfl (Nat.le_of_ble_eq_true rfl) dX3_addDay_43) (fun w_13 H locs hw_w_13 hP hD hS => ?_)
            obtain ⟨hW_w_13, hs_w_13, h_15, h_16, h_17, hm_18⟩ := hw_w_13
            have n_h_16 : ((fI w9 64 1) : Int32).toInt ≤ (fI w_13 64 1).toInt := (by omega)
            exact J46 w_13 _ _ ls hW_w_13 (hM_w9.tr hs_w_13 (by decide)) i_p3 i_x9_5 (R_nle_r (hW_w.fin tX_42 rfl : In 0 40 (fI w 42 2)) i_x9_6 c_6 (by decide) : In 0 39 x9_6) (In_of ((hs_w_13.gI (by decide)).trans (hM_w9.gI (by decide))) (R_nle_l (hW_w.fin tX_42 rfl : In 0 40 (fI w 42 2)) i_x9_6 c_6 (by decide) : In 1 40 (fI w 42 2))) ((hs_w_13.2 64 2 (by decide) (by decide)).trans g9_64_2e) hf_64_2 (by have i64_1 := h_15; unfold In at i64_1; omega) (fun h => (h_17 _ (hf_9 h))) (fun n r t hk => (hmi_9 (n + 1) r t (rl_X3_addDay_42_56_109_9 (n := n) (And.intro (tyX hW_w9) (And.intro i_x9_3 (And.intro i_x9_5 (And.intro i_x9_6 (Or.inr (And.intro (z_nle c_6 (z_of (hM_w9.gI (by decide)).symm (hW_w9.vi tX_42 rfl)) (rfl : (x9_6 : Int32).toInt = _)) (Or.inl (And.intro (z_eq c_10 (z_of ev_9 ((hW_w9.va tX_49 _).trans (congrArg (vw w9 49) (z_ix (rfl : (x9_6 : Int32).toInt = _))))) (rfl : (p3 : Int32).toInt = _)) (Or.inr (And.intro (z_nle c_12 (z_of ev_11 ((hW_w9.va tX_57 _).trans (congrArg (vw w9 57) (z_ix (rfl : (x9_6 : Int32).toInt = _))))) (show (0 : Int32).toInt = 0 from by decide)) (Exists.intro (vw w_13) (And.intro (cgM_1 hm_18 (rfl : (x9_6 : Int32).toInt = _)) (And.intro (hs_w_13.Fr hW_w9 hW_w_13 intsX_ok intsX_ok) (And.intro (tyX hW_w_13) (cgK_3 hk (rfl : (p3 : Int32).toInt = _) (rfl : ((fI w 64 1) : Int32).toInt = _) (rfl : (x9_6 : Int32).toInt = _))))))))))))))))))) hP hD hS (lv_sub hl [0, 1, 2, 3, 4, 5, 6] rfl)
  refine lv_aload_n hx hb dX3_addDay_0 rfl (lv_at hl 0 rfl) ?_
  refine gt_X3 hx hb hts hown hK hP 64 (hW_w.o tX_64) 1 (by decide) wd_404 rfl (hW_w.fi tX_64 rfl) dX3_addDay_1 ?_
  refine lv_istore (lv' := [(5, .int (fI w 64 1)), (0, .ref (q 64)), (1, .ref (q 42)), (2, .ref (q 56)), (3, .int p3), (4, .ref (q 109))]) hx hb dX3_addDay_4 hl (by decide) rfl (fun ls hl => ?_)
  refine lv_iconst (v := 0) hx hb dX3_addDay_6 (by decide) ?_
  refine lv_istore (lv' := [(6, .int 0), (5, .int (fI w 64 1)), (0, .ref (q 64)), (1, .ref (q 42)), (2, .ref (q 56)), (3, .int p3), (4, .ref (q 109))]) hx hb dX3_addDay_7 hl (by decide) rfl (fun ls hl => ?_)
  exact J9 _ 0 w _ _ ls (Nat.lt_succ_self _) hW_w Sm.rf i_p3 (hW_w.fin tX_64 rfl : In 0 40 (fI w 64 1)) (In_lit (n := 0) (by decide) (by decide) : In 0 40 0) rfl hf_64_2 (by have i64_1 := (hW_w.fin tX_64 rfl : In 0 40 (fI w 64 1)); unfold In at i64_1; omega) (fun h => h) (fun n r t hk => (mk_X3_addDay_42_56_109 (n := n) (And.intro (tyX hW_w) (And.intro i_p3 (cgK_3 hk (rfl : (p3 : Int32).toInt = _) (hW_w.vi tX_64 rfl) (show (0 : Int32).toInt = 0 from by decide)))))) hP hD hS (lv_sub hl [2, 3, 4, 5, 6, 1, 0] rfl)
set_option maxRecDepth 100000 in
set_option maxHeartbeats 8000000 in
theorem e_J7_fill_53178_67 (l : Launch) (D : va_G) (cI cJ cZ : ClassId) (q : Nat → Nat) (bb bs bp : Nat) (w : va_W) (hW_w : HT q (TX q cI cJ cZ bb bs bp) w) (p1 : Int32) (i_p1 : In (-1) (-1) p1) (hf_64_1 : In 0 0 (fI w 64 1)) (hf_64_2 : In 0 0 (fI w 64 2)) : Con_v l yJ7_fill_53178 cJ7_fill_53178 4 none ({ frames := 0, cells := 0, slots := 0, locals := 0 }) D cI cJ cZ eW [.ref (q 67), .int p1] w (fun (w1 : va_W) => HT q (TX q cI cJ cZ bb bs bp) w1 ∧ Sm [67] [] w w1 ∧ ((∀ i : Nat, i < 40 → aF w1 67 i = p1)) ∧ M_J7_fill_53178_67 (vw w) p1.toInt 0 (vw w1)) := by
  refine eQ_v rfl (by decide) (Nat.le_of_ble_eq_true rfl) ⟨rfl, rfl⟩ ?_
  intro p e R s m args below meth c A Q hx hb hml hown hts hK hE hA hR hret hP hD hS ls hl
  have hown : s.vm.findClass RJ7 = some m.cls := hown
  have hl : lv_has ls 4 [(0, .ref (q 67)), (1, .int p1)] := hl
  have J5 : ∀ (N : Nat) (x5_2 : Int32) (x5_3 : Int32) (w5 : va_W) (H : Heap) (locs : List Loc) (ls : Array Slot), (40 - x5_2.toInt).toNat < N → HT q (TX q cI cJ cZ bb bs bp) w5 → Sm [67] [] w w5 → (In (-1) (-1) p1) → (In 0 40 x5_2) → (In 40 40 x5_3) → (In 0 0 (fI w5 64 1)) → (In 0 0 (fI w5 64 2)) → (∀ i : Nat, i < (x5_2 : Int32).toInt.toNat → aF w5 67 i = p1) → (∀ (n : Nat) (r : Int) (t : PS), It_J7_fill_53178_67 n p1.toInt x5_2.toInt x5_3.toInt (vw w5) r t → M_J7_fill_53178_67 (vw w) p1.toInt r t) → va_P D vwCl w5 H → va_D A w5 → va_S A s.heap H locs → lv_has ls 4 [(0, .ref (q 67)), (1, .int p1), (2, .int x5_2), (3, .int x5_3)] → W p l e R s m args below meth c H locs 0 0 Q (F0 m 5 ls []) := by
    intro N
    induction N with
    | zero => intro x5_2 x5_3 w5 H locs ls hmu; exact absurd hmu (Nat.not_lt_zero _)
    | succ N ih5 =>
      intro x5_2 x5_3 w5 H locs ls hmu5 hW_w5 hM_w5 i_x5_1 i_x5_2 i_x5_3 g5_64_1 g5_64_2 hj_5 hmi_5 hP hD hS hl
      refine lv_iload_n hx hb dJ7_fill_53178_5 rfl (lv_at hl 2 rfl) ?_
      refine lv_iload_n hx hb dJ7_fill_53178_6 rfl (lv_at hl 3 rfl) ?_
      refine lv_icmp_ge (tgt := 20) hx hb dJ7_fill_53178_7 (by decide) (fun c_1 => ?_) (fun c_1 => ?_)
      · have lb_c_1 : (x5_3 : Int32).toInt ≤ (x5_2 : Int32).toInt := q_le.mp c_1
        exact hret _ _ _ _ _ hP hD hS dJ7_fill_53178_20 ⟨hW_w5, hM_w5, (fun i hi => hj_5 i (by have q := i_x5_3; unfold In at q; omega)), (hmi_5 (0 + 1) _ _ (rl_J7_fill_53178_67_5 (n := 0) (And.intro (tyX hW_w5) (And.intro i_x5_1 (And.intro i_x5_2 (And.intro i_x5_3 (Or.inl (And.intro (z_le c_1 (rfl : (x5_3 : Int32).toInt = _) (rfl : (x5_2 : Int32).toInt = _)) (And.intro rfl rfl)))))))))⟩
      · have lb_c_1 : ¬ (x5_3 : Int32).toInt ≤ (x5_2 : Int32).toInt := fun h => c_1 (q_le.mpr h)
        refine lv_aload_n hx hb dJ7_fill_53178_10 rfl (lv_at hl 0 rfl) ?_
        refine lv_iload_n hx hb dJ7_fill_53178_11 rfl (lv_at hl 2 rfl) ?_
        refine lv_iload_n hx hb dJ7_fill_53178_12 rfl (lv_at hl 1 rfl) ?_
        refine va_iast hx hb hK hP hD hS 67 0 (hW_w5.a tX_67) rfl (in_I (R_nle_r i_x5_3 i_x5_2 c_1 (by decide) : In 0 39 x5_2) (by decide)) dJ7_fill_53178_13 (fun H locs hP hD hS => fr_w (hW_w5.uA tX_67 (In_w i_p1 (by decide) : In (-1) 39 p1)) hP hD (fun w_2 ew_2 hW_w_2 hP hD => ?_))
        have hv_w_2 := vw_uA hW_w5 tX_67 ew_2 (z_ix (rfl : (x5_2 : Int32).toInt = _)) (rfl : (p1 : Int32).toInt = _)
        refine lv_iinc (v := (x5_2 + 1)) (lv' := [(2, .int (x5_2 + 1)), (0, .ref (q 67)), (1, .int p1), (3, .int x5_3)]) hx hb dJ7_fill_53178_14 hl (k := 2) rfl (rfl) (by decide) rfl (fun ls hl => ?_)
        refine lv_goto (tgt := 5) hx hb dJ7_fill_53178_17 (by decide) ?_
        exact ih5 (x5_2 + 1) x5_3 w_2 _ _ ls (mu_inc hmu5 (R_nle_r i_x5_3 i_x5_2 c_1 (by decide) : In 0 39 x5_2) (In_lit (n := 1) (by decide) (by decide) : In 1 1 1) (by decide)) hW_w_2 (hM_w5.sa ew_2 (by decide)) i_p1 (In_w ((In_add (y := 1) (R_nle_r i_x5_3 i_x5_2 c_1 (by decide) : In 0 39 x5_2) (In_lit (n := 1) (by decide) (by decide) : In 1 1 1) (by decide)) : In 1 40 (x5_2 + 1)) (by decide) : In 0 40 (x5_2 + 1)) i_x5_3 (In_of ((fI_cg (st_ne ew_2 (by decide))).trans (hM_w5.gI (by decide))) (In_of (hM_w5.gI (by decide)).symm g5_64_1)) (In_of ((fI_cg (st_ne ew_2 (by decide))).trans (hM_w5.gI (by decide))) (In_of (hM_w5.gI (by decide)).symm g5_64_2)) (fill_si (R_nle_r i_x5_3 i_x5_2 c_1 (by decide) : In 0 39 x5_2) hj_5 (aF_eq (hW_w5.lt tX_67) ew_2)) (fun n r t hk => (hmi_5 (n + 1) r t (rl_J7_fill_53178_67_5 (n := n) (And.intro (tyX hW_w5) (And.intro i_x5_1 (And.intro i_x5_2 (And.intro i_x5_3 (Or.inr (And.intro (z_nle c_1 (rfl : (x5_3 : Int32).toInt = _) (rfl : (x5_2 : Int32).toInt = _)) (Exists.intro (vw w_2) (And.intro hv_w_2 (cgK_3 hk (rfl : (p1 : Int32).toInt = _) (z_add (t_add (R_nle_r i_x5_3 i_x5_2 c_1 (by decide) : In 0 39 x5_2) (In_lit (n := 1) (by decide) (by decide) : In 1 1 1) (by decide)) (rfl : (x5_2 : Int32).toInt = _) (show (1 : Int32).toInt = 1 from by decide)) (rfl : (x5_3 : Int32).toInt = _))))))))))))) hP hD hS (lv_sub hl [1, 2, 0, 3] rfl)
  refine lv_iconst (v := 0) hx hb dJ7_fill_53178_0 (by decide) ?_
  refine lv_istore_n (lv' := [(2, .int 0), (0, .ref (q 67)), (1, .int p1)]) hx hb dJ7_fill_53178_1 rfl hl (by decide) rfl (fun ls hl => ?_)
  refine lv_aload_n hx hb dJ7_fill_53178_2 rfl (lv_at hl 1 rfl) ?_
  refine va_alen hx hb hK hP 67 0 (hW_w.a tX_67) rfl (v := 40) (by show Int32.ofNat 40 = 40; decide) dJ7_fill_53178_3 ?_
  refine lv_istore_n (lv' := [(3, .int 40), (2, .int 0), (0, .ref (q 67)), (1, .int p1)]) hx hb dJ7_fill_53178_4 rfl hl (by decide) rfl (fun ls hl => ?_)
  exact J5 _ 0 40 w _ _ ls (Nat.lt_succ_self _) hW_w Sm.rf i_p1 (In_lit (n := 0) (by decide) (by decide) : In 0 40 0) (In_lit (n := 40) (by decide) (by decide) : In 40 40 40) hf_64_1 hf_64_2 (fun i h => absurd h (by have z : (0 : Int32).toInt = 0 := (by decide); omega)) (fun n r t hk => (mk_J7_fill_53178_67 (n := n) (And.intro (tyX hW_w) (And.intro i_p1 (cgK_3 hk (rfl : (p1 : Int32).toInt = _) (show (0 : Int32).toInt = 0 from by decide) (show (40 : Int32).toInt = 40 from by decide)))))) hP hD hS (lv_sub hl [2, 3, 1, 0] rfl)
set_option maxRecDepth 100000 in
set_option maxHeartbeats 8000000 in
theorem e_X3_clear (l : Launch) (D : va_G) (cI cJ cZ : ClassId) (q : Nat → Nat) (bb bs bp : Nat) (w : va_W) (hW_w : HT q (TX q cI cJ cZ bb bs bp) w) (p1 : Int32) (i_p1 : In 0 10 p1) : Con_v l yX3_clear cX3_clear 2 none ({ frames := 1, cells := 0, slots := 0, locals := 23 }) D cI cJ cZ eW [.ref (q 64), .int p1] w (fun (w1 : va_W) => HT q (TX q cI cJ cZ bb bs bp) w1 ∧ Sm [64, 66, 67] [(64, 0), (64, 1), (64, 2)] w w1 ∧ In 0 0 (fI w1 64 1) ∧ In 0 0 (fI w1 64 2) ∧ (FB w1) ∧ M_X3_clear (vw w) p1.toInt 0 (vw w1)) := by
  refine eQ_v rfl (by decide) (Nat.le_of_ble_eq_true rfl) ⟨rfl, rfl⟩ ?_
  intro p e R s m args below meth c A Q hx hb hml hown hts hK hE hA hR hret hP hD hS ls hl
  have hown : s.vm.findClass RX3 = some m.cls := hown
  have hl : lv_has ls 2 [(0, .ref (q 64)), (1, .int p1)] := hl
  refine lv_aload_n hx hb dX3_clear_0 rfl (lv_at hl 0 rfl) ?_
  refine lv_iload_n hx hb dX3_clear_1 rfl (lv_at hl 1 rfl) ?_
  refine pt_X3 hx hb hts hown hK hP hD hS 64 (hW_w.o tX_64) 0 (by decide) wd_400 rfl rfl (ty := .int) (v := .int p1) (by decide +kernel) rfl rfl (hW_w.ll tX_64 (Nat.le_of_ble_eq_true rfl)) dX3_clear_2 (fun H locs hP hD hS => fr_w (hW_w.sI tX_64 rfl i_p1) hP hD (fun w_1 ew_1 hW_w_1 hP hD => ?_))
  have hv_w_1 := vw_sI (j := 0) hW_w tX_64 rfl ew_1 (rfl : (p1 : Int32).toInt = _)
  refine lv_aload_n hx hb dX3_clear_5 rfl (lv_at hl 0 rfl) ?_
  refine lv_iconst (v := 0) hx hb dX3_clear_6 (by decide) ?_
  refine pt_X3 hx hb hts hown hK hP hD hS 64 (hW_w_1.o tX_64) 1 (by decide) wd_404 rfl rfl (ty := .int) (v := .int 0) (by decide +kernel) rfl rfl (hW_w_1.ll tX_64 (Nat.le_of_ble_eq_true rfl)) dX3_clear_7 (fun H locs hP hD hS => fr_w (hW_w_1.sI tX_64 rfl (In_lit (n := 0) (by decide) (by decide) : In 0 40 0)) hP hD (fun w_2 ew_2 hW_w_2 hP hD => ?_))
  have hv_w_2 := vw_sI (j := 1) hW_w_1 tX_64 rfl ew_2 (show (0 : Int32).toInt = 0 from by decide)
  refine lv_aload_n hx hb dX3_clear_10 rfl (lv_at hl 0 rfl) ?_
  refine lv_iconst (v := 0) hx hb dX3_clear_11 (by decide) ?_
  refine pt_X3 hx hb hts hown hK hP hD hS 64 (hW_w_2.o tX_64) 2 (by decide) wd_407 rfl rfl (ty := .int) (v := .int 0) (by decide +kernel) rfl rfl (hW_w_2.ll tX_64 (Nat.le_of_ble_eq_true rfl)) dX3_clear_12 (fun H locs hP hD hS => fr_w (hW_w_2.sI tX_64 rfl (In_lit (n := 0) (by decide) (by decide) : In 0 24 0)) hP hD (fun w_3 ew_3 hW_w_3 hP hD => ?_))
  have hv_w_3 := vw_sI (j := 2) hW_w_2 tX_64 rfl ew_3 (show (0 : Int32).toInt = 0 from by decide)
  refine lv_aload_n hx hb dX3_clear_15 rfl (lv_at hl 0 rfl) ?_
  refine gt_X3 hx hb hts hown hK hP 64 (hW_w_3.o tX_64) 4 (by decide) wd_413 rfl (hW_w_3.fr tX_64 rfl) dX3_clear_16 ?_
  refine lv_iconst (v := 0) hx hb dX3_clear_19 (by decide) ?_
  refine lv_iconst (v := 0) hx hb dX3_clear_20 (by decide) ?_
  refine va_iast hx hb hK hP hD hS 66 0 (hW_w_3.a tX_66) rfl (in_I (In_lit (n := 0) (by decide) (by decide) : In 0 0 0) (by decide)) dX3_clear_21 (fun H locs hP hD hS => fr_w (hW_w_3.uA tX_66 (In_lit (n := 0) (by decide) (by decide) : In 0 40 0)) hP hD (fun w_4 ew_4 hW_w_4 hP hD => ?_))
  have hv_w_4 := vw_uA hW_w_3 tX_66 ew_4 (show (0 : Int32).toNatClampNeg = 0 from by decide) (show (0 : Int32).toInt = 0 from by decide)
  refine lv_aload_n hx hb dX3_clear_22 rfl (lv_at hl 0 rfl) ?_
  refine gt_X3 hx hb hts hown hK hP 64 (hW_w_4.o tX_64) 5 (by decide) wd_416 rfl (hW_w_4.fr tX_64 rfl) dX3_clear_23 ?_
  refine lv_iconst (v := (-1)) hx hb dX3_clear_26 (by decide) ?_
  refine kW_v ⟨rfl, rfl⟩ hP hD hS hA (rW_S (As := [.ref (q 67), .int (-1)]) (rest := []) hx hb hml hown hts hK hE hP hD (e_J7_fill_53178_67 l D cI cJ cZ q bb bs bp w_4 hW_w_4 (-1) (In_lit (n := (-1)) (by decide) (by decide) : In (-1) (-1) (-1)) (In_of ((fI_cg (st_ne ew_4 (by decide))).trans ((fI_nej (hW_w_2.lt tX_64) ew_3 (by decide)).trans (fI_eq (hW_w_1.lt tX_64) ew_2 (hW_w_1.ll tX_64 (Nat.le_of_ble_eq_true rfl))))) (In_lit (n := 0) (by decide) (by decide) : In 0 0 0)) (In_of ((fI_cg (st_ne ew_4 (by decide))).trans (fI_eq (hW_w_2.lt tX_64) ew_3 (hW_w_2.ll tX_64 (Nat.le_of_ble_eq_true rfl)))) (In_lit (n := 0) (by decide) (by decide) : In 0 0 0)) _) ⟨⟨rfl, rfl⟩, rfl, rfl⟩ sv_X3_49 ⟨(Nat.le_trans (by decide) hR.1), (Nat.le_trans (by decide) hR.2)⟩ rfl hl.1 rfl (Nat.le_of_ble_eq_true rfl) dX3_clear_27) (fun w_5 H locs hw_w_5 hP hD hS => ?_)
  obtain ⟨hW_w_5, hs_w_5, h_7, hm_8⟩ := hw_w_5
  exact hret _ _ _ _ _ hP hD hS dX3_clear_30 ⟨hW_w_5, (((((Sm.rf.sf (hW_w.lt tX_64) ew_1 (by decide)).sf (hW_w_1.lt tX_64) ew_2 (by decide)).sf (hW_w_2.lt tX_64) ew_3 (by decide)).sa ew_4 (by decide)).tr hs_w_5 (by decide)), (In_of ((hs_w_5.gI (by decide)).trans ((fI_cg (st_ne ew_4 (by decide))).trans ((fI_nej (hW_w_2.lt tX_64) ew_3 (by decide)).trans (fI_eq (hW_w_1.lt tX_64) ew_2 (hW_w_1.ll tX_64 (Nat.le_of_ble_eq_true rfl)))))) (In_lit (n := 0) (by decide) (by decide) : In 0 0 0)), (In_of ((hs_w_5.gI (by decide)).trans ((fI_cg (st_ne ew_4 (by decide))).trans (fI_eq (hW_w_2.lt tX_64) ew_3 (hW_w_2.ll tX_64 (Nat.le_of_ble_eq_true rfl))))) (In_lit (n := 0) (by decide) (by decide) : In 0 0 0)), (FB_new h_7 ((hs_w_5.gI (by decide)).trans ((fI_cg (st_ne ew_4 (by decide))).trans ((fI_nej (hW_w_2.lt tX_64) ew_3 (by decide)).trans (fI_eq (hW_w_1.lt tX_64) ew_2 (hW_w_1.ll tX_64 (Nat.le_of_ble_eq_true rfl)))))) ((hs_w_5.gI (by decide)).trans ((fI_cg (st_ne ew_4 (by decide))).trans (fI_eq (hW_w_2.lt tX_64) ew_3 (hW_w_2.ll tX_64 (Nat.le_of_ble_eq_true rfl))))) ((congrFun (hs_w_5.hA (by decide)) _).trans (upd_at (aF_eq (hW_w_3.lt tX_66) ew_4)))), (mk_X3_clear (And.intro (tyX hW_w) (And.intro i_p1 (Exists.intro (vw w_1) (And.intro hv_w_1 (Exists.intro (vw w_2) (And.intro hv_w_2 (Exists.intro (vw w_3) (And.intro hv_w_3 (Exists.intro (vw w_4) (And.intro hv_w_4 (Exists.intro (vw w_5) (And.intro (cgM_1 hm_8 (show ((-1) : Int32).toInt = (-1) from by decide)) (And.intro (hs_w_5.Fr hW_w_4 hW_w_5 intsX_ok intsX_ok) (And.intro (tyX hW_w_5) (And.intro rfl rfl))))))))))))))))⟩
