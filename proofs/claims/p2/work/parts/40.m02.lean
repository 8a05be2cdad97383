set_option maxRecDepth 100000 in
set_option maxHeartbeats 8000000 in
theorem k_X12_isOwn (l : Launch) (D : va_G) (cI cJ cZ : ClassId) (q : Nat → Nat) (w : va_W) (hW_w : HT q (TM q cI cJ cZ) w) (p1 : Int64) (hf_0_1 : In 0 0 (fI w 0 1)) : Con_i l yX12_isOwn cX12_isOwn 3 (some .boolean) ({ frames := 0, cells := 0, slots := 0, locals := 0 }) D cI cJ cZ eW [.ref (q 0), .long p1] w (fun (r : Int32) (w1 : va_W) => HT q (TM q cI cJ cZ) w1 ∧ Sm [] [] w w1 ∧ In 0 1 r) := by
  refine eQ_z rfl (by decide) (Nat.le_of_ble_eq_true rfl) ⟨rfl, rfl⟩ ?_
  intro p e R s m args below meth c A Q hx hb hml hown hts hK hE hA hR hret hP hD hS ls hl
  have hown : s.vm.findClass RX12 = some m.cls := hown
  have hl : lv_has ls 3 [(0, .ref (q 0)), (1, .long p1)] := hl
  refine lv_lload_n hx hb dX12_isOwn_0 rfl (lv_at hl 1 rfl) ?_
  refine lv_ldc2 hx hb hown (hts _ wd_1723) dX12_isOwn_1 ?_
  refine W.lcmp hx hb dX12_isOwn_4 ?_
  refine lv_topi (fun v_1 ev_1 => ?_)
  refine lv_if_eq (tgt := 40) hx hb dX12_isOwn_5 (by decide) (fun c_2 => ?_) (fun c_2 => ?_)
  · refine lv_iconst (v := 1) hx hb dX12_isOwn_40 (by decide) ?_
    exact hret _ _ _ _ _ _ hP hD hS dX12_isOwn_41 (In_lit (n := 1) (by decide) (by decide) : In 0 1 1) ⟨hW_w, Sm.rf, (In_lit (n := 1) (by decide) (by decide) : In 0 1 1)⟩
  · refine lv_lload_n hx hb dX12_isOwn_8 rfl (lv_at hl 1 rfl) ?_
    refine lv_ldc2 hx hb hown (hts _ wd_1736) dX12_isOwn_9 ?_
    refine W.lcmp hx hb dX12_isOwn_12 ?_
    refine lv_topi (fun v_3 ev_3 => ?_)
    refine lv_if_eq (tgt := 40) hx hb dX12_isOwn_13 (by decide) (fun c_4 => ?_) (fun c_4 => ?_)
    · refine lv_iconst (v := 1) hx hb dX12_isOwn_40 (by decide) ?_
      exact hret _ _ _ _ _ _ hP hD hS dX12_isOwn_41 (In_lit (n := 1) (by decide) (by decide) : In 0 1 1) ⟨hW_w, Sm.rf, (In_lit (n := 1) (by decide) (by decide) : In 0 1 1)⟩
    · refine lv_lload_n hx hb dX12_isOwn_16 rfl (lv_at hl 1 rfl) ?_
      refine lv_ldc2 hx hb hown (hts _ wd_1737) dX12_isOwn_17 ?_
      refine W.lcmp hx hb dX12_isOwn_20 ?_
      refine lv_topi (fun v_5 ev_5 => ?_)
      refine lv_if_eq (tgt := 40) hx hb dX12_isOwn_21 (by decide) (fun c_6 => ?_) (fun c_6 => ?_)
      · refine lv_iconst (v := 1) hx hb dX12_isOwn_40 (by decide) ?_
        exact hret _ _ _ _ _ _ hP hD hS dX12_isOwn_41 (In_lit (n := 1) (by decide) (by decide) : In 0 1 1) ⟨hW_w, Sm.rf, (In_lit (n := 1) (by decide) (by decide) : In 0 1 1)⟩
      · refine lv_lload_n hx hb dX12_isOwn_24 rfl (lv_at hl 1 rfl) ?_
        refine lv_ldc2 hx hb hown (hts _ wd_1738) dX12_isOwn_25 ?_
        refine W.lcmp hx hb dX12_isOwn_28 ?_
        refine lv_topi (fun v_7 ev_7 => ?_)
        refine lv_if_eq (tgt := 40) hx hb dX12_isOwn_29 (by decide) (fun c_8 => ?_) (fun c_8 => ?_)
        · refine lv_iconst (v := 1) hx hb dX12_isOwn_40 (by decide) ?_
          exact hret _ _ _ _ _ _ hP hD hS dX12_isOwn_41 (In_lit (n := 1) (by decide) (by decide) : In 0 1 1) ⟨hW_w, Sm.rf, (In_lit (n := 1) (by decide) (by decide) : In 0 1 1)⟩
        · refine lv_lload_n hx hb dX12_isOwn_32 rfl (lv_at hl 1 rfl) ?_
          refine lv_ldc2 hx hb hown (hts _ wd_1739) dX12_isOwn_33 ?_
          refine W.lcmp hx hb dX12_isOwn_36 ?_
          refine lv_topi (fun v_9 ev_9 => ?_)
          refine lv_if_ne (tgt := 42) hx hb dX12_isOwn_37 (by decide) (fun c_10 => ?_) (fun c_10 => ?_)
          · refine lv_lload_n hx hb dX12_isOwn_42 rfl (lv_at hl 1 rfl) ?_
            refine lv_ldc2 hx hb hown (hts _ wd_1740) dX12_isOwn_43 ?_
            refine W.lcmp hx hb dX12_isOwn_46 ?_
            refine lv_topi (fun v_11 ev_11 => ?_)
            refine lv_if_eq (tgt := 82) hx hb dX12_isOwn_47 (by decide) (fun c_12 => ?_) (fun c_12 => ?_)
            · refine lv_iconst (v := 1) hx hb dX12_isOwn_82 (by decide) ?_
              exact hret _ _ _ _ _ _ hP hD hS dX12_isOwn_83 (In_lit (n := 1) (by decide) (by decide) : In 0 1 1) ⟨hW_w, Sm.rf, (In_lit (n := 1) (by decide) (by decide) : In 0 1 1)⟩
            · refine lv_lload_n hx hb dX12_isOwn_50 rfl (lv_at hl 1 rfl) ?_
              refine lv_ldc2 hx hb hown (hts _ wd_1741) dX12_isOwn_51 ?_
              refine W.lcmp hx hb dX12_isOwn_54 ?_
              refine lv_topi (fun v_13 ev_13 => ?_)
              refine lv_if_eq (tgt := 82) hx hb dX12_isOwn_55 (by decide) (fun c_14 => ?_) (fun c_14 => ?_)
              · refine lv_iconst (v := 1) hx hb dX12_isOwn_82 (by decide) ?_
                exact hret _ _ _ _ _ _ hP hD hS dX12_isOwn_83 (In_lit (n := 1) (by decide) (by decide) : In 0 1 1) ⟨hW_w, Sm.rf, (In_lit (n := 1) (by decide) (by decide) : In 0 1 1)⟩
              · refine lv_lload_n hx hb dX12_isOwn_58 rfl (lv_at hl 1 rfl) ?_
                refine lv_ldc2 hx hb hown (hts _ wd_1742) dX12_isOwn_59 ?_
                refine W.lcmp hx hb dX12_isOwn_62 ?_
                refine lv_topi (fun v_15 ev_15 => ?_)
                refine lv_if_eq (tgt := 82) hx hb dX12_isOwn_63 (by decide) (fun c_16 => ?_) (fun c_16 => ?_)
                · refine lv_iconst (v := 1) hx hb dX12_isOwn_82 (by decide) ?_
                  exact hret _ _ _ _ _ _ hP hD hS dX12_isOwn_83 (In_lit (n := 1) (by decide) (by decide) : In 0 1 1) ⟨hW_w, Sm.rf, (In_lit (n := 1) (by decide) (by decide) : In 0 1 1)⟩
                · refine lv_lload_n hx hb dX12_isOwn_66 rfl (lv_at hl 1 rfl) ?_
                  refine lv_ldc2 hx hb hown (hts _ wd_1743) dX12_isOwn_67 ?_
                  refine W.lcmp hx hb dX12_isOwn_70 ?_
                  refine lv_topi (fun v_17 ev_17 => ?_)
                  refine lv_if_eq (tgt := 82) hx hb dX12_isOwn_71 (by decide) (fun c_18 => ?_) (fun c_18 => ?_)
                  · refine lv_iconst (v := 1) hx hb dX12_isOwn_82 (by decide) ?_
                    exact hret _ _ _ _ _ _ hP hD hS dX12_isOwn_83 (In_lit (n := 1) (by decide) (by decide) : In 0 1 1) ⟨hW_w, Sm.rf, (In_lit (n := 1) (by decide) (by decide) : In 0 1 1)⟩
                  · refine lv_lload_n hx hb dX12_isOwn_74 rfl (lv_at hl 1 rfl) ?_
                    refine lv_ldc2 hx hb hown (hts _ wd_1744) dX12_isOwn_75 ?_
                    refine W.lcmp hx hb dX12_isOwn_78 ?_
                    refine lv_topi (fun v_19 ev_19 => ?_)
                    refine lv_if_ne (tgt := 84) hx hb dX12_isOwn_79 (by decide) (fun c_20 => ?_) (fun c_20 => ?_)
                    · refine lv_lload_n hx hb dX12_isOwn_84 rfl (lv_at hl 1 rfl) ?_
                      refine lv_ldc2 hx hb hown (hts _ wd_1745) dX12_isOwn_85 ?_
                      refine W.lcmp hx hb dX12_isOwn_88 ?_
                      refine lv_topi (fun v_21 ev_21 => ?_)
                      refine lv_if_eq (tgt := 124) hx hb dX12_isOwn_89 (by decide) (fun c_22 => ?_) (fun c_22 => ?_)
                      · refine lv_iconst (v := 1) hx hb dX12_isOwn_124 (by decide) ?_
                        exact hret _ _ _ _ _ _ hP hD hS dX12_isOwn_125 (In_lit (n := 1) (by decide) (by decide) : In 0 1 1) ⟨hW_w, Sm.rf, (In_lit (n := 1) (by decide) (by decide) : In 0 1 1)⟩
                      · refine lv_lload_n hx hb dX12_isOwn_92 rfl (lv_at hl 1 rfl) ?_
                        refine lv_ldc2 hx hb hown (hts _ wd_1746) dX12_isOwn_93 ?_
                        refine W.lcmp hx hb dX12_isOwn_96 ?_
                        refine lv_topi (fun v_23 ev_23 => ?_)
                        refine lv_if_eq (tgt := 124) hx hb dX12_isOwn_97 (by decide) (fun c_24 => ?_) (fun c_24 => ?_)
                        · refine lv_iconst (v := 1) hx hb dX12_isOwn_124 (by decide) ?_
                          exact hret _ _ _ _ _ _ hP hD hS dX12_isOwn_125 (In_lit (n := 1) (by decide) (by decide) : In 0 1 1) ⟨hW_w, Sm.rf, (In_lit (n := 1) (by decide) (by decide) : In 0 1 1)⟩
                        · refine lv_lload_n hx hb dX12_isOwn_100 rfl (lv_at hl 1 rfl) ?_
                          refine lv_ldc2 hx hb hown (hts _ wd_1747) dX12_isOwn_101 ?_
                          refine W.lcmp hx hb dX12_isOwn_104 ?_
                          refine lv_topi (fun v_25 ev_25 => ?_)
                          refine lv_if_eq (tgt := 124) hx hb dX12_isOwn_105 (by decide) (fun c_26 => ?_) (fun c_26 => ?_)
                          · refine lv_iconst (v := 1) hx hb dX12_isOwn_124 (by decide) ?_
                            exact hret _ _ _ _ _ _ hP hD hS dX12_isOwn_125 (In_lit (n := 1) (by decide) (by decide) : In 0 1 1) ⟨hW_w, Sm.rf, (In_lit (n := 1) (by decide) (by decide) : In 0 1 1)⟩
                          · refine lv_lload_n hx hb dX12_isOwn_108 rfl (lv_at hl 1 rfl) ?_
                            refine lv_ldc2 hx hb hown (hts _ wd_1748) dX12_isOwn_109 ?_
                            refine W.lcmp hx hb dX12_isOwn_112 ?_
                            refine lv_topi (fun v_27 ev_27 => ?_)
                            refine lv_if_eq (tgt := 124) hx hb dX12_isOwn_113 (by decide) (fun c_28 => ?_) (fun c_28 => ?_)
                            · refine lv_iconst (v := 1) hx hb dX12_isOwn_124 (by decide) ?_
                              exact hret _ _ _ _ _ _ hP hD hS dX12_isOwn_125 (In_lit (n := 1) (by decide) (by decide) : In 0 1 1) ⟨hW_w, Sm.rf, (In_lit (n := 1) (by decide) (by decide) : In 0 1 1)⟩
                            · refine lv_lload_n hx hb dX12_isOwn_116 rfl (lv_at hl 1 rfl) ?_
                              refine lv_ldc2 hx hb hown (hts _ wd_1749) dX12_isOwn_117 ?_
                              refine W.lcmp hx hb dX12_isOwn_120 ?_
                              refine lv_topi (fun v_29 ev_29 => ?_)
                              refine lv_if_ne (tgt := 126) hx hb dX12_isOwn_121 (by decide) (fun c_30 => ?_) (fun c_30 => ?_)
                              · refine lv_lload_n hx hb dX12_isOwn_126 rfl (lv_at hl 1 rfl) ?_
                                refine lv_ldc2 hx hb hown (hts _ wd_1750) dX12_isOwn_127 ?_
                                refine W.lcmp hx hb dX12_isOwn_130 ?_
                                refine lv_topi (fun v_31 ev_31 => ?_)
                                refine lv_if_eq (tgt := 166) hx hb dX12_isOwn_131 (by decide) (fun c_32 => ?_) (fun c_32 => ?_)
                                · refine lv_iconst (v := 1) hx hb dX12_isOwn_166 (by decide) ?_
                                  exact hret _ _ _ _ _ _ hP hD hS dX12_isOwn_167 (In_lit (n := 1) (by decide) (by decide) : In 0 1 1) ⟨hW_w, Sm.rf, (In_lit (n := 1) (by decide) (by decide) : In 0 1 1)⟩
                                · refine lv_lload_n hx hb dX12_isOwn_134 rfl (lv_at hl 1 rfl) ?_
                                  refine lv_ldc2 hx hb hown (hts _ wd_1751) dX12_isOwn_135 ?_
                                  refine W.lcmp hx hb dX12_isOwn_138 ?_
                                  refine lv_topi (fun v_33 ev_33 => ?_)
                                  refine lv_if_eq (tgt := 166) hx hb dX12_isOwn_139 (by decide) (fun c_34 => ?_) (fun c_34 => ?_)
                                  · refine lv_iconst (v := 1) hx hb dX12_isOwn_166 (by decide) ?_
                                    exact hret _ _ _ _ _ _ hP hD hS dX12_isOwn_167 (In_lit (n := 1) (by decide) (by decide) : In 0 1 1) ⟨hW_w, Sm.rf, (In_lit (n := 1) (by decide) (by decide) : In 0 1 1)⟩
                                  · refine lv_lload_n hx hb dX12_isOwn_142 rfl (lv_at hl 1 rfl) ?_
                                    refine lv_ldc2 hx hb hown (hts _ wd_1752) dX12_isOwn_143 ?_
                                    refine W.lcmp hx hb dX12_isOwn_146 ?_
                                    refine lv_topi (fun v_35 ev_35 => ?_)
                                    refine lv_if_eq (tgt := 166) hx hb dX12_isOwn_147 (by decide) (fun c_36 => ?_) (fun c_36 => ?_)
                                    · refine lv_iconst (v := 1) hx hb dX12_isOwn_166 (by decide) ?_
                                      exact hret _ _ _ _ _ _ hP hD hS dX12_isOwn_167 (In_lit (n := 1) (by decide) (by decide) : In 0 1 1) ⟨hW_w, Sm.rf, (In_lit (n := 1) (by decide) (by decide) : In 0 1 1)⟩
                                    · refine lv_lload_n hx hb dX12_isOwn_150 rfl (lv_at hl 1 rfl) ?_
                                      refine lv_ldc2 hx hb hown (hts _ wd_1753) dX12_isOwn_151 ?_
                                      refine W.lcmp hx hb dX12_isOwn_154 ?_
                                      refine lv_topi (fun v_37 ev_37 => ?_)
                                      refine lv_if_eq (tgt := 166) hx hb dX12_isOwn_155 (by decide) (fun c_38 => ?_) (fun c_38 => ?_)
                                      · refine lv_iconst (v := 1) hx hb dX12_isOwn_166 (by decide) ?_
                                        exact hret _ _ _ _ _ _ hP hD hS dX12_isOwn_167 (In_lit (n := 1) (by decide) (by decide) : In 0 1 1) ⟨hW_w, Sm.rf, (In_lit (n := 1) (by decide) (by decide) : In 0 1 1)⟩
                                      · refine lv_lload_n hx hb dX12_isOwn_158 rfl (lv_at hl 1 rfl) ?_
                                        refine lv_ldc2 hx hb hown (hts _ wd_1754) dX12_isOwn_159 ?_
                                        refine W.lcmp hx hb dX12_isOwn_162 ?_
                                        refine lv_topi (fun v_39 ev_39 => ?_)
                                        refine lv_if_ne (tgt := 168) hx hb dX12_isOwn_163 (by decide) (fun c_40 => ?_) (fun c_40 => ?_)
                                        · refine lv_lload_n hx hb dX12_isOwn_168 rfl (lv_at hl 1 rfl) ?_
                                          refine lv_ldc2 hx hb hown (hts _ wd_1755) dX12_isOwn_169 ?_
                                          refine W.lcmp hx hb dX12_isOwn_172 ?_
                                          refine lv_topi (fun v_41 ev_41 => ?_)
                                          refine lv_if_eq (tgt := 184) hx hb dX12_isOwn_173 (by decide) (fun c_42 => ?_) (fun c_42 => ?_)
                                          · refine lv_iconst (v := 1) hx hb dX12_isOwn_184 (by decide) ?_
                                            exact hret _ _ _ _ _ _ hP hD hS dX12_isOwn_185 (In_lit (n := 1) (by decide) (by decide) : In 0 1 1) ⟨hW_w, Sm.rf, (In_lit (n := 1) (by decide) (by decide) : In 0 1 1)⟩
                                          · refine lv_lload_n hx hb dX12_isOwn_176 rfl (lv_at hl 1 rfl) ?_
                                            refine lv_ldc2 hx hb hown (hts _ wd_1756) dX12_isOwn_177 ?_
                                            refine W.lcmp hx hb dX12_isOwn_180 ?_
                                            refine lv_topi (fun v_43 ev_43 => ?_)
                                            refine lv_if_ne (tgt := 186) hx hb dX12_isOwn_181 (by decide) (fun c_44 => ?_) (fun c_44 => ?_)
                                            · refine lv_iconst (v := 0) hx hb dX12_isOwn_186 (by decide) ?_
                                              exact hret _ _ _ _ _ _ hP hD hS dX12_isOwn_187 (In_lit (n := 0) (by decide) (by decide) : In 0 1 0) ⟨hW_w, Sm.rf, (In_lit (n := 0) (by decide) (by decide) : In 0 1 0)⟩
                                            · refine lv_iconst (v := 1) hx hb dX12_isOwn_184 (by decide) ?_
                                              exact hret _ _ _ _ _ _ hP hD hS dX12_isOwn_185 (In_lit (n := 1) (by decide) (by decide) : In 0 1 1) ⟨hW_w, Sm.rf, (In_lit (n := 1) (by decide) (by decide) : In 0 1 1)⟩
                                        · refine lv_iconst (v := 1) hx hb dX12_isOwn_166 (by decide) ?_
                                          exact hret _ _ _ _ _ _ hP hD hS dX12_isOwn_167 (In_lit (n := 1) (by decide) (by decide) : In 0 1 1) ⟨hW_w, Sm.rf, (In_lit (n := 1) (by decide) (by decide) : In 0 1 1)⟩
                              · refine lv_iconst (v := 1) hx hb dX12_isOwn_124 (by decide) ?_
                                exact hret _ _ _ _ _ _ hP hD hS dX12_isOwn_125 (In_lit (n := 1) (by decide) (by decide) : In 0 1 1) ⟨hW_w, Sm.rf, (In_lit (n := 1) (by decide) (by decide) : In 0 1 1)⟩
                    · refine lv_iconst (v := 1) hx hb dX12_isOwn_82 (by decide) ?_
                      exact hret _ _ _ _ _ _ hP hD hS dX12_isOwn_83 (In_lit (n := 1) (by decide) (by decide) : In 0 1 1) ⟨hW_w, Sm.rf, (In_lit (n := 1) (by decide) (by decide) : In 0 1 1)⟩
          · refine lv_iconst (v := 1) hx hb dX12_isOwn_40 (by decide) ?_
            exact hret _ _ _ _ _ _ hP hD hS dX12_isOwn_41 (In_lit (n := 1) (by decide) (by decide) : In 0 1 1) ⟨hW_w, Sm.rf, (In_lit (n := 1) (by decide) (by decide) : In 0 1 1)⟩
set_option maxRecDepth 100000 in
set_option maxHeartbeats 8000000 in
theorem k_X12_isSign (l : Launch) (D : va_G) (cI cJ cZ : ClassId) (q : Nat → Nat) (w : va_W) (hW_w : HT q (TM q cI cJ cZ) w) (p1 : Int32) (i_p1 : In 40 93 p1) (hf_0_1 : In 0 0 (fI w 0 1)) : Con_i l yX12_isSign cX12_isSign 2 (some .boolean) ({ frames := 0, cells := 0, slots := 0, locals := 0 }) D cI cJ cZ eW [.ref (q 0), .int p1] w (fun (r : Int32) (w1 : va_W) => HT q (TM q cI cJ cZ) w1 ∧ Sm [] [] w w1 ∧ In 0 1 r ∧ ((¬ r = 0 → fI w 0 3 = 3))) := by
  refine eQ_z rfl (by decide) (Nat.le_of_ble_eq_true rfl) ⟨rfl, rfl⟩ ?_
  intro p e R s m args below meth c A Q hx hb hml hown hts hK hE hA hR hret hP hD hS ls hl
  have hown : s.vm.findClass RX12 = some m.cls := hown
  have hl : lv_has ls 2 [(0, .ref (q 0)), (1, .int p1)] := hl
  refine lv_aload_n hx hb dX12_isSign_0 rfl (lv_at hl 0 rfl) ?_
  refine gt_X12 hx hb hts hown hK hP 0 (hW_w.o tM_0) 3 (by decide) wd_1404 rfl (hW_w.fi tM_0 rfl) dX12_isSign_1 ?_
  refine lv_iconst (v := 3) hx hb dX12_isSign_4 (by decide) ?_
  refine lv_icmp_ne (tgt := 20) hx hb dX12_isSign_5 (by decide) (fun c_1 => ?_) (fun c_1 => ?_)
  · refine lv_iconst (v := 0) hx hb dX12_isSign_20 (by decide) ?_
    exact hret _ _ _ _ _ _ hP hD hS dX12_isSign_21 (In_lit (n := 0) (by decide) (by decide) : In 0 1 0) ⟨hW_w, Sm.rf, (In_lit (n := 0) (by decide) (by decide) : In 0 1 0), (fun h => absurd rfl h)⟩
  · refine lv_aload_n hx hb dX12_isSign_8 rfl (lv_at hl 0 rfl) ?_
    refine gt_X12 hx hb hts hown hK hP 0 (hW_w.o tM_0) 6 (by decide) wd_1407 rfl (hW_w.fi tM_0 rfl) dX12_isSign_9 ?_
    refine lv_iload_n hx hb dX12_isSign_12 rfl (lv_at hl 1 rfl) ?_
    refine lv_icmp_ne (tgt := 20) hx hb dX12_isSign_13 (by decide) (fun c_2 => ?_) (fun c_2 => ?_)
    · refine lv_iconst (v := 0) hx hb dX12_isSign_20 (by decide) ?_
      exact hret _ _ _ _ _ _ hP hD hS dX12_isSign_21 (In_lit (n := 0) (by decide) (by decide) : In 0 1 0) ⟨hW_w, Sm.rf, (In_lit (n := 0) (by decide) (by decide) : In 0 1 0), (fun h => absurd rfl h)⟩
    · refine lv_iconst (v := 1) hx hb dX12_isSign_16 (by decide) ?_
      refine lv_goto (tgt := 21) hx hb dX12_isSign_17 (by decide) ?_
      exact hret _ _ _ _ _ _ hP hD hS dX12_isSign_21 (In_lit (n := 1) (by decide) (by decide) : In 0 1 1) ⟨hW_w, Sm.rf, (In_lit (n := 1) (by decide) (by decide) : In 0 1 1), (fun _ => c_1)⟩
set_option maxRecDepth 100000 in
set_option maxHeartbeats 8000000 in
theorem k_X12_mark (l : Launch) (D : va_G) (cI cJ cZ : ClassId) (q : Nat → Nat) (w : va_W) (hW_w : HT q (TM q cI cJ cZ) w) (p1 : Int64) (p2 : Int32) (hf_0_1 : In 0 0 (fI w 0 1)) : Con_i l yX12_mark cX12_mark 5 (some .int) ({ frames := 2, cells := 0, slots := 0, locals := 47 }) D cI cJ cZ eW [.ref (q 0), .long p1, .int p2] w (fun (r : Int32) (w1 : va_W) => HT q (TM q cI cJ cZ) w1 ∧ Sm [0, 3, 7] [(0, 3), (0, 4), (0, 5), (0, 6), (0, 7), (0, 8), (0, 9)] w w1 ∧ (1 ≤ (fI w 0 8).toInt → 1 ≤ (fI w1 0 8).toInt) ∧ (Pc w w1)) := by
  refine eQ_i rfl (by decide) (Nat.le_of_ble_eq_true rfl) ⟨rfl, rfl⟩ ?_
  intro p e R s m args below meth c A Q hx hb hml hown hts hK hE hA hR hret hP hD hS ls hl
  have hown : s.vm.findClass RX12 = some m.cls := hown
  have hl : lv_has ls 5 [(0, .ref (q 0)), (1, .long p1), (3, .int p2)] := hl
  refine lv_aload_n hx hb dX12_mark_0 rfl (lv_at hl 0 rfl) ?_
  refine gt_X12 hx hb hts hown hK hP 0 (hW_w.o tM_0) 8 (by decide) wd_1409 rfl (hW_w.fi tM_0 rfl) dX12_mark_1 ?_
  refine lv_if_ne (tgt := 35) hx hb dX12_mark_4 (by decide) (fun c_1 => ?_) (fun c_1 => ?_)
  · refine lv_aload_n hx hb dX12_mark_35 rfl (lv_at hl 0 rfl) ?_
    refine gt_X12 hx hb hts hown hK hP 0 (hW_w.o tM_0) 8 (by decide) wd_1409 rfl (hW_w.fi tM_0 rfl) dX12_mark_36 ?_
    refine lv_if_le (tgt := 44) hx hb dX12_mark_39 (by decide) (fun c_2 => ?_) (fun c_2 => ?_)
    · exact (In_no (R_le_l (R_ne_l (hW_w.fin tM_0 rfl : In 0 5 (fI w 0 8)) (In_lit (n := 0) (by decide) (by decide) : In 0 0 0) c_1 (by decide) : In 1 5 (fI w 0 8)) (In_lit (n := 0) (by decide) (by decide) : In 0 0 0) c_2 (by decide) : In 1 0 (fI w 0 8)) (by decide)).elim
    · refine lv_iload_n hx hb dX12_mark_42 rfl (lv_at hl 2 rfl) ?_
      exact hret _ _ _ _ _ _ hP hD hS dX12_mark_43 ⟨hW_w, Sm.rf, (by intro hh; have i0_8 := (R_ne_l (hW_w.fin tM_0 rfl : In 0 5 (fI w 0 8)) (In_lit (n := 0) (by decide) (by decide) : In 0 0 0) c_1 (by decide) : In 1 5 (fI w 0 8)); unfold In at i0_8; omega), (Pc_flt (by skip; omega) (by intro q; have e : (fI w 0 8).toInt = (0 : Int32).toInt := congrArg Int32.toInt q; have z : (0 : Int32).toInt = 0 := (by decide); have i0_8 := (R_ne_l (hW_w.fin tM_0 rfl : In 0 5 (fI w 0 8)) (In_lit (n := 0) (by decide) (by decide) : In 0 0 0) c_1 (by decide) : In 1 5 (fI w 0 8)); unfold In at i0_8; omega))⟩
  · refine lv_aload_n hx hb dX12_mark_7 rfl (lv_at hl 0 rfl) ?_
    refine gt_X12 hx hb hts hown hK hP 0 (hW_w.o tM_0) 3 (by decide) wd_1404 rfl (hW_w.fi tM_0 rfl) dX12_mark_8 ?_
    refine lv_iconst (v := 1) hx hb dX12_mark_11 (by decide) ?_
    refine lv_icmp_ne (tgt := 26) hx hb dX12_mark_12 (by decide) (fun c_3 => ?_) (fun c_3 => ?_)
    · refine lv_aload_n hx hb dX12_mark_26 rfl (lv_at hl 0 rfl) ?_
      refine lv_iconst (v := 1) hx hb dX12_mark_27 (by decide) ?_
      refine lv_aload_n hx hb dX12_mark_28 rfl (lv_at hl 0 rfl) ?_
      refine gt_X12 hx hb hts hown hK hP 0 (hW_w.o tM_0) 4 (by decide) wd_1405 rfl (hW_w.fi tM_0 rfl) dX12_mark_29 ?_
      refine kW_v ⟨rfl, rfl⟩ hP hD hS hA (rW_V (As := [.int 1, .int (fI w 0 4)]) (rest := []) hx hb hml hown hts hK hE hP hD (k_X12_blame l D cI cJ cZ q w hW_w 1 (fI w 0 4) (In_lit (n := 1) (by decide) (by decide) : In 1 5 1) (hW_w.fin tM_0 rfl : In 0 1000 (fI w 0 4)) hf_0_1 _) ⟨⟨rfl, rfl⟩, rfl, rfl⟩ sv_X12_308 ⟨(Nat.le_trans (by decide) hR.1), (Nat.le_trans (by decide) hR.2)⟩ 0 12 (hW_w.o tM_0) rfl rfl rfl hl.1 rfl (Nat.le_of_ble_eq_true rfl) dX12_mark_32) (fun w_4 H locs hw_w_4 hP hD hS => ?_)
      obtain ⟨hW_w_4, hs_w_4, h_6, h_7⟩ := hw_w_4
      have f_h_7 : 1 ≤ ((fI w 0 8) : Int32).toInt → 1 ≤ (fI w_4 0 8).toInt := (by intro hh; exact h_7 (by omega))
      refine lv_aload_n hx hb dX12_mark_35 rfl (lv_at hl 0 rfl) ?_
      refine gt_X12 hx hb hts hown hK hP 0 (hW_w_4.o tM_0) 8 (by decide) wd_1409 rfl (hW_w_4.fi tM_0 rfl) dX12_mark_36 ?_
      refine lv_if_le (tgt := 44) hx hb dX12_mark_39 (by decide) (fun c_8 => ?_) (fun c_8 => ?_)
      · exact (In_no (R_le_l h_6 (In_lit (n := 0) (by decide) (by decide) : In 0 0 0) c_8 (by decide) : In 1 0 (fI w_4 0 8)) (by decide)).elim
      · refine lv_iload_n hx hb dX12_mark_42 rfl (lv_at hl 2 rfl) ?_
        exact hret _ _ _ _ _ _ hP hD hS dX12_mark_43 ⟨hW_w_4, (Sm.rf.tr hs_w_4 (by decide)), (by intro hh; have i0_8 := h_6; unfold In at i0_8; omega), (Pc_flt (by have r_w_4 : (fI w_4 0 5).toInt = (fI w 0 5).toInt := congrArg Int32.toInt (hs_w_4.2 0 5 (by decide) (by decide)); skip; omega) (by intro q; have e : (fI w_4 0 8).toInt = (0 : Int32).toInt := congrArg Int32.toInt q; have z : (0 : Int32).toInt = 0 := (by decide); have i0_8 := h_6; unfold In at i0_8; omega))⟩
    · refine lv_aload_n hx hb dX12_mark_15 rfl (lv_at hl 0 rfl) ?_
      refine lv_aload_n hx hb dX12_mark_16 rfl (lv_at hl 0 rfl) ?_
      refine gt_X12 hx hb hts hown hK hP 0 (hW_w.o tM_0) 7 (by decide) wd_1408 rfl (hW_w.fl tM_0 rfl) dX12_mark_17 ?_
      refine kW_i ⟨rfl, rfl⟩ hP hD hS hA (rW_V (As := [.long (fL w 0 7)]) (rest := []) hx hb hml hown hts hK hE hP hD (k_X12_isOwn l D cI cJ cZ q w hW_w (fL w 0 7) hf_0_1 _) ⟨⟨rfl, rfl⟩, rfl, rfl⟩ sv_X12_395 ⟨(Nat.le_trans (by decide) hR.1), (Nat.le_trans (by decide) hR.2)⟩ 0 12 (hW_w.o tM_0) rfl rfl rfl hl.1 rfl (Nat.le_of_ble_eq_true rfl) dX12_mark_20) (fun r_10 w_9 H locs hw_w_9 hP hD hS => ?_)
      obtain ⟨hW_w_9, hs_w_9, i_r_10⟩ := hw_w_9
      refine lv_if_eq (tgt := 35) hx hb dX12_mark_23 (by decide) (fun c_11 => ?_) (fun c_11 => ?_)
      · refine lv_aload_n hx hb dX12_mark_35 rfl (lv_at hl 0 rfl) ?_
        refine gt_X12 hx hb hts hown hK hP 0 (hW_w_9.o tM_0) 8 (by decide) wd_1409 rfl (hW_w_9.fi tM_0 rfl) dX12_mark_36 ?_
        refine tov (v := (fI w 0 8)) (hs_w_9.gI (by decide)) ?_
        refine lv_if_le (tgt := 44) hx hb dX12_mark_39 (by decide) (fun c_12 => ?_) (fun c_12 => ?_)
        · refine lv_aload_n hx hb dX12_mark_44 rfl (lv_at hl 0 rfl) ?_
          refine lv_aload_n hx hb dX12_mark_45 rfl (lv_at hl 0 rfl) ?_
          refine gt_X12 hx hb hts hown hK hP 0 (hW_w_9.o tM_0) 7 (by decide) wd_1408 rfl (hW_w_9.fl tM_0 rfl) dX12_mark_46 ?_
          refine tol (v := (fL w 0 7)) (hs_w_9.gL (by decide)) ?_
          refine kW_i ⟨rfl, rfl⟩ hP hD hS hA (rW_V (As := [.long (fL w 0 7)]) (rest := []) hx hb hml hown hts hK hE hP hD (k_X12_findMark l D cI cJ cZ q w_9 hW_w_9 (fL w 0 7) (In_of (hs_w_9.gI (by decide)) hf_0_1) (In_of (hs_w_9.gI (by decide)) (R_eq_l (hW_w.fin tM_0 rfl : In 0 5 (fI w 0 8)) (In_lit (n := 0) (by decide) (by decide) : In 0 0 0) c_1 (by decide) : In 0 0 (fI w 0 8))) _) ⟨⟨rfl, rfl⟩, rfl, rfl⟩ sv_X12_402 ⟨(Nat.le_trans (by decide) hR.1), (Nat.le_trans (by decide) hR.2)⟩ 0 12 (hW_w_9.o tM_0) rfl rfl rfl hl.1 rfl (Nat.le_of_ble_eq_true rfl) dX12_mark_49) (fun r_14 w_13 H locs hw_w_13 hP hD hS => ?_)
          obtain ⟨hW_w_13, hs_w_13, i_r_14⟩ := hw_w_13
          refine lv_istore (lv' := [(4, .int r_14), (0, .ref (q 0)), (1, .long p1), (3, .int p2)]) hx hb dX12_mark_52 hl (by decide) rfl (fun ls hl => ?_)
          refine lv_aload_n hx hb dX12_mark_54 rfl (lv_at hl 1 rfl) ?_
          refine gt_X12 hx hb hts hown hK hP 0 (hW_w_13.o tM_0) 7 (by decide) wd_1408 rfl (hW_w_13.fl tM_0 rfl) dX12_mark_55 ?_
          refine tol (v := (fL w 0 7)) ((hs_w_13.gL (by decide)).trans (hs_w_9.gL (by decide))) ?_
          refine lv_lload_n hx hb dX12_mark_58 rfl (lv_at hl 2 rfl) ?_
          refine W.lcmp hx hb dX12_mark_59 ?_
          refine lv_topi (fun v_15 ev_15 => ?_)
          refine lv_if_eq (tgt := 89) hx hb dX12_mark_60 (by decide) (fun c_16 => ?_) (fun c_16 => ?_)
          · refine lv_aload_n hx hb dX12_mark_89 rfl (lv_at hl 1 rfl) ?_
            refine lv_iconst (v := 2) hx hb dX12_mark_90 (by decide) ?_
            refine lv_aload_n hx hb dX12_mark_91 rfl (lv_at hl 1 rfl) ?_
            refine gt_X12 hx hb hts hown hK hP 0 (hW_w_13.o tM_0) 4 (by decide) wd_1405 rfl (hW_w_13.fi tM_0 rfl) dX12_mark_92 ?_
            refine tov (v := (fI w 0 4)) ((hs_w_13.gI (by decide)).trans (hs_w_9.gI (by decide))) ?_
            refine kW_v ⟨rfl, rfl⟩ hP hD hS hA (rW_V (As := [.int 2, .int (fI w 0 4)]) (rest := []) hx hb hml hown hts hK hE hP hD (k_X12_blame l D cI cJ cZ q w_13 hW_w_13 2 (fI w 0 4) (In_lit (n := 2) (by decide) (by decide) : In 1 5 2) (hW_w.fin tM_0 rfl : In 0 1000 (fI w 0 4)) (In_of ((hs_w_13.gI (by decide)).trans (hs_w_9.gI (by decide))) hf_0_1) _) ⟨⟨rfl, rfl⟩, rfl, rfl⟩ sv_X12_308 ⟨(Nat.le_trans (by decide) hR.1), (Nat.le_trans (by decide) hR.2)⟩ 0 12 (hW_w_13.o tM_0) rfl rfl rfl hl.1 rfl (Nat.le_of_ble_eq_true rfl) dX12_mark_95) (fun w_17 H locs hw_w_17 hP hD hS => ?_)
            obtain ⟨hW_w_17, hs_w_17, h_19, h_20⟩ := hw_w_17
            have f_h_20 : 1 ≤ ((fI w 0 8) : Int32).toInt → 1 ≤ (fI w_17 0 8).toInt := (by intro hh; have ee : (fI w_13 0 8).toInt = ((fI w 0 8) : Int32).toInt := congrArg Int32.toInt ((hs_w_13.gI (by decide)).trans (hs_w_9.gI (by decide))); exact h_20 (by omega))
            refine lv_iload hx hb dX12_mark_98 (lv_at hl 0 rfl) ?_
            refine lv_if_ge (tgt := 126) hx hb dX12_mark_100 (by decide) (fun c_21 => ?_) (fun c_21 => ?_)
            · refine lv_aload_n hx hb dX12_mark_126 rfl (lv_at hl 1 rfl) ?_
              refine gt_X12 hx hb hts hown hK hP 0 (hW_w_17.o tM_0) 8 (by decide) wd_1409 rfl (hW_w_17.fi tM_0 rfl) dX12_mark_127 ?_
              refine lv_if_le (tgt := 135) hx hb dX12_mark_130 (by decide) (fun c_22 => ?_) (fun c_22 => ?_)
              · exact (In_no (R_le_l h_19 (In_lit (n := 0) (by decide) (by decide) : In 0 0 0) c_22 (by decide) : In 1 0 (fI w_17 0 8)) (by decide)).elim
              · refine lv_iload_n hx hb dX12_mark_133 rfl (lv_at hl 3 rfl) ?_
                exact hret _ _ _ _ _ _ hP hD hS dX12_mark_134 ⟨hW_w_17, (((Sm.rf.tr hs_w_9 (by decide)).tr hs_w_13 (by decide)).tr hs_w_17 (by decide)), (by intro hh; have i0_8 := h_19; unfold In at i0_8; omega), (Pc_flt (by have r_w_17 : (fI w_17 0 5).toInt = (fI w_13 0 5).toInt := congrArg Int32.toInt (hs_w_17.2 0 5 (by decide) (by decide)); have r_w_13 : (fI w_13 0 5).toInt = (fI w_9 0 5).toInt := congrArg Int32.toInt (hs_w_13.gI (by decide)); have r_w_9 : (fI w_9 0 5).toInt = (fI w 0 5).toInt := congrArg Int32.toInt (hs_w_9.gI (by decide)); skip; omega) (by intro q; have e : (fI w_17 0 8).toInt = (0 : Int32).toInt := congrArg Int32.toInt q; have z : (0 : Int32).toInt = 0 := (by decide); have i0_8 := h_19; unfold In at i0_8; omega))⟩
            · refine lv_aload_n hx hb dX12_mark_103 rfl (lv_at hl 1 rfl) ?_
              refine gt_X12 hx hb hts hown hK hP 0 (hW_w_17.o tM_0) 15 (by decide) wd_1416 rfl (hW_w_17.fr tM_0 rfl) dX12_mark_104 ?_
              refine lv_aload_n hx hb dX12_mark_107 rfl (lv_at hl 1 rfl) ?_
              refine gt_X12 hx hb hts hown hK hP 0 (hW_w_17.o tM_0) 13 (by decide) wd_1414 rfl (hW_w_17.fi tM_0 rfl) dX12_mark_108 ?_
              refine tov (v := (fI w 0 13)) ((hs_w_17.2 0 13 (by decide) (by decide)).trans ((hs_w_13.gI (by decide)).trans (hs_w_9.gI (by decide)))) ?_
              refine va_iald hx hb hK hP 3 0 (hW_w_17.a tM_3) rfl (in_I (hW_w.fin tM_0 rfl : In 0 1 (fI w 0 13)) (by decide)) dX12_mark_111 ?_
              refine lv_topi (fun v_23 ev_23 => ?_)
              refine lv_bipush (v := 8) hx hb dX12_mark_112 (by decide) ?_
              refine lv_icmp_ne (tgt := 126) hx hb dX12_mark_114 (by decide) (fun c_24 => ?_) (fun c_24 => ?_)
              · refine lv_aload_n hx hb dX12_mark_126 rfl (lv_at hl 1 rfl) ?_
                refine gt_X12 hx hb hts hown hK hP 0 (hW_w_17.o tM_0) 8 (by decide) wd_1409 rfl (hW_w_17.fi tM_0 rfl) dX12_mark_127 ?_
                refine lv_if_le (tgt := 135) hx hb dX12_mark_130 (by decide) (fun c_25 => ?_) (fun c_25 => ?_)
                · exact (In_no (R_le_l h_19 (In_lit (n := 0) (by decide) (by decide) : In 0 0 0) c_25 (by decide) : In 1 0 (fI w_17 0 8)) (by decide)).elim
                · refine lv_iload_n hx hb dX12_mark_133 rfl (lv_at hl 3 rfl) ?_
                  exact hret _ _ _ _ _ _ hP hD hS dX12_mark_134 ⟨hW_w_17, (((Sm.rf.tr hs_w_9 (by decide)).tr hs_w_13 (by decide)).tr hs_w_17 (by decide)), (by intro hh; have i0_8 := h_19; unfold In at i0_8; omega), (Pc_flt (by have r_w_17 : (fI w_17 0 5).toInt = (fI w_13 0 5).toInt := congrArg Int32.toInt (hs_w_17.2 0 5 (by decide) (by decide)); have r_w_13 : (fI w_13 0 5).toInt = (fI w_9 0 5).toInt := congrArg Int32.toInt (hs_w_13.gI (by decide)); have r_w_9 : (fI w_9 0 5).toInt = (fI w 0 5).toInt := congrArg Int32.toInt (hs_w_9.gI (by decide)); skip; omega) (by intro q; have e : (fI w_17 0 8).toInt = (0 : Int32).toInt := congrArg Int32.toInt q; have z : (0 : Int32).toInt = 0 := (by decide); have i0_8 := h_19; unfold In at i0_8; omega))⟩
              · refine lv_aload_n hx hb dX12_mark_117 rfl (lv_at hl 1 rfl) ?_
                refine lv_iconst (v := 5) hx hb dX12_mark_118 (by decide) ?_
                refine lv_aload_n hx hb dX12_mark_119 rfl (lv_at hl 1 rfl) ?_
                refine gt_X12 hx hb hts hown hK hP 0 (hW_w_17.o tM_0) 4 (by decide) wd_1405 rfl (hW_w_17.fi tM_0 rfl) dX12_mark_120 ?_
                refine tov (v := (fI w 0 4)) ((hs_w_17.2 0 4 (by decide) (by decide)).trans ((hs_w_13.gI (by decide)).trans (hs_w_9.gI (by decide)))) ?_
                refine kW_v ⟨rfl, rfl⟩ hP hD hS hA (rW_V (As := [.int 5, .int (fI w 0 4)]) (rest := []) hx hb hml hown hts hK hE hP hD (k_X12_blame l D cI cJ cZ q w_17 hW_w_17 5 (fI w 0 4) (In_lit (n := 5) (by decide) (by decide) : In 1 5 5) (hW_w.fin tM_0 rfl : In 0 1000 (fI w 0 4)) (In_of ((hs_w_17.2 0 1 (by decide) (by decide)).trans ((hs_w_13.gI (by decide)).trans (hs_w_9.gI (by decide)))) hf_0_1) _) ⟨⟨rfl, rfl⟩, rfl, rfl⟩ sv_X12_308 ⟨(Nat.le_trans (by decide) hR.1), (Nat.le_trans (by decide) hR.2)⟩ 0 12 (hW_w_17.o tM_0) rfl rfl rfl hl.1 rfl (Nat.le_of_ble_eq_true rfl) dX12_mark_123) (fun w_26 H locs hw_w_26 hP hD hS => ?_)
                obtain ⟨hW_w_26, hs_w_26, h_28, h_29⟩ := hw_w_26
                have f_h_29 : 1 ≤ ((fI w_17 0 8) : Int32).toInt → 1 ≤ (fI w_26 0 8).toInt := (by intro hh; exact h_29 (by omega))
                refine lv_aload_n hx hb dX12_mark_126 rfl (lv_at hl 1 rfl) ?_
                refine gt_X12 hx hb hts hown hK hP 0 (hW_w_26.o tM_0) 8 (by decide) wd_1409 rfl (hW_w_26.fi tM_0 rfl) dX12_mark_127 ?_
                refine lv_if_le (tgt := 135) hx hb dX12_mark_130 (by decide) (fun c_30 => ?_) (fun c_30 => ?_)
                · exact (In_no (R_le_l h_28 (In_lit (n := 0) (by decide) (by decide) : In 0 0 0) c_30 (by decide) : In 1 0 (fI w_26 0 8)) (by decide)).elim
                · refine lv_iload_n hx hb dX12_mark_133 rfl (lv_at hl 3 rfl) ?_
                  exact hret _ _ _ _ _ _ hP hD hS dX12_mark_134 ⟨hW_w_26, ((((Sm.rf.tr hs_w_9 (by decide)).tr hs_w_13 (by decide)).tr hs_w_17 (by decide)).tr hs_w_26 (by decide)), (by intro hh; have i0_8 := h_28; unfold In at i0_8; omega), (Pc_flt (by have r_w_26 : (fI w_26 0 5).toInt = (fI w_17 0 5).toInt := congrArg Int32.toInt (hs_w_26.2 0 5 (by decide) (by decide)); have r_w_17 : (fI w_17 0 5).toInt = (fI w_13 0 5).toInt := congrArg Int32.toInt (hs_w_17.2 0 5 (by decide) (by decide)); have r_w_13 : (fI w_13 0 5).toInt = (fI w_9 0 5).toInt := congrArg Int32.toInt (hs_w_13.gI (by decide)); have r_w_9 : (fI w_9 0 5).toInt = (fI w 0 5).toInt := congrArg Int32.toInt (hs_w_9.gI (by decide)); skip; omega) (by intro q; have e : (fI w_26 0 8).toInt = (0 : Int32).toInt := congrArg Int32.toInt q; have z : (0 : Int32).toInt = 0 := (by decide); have i0_8 := h_28; unfold In at i0_8; omega))⟩
          · refine lv_aload_n hx hb dX12_mark_63 rfl (lv_at hl 1 rfl) ?_
            refine lv_aload_n hx hb dX12_mark_64 rfl (lv_at hl 1 rfl) ?_
            refine gt_X12 hx hb hts hown hK hP 0 (hW_w_13.o tM_0) 7 (by decide) wd_1408 rfl (hW_w_13.fl tM_0 rfl) dX12_mark_65 ?_
            refine tol (v := (fL w 0 7)) ((hs_w_13.gL (by decide)).trans (hs_w_9.gL (by decide))) ?_
            refine kW_i ⟨rfl, rfl⟩ hP hD hS hA (rW_V (As := [.long (fL w 0 7)]) (rest := []) hx hb hml hown hts hK hE hP hD (k_X12_findKind l D cI cJ cZ q w_13 hW_w_13 (fL w 0 7) (In_of ((hs_w_13.gI (by decide)).trans (hs_w_9.gI (by decide))) hf_0_1) (In_of ((hs_w_13.gI (by decide)).trans (hs_w_9.gI (by decide))) (R_eq_l (hW_w.fin tM_0 rfl : In 0 5 (fI w 0 8)) (In_lit (n := 0) (by decide) (by decide) : In 0 0 0) c_1 (by decide) : In 0 0 (fI w 0 8))) _) ⟨⟨rfl, rfl⟩, rfl, rfl⟩ sv_X12_398 ⟨(Nat.le_trans (by decide) hR.1), (Nat.le_trans (by decide) hR.2)⟩ 0 12 (hW_w_13.o tM_0) rfl rfl rfl hl.1 rfl (Nat.le_of_ble_eq_true rfl) dX12_mark_68) (fun r_32 w_31 H locs hw_w_31 hP hD hS => ?_)
            obtain ⟨hW_w_31, hs_w_31, i_r_32⟩ := hw_w_31
            refine lv_if_ge (tgt := 89) hx hb dX12_mark_71 (by decide) (fun c_33 => ?_) (fun c_33 => ?_)
            · refine lv_aload_n hx hb dX12_mark_89 rfl (lv_at hl 1 rfl) ?_
              refine lv_iconst (v := 2) hx hb dX12_mark_90 (by decide) ?_
              refine lv_aload_n hx hb dX12_mark_91 rfl (lv_at hl 1 rfl) ?_
              refine gt_X12 hx hb hts hown hK hP 0 (hW_w_31.o tM_0) 4 (by decide) wd_1405 rfl (hW_w_31.fi tM_0 rfl) dX12_mark_92 ?_
              refine tov (v := (fI w 0 4)) ((hs_w_31.gI (by decide)).trans ((hs_w_13.gI (by decide)).trans (hs_w_9.gI (by decide)))) ?_
              refine kW_v ⟨rfl, rfl⟩ hP hD hS hA (rW_V (As := [.int 2, .int (fI w 0 4)]) (rest := []) hx hb hml hown hts hK hE hP hD (k_X12_blame l D cI cJ cZ q w_31 hW_w_31 2 (fI w 0 4) (In_lit (n := 2) (by decide) (by decide) : In 1 5 2) (hW_w.fin tM_0 rfl : In 0 1000 (fI w 0 4)) (In_of ((hs_w_31.gI (by decide)).trans ((hs_w_13.gI (by decide)).trans (hs_w_9.gI (by decide)))) hf_0_1) _) ⟨⟨rfl, rfl⟩, rfl, rfl⟩ sv_X12_308 ⟨(Nat.le_trans (by decide) hR.1), (Nat.le_trans (by decide) hR.2)⟩ 0 12 (hW_w_31.o tM_0) rfl rfl rfl hl.1 rfl (Nat.le_of_ble_eq_true rfl) dX12_mark_95) (fun w_34 H locs hw_w_34 hP hD hS => ?_)
              obtain ⟨hW_w_34, hs_w_34, h_36, h_37⟩ := hw_w_34
              have f_h_37 : 1 ≤ ((fI w 0 8) : Int32).toInt → 1 ≤ (fI w_34 0 8).toInt := (by intro hh; have ee : (fI w_31 0 8).toInt = ((fI w 0 8) : Int32).toInt := congrArg Int32.toInt ((hs_w_31.gI (by decide)).trans ((hs_w_13.gI (by decide)).trans (hs_w_9.gI (by decide)))); exact h_37 (by omega))
              refine lv_iload hx hb dX12_mark_98 (lv_at hl 0 rfl) ?_
              refine lv_if_ge (tgt := 126) hx hb dX12_mark_100 (by decide) (fun c_38 => ?_) (fun c_38 => ?_)
              · refine lv_aload_n hx hb dX12_mark_126 rfl (lv_at hl 1 rfl) ?_
                refine gt_X12 hx hb hts hown hK hP 0 (hW_w_34.o tM_0) 8 (by decide) wd_1409 rfl (hW_w_34.fi tM_0 rfl) dX12_mark_127 ?_
                refine lv_if_le (tgt := 135) hx hb dX12_mark_130 (by decide) (fun c_39 => ?_) (fun c_39 => ?_)
                · exact (In_no (R_le_l h_36 (In_lit (n := 0) (by decide) (by decide) : In 0 0 0) c_39 (by decide) : In 1 0 (fI w_34 0 8)) (by decide)).elim
                · refine lv_iload_n hx hb dX12_mark_133 rfl (lv_at hl 3 rfl) ?_
                  exact hret _ _ _ _ _ _ hP hD hS dX12_mark_134 ⟨hW_w_34, ((((Sm.rf.tr hs_w_9 (by decide)).tr hs_w_13 (by decide)).tr hs_w_31 (by decide)).tr hs_w_34 (by decide)), (by intro hh; have i0_8 := h_36; unfold In at i0_8; omega), (Pc_flt (by have r_w_34 : (fI w_34 0 5).toInt = (fI w_31 0 5).toInt := congrArg Int32.toInt (hs_w_34.2 0 5 (by decide) (by decide)); have r_w_31 : (fI w_31 0 5).toInt = (fI w_13 0 5).toInt := congrArg Int32.toInt (hs_w_31.gI (by decide)); have r_w_13 : (fI w_13 0 5).toInt = (fI w_9 0 5).toInt := congrArg Int32.toInt (hs_w_13.gI (by decide)); have r_w_9 : (fI w_9 0 5).toInt = (fI w 0 5).toInt := congrArg Int32.toInt (hs_w_9.gI (by decide)); skip; omega) (by intro q; have e : (fI w_34 0 8).toInt = (0 : Int32).toInt := congrArg Int32.toInt q; have z : (0 : Int32).toInt = 0 := (by decide); have i0_8 := h_36; unfold In at i0_8; omega))⟩
              · refine lv_aload_n hx hb dX12_mark_103 rfl (lv_at hl 1 rfl) ?_
                refine gt_X12 hx hb hts hown hK hP 0 (hW_w_34.o tM_0) 15 (by decide) wd_1416 rfl (hW_w_34.fr tM_0 rfl) dX12_mark_104 ?_
                refine lv_aload_n hx hb dX12_mark_107 rfl (lv_at hl 1 rfl) ?_
                refine gt_X12 hx hb hts hown hK hP 0 (hW_w_34.o tM_0) 13 (by decide) wd_1414 rfl (hW_w_34.fi tM_0 rfl) dX12_mark_108 ?_
                refine tov (v := (fI w 0 13)) ((hs_w_34.2 0 13 (by decide) (by decide)).trans ((hs_w_31.gI (by decide)).trans ((hs_w_13.gI (by decide)).trans (hs_w_9.gI (by decide))))) ?_
                refine va_iald hx hb hK hP 3 0 (hW_w_34.a tM_3) rfl (in_I (hW_w.fin tM_0 rfl : In 0 1 (fI w 0 13)) (by decide)) dX12_mark_111 ?_
                refine lv_topi (fun v_40 ev_40 => ?_)
                refine lv_bipush (v := 8) hx hb dX12_mark_112 (by decide) ?_
                refine lv_icmp_ne (tgt := 126) hx hb dX12_mark_114 (by decide) (fun c_41 => ?_) (fun c_41 => ?_)
                · refine lv_aload_n hx hb dX12_mark_126 rfl (lv_at hl 1 rfl) ?_
                  refine gt_X12 hx hb hts hown hK hP 0 (hW_w_34.o tM_0) 8 (by decide) wd_1409 rfl (hW_w_34.fi tM_0 rfl) dX12_mark_127 ?_
                  refine lv_if_le (tgt := 135) hx hb dX12_mark_130 (by decide) (fun c_42 => ?_) (fun c_42 => ?_)
                  · exact (In_no (R_le_l h_36 (In_lit (n := 0) (by decide) (by decide) : In 0 0 0) c_42 (by decide) : In 1 0 (fI w_34 0 8)) (by decide)).elim
                  · refine lv_iload_n hx hb dX12_mark_133 rfl (lv_at hl 3 rfl) ?_
                    exact hret _ _ _ _ _ _ hP hD hS dX12_mark_134 ⟨hW_w_34, ((((Sm.rf.tr hs_w_9 (by decide)).tr hs_w_13 (by decide)).tr hs_w_31 (by decide)).tr hs_w_34 (by decide)), (by intro hh; have i0_8 := h_36; unfold In at i0_8; omega), (Pc_flt (by have r_w_34 : (fI w_34 0 5).toInt = (fI w_31 0 5).toInt := congrArg Int32.toInt (hs_w_34.2 0 5 (by decide) (by decide)); have r_w_31 : (fI w_31 0 5).toInt = (fI w_13 0 5).toInt := congrArg Int32.toInt (hs_w_31.gI (by decide)); have r_w_13 : (fI w_13 0 5).toInt = (fI w_9 0 5).toInt := congrArg Int32.toInt (hs_w_13.gI (by decide)); have r_w_9 : (fI w_9 0 5).toInt = (fI w 0 5).toInt := congrArg Int32.toInt (hs_w_9.gI (by decide)); skip; omega) (by intro q; have e : (fI w_34 0 8).toInt = (0 : Int32).toInt := congrArg Int32.toInt q; have z : (0 : Int32).toInt = 0 := (by decide); have i0_8 := h_36; unfold In at i0_8; omega))⟩
                · refine lv_aload_n hx hb dX12_mark_117 rfl (lv_at hl 1 rfl) ?_
                  refine lv_iconst (v := 5) hx hb dX12_mark_118 (by decide) ?_
                  refine lv_aload_n hx hb dX12_mark_119 rfl (lv_at hl 1 rfl) ?_
                  refine gt_X12 hx hb hts hown hK hP 0 (hW_w_34.o tM_0) 4 (by decide) wd_1405 rfl (hW_w_34.fi tM_0 rfl) dX12_mark_120 ?_
                  refine tov (v := (fI w 0 4)) ((hs_w_34.2 0 4 (by decide) (by decide)).trans ((hs_w_31.gI (by decide)).trans ((hs_w_13.gI (by decide)).trans (hs_w_9.gI (by decide))))) ?_
                  refine kW_v ⟨rfl, rfl⟩ hP hD hS hA (rW_V (As := [.int 5, .int (fI w 0 4)]) (rest := []) hx hb hml hown hts hK hE hP hD (k_X12_blame l D cI cJ cZ q w_34 hW_w_34 5 (fI w 0 4) (In_lit (n := 5) (by decide) (by decide) : In 1 5 5) (hW_w.fin tM_0 rfl : In 0 1000 (fI w 0 4)) (In_of ((hs_w_34.2 0 1 (by decide) (by decide)).trans ((hs_w_31.gI (by decide)).trans ((hs_w_13.gI (by decide)).trans (hs_w_9.gI (by decide))))) hf_0_1) _) ⟨⟨rfl, rfl⟩, rfl, rfl⟩ sv_X12_308 ⟨(Nat.le_trans (by decide) hR.1), (Nat.le_trans (by decide) hR.2)⟩ 0 12 (hW_w_34.o tM_0) rfl rfl rfl hl.1 rfl (Nat.le_of_ble_eq_true rfl) dX12_mark_123) (fun w_43 H locs hw_w_43 hP hD hS => ?_)
                  obtain ⟨hW_w_43, hs_w_43, h_45, h_46⟩ := hw_w_43
                  have f_h_46 : 1 ≤ ((fI w_34 0 8) : Int32).toInt → 1 ≤ (fI w_43 0 8).toInt := (by intro hh; exact h_46 (by omega))
                  refine lv_aload_n hx hb dX12_mark_126 rfl (lv_at hl 1 rfl) ?_
                  refine gt_X12 hx hb hts hown hK hP 0 (hW_w_43.o tM_0) 8 (by decide) wd_1409 rfl (hW_w_43.fi tM_0 rfl) dX12_mark_127 ?_
                  refine lv_if_le (tgt := 135) hx hb dX12_mark_130 (by decide) (fun c_47 => ?_) (fun c_47 => ?_)
                  · exact (In_no (R_le_l h_45 (In_lit (n := 0) (by decide) (by decide) : In 0 0 0) c_47 (by decide) : In 1 0 (fI w_43 0 8)) (by decide)).elim
                  · refine lv_iload_n hx hb dX12_mark_133 rfl (lv_at hl 3 rfl) ?_
                    exact hret _ _ _ _ _ _ hP hD hS dX12_mark_134 ⟨hW_w_43, (((((Sm.rf.tr hs_w_9 (by decide)).tr hs_w_13 (by decide)).tr hs_w_31 (by decide)).tr hs_w_34 (by decide)).tr hs_w_43 (by decide)), (by intro hh; have i0_8 := h_45; unfold In at i0_8; omega), (Pc_flt (by have r_w_43 : (fI w_43 0 5).toInt = (fI w_34 0 5).toInt := congrArg Int32.toInt (hs_w_43.2 0 5 (by decide) (by decide)); have r_w_34 : (fI w_34 0 5).toInt = (fI w_31 0 5).toInt := congrArg Int32.toInt (hs_w_34.2 0 5 (by decide) (by decide)); have r_w_31 : (fI w_31 0 5).toInt = (fI w_13 0 5).toInt := congrArg Int32.toInt (hs_w_31.gI (by decide)); have r_w_13 : (fI w_13 0 5).toInt = (fI w_9 0 5).toInt := congrArg Int32.toInt (hs_w_13.gI (by decide)); have r_w_9 : (fI w_9 0 5).toInt = (fI w 0 5).toInt := congrArg Int32.toInt (hs_w_9.gI (by decide)); skip; omega) (by intro q; have e : (fI w_43 0 8).toInt = (0 : Int32).toInt := congrArg Int32.toInt q; have z : (0 : Int32).toInt = 0 := (by decide); have i0_8 := h_45; unfold In at i0_8; omega))⟩
            · refine lv_iload hx hb dX12_mark_74 (lv_at hl 0 rfl) ?_
              refine lv_if_lt (tgt := 98) hx hb dX12_mark_76 (by decide) (fun c_48 => ?_) (fun c_48 => ?_)
              · refine lv_iload hx hb dX12_mark_98 (lv_at hl 0 rfl) ?_
                refine lv_if_ge (tgt := 126) hx hb dX12_mark_100 (by decide) (fun c_49 => ?_) (fun c_49 => ?_)
                · exact (In_no (R_le_l (In_lit (n := 0) (by decide) (by decide) : In 0 0 0) (R_lt_l i_r_14 (In_lit (n := 0) (by decide) (by decide) : In 0 0 0) c_48 (by decide) : In (-1) (-1) r_14) c_49 (by decide) : In 0 (-1) 0) (by decide)).elim
                · refine lv_aload_n hx hb dX12_mark_103 rfl (lv_at hl 1 rfl) ?_
                  refine gt_X12 hx hb hts hown hK hP 0 (hW_w_31.o tM_0) 15 (by decide) wd_1416 rfl (hW_w_31.fr tM_0 rfl) dX12_mark_104 ?_
                  refine lv_aload_n hx hb dX12_mark_107 rfl (lv_at hl 1 rfl) ?_
                  refine gt_X12 hx hb hts hown hK hP 0 (hW_w_31.o tM_0) 13 (by decide) wd_1414 rfl (hW_w_31.fi tM_0 rfl) dX12_mark_108 ?_
                  refine tov (v := (fI w 0 13)) ((hs_w_31.gI (by decide)).trans ((hs_w_13.gI (by decide)).trans (hs_w_9.gI (by decide)))) ?_
                  refine va_iald hx hb hK hP 3 0 (hW_w_31.a tM_3) rfl (in_I (hW_w.fin tM_0 rfl : In 0 1 (fI w 0 13)) (by decide)) dX12_mark_111 ?_
                  refine lv_topi (fun v_50 ev_50 => ?_)
                  refine lv_bipush (v := 8) hx hb dX12_mark_112 (by decide) ?_
                  refine lv_icmp_ne (tgt := 126) hx hb dX12_mark_114 (by decide) (fun c_51 => ?_) (fun c_51 => ?_)
                  · refine lv_aload_n hx hb dX12_mark_126 rfl (lv_at hl 1 rfl) ?_
                    refine gt_X12 hx hb hts hown hK hP 0 (hW_w_31.o tM_0) 8 (by decide) wd_1409 rfl (hW_w_31.fi tM_0 rfl) dX12_mark_127 ?_
                    refine tov (v := (fI w 0 8)) ((hs_w_31.gI (by decide)).trans ((hs_w_13.gI (by decide)).trans (hs_w_9.gI (by decide)))) ?_
                    refine lv_if_le (tgt := 135) hx hb dX12_mark_130 (by decide) (fun c_52 => ?_) (fun c_52 => ?_)
                    · refine lv_iload hx hb dX12_mark_135 (lv_at hl 0 rfl) ?_
                      refine lv_if_ge (tgt := 183) hx hb dX12_mark_137 (by decide) (fun c_53 => ?_) (fun c_53 => ?_)
                      · exact (In_no (R_le_l (In_lit (n := 0) (by decide) (by decide) : In 0 0 0) (R_lt_l i_r_14 (In_lit (n := 0) (by decide) (by decide) : In 0 0 0) c_48 (by decide) : In (-1) (-1) r_14) c_53 (by decide) : In 0 (-1) 0) (by decide)).elim
                      · refine lv_aload_n hx hb dX12_mark_140 rfl (lv_at hl 1 rfl) ?_
                        refine gt_X12 hx hb hts hown hK hP 0 (hW_w_31.o tM_0) 15 (by decide) wd_1416 rfl (hW_w_31.fr tM_0 rfl) dX12_mark_141 ?_
                        refine lv_aload_n hx hb dX12_mark_144 rfl (lv_at hl 1 rfl) ?_
                        refine gt_X12 hx hb hts hown hK hP 0 (hW_w_31.o tM_0) 13 (by decide) wd_1414 rfl (hW_w_31.fi tM_0 rfl) dX12_mark_145 ?_
                        refine tov (v := (fI w 0 13)) ((hs_w_31.gI (by decide)).trans ((hs_w_13.gI (by decide)).trans (hs_w_9.gI (by decide)))) ?_
                        refine va_iald hx hb hK hP 3 0 (hW_w_31.a tM_3) rfl (in_I (hW_w.fin tM_0 rfl : In 0 1 (fI w 0 13)) (by decide)) dX12_mark_148 ?_
                        refine tov (v := v_50) ((congrFun ((hs_w_31.hA (by decide)).trans ((hs_w_13.hA (by decide)).trans (hs_w_9.hA (by decide)))) _).trans ((congrFun ((hs_w_31.hA (by decide)).trans ((hs_w_13.hA (by decide)).trans (hs_w_9.hA (by decide)))) _).symm.trans ev_50.symm)) ?_
                        refine lv_istore (lv' := [(4, .int v_50), (0, .ref (q 0)), (1, .long p1), (3, .int p2)]) hx hb dX12_mark_149 hl (by decide) rfl (fun ls hl => ?_)
                        refine lv_aload_n hx hb dX12_mark_151 rfl (lv_at hl 1 rfl) ?_
                        refine gt_X12 hx hb hts hown hK hP 0 (hW_w_31.o tM_0) 19 (by decide) wd_1420 rfl (hW_w_31.fr tM_0 rfl) dX12_mark_152 ?_
                        refine lv_bipush (v := 8) hx hb dX12_mark_155 (by decide) ?_
                        refine lv_aload_n hx hb dX12_mark_157 rfl (lv_at hl 1 rfl) ?_
                        refine gt_X12 hx hb hts hown hK hP 0 (hW_w_31.o tM_0) 13 (by decide) wd_1414 rfl (hW_w_31.fi tM_0 rfl) dX12_mark_158 ?_
                        refine tov (v := (fI w 0 13)) ((hs_w_31.gI (by decide)).trans ((hs_w_13.gI (by decide)).trans (hs_w_9.gI (by decide)))) ?_
                        refine lv_imul hx hb dX12_mark_161 ?_
                        refine lv_iload hx hb dX12_mark_162 (lv_at hl 0 rfl) ?_
                        refine lv_iadd hx hb dX12_mark_164 ?_
                        refine lv_aload_n hx hb dX12_mark_165 rfl (lv_at hl 1 rfl) ?_
                        refine gt_X12 hx hb hts hown hK hP 0 (hW_w_31.o tM_0) 7 (by decide) wd_1408 rfl (hW_w_31.fl tM_0 rfl) dX12_mark_166 ?_
                        refine tol (v := (fL w 0 7)) ((hs_w_31.gL (by decide)).trans ((hs_w_13.gL (by decide)).trans (hs_w_9.gL (by decide)))) ?_
                        refine va_last hx hb hK hP hD hS 7 1 (hW_w_31.al tM_7) rfl (in_I ((In_add ((In_mull (hW_w.fin tM_0 rfl : In 0 1 (fI w 0 13)) (n := 8) (by decide) (by decide)) : In 0 8 (8 * (fI w 0 13))) (R_ne_l (In_of ev_50 (hW_w_31.ap tM_3 _) : In 0 8 v_50) (In_lit (n := 8) (by decide) (by decide) : In 8 8 8) c_51 (by decide) : In 0 7 v_50) (by decide)) : In 0 15 ((8 * (fI w 0 13)) + v_50)) (by decide)) dX12_mark_169 (fun H locs hP hD hS => fr_w (hW_w_31.uL tM_7) hP hD (fun w_54 ew_54 hW_w_54 hP hD => ?_))
                        refine lv_aload_n hx hb dX12_mark_170 rfl (lv_at hl 1 rfl) ?_
                        refine gt_X12 hx hb hts hown hK hP 0 (hW_w_54.o tM_0) 15 (by decide) wd_1416 rfl (hW_w_54.fr tM_0 rfl) dX12_mark_171 ?_
                        refine lv_aload_n hx hb dX12_mark_174 rfl (lv_at hl 1 rfl) ?_
                        refine gt_X12 hx hb hts hown hK hP 0 (hW_w_54.o tM_0) 13 (by decide) wd_1414 rfl (hW_w_54.fi tM_0 rfl) dX12_mark_175 ?_
                        refine tov (v := (fI w 0 13)) ((fI_cg (st_ne ew_54 (by decide))).trans ((hs_w_31.gI (by decide)).trans ((hs_w_13.gI (by decide)).trans (hs_w_9.gI (by decide))))) ?_
                        refine lv_dup2_11 hx hb dX12_mark_178 rfl rfl ?_
                        refine va_iald hx hb hK hP 3 0 (hW_w_54.a tM_3) rfl (in_I (hW_w.fin tM_0 rfl : In 0 1 (fI w 0 13)) (by decide)) dX12_mark_179 ?_
                        refine tov (v := v_50) ((congrFun ((aF_cg (st_ne ew_54 (by decide))).trans ((hs_w_31.hA (by decide)).trans ((hs_w_13.hA (by decide)).trans (hs_w_9.hA (by decide))))) _).trans ((congrFun ((hs_w_31.hA (by decide)).trans ((hs_w_13.hA (by decide)).trans (hs_w_9.hA (by decide)))) _).symm.trans ev_50.symm)) ?_
                        refine lv_iconst (v := 1) hx hb dX12_mark_180 (by decide) ?_
                        refine lv_iadd hx hb dX12_mark_181 ?_
                        refine va_iast hx hb hK hP hD hS 3 0 (hW_w_54.a tM_3) rfl (in_I (hW_w.fin tM_0 rfl : In 0 1 (fI w 0 13)) (by decide)) dX12_mark_182 (fun H locs hP hD hS => fr_w (hW_w_54.uA tM_3 (In_w ((In_add (R_ne_l (In_of ev_50 (hW_w_31.ap tM_3 _) : In 0 8 v_50) (In_lit (n := 8) (by decide) (by decide) : In 8 8 8) c_51 (by decide) : In 0 7 v_50) (In_lit (n := 1) (by decide) (by decide) : In 1 1 1) (by decide)) : In 1 8 (v_50 + 1)) (by decide) : In 0 8 (v_50 + 1))) hP hD (fun w_55 ew_55 hW_w_55 hP hD => ?_))
                        refine lv_aload_n hx hb dX12_mark_183 rfl (lv_at hl 1 rfl) ?_
                        refine kW_v ⟨rfl, rfl⟩ hP hD hS hA (rW_V (As := []) (rest := []) hx hb hml hown hts hK hE hP hD (k_X12_looks l D cI cJ cZ q w_55 hW_w_55 (In_of ((fI_cg (st_ne ew_55 (by decide))).trans ((fI_cg (st_ne ew_54 (by decide))).trans ((hs_w_31.gI (by decide)).trans ((hs_w_13.gI (by decide)).trans (hs_w_9.gI (by decide)))))) hf_0_1) _) ⟨⟨rfl, rfl⟩, rfl, rfl⟩ sv_X12_312 ⟨(Nat.le_trans (by decide) hR.1), (Nat.le_trans (by decide) hR.2)⟩ 0 12 (hW_w_55.o tM_0) rfl rfl rfl hl.1 rfl (Nat.le_of_ble_eq_true rfl) dX12_mark_184) (fun w_56 H locs hw_w_56 hP hD hS => ?_)
                        obtain ⟨hW_w_56, hs_w_56, h_58, h_59⟩ := hw_w_56
                        have f_h_58 : 1 ≤ ((fI w 0 8) : Int32).toInt → 1 ≤ (fI w_56 0 8).toInt := (by intro hh; have ee : (fI w_55 0 8).toInt = ((fI w 0 8) : Int32).toInt := congrArg Int32.toInt ((fI_cg (st_ne ew_55 (by decide))).trans ((fI_cg (st_ne ew_54 (by decide))).trans ((hs_w_31.gI (by decide)).trans ((hs_w_13.gI (by decide)).trans (hs_w_9.gI (by decide)))))); exact h_58 (by omega))
                        refine lv_iload_n hx hb dX12_mark_187 rfl (lv_at hl 3 rfl) ?_
                        refine lv_iconst (v := 1) hx hb dX12_mark_188 (by decide) ?_
                        refine lv_iload hx hb dX12_mark_189 (lv_at hl 0 rfl) ?_
                        refine lv_ishl hx hb dX12_mark_191 ?_
                        refine lv_topi (fun v_60 ev_60 => ?_)
                        refine lv_ior hx hb dX12_mark_192 ?_
                        refine lv_topi (fun v_61 ev_61 => ?_)
                        exact hret _ _ _ _ _ _ hP hD hS dX12_mark_193 ⟨hW_w_56, ((((((Sm.rf.tr hs_w_9 (by decide)).tr hs_w_13 (by decide)).tr hs_w_31 (by decide)).sa ew_54 (by decide)).sa ew_55 (by decide)).tr hs_w_56 (by decide)), (by intro hh; have i0_8 := (hW_w_56.fin tM_0 rfl : In 0 5 (fI w_56 0 8)); unfold In at i0_8; omega), (Pc_tl (by have r_w_55 : (fI w_55 0 5).toInt = (fI w_54 0 5).toInt := congrArg Int32.toInt (fI_cg (st_ne ew_55 (by decide))); have r_w_54 : (fI w_54 0 5).toInt = (fI w_31 0 5).toInt := congrArg Int32.toInt (fI_cg (st_ne ew_54 (by decide))); have r_w_31 : (fI w_31 0 5).toInt = (fI w_13 0 5).toInt := congrArg Int32.toInt (hs_w_31.gI (by decide)); have r_w_13 : (fI w_13 0 5).toInt = (fI w_9 0 5).toInt := congrArg Int32.toInt (hs_w_13.gI (by decide)); have r_w_9 : (fI w_9 0 5).toInt = (fI w 0 5).toInt := congrArg Int32.toInt (hs_w_9.gI (by decide)); skip; omega) (Pc_of h_59))⟩
                    · exact (In_no (R_nle_l (R_eq_l (hW_w.fin tM_0 rfl : In 0 5 (fI w 0 8)) (In_lit (n := 0) (by decide) (by decide) : In 0 0 0) c_1 (by decide) : In 0 0 (fI w 0 8)) (In_lit (n := 0) (by decide) (by decide) : In 0 0 0) c_52 (by decide) : In 1 0 (fI w 0 8)) (by decide)).elim
                  · refine lv_aload_n hx hb dX12_mark_117 rfl (lv_at hl 1 rfl) ?_
                    refine lv_iconst (v := 5) hx hb dX12_mark_118 (by decide) ?_
                    refine lv_aload_n hx hb dX12_mark_119 rfl (lv_at hl 1 rfl) ?_
                    refine gt_X12 hx hb hts hown hK hP 0 (hW_w_31.o tM_0) 4 (by decide) wd_1405 rfl (hW_w_31.fi tM_0 rfl) dX12_mark_120 ?_
                    refine tov (v := (fI w 0 4)) ((hs_w_31.gI (by decide)).trans ((hs_w_13.gI (by decide)).trans (hs_w_9.gI (by decide)))) ?_
                    refine kW_v ⟨rfl, rfl⟩ hP hD hS hA (rW_V (As := [.int 5, .int (fI w 0 4)]) (rest := []) hx hb hml hown hts hK hE hP hD (k_X12_blame l D cI cJ cZ q w_31 hW_w_31 5 (fI w 0 4) (In_lit (n := 5) (by decide) (by decide) : In 1 5 5) (hW_w.fin tM_0 rfl : In 0 1000 (fI w 0 4)) (In_of ((hs_w_31.gI (by decide)).trans ((hs_w_13.gI (by decide)).trans (hs_w_9.gI (by decide)))) hf_0_1) _) ⟨⟨rfl, rfl⟩, rfl, rfl⟩ sv_X12_308 ⟨(Nat.le_trans (by decide) hR.1), (Nat.le_trans (by decide) hR.2)⟩ 0 12 (hW_w_31.o tM_0) rfl rfl rfl hl.1 rfl (Nat.le_of_ble_eq_true rfl) dX12_mark_123) (fun w_62 H locs hw_w_62 hP hD hS => ?_)
                    obtain ⟨hW_w_62, hs_w_62, h_64, h_65⟩ := hw_w_62
                    have f_h_65 : 1 ≤ ((fI w 0 8) : Int32).toInt → 1 ≤ (fI w_62 0 8).toInt := (by intro hh; have ee : (fI w_31 0 8).toInt = ((fI w 0 8) : Int32).toInt := congrArg Int32.toInt ((hs_w_31.gI (by decide)).trans ((hs_w_13.gI (by decide)).trans (hs_w_9.gI (by decide)))); exact h_65 (by omega))
                    refine lv_aload_n hx hb dX12_mark_126 rfl (lv_at hl 1 rfl) ?_
                    refine gt_X12 hx hb hts hown hK hP 0 (hW_w_62.o tM_0) 8 (by decide) wd_1409 rfl (hW_w_62.fi tM_0 rfl) dX12_mark_127 ?_
                    refine lv_if_le (tgt := 135) hx hb dX12_mark_130 (by decide) (fun c_66 => ?_) (fun c_66 => ?_)
                    · exact (In_no (R_le_l h_64 (In_lit (n := 0) (by decide) (by decide) : In 0 0 0) c_66 (by decide) : In 1 0 (fI w_62 0 8)) (by decide)).elim
                    · refine lv_iload_n hx hb dX12_mark_133 rfl (lv_at hl 3 rfl) ?_
                      exact hret _ _ _ _ _ _ hP hD hS dX12_mark_134 ⟨hW_w_62, ((((Sm.rf.tr hs_w_9 (by decide)).tr hs_w_13 (by decide)).tr hs_w_31 (by decide)).tr hs_w_62 (by decide)), (by intro hh; have i0_8 := h_64; unfold In at i0_8; omega), (Pc_flt (by have r_w_62 : (fI w_62 0 5).toInt = (fI w_31 0 5).toInt := congrArg Int32.toInt (hs_w_62.2 0 5 (by decide) (by decide)); have r_w_31 : (fI w_31 0 5).toInt = (fI w_13 0 5).toInt := congrArg Int32.toInt (hs_w_31.gI (by decide)); have r_w_13 : (fI w_13 0 5).toInt = (fI w_9 0 5).toInt := congrArg Int32.toInt (hs_w_13.gI (by decide)); have r_w_9 : (fI w_9 0 5).toInt = (fI w 0 5).toInt := congrArg Int32.toInt (hs_w_9.gI (by decide)); skip; omega) (by intro q; have e : (fI w_62 0 8).toInt = (0 : Int32).toInt := congrArg Int32.toInt q; have z : (0 : Int32).toInt = 0 := (by decide); have i0_8 := h_64; unfold In at i0_8; omega))⟩
              · refine lv_iload_n hx hb dX12_mark_79 rfl (lv_at hl 3 rfl) ?_
                refine lv_iload hx hb dX12_mark_80 (lv_at hl 0 rfl) ?_
                refine lv_ishr hx hb dX12_mark_82 ?_
                refine lv_topi (fun v_67 ev_67 => ?_)
                refine lv_iconst (v := 1) hx hb dX12_mark_83 (by decide) ?_
                refine lv_iand hx hb dX12_mark_84 ?_
                refine lv_iconst (v := 1) hx hb dX12_mark_85 (by decide) ?_
                refine lv_icmp_ne (tgt := 98) hx hb dX12_mark_86 (by decide) (fun c_68 => ?_) (fun c_68 => ?_)
                · refine lv_iload hx hb dX12_mark_98 (lv_at hl 0 rfl) ?_
                  refine lv_if_ge (tgt := 126) hx hb dX12_mark_100 (by decide) (fun c_69 => ?_) (fun c_69 => ?_)
                  · refine lv_aload_n hx hb dX12_mark_126 rfl (lv_at hl 1 rfl) ?_
                    refine gt_X12 hx hb hts hown hK hP 0 (hW_w_31.o tM_0) 8 (by decide) wd_1409 rfl (hW_w_31.fi tM_0 rfl) dX12_mark_127 ?_
                    refine tov (v := (fI w 0 8)) ((hs_w_31.gI (by decide)).trans ((hs_w_13.gI (by decide)).trans (hs_w_9.gI (by decide)))) ?_
                    refine lv_if_le (tgt := 135) hx hb dX12_mark_130 (by decide) (fun c_70 => ?_) (fun c_70 => ?_)
                    · refine lv_iload hx hb dX12_mark_135 (lv_at hl 0 rfl) ?_
                      refine lv_if_ge (tgt := 183) hx hb dX12_mark_137 (by decide) (fun c_71 => ?_) (fun c_71 => ?_)
                      · refine lv_aload_n hx hb dX12_mark_183 rfl (lv_at hl 1 rfl) ?_
                        refine kW_v ⟨rfl, rfl⟩ hP hD hS hA (rW_V (As := []) (rest := []) hx hb hml hown hts hK hE hP hD (k_X12_looks l D cI cJ cZ q w_31 hW_w_31 (In_of ((hs_w_31.gI (by decide)).trans ((hs_w_13.gI (by decide)).trans (hs_w_9.gI (by decide)))) hf_0_1) _) ⟨⟨rfl, rfl⟩, rfl, rfl⟩ sv_X12_312 ⟨(Nat.le_trans (by decide) hR.1), (Nat.le_trans (by decide) hR.2)⟩ 0 12 (hW_w_31.o tM_0) rfl rfl rfl hl.1 rfl (Nat.le_of_ble_eq_true rfl) dX12_mark_184) (fun w_72 H locs hw_w_72 hP hD hS => ?_)
                        obtain ⟨hW_w_72, hs_w_72, h_74, h_75⟩ := hw_w_72
                        have f_h_74 : 1 ≤ ((fI w 0 8) : Int32).toInt → 1 ≤ (fI w_72 0 8).toInt := (by intro hh; have ee : (fI w_31 0 8).toInt = ((fI w 0 8) : Int32).toInt := congrArg Int32.toInt ((hs_w_31.gI (by decide)).trans ((hs_w_13.gI (by decide)).trans (hs_w_9.gI (by decide)))); exact h_74 (by omega))
                        refine lv_iload_n hx hb dX12_mark_187 rfl (lv_at hl 3 rfl) ?_
                        refine lv_iconst (v := 1) hx hb dX12_mark_188 (by decide) ?_
                        refine lv_iload hx hb dX12_mark_189 (lv_at hl 0 rfl) ?_
                        refine lv_ishl hx hb dX12_mark_191 ?_
                        refine lv_topi (fun v_76 ev_76 => ?_)
                        refine lv_ior hx hb dX12_mark_192 ?_
                        refine lv_topi (fun v_77 ev_77 => ?_)
                        exact hret _ _ _ _ _ _ hP hD hS dX12_mark_193 ⟨hW_w_72, ((((Sm.rf.tr hs_w_9 (by decide)).tr hs_w_13 (by decide)).tr hs_w_31 (by decide)).tr hs_w_72 (by decide)), (by intro hh; have i0_8 := (hW_w_72.fin tM_0 rfl : In 0 5 (fI w_72 0 8)); unfold In at i0_8; omega), (Pc_tl (by have r_w_31 : (fI w_31 0 5).toInt = (fI w_13 0 5).toInt := congrArg Int32.toInt (hs_w_31.gI (by decide)); have r_w_13 : (fI w_13 0 5).toInt = (fI w_9 0 5).toInt := congrArg Int32.toInt (hs_w_13.gI (by decide)); have r_w_9 : (fI w_9 0 5).toInt = (fI w 0 5).toInt := congrArg Int32.toInt (hs_w_9.gI (by decide)); skip; omega) (Pc_of h_75))⟩
                      · exact (In_no (R_nle_l (In_lit (n := 0) (by decide) (by decide) : In 0 0 0) (R_nlt_l i_r_14 (In_lit (n := 0) (by decide) (by decide) : In 0 0 0) c_48 (by decide) : In 0 7 r_14) c_71 (by decide) : In 1 0 0) (by decide)).elim
                    · exact (In_no (R_nle_l (R_eq_l (hW_w.fin tM_0 rfl : In 0 5 (fI w 0 8)) (In_lit (n := 0) (by decide) (by decide) : In 0 0 0) c_1 (by decide) : In 0 0 (fI w 0 8)) (In_lit (n := 0) (by decide) (by decide) : In 0 0 0) c_70 (by decide) : In 1 0 (fI w 0 8)) (by decide)).elim
                  · exact (In_no (R_nle_l (In_lit (n := 0) (by decide) (by decide) : In 0 0 0) (R_nlt_l i_r_14 (In_lit (n := 0) (by decide) (by decide) : In 0 0 0) c_48 (by decide) : In 0 7 r_14) c_69 (by decide) : In 1 0 0) (by decide)).elim
                · refine lv_aload_n hx hb dX12_mark_89 rfl (lv_at hl 1 rfl) ?_
                  refine lv_iconst (v := 2) hx hb dX12_mark_90 (by decide) ?_
                  refine lv_aload_n hx hb dX12_mark_91 rfl (lv_at hl 1 rfl) ?_
                  refine gt_X12 hx hb hts hown hK hP 0 (hW_w_31.o tM_0) 4 (by decide) wd_1405 rfl (hW_w_31.fi tM_0 rfl) dX12_mark_92 ?_
                  refine tov (v := (fI w 0 4)) ((hs_w_31.gI (by decide)).trans ((hs_w_13.gI (by decide)).trans (hs_w_9.gI (by decide)))) ?_
                  refine kW_v ⟨rfl, rfl⟩ hP hD hS hA (rW_V (As := [.int 2, .int (fI w 0 4)]) (rest := []) hx hb hml hown hts hK hE hP hD (k_X12_blame l D cI cJ cZ q w_31 hW_w_31 2 (fI w 0 4) (In_lit (n := 2) (by decide) (by decide) : In 1 5 2) (hW_w.fin tM_0 rfl : In 0 1000 (fI w 0 4)) (In_of ((hs_w_31.gI (by decide)).trans ((hs_w_13.gI (by decide)).trans (hs_w_9.gI (by decide)))) hf_0_1) _) ⟨⟨rfl, rfl⟩, rfl, rfl⟩ sv_X12_308 ⟨(Nat.le_trans (by decide) hR.1), (Nat.le_trans (by decide) hR.2)⟩ 0 12 (hW_w_31.o tM_0) rfl rfl rfl hl.1 rfl (Nat.le_of_ble_eq_true rfl) dX12_mark_95) (fun w_78 H locs hw_w_78 hP hD hS => ?_)
                  obtain ⟨hW_w_78, hs_w_78, h_80, h_81⟩ := hw_w_78
                  have f_h_81 : 1 ≤ ((fI w 0 8) : Int32).toInt → 1 ≤ (fI w_78 0 8).toInt := (by intro hh; have ee : (fI w_31 0 8).toInt = ((fI w 0 8) : Int32).toInt := congrArg Int32.toInt ((hs_w_31.gI (by decide)).trans ((hs_w_13.gI (by decide)).trans (hs_w_9.gI (by decide)))); exact h_81 (by omega))
                  refine lv_iload hx hb dX12_mark_98 (lv_at hl 0 rfl) ?_
                  refine lv_if_ge (tgt := 126) hx hb dX12_mark_100 (by decide) (fun c_82 => ?_) (fun c_82 => ?_)
                  · refine lv_aload_n hx hb dX12_mark_126 rfl (lv_at hl 1 rfl) ?_
                    refine gt_X12 hx hb hts hown hK hP 0 (hW_w_78.o tM_0) 8 (by decide) wd_1409 rfl (hW_w_78.fi tM_0 rfl) dX12_mark_127 ?_
                    refine lv_if_le (tgt := 135) hx hb dX12_mark_130 (by decide) (fun c_83 => ?_) (fun c_83 => ?_)
                    · exact (In_no (R_le_l h_80 (In_lit (n := 0) (by decide) (by decide) : In 0 0 0) c_83 (by decide) : In 1 0 (fI w_78 0 8)) (by decide)).elim
                    · refine lv_iload_n hx hb dX12_mark_133 rfl (lv_at hl 3 rfl) ?_
                      exact hret _ _ _ _ _ _ hP hD hS dX12_mark_134 ⟨hW_w_78, ((((Sm.rf.tr hs_w_9 (by decide)).tr hs_w_13 (by decide)).tr hs_w_31 (by decide)).tr hs_w_78 (by decide)), (by intro hh; have i0_8 := h_80; unfold In at i0_8; omega), (Pc_flt (by have r_w_78 : (fI w_78 0 5).toInt = (fI w_31 0 5).toInt := congrArg Int32.toInt (hs_w_78.2 0 5 (by decide) (by decide)); have r_w_31 : (fI w_31 0 5).toInt = (fI w_13 0 5).toInt := congrArg Int32.toInt (hs_w_31.gI (by decide)); have r_w_13 : (fI w_13 0 5).toInt = (fI w_9 0 5).toInt := congrArg Int32.toInt (hs_w_13.gI (by decide)); have r_w_9 : (fI w_9 0 5).toInt = (fI w 0 5).toInt := congrArg Int32.toInt (hs_w_9.gI (by decide)); skip; omega) (by intro q; have e : (fI w_78 0 8).toInt = (0 : Int32).toInt := congrArg Int32.toInt q; have z : (0 : Int32).toInt = 0 := (by decide); have i0_8 := h_80; unfold In at i0_8; omega))⟩
                  · exact (In_no (R_nle_l (In_lit (n := 0) (by decide) (by decide) : In 0 0 0) (R_nlt_l i_r_14 (In_lit (n := 0) (by decide) (by decide) : In 0 0 0) c_48 (by decide) : In 0 7 r_14) c_82 (by decide) : In 1 0 0) (by decide)).elim
        · exact (In_no (R_nle_l (R_eq_l (hW_w.fin tM_0 rfl : In 0 5 (fI w 0 8)) (In_lit (n := 0) (by decide) (by decide) : In 0 0 0) c_1 (by decide) : In 0 0 (fI w 0 8)) (In_lit (n := 0) (by decide) (by decide) : In 0 0 0) c_12 (by decide) : In 1 0 (fI w 0 8)) (by decide)).elim
      · refine lv_aload_n hx hb dX12_mark_26 rfl (lv_at hl 0 rfl) ?_
        refine lv_iconst (v := 1) hx hb dX12_mark_27 (by decide) ?_
        refine lv_aload_n hx hb dX12_mark_28 rfl (lv_at hl 0 rfl) ?_
        refine gt_X12 hx hb hts hown hK hP 0 (hW_w_9.o tM_0) 4 (by decide) wd_1405 rfl (hW_w_9.fi tM_0 rfl) dX12_mark_29 ?_
        refine tov (v := (fI w 0 4)) (hs_w_9.gI (by decide)) ?_
        refine kW_v ⟨rfl, rfl⟩ hP hD hS hA (rW_V (As := [.int 1, .int (fI w 0 4)]) (rest := []) hx hb hml hown hts hK hE hP hD (k_X12_blame l D cI cJ cZ q w_9 hW_w_9 1 (fI w 0 4) (In_lit (n := 1) (by decide) (by decide) : In 1 5 1) (hW_w.fin tM_0 rfl : In 0 1000 (fI w 0 4)) (In_of (hs_w_9.gI (by decide)) hf_0_1) _) ⟨⟨rfl, rfl⟩, rfl, rfl⟩ sv_X12_308 ⟨(Nat.le_trans (by decide) hR.1), (Nat.le_trans (by decide) hR.2)⟩ 0 12 (hW_w_9.o tM_0) rfl rfl rfl hl.1 rfl (Nat.le_of_ble_eq_true rfl) dX12_mark_32) (fun w_84 H locs hw_w_84 hP hD hS => ?_)
        obtain ⟨hW_w_84, hs_w_84, h_86, h_87⟩ := hw_w_84
        have f_h_87 : 1 ≤ ((fI w 0 8) : Int32).toInt → 1 ≤ (fI w_84 0 8).toInt := (by intro hh; have ee : (fI w_9 0 8).toInt = ((fI w 0 8) : Int32).toInt := congrArg Int32.toInt (hs_w_9.gI (by decide)); exact h_87 (by omega))
        refine lv_aload_n hx hb dX12_mark_35 rfl (lv_at hl 0 rfl) ?_
        refine gt_X12 hx hb hts hown hK hP 0 (hW_w_84.o tM_0) 8 (by decide) wd_1409 rfl (hW_w_84.fi tM_0 rfl) dX12_mark_36 ?_
        refine lv_if_le (tgt := 44) hx hb dX12_mark_39 (by decide) (fun c_88 => ?_) (fun c_88 => ?_)
        · exact (In_no (R_le_l h_86 (In_lit (n := 0) (by decide) (by decide) : In 0 0 0) c_88 (by decide) : In 1 0 (fI w_84 0 8)) (by decide)).elim
        · refine lv_iload_n hx hb dX12_mark_42 rfl (lv_at hl 2 rfl) ?_
          exact hret _ _ _ _ _ _ hP hD hS dX12_mark_43 ⟨hW_w_84, ((Sm.rf.tr hs_w_9 (by decide)).tr hs_w_84 (by decide)), (by intro hh; have i0_8 := h_86; unfold In at i0_8; omega), (Pc_flt (by have r_w_84 : (fI w_84 0 5).toInt = (fI w_9 0 5).toInt := congrArg Int32.toInt (hs_w_84.2 0 5 (by decide) (by decide)); have r_w_9 : (fI w_9 0 5).toInt = (fI w 0 5).toInt := congrArg Int32.toInt (hs_w_9.gI (by decide)); skip; omega) (by intro q; have e : (fI w_84 0 8).toInt = (0 : Int32).toInt := congrArg Int32.toInt q; have z : (0 : Int32).toInt = 0 := (by decide); have i0_8 := h_86; unfold In at i0_8; omega))⟩
set_option maxRecDepth 100000 in
set_option maxHeartbeats 8000000 in
theorem k_X12_mustWord (l : Launch) (D : va_G) (cI cJ cZ : ClassId) (q : Nat → Nat) (w : va_W) (hW_w : HT q (TM q cI cJ cZ) w) (p1 : Int64) (hf_0_1 : In 0 0 (fI w 0 1)) (hf_0_8 : In 0 0 (fI w 0 8)) : Con_v l yX12_mustWord cX12_mustWord 3 none ({ frames := 2, cells := 0, slots := 0, locals := 47 }) D cI cJ cZ eW [.ref (q 0), .long p1] w (fun (w1 : va_W) => HT q (TM q cI cJ cZ) w1 ∧ Sm [0] [(0, 3), (0, 4), (0, 5), (0, 6), (0, 7), (0, 8), (0, 9)] w w1 ∧ (1 ≤ (fI w 0 8).toInt → 1 ≤ (fI w1 0 8).toInt) ∧ (Pc w w1)) := by
  refine eQ_v rfl (by decide) (Nat.le_of_ble_eq_true rfl) ⟨rfl, rfl⟩ ?_
  intro p e R s m args below meth c A Q hx hb hml hown hts hK hE hA hR hret hP hD hS ls hl
  have hown : s.vm.findClass RX12 = some m.cls := hown
  have hl : lv_has ls 3 [(0, .ref (q 0)), (1, .long p1)] := hl
  refine lv_aload_n hx hb dX12_mustWord_0 rfl (lv_at hl 0 rfl) ?_
  refine lv_lload_n hx hb dX12_mustWord_1 rfl (lv_at hl 1 rfl) ?_
  refine kW_i ⟨rfl, rfl⟩ hP hD hS hA (rW_V (As := [.long p1]) (rest := []) hx hb hml hown hts hK hE hP hD (k_X12_isWord l D cI cJ cZ q w hW_w p1 hf_0_1 _) ⟨⟨rfl, rfl⟩, rfl, rfl⟩ sv_X12_318 ⟨(Nat.le_trans (by decide) hR.1), (Nat.le_trans (by decide) hR.2)⟩ 0 12 (hW_w.o tM_0) rfl rfl rfl hl.1 rfl (Nat.le_of_ble_eq_true rfl) dX12_mustWord_2) (fun r_2 w_1 H locs hw_w_1 hP hD hS => ?_)
  obtain ⟨hW_w_1, hs_w_1, i_r_2, h_3⟩ := hw_w_1
  refine lv_if_ne (tgt := 17) hx hb dX12_mustWord_5 (by decide) (fun c_4 => ?_) (fun c_4 => ?_)
  · refine lv_aload_n hx hb dX12_mustWord_17 rfl (lv_at hl 0 rfl) ?_
    refine gt_X12 hx hb hts hown hK hP 0 (hW_w_1.o tM_0) 8 (by decide) wd_1409 rfl (hW_w_1.fi tM_0 rfl) dX12_mustWord_18 ?_
    refine tov (v := (fI w 0 8)) (hs_w_1.gI (by decide)) ?_
    refine lv_if_ne (tgt := 28) hx hb dX12_mustWord_21 (by decide) (fun c_5 => ?_) (fun c_5 => ?_)
    · exact (In_no (R_ne_l hf_0_8 (In_lit (n := 0) (by decide) (by decide) : In 0 0 0) c_5 (by decide) : In 1 (-1) (fI w 0 8)) (by decide)).elim
    · refine lv_aload_n hx hb dX12_mustWord_24 rfl (lv_at hl 0 rfl) ?_
      refine kW_v ⟨rfl, rfl⟩ hP hD hS hA (rW_V (As := []) (rest := []) hx hb hml hown hts hK hE hP hD (k_X12_looks l D cI cJ cZ q w_1 hW_w_1 (In_of (hs_w_1.gI (by decide)) hf_0_1) _) ⟨⟨rfl, rfl⟩, rfl, rfl⟩ sv_X12_312 ⟨(Nat.le_trans (by decide) hR.1), (Nat.le_trans (by decide) hR.2)⟩ 0 12 (hW_w_1.o tM_0) rfl rfl rfl hl.1 rfl (Nat.le_of_ble_eq_true rfl) dX12_mustWord_25) (fun w_6 H locs hw_w_6 hP hD hS => ?_)
      obtain ⟨hW_w_6, hs_w_6, h_8, h_9⟩ := hw_w_6
      have f_h_8 : 1 ≤ ((fI w 0 8) : Int32).toInt → 1 ≤ (fI w_6 0 8).toInt := (by intro hh; have ee : (fI w_1 0 8).toInt = ((fI w 0 8) : Int32).toInt := congrArg Int32.toInt (hs_w_1.gI (by decide)); exact h_8 (by omega))
      exact hret _ _ _ _ _ hP hD hS dX12_mustWord_28 ⟨hW_w_6, ((Sm.rf.tr hs_w_1 (by decide)).tr hs_w_6 (by decide)), (by intro hh; have i0_8 := (hW_w_6.fin tM_0 rfl : In 0 5 (fI w_6 0 8)); unfold In at i0_8; omega), (Pc_tl (by have r_w_1 : (fI w_1 0 5).toInt = (fI w 0 5).toInt := congrArg Int32.toInt (hs_w_1.gI (by decide)); skip; omega) (Pc_of h_9))⟩
  · refine lv_aload_n hx hb dX12_mustWord_8 rfl (lv_at hl 0 rfl) ?_
    refine lv_iconst (v := 1) hx hb dX12_mustWord_9 (by decide) ?_
    refine lv_aload_n hx hb dX12_mustWord_10 rfl (lv_at hl 0 rfl) ?_
    refine gt_X12 hx hb hts hown hK hP 0 (hW_w_1.o tM_0) 4 (by decide) wd_1405 rfl (hW_w_1.fi tM_0 rfl) dX12_mustWord_11 ?_
    refine tov (v := (fI w 0 4)) (hs_w_1.gI (by decide)) ?_
    refine kW_v ⟨rfl, rfl⟩ hP hD hS hA (rW_V (As := [.int 1, .int (fI w 0 4)]) (rest := []) hx hb hml hown hts hK hE hP hD (k_X12_blame l D cI cJ cZ q w_1 hW_w_1 1 (fI w 0 4) (In_lit (n := 1) (by decide) (by decide) : In 1 5 1) (hW_w.fin tM_0 rfl : In 0 1000 (fI w 0 4)) (In_of (hs_w_1.gI (by decide)) hf_0_1) _) ⟨⟨rfl, rfl⟩, rfl, rfl⟩ sv_X12_308 ⟨(Nat.le_trans (by decide) hR.1), (Nat.le_trans (by decide) hR.2)⟩ 0 12 (hW_w_1.o tM_0) rfl rfl rfl hl.1 rfl (Nat.le_of_ble_eq_true rfl) dX12_mustWord_14) (fun w_10 H locs hw_w_10 hP hD hS => ?_)
    obtain ⟨hW_w_10, hs_w_10, h_12, h_13⟩ := hw_w_10
    have f_h_13 : 1 ≤ ((fI w 0 8) : Int32).toInt → 1 ≤ (fI w_10 0 8).toInt := (by intro hh; have ee : (fI w_1 0 8).toInt = ((fI w 0 8) : Int32).toInt := congrArg Int32.toInt (hs_w_1.gI (by decide)); exact h_13 (by omega))
    refine lv_aload_n hx hb dX12_mustWord_17 rfl (lv_at hl 0 rfl) ?_
    refine gt_X12 hx hb hts hown hK hP 0 (hW_w_10.o tM_0) 8 (by decide) wd_1409 rfl (hW_w_10.fi tM_0 rfl) dX12_mustWord_18 ?_
    refine lv_if_ne (tgt := 28) hx hb dX12_mustWord_21 (by decide) (fun c_14 => ?_) (fun c_14 => ?_)
    · exact hret _ _ _ _ _ hP hD hS dX12_mustWord_28 ⟨hW_w_10, ((Sm.rf.tr hs_w_1 (by decide)).tr hs_w_10 (by decide)), (by intro hh; have i0_8 := h_12; unfold In at i0_8; omega), (Pc_flt (by have r_w_10 : (fI w_10 0 5).toInt = (fI w_1 0 5).toInt := congrArg Int32.toInt (hs_w_10.2 0 5 (by decide) (by decide)); have r_w_1 : (fI w_1 0 5).toInt = (fI w 0 5).toInt := congrArg Int32.toInt (hs_w_1.gI (by decide)); skip; omega) (by intro q; have e : (fI w_10 0 8).toInt = (0 : Int32).toInt := congrArg Int32.toInt q; have z : (0 : Int32).toInt = 0 := (by decide); have i0_8 := h_12; unfold In at i0_8; omega))⟩
    · exact (In_no (R_eq_l h_12 (In_lit (n := 0) (by decide) (by decide) : In 0 0 0) c_14 (by decide) : In 1 0 (fI w_10 0 8)) (by decide)).elim
set_option maxRecDepth 100000 in
set_option maxHeartbeats 8000000 in
theorem k_X12_is (l : Launch) (D : va_G) (cI cJ cZ : ClassId) (q : Nat → Nat) (w : va_W) (hW_w : HT q (TM q cI cJ cZ) w) (p0 : Int32) (p1 : Int32) (p2 : Int32) : Con_i l yX12_is cX12_is 3 (some .boolean) ({ frames := 0, cells := 0, slots := 0, locals := 0 }) D cI cJ cZ eW [.int p0, .int p1, .int p2] w (fun (r : Int32) (w1 : va_W) => HT q (TM q cI cJ cZ) w1 ∧ Sm [] [] w w1 ∧ In 0 1 r ∧ ((¬ r = 0 → p1.toInt ≤ p0.toInt ∧ p0.toInt ≤ p2.toInt))) := by
  refine eQ_z rfl (by decide) (Nat.le_of_ble_eq_true rfl) ⟨rfl, rfl⟩ ?_
  intro p e R s m args below meth c A Q hx hb hml hown hts hK hE hA hR hret hP hD hS ls hl
  have hown : s.vm.findClass RX12 = some m.cls := hown
  have hl : lv_has ls 3 [(0, .int p0), (1, .int p1), (2, .int p2)] := hl
  refine lv_iload_n hx hb dX12_is_0 rfl (lv_at hl 0 rfl) ?_
  refine lv_iload_n hx hb dX12_is_1 rfl (lv_at hl 1 rfl) ?_
  refine lv_icmp_lt (tgt := 14) hx hb dX12_is_2 (by decide) (fun c_1 => ?_) (fun c_1 => ?_)
  · refine lv_iconst (v := 0) hx hb dX12_is_14 (by decide) ?_
    exact hret _ _ _ _ _ _ hP hD hS dX12_is_15 (In_lit (n := 0) (by decide) (by decide) : In 0 1 0) ⟨hW_w, Sm.rf, (In_lit (n := 0) (by decide) (by decide) : In 0 1 0), (fun h => absurd rfl h)⟩
  · refine lv_iload_n hx hb dX12_is_5 rfl (lv_at hl 0 rfl) ?_
    refine lv_iload_n hx hb dX12_is_6 rfl (lv_at hl 2 rfl) ?_
    refine lv_icmp_gt (tgt := 14) hx hb dX12_is_7 (by decide) (fun c_2 => ?_) (fun c_2 => ?_)
    · refine lv_iconst (v := 0) hx hb dX12_is_14 (by decide) ?_
      exact hret _ _ _ _ _ _ hP hD hS dX12_is_15 (In_lit (n := 0) (by decide) (by decide) : In 0 1 0) ⟨hW_w, Sm.rf, (In_lit (n := 0) (by decide) (by decide) : In 0 1 0), (fun h => absurd rfl h)⟩
    · refine lv_iconst (v := 1) hx hb dX12_is_10 (by decide) ?_
      refine lv_goto (tgt := 15) hx hb dX12_is_11 (by decide) ?_
      exact hret _ _ _ _ _ _ hP hD hS dX12_is_15 (In_lit (n := 1) (by decide) (by decide) : In 0 1 1) ⟨hW_w, Sm.rf, (In_lit (n := 1) (by decide) (by decide) : In 0 1 1), (fun _ => ⟨by have a := c_1; rw [q_lt] at a; omega, by have a := c_2; rw [q_lt] at a; omega⟩)⟩
set_option maxRecDepth 100000 in
set_option maxHeartbeats 8000000 in
theorem k_X12_number (l : Launch) (D : va_G) (cI cJ cZ : ClassId) (q : Nat → Nat) (w : va_W) (hW_w : HT q (TM q cI cJ cZ) w) (p1 : Int32) (p2 : Int32) (i_p1 : In 0 1 p1) (i_p2 : In 200 1000 p2) (hf_0_1 : In 0 0 (fI w 0 1)) (hf_0_8 : In 0 0 (fI w 0 8)) : Con_i l yX12_number cX12_number 4 (some .int) ({ frames := 2, cells := 0, slots := 0, locals := 47 }) D cI cJ cZ eW [.ref (q 0), .int p1, .int p2] w (fun (r : Int32) (w1 : va_W) => HT q (TM q cI cJ cZ) w1 ∧ Sm [0] [(0, 3), (0, 4), (0, 5), (0, 6), (0, 7), (0, 8), (0, 9)] w w1 ∧ (1 ≤ (fI w 0 8).toInt → 1 ≤ (fI w1 0 8).toInt) ∧ (Pc w w1)) := by
  refine eQ_i rfl (by decide) (Nat.le_of_ble_eq_true rfl) ⟨rfl, rfl⟩ ?_
  intro p e R s m args below meth c A Q hx hb hml hown hts hK hE hA hR hret hP hD hS ls hl
  have hown : s.vm.findClass RX12 = some m.cls := hown
  have hl : lv_has ls 4 [(0, .ref (q 0)), (1, .int p1), (2, .int p2)] := hl
  refine lv_aload_n hx hb dX12_number_0 rfl (lv_at hl 0 rfl) ?_
  refine gt_X12 hx hb hts hown hK hP 0 (hW_w.o tM_0) 3 (by decide) wd_1404 rfl (hW_w.fi tM_0 rfl) dX12_number_1 ?_
  refine lv_iconst (v := 2) hx hb dX12_number_4 (by decide) ?_
  refine lv_icmp_eq (tgt := 17) hx hb dX12_number_5 (by decide) (fun c_1 => ?_) (fun c_1 => ?_)
  · refine lv_aload_n hx hb dX12_number_17 rfl (lv_at hl 0 rfl) ?_
    refine gt_X12 hx hb hts hown hK hP 0 (hW_w.o tM_0) 8 (by decide) wd_1409 rfl (hW_w.fi tM_0 rfl) dX12_number_18 ?_
    refine lv_if_ne (tgt := 45) hx hb dX12_number_21 (by decide) (fun c_2 => ?_) (fun c_2 => ?_)
    · exact (In_no (R_ne_l hf_0_8 (In_lit (n := 0) (by decide) (by decide) : In 0 0 0) c_2 (by decide) : In 1 (-1) (fI w 0 8)) (by decide)).elim
    · refine lv_aload_n hx hb dX12_number_24 rfl (lv_at hl 0 rfl) ?_
      refine gt_X12 hx hb hts hown hK hP 0 (hW_w.o tM_0) 6 (by decide) wd_1407 rfl (hW_w.fi tM_0 rfl) dX12_number_25 ?_
      refine lv_iload_n hx hb dX12_number_28 rfl (lv_at hl 1 rfl) ?_
      refine lv_iload_n hx hb dX12_number_29 rfl (lv_at hl 2 rfl) ?_
      refine kW_i ⟨rfl, rfl⟩ hP hD hS hA (rW_S (As := [.int (fI w 0 6), .int p1, .int p2]) (rest := []) hx hb hml hown hts hK hE hP hD (k_X12_is l D cI cJ cZ q w hW_w (fI w 0 6) p1 p2 _) ⟨⟨rfl, rfl⟩, rfl, rfl⟩ sv_X12_322 ⟨(Nat.le_trans (by decide) hR.1), (Nat.le_trans (by decide) hR.2)⟩ rfl hl.1 rfl (Nat.le_of_ble_eq_true rfl) dX12_number_30) (fun r_4 w_3 H locs hw_w_3 hP hD hS => ?_)
      obtain ⟨hW_w_3, hs_w_3, i_r_4, h_5⟩ := hw_w_3
      refine lv_if_ne (tgt := 45) hx hb dX12_number_33 (by decide) (fun c_6 => ?_) (fun c_6 => ?_)
      · refine lv_aload_n hx hb dX12_number_45 rfl (lv_at hl 0 rfl) ?_
        refine gt_X12 hx hb hts hown hK hP 0 (hW_w_3.o tM_0) 6 (by decide) wd_1407 rfl (hW_w_3.fi tM_0 rfl) dX12_number_46 ?_
        refine tov (v := (fI w 0 6)) (hs_w_3.gI (by decide)) ?_
        refine lv_istore_n (lv' := [(3, .int (fI w 0 6)), (0, .ref (q 0)), (1, .int p1), (2, .int p2)]) hx hb dX12_number_49 rfl hl (by decide) rfl (fun ls hl => ?_)
        refine lv_aload_n hx hb dX12_number_50 rfl (lv_at hl 1 rfl) ?_
        refine gt_X12 hx hb hts hown hK hP 0 (hW_w_3.o tM_0) 8 (by decide) wd_1409 rfl (hW_w_3.fi tM_0 rfl) dX12_number_51 ?_
        refine tov (v := (fI w 0 8)) (hs_w_3.gI (by decide)) ?_
        refine lv_if_ne (tgt := 61) hx hb dX12_number_54 (by decide) (fun c_7 => ?_) (fun c_7 => ?_)
        · exact (In_no (R_ne_l hf_0_8 (In_lit (n := 0) (by decide) (by decide) : In 0 0 0) c_7 (by decide) : In 1 (-1) (fI w 0 8)) (by decide)).elim
        · refine lv_aload_n hx hb dX12_number_57 rfl (lv_at hl 1 rfl) ?_
          refine kW_v ⟨rfl, rfl⟩ hP hD hS hA (rW_V (As := []) (rest := []) hx hb hml hown hts hK hE hP hD (k_X12_looks l D cI cJ cZ q w_3 hW_w_3 (In_of (hs_w_3.gI (by decide)) hf_0_1) _) ⟨⟨rfl, rfl⟩, rfl, rfl⟩ sv_X12_312 ⟨(Nat.le_trans (by decide) hR.1), (Nat.le_trans (by decide) hR.2)⟩ 0 12 (hW_w_3.o tM_0) rfl rfl rfl hl.1 rfl (Nat.le_of_ble_eq_true rfl) dX12_number_58) (fun w_8 H locs hw_w_8 hP hD hS => ?_)
          obtain ⟨hW_w_8, hs_w_8, h_10, h_11⟩ := hw_w_8
          have f_h_10 : 1 ≤ ((fI w 0 8) : Int32).toInt → 1 ≤ (fI w_8 0 8).toInt := (by intro hh; have ee : (fI w_3 0 8).toInt = ((fI w 0 8) : Int32).toInt := congrArg Int32.toInt (hs_w_3.gI (by decide)); exact h_10 (by omega))
          refine lv_iload_n hx hb dX12_number_61 rfl (lv_at hl 0 rfl) ?_
          exact hret _ _ _ _ _ _ hP hD hS dX12_number_62 ⟨hW_w_8, ((Sm.rf.tr hs_w_3 (by decide)).tr hs_w_8 (by decide)), (by intro hh; have i0_8 := (hW_w_8.fin tM_0 rfl : In 0 5 (fI w_8 0 8)); unfold In at i0_8; omega), (Pc_tl (by have r_w_3 : (fI w_3 0 5).toInt = (fI w 0 5).toInt := congrArg Int32.toInt (hs_w_3.gI (by decide)); skip; omega) (Pc_of h_11))⟩
      · refine lv_aload_n hx hb dX12_number_36 rfl (lv_at hl 0 rfl) ?_
        refine lv_iconst (v := 4) hx hb dX12_number_37 (by decide) ?_
        refine lv_aload_n hx hb dX12_number_38 rfl (lv_at hl 0 rfl) ?_
        refine gt_X12 hx hb hts hown hK hP 0 (hW_w_3.o tM_0) 4 (by decide) wd_1405 rfl (hW_w_3.fi tM_0 rfl) dX12_number_39 ?_
        refine tov (v := (fI w 0 4)) (hs_w_3.gI (by decide)) ?_
        refine kW_v ⟨rfl, rfl⟩ hP hD hS hA (rW_V (As := [.int 4, .int (fI w 0 4)]) (rest := []) hx hb hml hown hts hK hE hP hD (k_X12_blame l D cI cJ cZ q w_3 hW_w_3 4 (fI w 0 4) (In_lit (n := 4) (by decide) (by decide) : In 1 5 4) (hW_w.fin tM_0 rfl : In 0 1000 (fI w 0 4)) (In_of (hs_w_3.gI (by decide)) hf_0_1) _) ⟨⟨rfl, rfl⟩, rfl, rfl⟩ sv_X12_308 ⟨(Nat.le_trans (by decide) hR.1), (Nat.le_trans (by decide) hR.2)⟩ 0 12 (hW_w_3.o tM_0) rfl rfl rfl hl.1 rfl (Nat.le_of_ble_eq_true rfl) dX12_number_42) (fun w_12 H locs hw_w_12 hP hD hS => ?_)
        obtain ⟨hW_w_12, hs_w_12, h_14, h_15⟩ := hw_w_12
        have f_h_15 : 1 ≤ ((fI w 0 8) : Int32).toInt → 1 ≤ (fI w_12 0 8).toInt := (by intro hh; have ee : (fI w_3 0 8).toInt = ((fI w 0 8) : Int32).toInt := congrArg Int32.toInt (hs_w_3.gI (by decide)); exact h_15 (by omega))
        refine lv_aload_n hx hb dX12_number_45 rfl (lv_at hl 0 rfl) ?_
        refine gt_X12 hx hb hts hown hK hP 0 (hW_w_12.o tM_0) 6 (by decide) wd_1407 rfl (hW_w_12.fi tM_0 rfl) dX12_number_46 ?_
        refine tov (v := (fI w 0 6)) ((hs_w_12.2 0 6 (by decide) (by decide)).trans (hs_w_3.gI (by decide))) ?_
        refine lv_istore_n (lv' := [(3, .int (fI w 0 6)), (0, .ref (q 0)), (1, .int p1), (2, .int p2)]) hx hb dX12_number_49 rfl hl (by decide) rfl (fun ls hl => ?_)
        refine lv_aload_n hx hb dX12_number_50 rfl (lv_at hl 1 rfl) ?_
        refine gt_X12 hx hb hts hown hK hP 0 (hW_w_12.o tM_0) 8 (by decide) wd_1409 rfl (hW_w_12.fi tM_0 rfl) dX12_number_51 ?_
        refine lv_if_ne (tgt := 61) hx hb dX12_number_54 (by decide) (fun c_16 => ?_) (fun c_16 => ?_)
        · refine lv_iload_n hx hb dX12_number_61 rfl (lv_at hl 0 rfl) ?_
          exact hret _ _ _ _ _ _ hP hD hS dX12_number_62 ⟨hW_w_12, ((Sm.rf.tr hs_w_3 (by decide)).tr hs_w_12 (by decide)), (by intro hh; have i0_8 := h_14; unfold In at i0_8; omega), (Pc_flt (by have r_w_12 : (fI w_12 0 5).toInt = (fI w_3 0 5).toInt := congrArg Int32.toInt (hs_w_12.2 0 5 (by decide) (by decide)); have r_w_3 : (fI w_3 0 5).toInt = (fI w 0 5).toInt := congrArg Int32.toInt (hs_w_3.gI (by decide)); skip; omega) (by intro q; have e : (fI w_12 0 8).toInt = (0 : Int32).toInt := congrArg Int32.toInt q; have z : (0 : Int32).toInt = 0 := (by decide); have i0_8 := h_14; unfold In at i0_8; omega))⟩
        · exact (In_no (R_eq_l h_14 (In_lit (n := 0) (by decide) (by decide) : In 0 0 0) c_16 (by decide) : In 1 0 (fI w_12 0 8)) (by decide)).elim
  · refine lv_aload_n hx hb dX12_number_8 rfl (lv_at hl 0 rfl) ?_
    refine lv_iconst (v := 1) hx hb dX12_number_9 (by decide) ?_
    refine lv_aload_n hx hb dX12_number_10 rfl (lv_at hl 0 rfl) ?_
    refine gt_X12 hx hb hts hown hK hP 0 (hW_w.o tM_0) 4 (by decide) wd_1405 rfl (hW_w.fi tM_0 rfl) dX12_number_11 ?_
    refine kW_v ⟨rfl, rfl⟩ hP hD hS hA (rW_V (As := [.int 1, .int (fI w 0 4)]) (rest := []) hx hb hml hown hts hK hE hP hD (k_X12_blame l D cI cJ cZ q w hW_w 1 (fI w 0 4) (In_lit (n := 1) (by decide) (by decide) : In 1 5 1) (hW_w.fin tM_0 rfl : In 0 1000 (fI w 0 4)) hf_0_1 _) ⟨⟨rfl, rfl⟩, rfl, rfl⟩ sv_X12_308 ⟨(Nat.le_trans (by decide) hR.1), (Nat.le_trans (by decide) hR.2)⟩ 0 12 (hW_w.o tM_0) rfl rfl rfl hl.1 rfl (Nat.le_of_ble_eq_true rfl) dX12_number_14) (fun w_17 H locs hw_w_17 hP hD hS => ?_)
    obtain ⟨hW_w_17, hs_w_17, h_19, h_20⟩ := hw_w_17
    have f_h_20 : 1 ≤ ((fI w 0 8) : Int32).toInt → 1 ≤ (fI w_17 0 8).toInt := (by intro hh; exact h_20 (by omega))
    refine lv_aload_n hx hb dX12_number_17 rfl (lv_at hl 0 rfl) ?_
    refine gt_X12 hx hb hts hown hK hP 0 (hW_w_17.o tM_0) 8 (by decide) wd_1409 rfl (hW_w_17.fi tM_0 rfl) dX12_number_18 ?_
    refine lv_if_ne (tgt := 45) hx hb dX12_number_21 (by decide) (fun c_21 => ?_) (fun c_21 => ?_)
    · refine lv_aload_n hx hb dX12_number_45 rfl (lv_at hl 0 rfl) ?_
      refine gt_X12 hx hb hts hown hK hP 0 (hW_w_17.o tM_0) 6 (by decide) wd_1407 rfl (hW_w_17.fi tM_0 rfl) dX12_number_46 ?_
      refine tov (v := (fI w 0 6)) (hs_w_17.2 0 6 (by decide) (by decide)) ?_
      refine lv_istore_n (lv' := [(3, .int (fI w 0 6)), (0, .ref (q 0)), (1, .int p1), (2, .int p2)]) hx hb dX12_number_49 rfl hl (by decide) rfl (fun ls hl => ?_)
      refine lv_aload_n hx hb dX12_number_50 rfl (lv_at hl 1 rfl) ?_
      refine gt_X12 hx hb hts hown hK hP 0 (hW_w_17.o tM_0) 8 (by decide) wd_1409 rfl (hW_w_17.fi tM_0 rfl) dX12_number_51 ?_
      refine lv_if_ne (tgt := 61) hx hb dX12_number_54 (by decide) (fun c_22 => ?_) (fun c_22 => ?_)
      · refine lv_iload_n hx hb dX12_number_61 rfl (lv_at hl 0 rfl) ?_
        exact hret _ _ _ _ _ _ hP hD hS dX12_number_62 ⟨hW_w_17, (Sm.rf.tr hs_w_17 (by decide)), (by intro hh; have i0_8 := h_19; unfold In at i0_8; omega), (Pc_flt (by have r_w_17 : (fI w_17 0 5).toInt = (fI w 0 5).toInt := congrArg Int32.toInt (hs_w_17.2 0 5 (by decide) (by decide)); skip; omega) (by intro q; have e : (fI w_17 0 8).toInt = (0 : Int32).toInt := congrArg Int32.toInt q; have z : (0 : Int32).toInt = 0 := (by decide); have i0_8 := h_19; unfold In at i0_8; omega))⟩
      · exact (In_no (R_eq_l h_19 (In_lit (n := 0) (by decide) (by decide) : In 0 0 0) c_22 (by decide) : In 1 0 (fI w_17 0 8)) (by decide)).elim
    · exact (In_no (R_eq_l h_19 (In_lit (n := 0) (by decide) (by decide) : In 0 0 0) c_21 (by decide) : In 1 0 (fI w_17 0 8)) (by decide)).elim
