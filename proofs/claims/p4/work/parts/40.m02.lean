set_option maxRecDepth 100000 in
set_option maxHeartbeats 8000000 in
theorem k_X12_isOwn (l : Launch) (D : va_G) (cI cJ cZ : ClassId) (q : Nat → Nat) (w : va_W) (hW_w : HT q (TM q cI cJ cZ) w) (p1 : Int64) (hf_0_1 : In 0 0 (fI w 0 1)) : Con_i l yX12_isOwn cX12_isOwn 3 (some .boolean) ({ frames := 0, cells := 0, slots := 0, locals := 0 }) D cI cJ cZ eW [.ref (q 0), .long p1] w (fun (r : Int32) (w1 : va_W) => HT q (TM q cI cJ cZ) w1 ∧ Sm [] [] w w1 ∧ In 0 1 r) := by
  refine eQ_z rfl (by decide) (Nat.le_of_ble_eq_true rfl) ⟨rfl, rfl⟩ ?_
  intro p e R s m args below meth c A Q hx hb hml hown hts hK hE hA hR hret hP hD hS ls hl
  have hown : s.vm.findClass RX12 = some m.cls := hown
  have hl : lv_has ls 3 [(0, .ref (q 0)), (1, .long p1)] := hl
  refine lv_lload_n hx hb dX12_isOwn_0 rfl (lv_at hl 1 rfl) ?_
  refine lv_ldc2 hx hb hown (hts _ wd_1723) dX12_isOwn_1 ?_
  refine W.lcmp hx hb dX12_isOwn_4 ?_
  refine lv_topi (fun v_1 ev_1 => ?_)
  refine lv_if_eq (tgt := 40) hx hb dX12_isOwn_5 (by decide) (fun c_2 => ?_) (fun c_2 => ?_)
  · refine lv_iconst (v := 1) hx hb dX12_isOwn_40 (by decide) ?_
    exact hret _ _ _ _ _ _ hP hD hS dX12_isOwn_41 (In_lit (n := 1) (by decide) (by decide) : In 0 1 1) ⟨hW_w, Sm.rf, (In_lit (n := 1) (by decide) (by decide) : In 0 1 1)⟩
  · refine lv_lload_n hx hb dX12_isOwn_8 rfl (lv_at hl 1 rfl) ?_
    refine lv_ldc2 hx hb hown (hts _ wd_1736) dX12_isOwn_9 ?_
    refine W.lcmp hx hb dX12_isOwn_12 ?_
    refine lv_topi (fun v_3 ev_3 => ?_)
    refine lv_if_eq (tgt := 40) hx hb dX12_isOwn_13 (by decide) (fun c_4 => ?_) (fun c_4 => ?_)
    · refine lv_iconst (v := 1) hx hb dX12_isOwn_40 (by decide) ?_
      exact hret _ _ _ _ _ _ hP hD hS dX12_isOwn_41 (In_lit (n := 1) (by decide) (by decide) : In 0 1 1) ⟨hW_w, Sm.rf, (In_lit (n := 1) (by decide) (by decide) : In 0 1 1)⟩
    · refine lv_lload_n hx hb dX12_isOwn_16 rfl (lv_at hl 1 rfl) ?_
      refine lv_ldc2 hx hb hown (hts _ wd_1737) dX12_isOwn_17 ?_
      refine W.lcmp hx hb dX12_isOwn_20 ?_
      refine lv_topi (fun v_5 ev_5 => ?_)
      refine lv_if_eq (tgt := 40) hx hb dX12_isOwn_21 (by decide) (fun c_6 => ?_) (fun c_6 => ?_)
      · refine lv_iconst (v := 1) hx hb dX12_isOwn_40 (by decide) ?_
        exact hret _ _ _ _ _ _ hP hD hS dX12_isOwn_41 (In_lit (n := 1) (by decide) (by decide) : In 0 1 1) ⟨hW_w, Sm.rf, (In_lit (n := 1) (by decide) (by decide) : In 0 1 1)⟩
      · refine lv_lload_n hx hb dX12_isOwn_24 rfl (lv_at hl 1 rfl) ?_
        refine lv_ldc2 hx hb hown (hts _ wd_1738) dX12_isOwn_25 ?_
        refine W.lcmp hx hb dX12_isOwn_28 ?_
        refine lv_topi (fun v_7 ev_7 => ?_)
        refine lv_if_eq (tgt := 40) hx hb dX12_isOwn_29 (by decide) (fun c_8 => ?_) (fun c_8 => ?_)
        · refine lv_iconst (v := 1) hx hb dX12_isOwn_40 (by decide) ?_
          exact hret _ _ _ _ _ _ hP hD hS dX12_isOwn_41 (In_lit (n := 1) (by decide) (by decide) : In 0 1 1) ⟨hW_w, Sm.rf, (In_lit (n := 1) (by decide) (by decide) : In 0 1 1)⟩
        · refine lv_lload_n hx hb dX12_isOwn_32 rfl (lv_at hl 1 rfl) ?_
          refine lv_ldc2 hx hb hown (hts _ wd_1739) dX12_isOwn_33 ?_
          refine W.lcmp hx hb dX12_isOwn_36 ?_
          refine lv_topi (fun v_9 ev_9 => ?_)
          refine lv_if_ne (tgt := 42) hx hb dX12_isOwn_37 (by decide) (fun c_10 => ?_) (fun c_10 => ?_)
          · refine lv_lload_n hx hb dX12_isOwn_42 rfl (lv_at hl 1 rfl) ?_
            refine lv_ldc2 hx hb hown (hts _ wd_1740) dX12_isOwn_43 ?_
            refine W.lcmp hx hb dX12_isOwn_46 ?_
            refine lv_topi (fun v_11 ev_11 => ?_)
            refine lv_if_eq (tgt := 82) hx hb dX12_isOwn_47 (by decide) (fun c_12 => ?_) (fun c_12 => ?_)
            · refine lv_iconst (v := 1) hx hb dX12_isOwn_82 (by decide) ?_
              exact hret _ _ _ _ _ _ hP hD hS dX12_isOwn_83 (In_lit (n := 1) (by decide) (by decide) : In 0 1 1) ⟨hW_w, Sm.rf, (In_lit (n := 1) (by decide) (by decide) : In 0 1 1)⟩
            · refine lv_lload_n hx hb dX12_isOwn_50 rfl (lv_at hl 1 rfl) ?_
              refine lv_ldc2 hx hb hown (hts _ wd_1741) dX12_isOwn_51 ?_
              refine W.lcmp hx hb dX12_isOwn_54 ?_
              refine lv_topi (fun v_13 ev_13 => ?_)
              refine lv_if_eq (tgt := 82) hx hb dX12_isOwn_55 (by decide) (fun c_14 => ?_) (fun c_14 => ?_)
              · refine lv_iconst (v := 1) hx hb dX12_isOwn_82 (by decide) ?_
                exact hret _ _ _ _ _ _ hP hD hS dX12_isOwn_83 (In_lit (n := 1) (by decide) (by decide) : In 0 1 1) ⟨hW_w, Sm.rf, (In_lit (n := 1) (by decide) (by decide) : In 0 1 1)⟩
              · refine lv_lload_n hx hb dX12_isOwn_58 rfl (lv_at hl 1 rfl) ?_
                refine lv_ldc2 hx hb hown (hts _ wd_1742) dX12_isOwn_59 ?_
                refine W.lcmp hx hb dX12_isOwn_62 ?_
                refine lv_topi (fun v_15 ev_15 => ?_)
                refine lv_if_eq (tgt := 82) hx hb dX12_isOwn_63 (by decide) (fun c_16 => ?_) (fun c_16 => ?_)
                · refine lv_iconst (v := 1) hx hb dX12_isOwn_82 (by decide) ?_
                  exact hret _ _ _ _ _ _ hP hD hS dX12_isOwn_83 (In_lit (n := 1) (by decide) (by decide) : In 0 1 1) ⟨hW_w, Sm.rf, (In_lit (n := 1) (by decide) (by decide) : In 0 1 1)⟩
                · refine lv_lload_n hx hb dX12_isOwn_66 rfl (lv_at hl 1 rfl) ?_
                  refine lv_ldc2 hx hb hown (hts _ wd_1743) dX12_isOwn_67 ?_
                  refine W.lcmp hx hb dX12_isOwn_70 ?_
                  refine lv_topi (fun v_17 ev_17 => ?_)
                  refine lv_if_eq (tgt := 82) hx hb dX12_isOwn_71 (by decide) (fun c_18 => ?_) (fun c_18 => ?_)
                  · refine lv_iconst (v := 1) hx hb dX12_isOwn_82 (by decide) ?_
                    exact hret _ _ _ _ _ _ hP hD hS dX12_isOwn_83 (In_lit (n := 1) (by decide) (by decide) : In 0 1 1) ⟨hW_w, Sm.rf, (In_lit (n := 1) (by decide) (by decide) : In 0 1 1)⟩
                  · refine lv_lload_n hx hb dX12_isOwn_74 rfl (lv_at hl 1 rfl) ?_
                    refine lv_ldc2 hx hb hown (hts _ wd_1744) dX12_isOwn_75 ?_
                    refine W.lcmp hx hb dX12_isOwn_78 ?_
                    refine lv_topi (fun v_19 ev_19 => ?_)
                    refine lv_if_ne (tgt := 84) hx hb dX12_isOwn_79 (by decide) (fun c_20 => ?_) (fun c_20 => ?_)
                    · refine lv_lload_n hx hb dX12_isOwn_84 rfl (lv_at hl 1 rfl) ?_
                      refine lv_ldc2 hx hb hown (hts _ wd_1745) dX12_isOwn_85 ?_
                      refine W.lcmp hx hb dX12_isOwn_88 ?_
                      refine lv_topi (fun v_21 ev_21 => ?_)
                      refine lv_if_eq (tgt := 124) hx hb dX12_isOwn_89 (by decide) (fun c_22 => ?_) (fun c_22 => ?_)
                      · refine lv_iconst (v := 1) hx hb dX12_isOwn_124 (by decide) ?_
                        exact hret _ _ _ _ _ _ hP hD hS dX12_isOwn_125 (In_lit (n := 1) (by decide) (by decide) : In 0 1 1) ⟨hW_w, Sm.rf, (In_lit (n := 1) (by decide) (by decide) : In 0 1 1)⟩
                      · refine lv_lload_n hx hb dX12_isOwn_92 rfl (lv_at hl 1 rfl) ?_
                        refine lv_ldc2 hx hb hown (hts _ wd_1746) dX12_isOwn_93 ?_
                        refine W.lcmp hx hb dX12_isOwn_96 ?_
                        refine lv_topi (fun v_23 ev_23 => ?_)
                        refine lv_if_eq (tgt := 124) hx hb dX12_isOwn_97 (by decide) (fun c_24 => ?_) (fun c_24 => ?_)
                        · refine lv_iconst (v := 1) hx hb dX12_isOwn_124 (by decide) ?_
                          exact hret _ _ _ _ _ _ hP hD hS dX12_isOwn_125 (In_lit (n := 1) (by decide) (by decide) : In 0 1 1) ⟨hW_w, Sm.rf, (In_lit (n := 1) (by decide) (by decide) : In 0 1 1)⟩
                        · refine lv_lload_n hx hb dX12_isOwn_100 rfl (lv_at hl 1 rfl) ?_
                          refine lv_ldc2 hx hb hown (hts _ wd_1747) dX12_isOwn_101 ?_
                          refine W.lcmp hx hb dX12_isOwn_104 ?_
                          refine lv_topi (fun v_25 ev_25 => ?_)
                          refine lv_if_eq (tgt := 124) hx hb dX12_isOwn_105 (by decide) (fun c_26 => ?_) (fun c_26 => ?_)
                          · refine lv_iconst (v := 1) hx hb dX12_isOwn_124 (by decide) ?_
                            exact hret _ _ _ _ _ _ hP hD hS dX12_isOwn_125 (In_lit (n := 1) (by decide) (by decide) : In 0 1 1) ⟨hW_w, Sm.rf, (In_lit (n := 1) (by decide) (by decide) : In 0 1 1)⟩
                          · refine lv_lload_n hx hb dX12_isOwn_108 rfl (lv_at hl 1 rfl) ?_
                            refine lv_ldc2 hx hb hown (hts _ wd_1748) dX12_isOwn_109 ?_
                            refine W.lcmp hx hb dX12_isOwn_112 ?_
                            refine lv_topi (fun v_27 ev_27 => ?_)
                            refine lv_if_eq (tgt := 124) hx hb dX12_isOwn_113 (by decide) (fun c_28 => ?_) (fun c_28 => ?_)
                            · refine lv_iconst (v := 1) hx hb dX12_isOwn_124 (by decide) ?_
                              exact hret _ _ _ _ _ _ hP hD hS dX12_isOwn_125 (In_lit (n := 1) (by decide) (by decide) : In 0 1 1) ⟨hW_w, Sm.rf, (In_lit (n := 1) (by decide) (by decide) : In 0 1 1)⟩
                            · refine lv_lload_n hx hb dX12_isOwn_116 rfl (lv_at hl 1 rfl) ?_
                              refine lv_ldc2 hx hb hown (hts _ wd_1749) dX12_isOwn_117 ?_
                              refine W.lcmp hx hb dX12_isOwn_120 ?_
                              refine lv_topi (fun v_29 ev_29 => ?_)
                              refine lv_if_ne (tgt := 126) hx hb dX12_isOwn_121 (by decide) (fun c_30 => ?_) (fun c_30 => ?_)
                              · refine lv_lload_n hx hb dX12_isOwn_126 rfl (lv_at hl 1 rfl) ?_
                                refine lv_ldc2 hx hb hown (hts _ wd_1750) dX12_isOwn_127 ?_
                                refine W.lcmp hx hb dX12_isOwn_130 ?_
                                refine lv_topi (fun v_31 ev_31 => ?_)
                                refine lv_if_eq (tgt := 166) hx hb dX12_isOwn_131 (by decide) (fun c_32 => ?_) (fun c_32 => ?_)
                                · refine lv_iconst (v := 1) hx hb dX12_isOwn_166 (by decide) ?_
                                  exact hret _ _ _ _ _ _ hP hD hS dX12_isOwn_167 (In_lit (n := 1) (by decide) (by decide) : In 0 1 1) ⟨hW_w, Sm.rf, (In_lit (n := 1) (by decide) (by decide) : In 0 1 1)⟩
                                · refine lv_lload_n hx hb dX12_isOwn_134 rfl (lv_at hl 1 rfl) ?_
                                  refine lv_ldc2 hx hb hown (hts _ wd_1751) dX12_isOwn_135 ?_
                                  refine W.lcmp hx hb dX12_isOwn_138 ?_
                                  refine lv_topi (fun v_33 ev_33 => ?_)
                                  refine lv_if_eq (tgt := 166) hx hb dX12_isOwn_139 (by decide) (fun c_34 => ?_) (fun c_34 => ?_)
                                  · refine lv_iconst (v := 1) hx hb dX12_isOwn_166 (by decide) ?_
                                    exact hret _ _ _ _ _ _ hP hD hS dX12_isOwn_167 (In_lit (n := 1) (by decide) (by decide) : In 0 1 1) ⟨hW_w, Sm.rf, (In_lit (n := 1) (by decide) (by decide) : In 0 1 1)⟩
                                  · refine lv_lload_n hx hb dX12_isOwn_142 rfl (lv_at hl 1 rfl) ?_
                                    refine lv_ldc2 hx hb hown (hts _ wd_1752) dX12_isOwn_143 ?_
                                    refine W.lcmp hx hb dX12_isOwn_146 ?_
                                    refine lv_topi (fun v_35 ev_35 => ?_)
                                    refine lv_if_eq (tgt := 166) hx hb dX12_isOwn_147 (by decide) (fun c_36 => ?_) (fun c_36 => ?_)
                                    · refine lv_iconst (v := 1) hx hb dX12_isOwn_166 (by decide) ?_
                                      exact hret _ _ _ _ _ _ hP hD hS dX12_isOwn_167 (In_lit (n := 1) (by decide) (by decide) : In 0 1 1) ⟨hW_w, Sm.rf, (In_lit (n := 1) (by decide) (by decide) : In 0 1 1)⟩
                                    · refine lv_lload_n hx hb dX12_isOwn_150 rfl (lv_at hl 1 rfl) ?_
                                      refine lv_ldc2 hx hb hown (hts _ wd_1753) dX12_isOwn_151 ?_
                                      refine W.lcmp hx hb dX12_isOwn_154 ?_
                                      refine lv_topi (fun v_37 ev_37 => ?_)
                                      refine lv_if_eq (tgt := 166) hx hb dX12_isOwn_155 (by decide) (fun c_38 => ?_) (fun c_38 => ?_)
                                      · refine lv_iconst (v := 1) hx hb dX12_isOwn_166 (by decide) ?_
                                        exact hret _ _ _ _ _ _ hP hD hS dX12_isOwn_167 (In_lit (n := 1) (by decide) (by decide) : In 0 1 1) ⟨hW_w, Sm.rf, (In_lit (n := 1) (by decide) (by decide) : In 0 1 1)⟩
                                      · refine lv_lload_n hx hb dX12_isOwn_158 rfl (lv_at hl 1 rfl) ?_
                                        refine lv_ldc2 hx hb hown (hts _ wd_1754) dX12_isOwn_159 ?_
                                        refine W.lcmp hx hb dX12_isOwn_162 ?_
                                        refine lv_topi (fun v_39 ev_39 => ?_)
                                        refine lv_if_ne (tgt := 168) hx hb dX12_isOwn_163 (by decide) (fun c_40 => ?_) (fun c_40 => ?_)
                                        · refine lv_lload_n hx hb dX12_isOwn_168 rfl (lv_at hl 1 rfl) ?_
                                          refine lv_ldc2 hx hb hown (hts _ wd_1755) dX12_isOwn_169 ?_
                                          refine W.lcmp hx hb dX12_isOwn_172 ?_
                                          refine lv_topi (fun v_41 ev_41 => ?_)
                                          refine lv_if_eq (tgt := 184) hx hb dX12_isOwn_173 (by decide) (fun c_42 => ?_) (fun c_42 => ?_)
                                          · refine lv_iconst (v := 1) hx hb dX12_isOwn_184 (by decide) ?_
                                            exact hret _ _ _ _ _ _ hP hD hS dX12_isOwn_185 (In_lit (n := 1) (by decide) (by decide) : In 0 1 1) ⟨hW_w, Sm.rf, (In_lit (n := 1) (by decide) (by decide) : In 0 1 1)⟩
                                          · refine lv_lload_n hx hb dX12_isOwn_176 rfl (lv_at hl 1 rfl) ?_
                                            refine lv_ldc2 hx hb hown (hts _ wd_1756) dX12_isOwn_177 ?_
                                            refine W.lcmp hx hb dX12_isOwn_180 ?_
                                            refine lv_topi (fun v_43 ev_43 => ?_)
                                            refine lv_if_ne (tgt := 186) hx hb dX12_isOwn_181 (by decide) (fun c_44 => ?_) (fun c_44 => ?_)
                                            · refine lv_iconst (v := 0) hx hb dX12_isOwn_186 (by decide) ?_
                                              exact hret _ _ _ _ _ _ hP hD hS dX12_isOwn_187 (In_lit (n := 0) (by decide) (by decide) : In 0 1 0) ⟨hW_w, Sm.rf, (In_lit (n := 0) (by decide) (by decide) : In 0 1 0)⟩
                                            · refine lv_iconst (v := 1) hx hb dX12_isOwn_184 (by decide) ?_
                                              exact hret _ _ _ _ _ _ hP hD hS dX12_isOwn_185 (In_lit (n := 1) (by decide) (by decide) : In 0 1 1) ⟨hW_w, Sm.rf, (In_lit (n := 1) (by decide) (by decide) : In 0 1 1)⟩
                                        · refine lv_iconst (v := 1) hx hb dX12_isOwn_166 (by decide) ?_
                                          exact hret _ _ _ _ _ _ hP hD hS dX12_isOwn_167 (In_lit (n := 1) (by decide) (by decide) : In 0 1 1) ⟨hW_w, Sm.rf, (In_lit (n := 1) (by decide) (by decide) : In 0 1 1)⟩
                              · refine lv_iconst (v := 1) hx hb dX12_isOwn_124 (by decide) ?_
                                exact hret _ _ _ _ _ _ hP hD hS dX12_isOwn_125 (In_lit (n := 1) (by decide) (by decide) : In 0 1 1) ⟨hW_w, Sm.rf, (In_lit (n := 1) (by decide) (by decide) : In 0 1 1)⟩
                    · refine lv_iconst (v := 1) hx hb dX12_isOwn_82 (by decide) ?_
                      exact hret _ _ _ _ _ _ hP hD hS dX12_isOwn_83 (In_lit (n := 1) (by decide) (by decide) : In 0 1 1) ⟨hW_w, Sm.rf, (In_lit (n := 1) (by decide) (by decide) : In 0 1 1)⟩
          · refine lv_iconst (v := 1) hx hb dX12_isOwn_40 (by decide) ?_
            exact hret _ _ _ _ _ _ hP hD hS dX12_isOwn_41 (In_lit (n := 1) (by decide) (by decide) : In 0 1 1) ⟨hW_w, Sm.rf, (In_lit (n := 1) (by decide) (by decide) : In 0 1 1)⟩
set_option maxRecDepth 100000 in
set_option maxHeartbeats 8000000 in
theorem k_X12_isSign (l : Launch) (D : va_G) (cI cJ cZ : ClassId) (q : Nat → Nat) (w : va_W) (hW_w : HT q (TM q cI cJ cZ) w) (p1 : Int32) (i_p1 : In 40 93 p1) (hf_0_1 : In 0 0 (fI w 0 1)) : Con_i l yX12_isSign cX12_isSign 2 (some .boolean) ({ frames := 0, cells := 0, slots := 0, locals := 0 }) D cI cJ cZ eW [.ref (q 0), .int p1] w (fun (r : Int32) (w1 : va_W) => HT q (TM q cI cJ cZ) w1 ∧ Sm [] [] w w1 ∧ In 0 1 r ∧ ((¬ r = 0 → fI w 0 3 = 3))) := by
  refine eQ_z rfl (by decide) (Nat.le_of_ble_eq_true rfl) ⟨rfl, rfl⟩ ?_
  intro p e R s m args below meth c A Q hx hb hml hown hts hK hE hA hR hret hP hD hS ls hl
  have hown : s.vm.findClass RX12 = some m.cls := hown
  have hl : lv_has ls 2 [(0, .ref (q 0)), (1, .int p1)] := hl
  refine lv_aload_n hx hb dX12_isSign_0 rfl (lv_at hl 0 rfl) ?_
  refine gt_X12 hx hb hts hown hK hP 0 (hW_w.o tM_0) 3 (by decide) wd_1404 rfl (hW_w.fi tM_0 rfl) dX12_isSign_1 ?_
  refine lv_iconst (v := 3) hx hb dX12_isSign_4 (by decide) ?_
  refine lv_icmp_ne (tgt := 20) hx hb dX12_isSign_5 (by decide) (fun c_1 => ?_) (fun c_1 => ?_)
  · refine lv_iconst (v := 0) hx hb dX12_isSign_20 (by decide) ?_
    exact hret _ _ _ _ _ _ hP hD hS dX12_isSign_21 (In_lit (n := 0) (by decide) (by decide) : In 0 1 0) ⟨hW_w, Sm.rf, (In_lit (n := 0) (by decide) (by decide) : In 0 1 0), (fun h => absurd rfl h)⟩
  · refine lv_aload_n hx hb dX12_isSign_8 rfl (lv_at hl 0 rfl) ?_
    refine gt_X12 hx hb hts hown hK hP 0 (hW_w.o tM_0) 6 (by decide) wd_1407 rfl (hW_w.fi tM_0 rfl) dX12_isSign_9 ?_
    refine lv_iload_n hx hb dX12_isSign_12 rfl (lv_at hl 1 rfl) ?_
    refine lv_icmp_ne (tgt := 20) hx hb dX12_isSign_13 (by decide) (fun c_2 => ?_) (fun c_2 => ?_)
    · refine lv_iconst (v := 0) hx hb dX12_isSign_20 (by decide) ?_
      exact hret _ _ _ _ _ _ hP hD hS dX12_isSign_21 (In_lit (n := 0) (by decide) (by decide) : In 0 1 0) ⟨hW_w, Sm.rf, (In_lit (n := 0) (by decide) (by decide) : In 0 1 0), (fun h => absurd rfl h)⟩
    · refine lv_iconst (v := 1) hx hb dX12_isSign_16 (by decide) ?_
      refine lv_goto (tgt := 21) hx hb dX12_isSign_17 (by decide) ?_
      exact hret _ _ _ _ _ _ hP hD hS dX12_isSign_21 (In_lit (n := 1) (by decide) (by decide) : In 0 1 1) ⟨hW_w, Sm.rf, (In_lit (n := 1) (by decide) (by decide) : In 0 1 1), (fun _ => c_1)⟩
set_option maxRecDepth 100000 in
set_option maxHeartbeats 8000000 in
theorem k_X12_mark (l : Launch) (D : va_G) (cI cJ cZ : ClassId) (q : Nat → Nat) (w : va_W) (hW_w : HT q (TM q cI cJ cZ) w) (p1 : Int64) (p2 : Int32) (hf_0_1 : In 0 0 (fI w 0 1)) : Con_i l yX12_mark cX12_mark 5 (some .int) ({ frames := 2, cells := 0, slots := 0, locals := 47 }) D cI cJ cZ eW [.ref (q 0), .long p1, .int p2] w (fun (r : Int32) (w1 : va_W) => HT q (TM q cI cJ cZ) w1 ∧ Sm [0, 3, 7] [(0, 3), (0, 4), (0, 5), (0, 6), (0, 7), (0, 8), (0, 9)] w w1 ∧ (1 ≤ (fI w 0 8).toInt → 1 ≤ (fI w1 0 8).toInt) ∧ (Pc w w1)) := by
  refine eQ_i rfl (by decide) (Nat.le_of_ble_eq_true rfl) ⟨rfl, rfl⟩ ?_
  intro p e R s m args below meth c A Q hx hb hml hown hts hK hE hA hR hret hP hD hS ls hl
  have hown : s.vm.findClass RX12 = some m.cls := hown
  have hl : lv_has ls 5 [(0, .ref (q 0)), (1, .long p1), (3, .int p2)] := hl
  refine lv_aload_n hx hb dX12_mark_0 rfl (lv_at hl 0 rfl) ?_
  refine gt_X12 hx hb hts hown hK hP 0 (hW_w.o tM_0) 8 (by decide) wd_1409 rfl (hW_w.fi tM_0 rfl) dX12_mark_1 ?_
  refine lv_if_ne (tgt := 35) hx hb dX12_mark_4 (by decide) (fun c_1 => ?_) (fun c_1 => ?_)
  · refine lv_aload_n hx hb dX12_mark_35 rfl (lv_at hl 0 rfl) ?_
    refine gt_X12 hx hb hts hown hK hP 0 (hW_w.o tM_0) 8 (by decide) wd_1409 rfl (hW_w.fi tM_0 rfl) dX12_mark_36 ?_
    refine lv_if_le (tgt := 44) hx hb dX12_mark_39 (by decide) (fun c_2 => ?_) (fun c_2 => ?_)
    · exact (In_no (R_le_l (R_ne_l (hW_w.fin tM_0 rfl : In 0 5 (fI w 0 8)) (In_lit (n := 0) (by decide) (by decide) : In 0 0 0) c_1 (by decide) : In 1 5 (fI w 0 8)) (In_lit (n := 0) (by decide) (by decide) : In 0 0 0) c_2 (by decide) : In 1 0 (fI w 0 8)) (by decide)).elim
    · refine lv_iload_n hx hb dX12_mark_42 rfl (lv_at hl 2 rfl) ?_
      exact hret _ _ _ _ _ _ hP hD hS dX12_mark_43 ⟨hW_w, Sm.rf, (by intro hh; have i0_8 := (R_ne_l (hW_w.fin tM_0 rfl : In 0 5 (fI w 0 8)) (In_lit (n := 0) (by decide) (by decide) : In 0 0 0) c_1 (by decide) : In 1 5 (fI w 0 8)); unfold In at i0_8; omega), (Pc_flt (Int.le_refl _) (by intro q; have e : (fI w 0 8).toInt = (0 : Int32).toInt := congrArg Int32.toInt q; have z : (0 : Int32).toInt = 0 := (by decide); have i0_8 := (R_ne_l (hW_w.fin tM_0 rfl : In 0 5 (fI w 0 8)) (In_lit (n := 0) (by decide) (by decide) : In 0 0 0) c_1 (by decide) : In 1 5 (fI w 0 8)); unfold In at i0_8; omega))⟩
  · refine lv_aload_n hx hb dX12_mark_7 rfl (lv_at hl 0 rfl) ?_
    refine gt_X12 hx hb hts hown hK hP 0 (hW_w.o tM_0) 3 (by decide) wd_1404 rfl (hW_w.fi tM_0 rfl) dX12_mark_8 ?_
    refine lv_iconst (v := 1) hx hb dX12_mark_11 (by decide) ?_
    refine lv_icmp_ne (tgt := 26) hx hb dX12_mark_12 (by decide) (fun c_3 => ?_) (fun c_3 => ?_)
    · refine lv_aload_n hx hb dX12_mark_26 rfl (lv_at hl 0 rfl) ?_
      refine lv_iconst (v := 1) hx hb dX12_mark_27 (by decide) ?_
      refine lv_aload_n hx hb dX12_mark_28 rfl (lv_at hl 0 rfl) ?_
      refine gt_X12 hx hb hts hown hK hP 0 (hW_w.o tM_0) 4 (by decide) wd_1405 rfl (hW_w.fi tM_0 rfl) dX12_mark_29 ?_
      refine kW_v ⟨rfl, rfl⟩ hP hD hS hA (rW_V (As := [.int 1, .int (fI w 0 4)]) (rest := []) hx hb hml hown hts hK hE hP hD (k_X12_blame l D cI cJ cZ q w hW_w 1 (fI w 0 4) (In_lit (n := 1) (by decide) (by decide) : In 1 5 1) (hW_w.fin tM_0 rfl : In 0 1000 (fI w 0 4)) hf_0_1 _) ⟨⟨rfl, rfl⟩, rfl, rfl⟩ sv_X12_308 ⟨(Nat.le_trans (by decide) hR.1), (Nat.le_trans (by decide) hR.2)⟩ 0 12 (hW_w.o tM_0) rfl rfl rfl hl.1 rfl (Nat.le_of_ble_eq_true rfl) dX12_mark_32) (fun w_4 H locs hw_w_4 hP hD hS => ?_)
      obtain ⟨hW_w_4, hs_w_4, h_6, h_7, h_8⟩ := hw_w_4
      have f_h_7 : 1 ≤ ((fI w 0 8) : Int32).toInt → 1 ≤ (fI w_4 0 8).toInt := h_7
      refine lv_aload_n hx hb dX12_mark_35 rfl (lv_at hl 0 rfl) ?_
      refine gt_X12 hx hb hts hown hK hP 0 (hW_w_4.o tM_0) 8 (by decide) wd_1409 rfl (hW_w_4.fi tM_0 rfl) dX12_mark_36 ?_
      refine lv_if_le (tgt := 44) hx hb dX12_mark_39 (by decide) (fun c_9 => ?_) (fun c_9 => ?_)
      · exact (In_no (R_le_l h_6 (In_lit (n := 0) (by decide) (by decide) : In 0 0 0) c_9 (by decide) : In 1 0 (fI w_4 0 8)) (by decide)).elim
      · refine lv_iload_n hx hb dX12_mark_42 rfl (lv_at hl 2 rfl) ?_
        exact hret _ _ _ _ _ _ hP hD hS dX12_mark_43 ⟨hW_w_4, (Sm.rf.tr hs_w_4 (by decide)), (by intro hh; have i0_8 := h_6; unfold In at i0_8; omega), (Pc_flt (E_eq (hs_w_4.2 0 5 (by decide) (by decide))) (by intro q; have e : (fI w_4 0 8).toInt = (0 : Int32).toInt := congrArg Int32.toInt q; have z : (0 : Int32).toInt = 0 := (by decide); have i0_8 := h_6; unfold In at i0_8; omega))⟩
    · refine lv_aload_n hx hb dX12_mark_15 rfl (lv_at hl 0 rfl) ?_
      refine lv_aload_n hx hb dX12_mark_16 rfl (lv_at hl 0 rfl) ?_
      refine gt_X12 hx hb hts hown hK hP 0 (hW_w.o tM_0) 7 (by decide) wd_1408 rfl (hW_w.fl tM_0 rfl) dX12_mark_17 ?_
      refine kW_i ⟨rfl, rfl⟩ hP hD hS hA (rW_V (As := [.long (fL w 0 7)]) (rest := []) hx hb hml hown hts hK hE hP hD (k_X12_isOwn l D cI cJ cZ q w hW_w (fL w 0 7) hf_0_1 _) ⟨⟨rfl, rfl⟩, rfl, rfl⟩ sv_X12_395 ⟨(Nat.le_trans (by decide) hR.1), (Nat.le_trans (by decide) hR.2)⟩ 0 12 (hW_w.o tM_0) rfl rfl rfl hl.1 rfl (Nat.le_of_ble_eq_true rfl) dX12_mark_20) (fun r_11 w_10 H locs hw_w_10 hP hD hS => ?_)
      obtain ⟨hW_w_10, hs_w_10, i_r_11⟩ := hw_w_10
      refine lv_if_eq (tgt := 35) hx hb dX12_mark_23 (by decide) (fun c_12 => ?_) (fun c_12 => ?_)
      · refine lv_aload_n hx hb dX12_mark_35 rfl (lv_at hl 0 rfl) ?_
        refine gt_X12 hx hb hts hown hK hP 0 (hW_w_10.o tM_0) 8 (by decide) wd_1409 rfl (hW_w_10.fi tM_0 rfl) dX12_mark_36 ?_
        refine tov (v := (fI w 0 8)) (hs_w_10.gI (by decide)) ?_
        refine lv_if_le (tgt := 44) hx hb dX12_mark_39 (by decide) (fun c_13 => ?_) (fun c_13 => ?_)
        · refine lv_aload_n hx hb dX12_mark_44 rfl (lv_at hl 0 rfl) ?_
          refine lv_aload_n hx hb dX12_mark_45 rfl (lv_at hl 0 rfl) ?_
          refine gt_X12 hx hb hts hown hK hP 0 (hW_w_10.o tM_0) 7 (by decide) wd_1408 rfl (hW_w_10.fl tM_0 rfl) dX12_mark_46 ?_
          refine tol (v := (fL w 0 7)) (hs_w_10.gL (by decide)) ?_
          refine kW_i ⟨rfl, rfl⟩ hP hD hS hA (rW_V (As := [.long (fL w 0 7)]) (rest := []) hx hb hml hown hts hK hE hP hD (k_X12_findMark l D cI cJ cZ q w_10 hW_w_10 (fL w 0 7) (In_of (hs_w_10.gI (by decide)) hf_0_1) (In_of (hs_w_10.gI (by decide)) (R_eq_l (hW_w.fin tM_0 rfl : In 0 5 (fI w 0 8)) (In_lit (n := 0) (by decide) (by decide) : In 0 0 0) c_1 (by decide) : In 0 0 (fI w 0 8))) _) ⟨⟨rfl, rfl⟩, rfl, rfl⟩ sv_X12_402 ⟨(Nat.le_trans (by decide) hR.1), (Nat.le_trans (by decide) hR.2)⟩ 0 12 (hW_w_10.o tM_0) rfl rfl rfl hl.1 rfl (Nat.le_of_ble_eq_true rfl) dX12_mark_49) (fun r_15 w_14 H locs hw_w_14 hP hD hS => ?_)
          obtain ⟨hW_w_14, hs_w_14, i_r_15⟩ := hw_w_14
          refine lv_istore (lv' := [(4, .int r_15), (0, .ref (q 0)), (1, .long p1), (3, .int p2)]) hx hb dX12_mark_52 hl (by decide) rfl (fun ls hl => ?_)
          refine lv_aload_n hx hb dX12_mark_54 rfl (lv_at hl 1 rfl) ?_
          refine gt_X12 hx hb hts hown hK hP 0 (hW_w_14.o tM_0) 7 (by decide) wd_1408 rfl (hW_w_14.fl tM_0 rfl) dX12_mark_55 ?_
          refine tol (v := (fL w 0 7)) ((hs_w_14.gL (by decide)).trans (hs_w_10.gL (by decide))) ?_
          refine lv_lload_n hx hb dX12_mark_58 rfl (lv_at hl 2 rfl) ?_
          refine W.lcmp hx hb dX12_mark_59 ?_
          refine lv_topi (fun v_16 ev_16 => ?_)
          refine lv_if_eq (tgt := 89) hx hb dX12_mark_60 (by decide) (fun c_17 => ?_) (fun c_17 => ?_)
          · refine lv_aload_n hx hb dX12_mark_89 rfl (lv_at hl 1 rfl) ?_
            refine lv_iconst (v := 2) hx hb dX12_mark_90 (by decide) ?_
            refine lv_aload_n hx hb dX12_mark_91 rfl (lv_at hl 1 rfl) ?_
            refine gt_X12 hx hb hts hown hK hP 0 (hW_w_14.o tM_0) 4 (by decide) wd_1405 rfl (hW_w_14.fi tM_0 rfl) dX12_mark_92 ?_
            refine tov (v := (fI w 0 4)) ((hs_w_14.gI (by decide)).trans (hs_w_10.gI (by decide))) ?_
            refine kW_v ⟨rfl, rfl⟩ hP hD hS hA (rW_V (As := [.int 2, .int (fI w 0 4)]) (rest := []) hx hb hml hown hts hK hE hP hD (k_X12_blame l D cI cJ cZ q w_14 hW_w_14 2 (fI w 0 4) (In_lit (n := 2) (by decide) (by decide) : In 1 5 2) (hW_w.fin tM_0 rfl : In 0 1000 (fI w 0 4)) (In_of ((hs_w_14.gI (by decide)).trans (hs_w_10.gI (by decide))) hf_0_1) _) ⟨⟨rfl, rfl⟩, rfl, rfl⟩ sv_X12_308 ⟨(Nat.le_trans (by decide) hR.1), (Nat.le_trans (by decide) hR.2)⟩ 0 12 (hW_w_14.o tM_0) rfl rfl rfl hl.1 rfl (Nat.le_of_ble_eq_true rfl) dX12_mark_95) (fun w_18 H locs hw_w_18 hP hD hS => ?_)
            obtain ⟨hW_w_18, hs_w_18, h_20, h_21, h_22⟩ := hw_w_18
            have f_h_21 : 1 ≤ ((fI w 0 8) : Int32).toInt → 1 ≤ (fI w_18 0 8).toInt := ft_cg h_21 ((hs_w_14.gI (by decide)).trans (hs_w_10.gI (by decide)))
            refine lv_iload hx hb dX12_mark_98 (lv_at hl 0 rfl) ?_
            refine lv_if_ge (tgt := 126) hx hb dX12_mark_100 (by decide) (fun c_23 => ?_) (fun c_23 => ?_)
            · refine lv_aload_n hx hb dX12_mark_126 rfl (lv_at hl 1 rfl) ?_
              refine gt_X12 hx hb hts hown hK hP 0 (hW_w_18.o tM_0) 8 (by decide) wd_1409 rfl (hW_w_18.fi tM_0 rfl) dX12_mark_127 ?_
              refine lv_if_le (tgt := 135) hx hb dX12_mark_130 (by decide) (fun c_24 => ?_) (fun c_24 => ?_)
              · exact (In_no (R_le_l h_20 (In_lit (n := 0) (by decide) (by decide) : In 0 0 0) c_24 (by decide) : In 1 0 (fI w_18 0 8)) (by decide)).elim
              · refine lv_iload_n hx hb dX12_mark_133 rfl (lv_at hl 3 rfl) ?_
                exact hret _ _ _ _ _ _ hP hD hS dX12_mark_134 ⟨hW_w_18, (((Sm.rf.tr hs_w_10 (by decide)).tr hs_w_14 (by decide)).tr hs_w_18 (by decide)), (by intro hh; have i0_8 := h_20; unfold In at i0_8; omega), (Pc_flt (E_eq ((hs_w_18.2 0 5 (by decide) (by decide)).trans ((hs_w_14.gI (by decide)).trans (hs_w_10.gI (by decide))))) (by intro q; have e : (fI w_18 0 8).toInt = (0 : Int32).toInt := congrArg Int32.toInt q; have z : (0 : Int32).toInt = 0 := (by decide); have i0_8 := h_20; unfold In at i0_8; omega))⟩
            · refine lv_aload_n hx hb dX12_mark_103 rfl (lv_at hl 1 rfl) ?_
              refine gt_X12 hx hb hts hown hK hP 0 (hW_w_18.o tM_0) 15 (by decide) wd_1416 rfl (hW_w_18.fr tM_0 rfl) dX12_mark_104 ?_
              refine lv_aload_n hx hb dX12_mark_107 rfl (lv_at hl 1 rfl) ?_
              refine gt_X12 hx hb hts hown hK hP 0 (hW_w_18.o tM_0) 13 (by decide) wd_1414 rfl (hW_w_18.fi tM_0 rfl) dX12_mark_108 ?_
              refine tov (v := (fI w 0 13)) ((hs_w_18.2 0 13 (by decide) (by decide)).trans ((hs_w_14.gI (by decide)).trans (hs_w_10.gI (by decide)))) ?_
              refine va_iald hx hb hK hP 3 0 (hW_w_18.a tM_3) rfl (in_I (hW_w.fin tM_0 rfl : In 0 1 (fI w 0 13)) (by decide)) dX12_mark_111 ?_
              refine lv_topi (fun v_25 ev_25 => ?_)
              refine lv_bipush (v := 8) hx hb dX12_mark_112 (by decide) ?_
              refine lv_icmp_ne (tgt := 126) hx hb dX12_mark_114 (by decide) (fun c_26 => ?_) (fun c_26 => ?_)
              · refine lv_aload_n hx hb dX12_mark_126 rfl (lv_at hl 1 rfl) ?_
                refine gt_X12 hx hb hts hown hK hP 0 (hW_w_18.o tM_0) 8 (by decide) wd_1409 rfl (hW_w_18.fi tM_0 rfl) dX12_mark_127 ?_
                refine lv_if_le (tgt := 135) hx hb dX12_mark_130 (by decide) (fun c_27 => ?_) (fun c_27 => ?_)
                · exact (In_no (R_le_l h_20 (In_lit (n := 0) (by decide) (by decide) : In 0 0 0) c_27 (by decide) : In 1 0 (fI w_18 0 8)) (by decide)).elim
                · refine lv_iload_n hx hb dX12_mark_133 rfl (lv_at hl 3 rfl) ?_
                  exact hret _ _ _ _ _ _ hP hD hS dX12_mark_134 ⟨hW_w_18, (((Sm.rf.tr hs_w_10 (by decide)).tr hs_w_14 (by decide)).tr hs_w_18 (by decide)), (by intro hh; have i0_8 := h_20; unfold In at i0_8; omega), (Pc_flt (E_eq ((hs_w_18.2 0 5 (by decide) (by decide)).trans ((hs_w_14.gI (by decide)).trans (hs_w_10.gI (by decide))))) (by intro q; have e : (fI w_18 0 8).toInt = (0 : Int32).toInt := congrArg Int32.toInt q; have z : (0 : Int32).toInt = 0 := (by decide); have i0_8 := h_20; unfold In at i0_8; omega))⟩
              · refine lv_aload_n hx hb dX12_mark_117 rfl (lv_at hl 1 rfl) ?_
                refine lv_iconst (v := 5) hx hb dX12_mark_118 (by decide) ?_
                refine lv_aload_n hx hb dX12_mark_119 rfl (lv_at hl 1 rfl) ?_
                refine gt_X12 hx hb hts hown hK hP 0 (hW_w_18.o tM_0) 4 (by decide) wd_1405 rfl (hW_w_18.fi tM_0 rfl) dX12_mark_120 ?_
                refine tov (v := (fI w 0 4)) ((hs_w_18.2 0 4 (by decide) (by decide)).trans ((hs_w_14.gI (by decide)).trans (hs_w_10.gI (by decide)))) ?_
                refine kW_v ⟨rfl, rfl⟩ hP hD hS hA (rW_V (As := [.int 5, .int (fI w 0 4)]) (rest := []) hx hb hml hown hts hK hE hP hD (k_X12_blame l D cI cJ cZ q w_18 hW_w_18 5 (fI w 0 4) (In_lit (n := 5) (by decide) (by decide) : In 1 5 5) (hW_w.fin tM_0 rfl : In 0 1000 (fI w 0 4)) (In_of ((hs_w_18.2 0 1 (by decide) (by decide)).trans ((hs_w_14.gI (by decide)).trans (hs_w_10.gI (by decide)))) hf_0_1) _) ⟨⟨rfl, rfl⟩, rfl, rfl⟩ sv_X12_308 ⟨(Nat.le_trans (by decide) hR.1), (Nat.le_trans (by decide) hR.2)⟩ 0 12 (hW_w_18.o tM_0) rfl rfl rfl hl.1 rfl (Nat.le_of_ble_eq_true rfl) dX12_mark_123) (fun w_28 H locs hw_w_28 hP hD hS => ?_)
                obtain ⟨hW_w_28, hs_w_28, h_30, h_31, h_32⟩ := hw_w_28
                have f_h_31 : 1 ≤ ((fI w_18 0 8) : Int32).toInt → 1 ≤ (fI w_28 0 8).toInt := h_31
                refine lv_aload_n hx hb dX12_mark_126 rfl (lv_at hl 1 rfl) ?_
                refine gt_X12 hx hb hts hown hK hP 0 (hW_w_28.o tM_0) 8 (by decide) wd_1409 rfl (hW_w_28.fi tM_0 rfl) dX12_mark_127 ?_
                refine lv_if_le (tgt := 135) hx hb dX12_mark_130 (by decide) (fun c_33 => ?_) (fun c_33 => ?_)
                · exact (In_no (R_le_l h_30 (In_lit (n := 0) (by decide) (by decide) : In 0 0 0) c_33 (by decide) : In 1 0 (fI w_28 0 8)) (by decide)).elim
                · refine lv_iload_n hx hb dX12_mark_133 rfl (lv_at hl 3 rfl) ?_
                  exact hret _ _ _ _ _ _ hP hD hS dX12_mark_134 ⟨hW_w_28, ((((Sm.rf.tr hs_w_10 (by decide)).tr hs_w_14 (by decide)).tr hs_w_18 (by decide)).tr hs_w_28 (by decide)), (by intro hh; have i0_8 := h_30; unfold In at i0_8; omega), (Pc_flt (E_eq ((hs_w_28.2 0 5 (by decide) (by decide)).trans ((hs_w_18.2 0 5 (by decide) (by decide)).trans ((hs_w_14.gI (by decide)).trans (hs_w_10.gI (by decide)))))) (by intro q; have e : (fI w_28 0 8).toInt = (0 : Int32).toInt := congrArg Int32.toInt q; have z : (0 : Int32).toInt = 0 := (by decide); have i0_8 := h_30; unfold In at i0_8; omega))⟩
          · refine lv_aload_n hx hb dX12_mark_63 rfl (lv_at hl 1 rfl) ?_
            refine lv_aload_n hx hb dX12_mark_64 rfl (lv_at hl 1 rfl) ?_
            refine gt_X12 hx hb hts hown hK hP 0 (hW_w_14.o tM_0) 7 (by decide) wd_1408 rfl (hW_w_14.fl tM_0 rfl) dX12_mark_65 ?_
            refine tol (v := (fL w 0 7)) ((hs_w_14.gL (by decide)).trans (hs_w_10.gL (by decide))) ?_
            refine kW_i ⟨rfl, rfl⟩ hP hD hS hA (rW_V (As := [.long (fL w 0 7)]) (rest := []) hx hb hml hown hts hK hE hP hD (k_X12_findKind l D cI cJ cZ q w_14 hW_w_14 (fL w 0 7) (In_of ((hs_w_14.gI (by decide)).trans (hs_w_10.gI (by decide))) hf_0_1) (In_of ((hs_w_14.gI (by decide)).trans (hs_w_10.gI (by decide))) (R_eq_l (hW_w.fin tM_0 rfl : In 0 5 (fI w 0 8)) (In_lit (n := 0) (by decide) (by decide) : In 0 0 0) c_1 (by decide) : In 0 0 (fI w 0 8))) _) ⟨⟨rfl, rfl⟩, rfl, rfl⟩ sv_X12_398 ⟨(Nat.le_trans (by decide) hR.1), (Nat.le_trans (by decide) hR.2)⟩ 0 12 (hW_w_14.o tM_0) rfl rfl rfl hl.1 rfl (Nat.le_of_ble_eq_true rfl) dX12_mark_68) (fun r_35 w_34 H locs hw_w_34 hP hD hS => ?_)
            obtain ⟨hW_w_34, hs_w_34, i_r_35⟩ := hw_w_34
            refine lv_if_ge (tgt := 89) hx hb dX12_mark_71 (by decide) (fun c_36 => ?_) (fun c_36 => ?_)
            · refine lv_aload_n hx hb dX12_mark_89 rfl (lv_at hl 1 rfl) ?_
              refine lv_iconst (v := 2) hx hb dX12_mark_90 (by decide) ?_
              refine lv_aload_n hx hb dX12_mark_91 rfl (lv_at hl 1 rfl) ?_
              refine gt_X12 hx hb hts hown hK hP 0 (hW_w_34.o tM_0) 4 (by decide) wd_1405 rfl (hW_w_34.fi tM_0 rfl) dX12_mark_92 ?_
              refine tov (v := (fI w 0 4)) ((hs_w_34.gI (by decide)).trans ((hs_w_14.gI (by decide)).trans (hs_w_10.gI (by decide)))) ?_
              refine kW_v ⟨rfl, rfl⟩ hP hD hS hA (rW_V (As := [.int 2, .int (fI w 0 4)]) (rest := []) hx hb hml hown hts hK hE hP hD (k_X12_blame l D cI cJ cZ q w_34 hW_w_34 2 (fI w 0 4) (In_lit (n := 2) (by decide) (by decide) : In 1 5 2) (hW_w.fin tM_0 rfl : In 0 1000 (fI w 0 4)) (In_of ((hs_w_34.gI (by decide)).trans ((hs_w_14.gI (by decide)).trans (hs_w_10.gI (by decide)))) hf_0_1) _) ⟨⟨rfl, rfl⟩, rfl, rfl⟩ sv_X12_308 ⟨(Nat.le_trans (by decide) hR.1), (Nat.le_trans (by decide) hR.2)⟩ 0 12 (hW_w_34.o tM_0) rfl rfl rfl hl.1 rfl (Nat.le_of_ble_eq_true rfl) dX12_mark_95) (fun w_37 H locs hw_w_37 hP hD hS => ?_)
              obtain ⟨hW_w_37, hs_w_37, h_39, h_40, h_41⟩ := hw_w_37
              have f_h_40 : 1 ≤ ((fI w 0 8) : Int32).toInt → 1 ≤ (fI w_37 0 8).toInt := ft_cg h_40 ((hs_w_34.gI (by decide)).trans ((hs_w_14.gI (by decide)).trans (hs_w_10.gI (by decide))))
              refine lv_iload hx hb dX12_mark_98 (lv_at hl 0 rfl) ?_
              refine lv_if_ge (tgt := 126) hx hb dX12_mark_100 (by decide) (fun c_42 => ?_) (fun c_42 => ?_)
              · refine lv_aload_n hx hb dX12_mark_126 rfl (lv_at hl 1 rfl) ?_
                refine gt_X12 hx hb hts hown hK hP 0 (hW_w_37.o tM_0) 8 (by decide) wd_1409 rfl (hW_w_37.fi tM_0 rfl) dX12_mark_127 ?_
                refine lv_if_le (tgt := 135) hx hb dX12_mark_130 (by decide) (fun c_43 => ?_) (fun c_43 => ?_)
                · exact (In_no (R_le_l h_39 (In_lit (n := 0) (by decide) (by decide) : In 0 0 0) c_43 (by decide) : In 1 0 (fI w_37 0 8)) (by decide)).elim
                · refine lv_iload_n hx hb dX12_mark_133 rfl (lv_at hl 3 rfl) ?_
                  exact hret _ _ _ _ _ _ hP hD hS dX12_mark_134 ⟨hW_w_37, ((((Sm.rf.tr hs_w_10 (by decide)).tr hs_w_14 (by decide)).tr hs_w_34 (by decide)).tr hs_w_37 (by decide)), (by intro hh; have i0_8 := h_39; unfold In at i0_8; omega), (Pc_flt (E_eq ((hs_w_37.2 0 5 (by decide) (by decide)).trans ((hs_w_34.gI (by decide)).trans ((hs_w_14.gI (by decide)).trans (hs_w_10.gI (by decide)))))) (by intro q; have e : (fI w_37 0 8).toInt = (0 : Int32).toInt := congrArg Int32.toInt q; have z : (0 : Int32).toInt = 0 := (by decide); have i0_8 := h_39; unfold In at i0_8; omega))⟩
              · refine lv_aload_n hx hb dX12_mark_103 rfl (lv_at hl 1 rfl) ?_
                refine gt_X12 hx hb hts hown hK hP 0 (hW_w_37.o tM_0) 15 (by decide) wd_1416 rfl (hW_w_37.fr tM_0 rfl) dX12_mark_104 ?_
                refine lv_aload_n hx hb dX12_mark_107 rfl (lv_at hl 1 rfl) ?_
                refine gt_X12 hx hb hts hown hK hP 0 (hW_w_37.o tM_0) 13 (by decide) wd_1414 rfl (hW_w_37.fi tM_0 rfl) dX12_mark_108 ?_
                refine tov (v := (fI w 0 13)) ((hs_w_37.2 0 13 (by decide) (by decide)).trans ((hs_w_34.gI (by decide)).trans ((hs_w_14.gI (by decide)).trans (hs_w_10.gI (by decide))))) ?_
                refine va_iald hx hb hK hP 3 0 (hW_w_37.a tM_3) rfl (in_I (hW_w.fin tM_0 rfl : In 0 1 (fI w 0 13)) (by decide)) dX12_mark_111 ?_
                refine lv_topi (fun v_44 ev_44 => ?_)
                refine lv_bipush (v := 8) hx hb dX12_mark_112 (by decide) ?_
                refine lv_icmp_ne (tgt := 126) hx hb dX12_mark_114 (by decide) (fun c_45 => ?_) (fun c_45 => ?_)
                · refine lv_aload_n hx hb dX12_mark_126 rfl (lv_at hl 1 rfl) ?_
                  refine gt_X12 hx hb hts hown hK hP 0 (hW_w_37.o tM_0) 8 (by decide) wd_1409 rfl (hW_w_37.fi tM_0 rfl) dX12_mark_127 ?_
                  refine lv_if_le (tgt := 135) hx hb dX12_mark_130 (by decide) (fun c_46 => ?_) (fun c_46 => ?_)
                  · exact (In_no (R_le_l h_39 (In_lit (n := 0) (by decide) (by decide) : In 0 0 0) c_46 (by decide) : In 1 0 (fI w_37 0 8)) (by decide)).elim
                  · refine lv_iload_n hx hb dX12_mark_133 rfl (lv_at hl 3 rfl) ?_
                    exact hret _ _ _ _ _ _ hP hD hS dX12_mark_134 ⟨hW_w_37, ((((Sm.rf.tr hs_w_10 (by decide)).tr hs_w_14 (by decide)).tr hs_w_34 (by decide)).tr hs_w_37 (by decide)), (by intro hh; have i0_8 := h_39; unfold In at i0_8; omega), (Pc_flt (E_eq ((hs_w_37.2 0 5 (by decide) (by decide)).trans ((hs_w_34.gI (by decide)).trans ((hs_w_14.gI (by decide)).trans (hs_w_10.gI (by decide)))))) (by intro q; have e : (fI w_37 0 8).toInt = (0 : Int32).toInt := congrArg Int32.toInt q; have z : (0 : Int32).toInt = 0 := (by decide); have i0_8 := h_39; unfold In at i0_8; omega))⟩
                · refine lv_aload_n hx hb dX12_mark_117 rfl (lv_at hl 1 rfl) ?_
                  refine lv_iconst (v := 5) hx hb dX12_mark_118 (by decide) ?_
                  refine lv_aload_n hx hb dX12_mark_119 rfl (lv_at hl 1 rfl) ?_
                  refine gt_X12 hx hb hts hown hK hP 0 (hW_w_37.o tM_0) 4 (by decide) wd_1405 rfl (hW_w_37.fi tM_0 rfl) dX12_mark_120 ?_
                  refine tov (v := (fI w 0 4)) ((hs_w_37.2 0 4 (by decide) (by decide)).trans ((hs_w_34.gI (by decide)).trans ((hs_w_14.gI (by decide)).trans (hs_w_10.gI (by decide))))) ?_
                  refine kW_v ⟨rfl, rfl⟩ hP hD hS hA (rW_V (As := [.int 5, .int (fI w 0 4)]) (rest := []) hx hb hml hown hts hK hE hP hD (k_X12_blame l D cI cJ cZ q w_37 hW_w_37 5 (fI w 0 4) (In_lit (n := 5) (by decide) (by decide) : In 1 5 5) (hW_w.fin tM_0 rfl : In 0 1000 (fI w 0 4)) (In_of ((hs_w_37.2 0 1 (by decide) (by decide)).trans ((hs_w_34.gI (by decide)).trans ((hs_w_14.gI (by decide)).trans (hs_w_10.gI (by decide))))) hf_0_1) _) ⟨⟨rfl, rfl⟩, rfl, rfl⟩ sv_X12_308 ⟨(Nat.le_trans (by decide) hR.1), (Nat.le_trans (by decide) hR.2)⟩ 0 12 (hW_w_37.o tM_0) rfl rfl rfl hl.1 rfl (Nat.le_of_ble_eq_true rfl) dX12_mark_123) (fun w_47 H locs hw_w_47 hP hD hS => ?_)
                  obtain ⟨hW_w_47, hs_w_47, h_49, h_50, h_51⟩ := hw_w_47
                  have f_h_50 : 1 ≤ ((fI w_37 0 8) : Int32).toInt → 1 ≤ (fI w_47 0 8).toInt := h_50
                  refine lv_aload_n hx hb dX12_mark_126 rfl (lv_at hl 1 rfl) ?_
                  refine gt_X12 hx hb hts hown hK hP 0 (hW_w_47.o tM_0) 8 (by decide) wd_1409 rfl (hW_w_47.fi tM_0 rfl) dX12_mark_127 ?_
                  refine lv_if_le (tgt := 135) hx hb dX12_mark_130 (by decide) (fun c_52 => ?_) (fun c_52 => ?_)
                  · exact (In_no (R_le_l h_49 (In_lit (n := 0) (by decide) (by decide) : In 0 0 0) c_52 (by decide) : In 1 0 (fI w_47 0 8)) (by decide)).elim
                  · refine lv_iload_n hx hb dX12_mark_133 rfl (lv_at hl 3 rfl) ?_
                    exact hret _ _ _ _ _ _ hP hD hS dX12_mark_134 ⟨hW_w_47, (((((Sm.rf.tr hs_w_10 (by decide)).tr hs_w_14 (by decide)).tr hs_w_34 (by decide)).tr hs_w_37 (by decide)).tr hs_w_47 (by decide)), (by intro hh; have i0_8 := h_49; unfold In at i0_8; omega), (Pc_flt (E_eq ((hs_w_47.2 0 5 (by decide) (by decide)).trans ((hs_w_37.2 0 5 (by decide) (by decide)).trans ((hs_w_34.gI (by decide)).trans ((hs_w_14.gI (by decide)).trans (hs_w_10.gI (by decide))))))) (by intro q; have e : (fI w_47 0 8).toInt = (0 : Int32).toInt := congrArg Int32.toInt q; have z : (0 : Int32).toInt = 0 := (by decide); have i0_8 := h_49; unfold In at i0_8; omega))⟩
            · refine lv_iload hx hb dX12_mark_74 (lv_at hl 0 rfl) ?_
              refine lv_if_lt (tgt := 98) hx hb dX12_mark_76 (by decide) (fun c_53 => ?_) (fun c_53 => ?_)
              · refine lv_iload hx hb dX12_mark_98 (lv_at hl 0 rfl) ?_
                refine lv_if_ge (tgt := 126) hx hb dX12_mark_100 (by decide) (fun c_54 => ?_) (fun c_54 => ?_)
                · exact (In_no (R_le_l (In_lit (n := 0) (by decide) (by decide) : In 0 0 0) (R_lt_l i_r_15 (In_lit (n := 0) (by decide) (by decide) : In 0 0 0) c_53 (by decide) : In (-1) (-1) r_15) c_54 (by decide) : In 0 (-1) 0) (by decide)).elim
                · refine lv_aload_n hx hb dX12_mark_103 rfl (lv_at hl 1 rfl) ?_
                  refine gt_X12 hx hb hts hown hK hP 0 (hW_w_34.o tM_0) 15 (by decide) wd_1416 rfl (hW_w_34.fr tM_0 rfl) dX12_mark_104 ?_
                  refine lv_aload_n hx hb dX12_mark_107 rfl (lv_at hl 1 rfl) ?_
                  refine gt_X12 hx hb hts hown hK hP 0 (hW_w_34.o tM_0) 13 (by decide) wd_1414 rfl (hW_w_34.fi tM_0 rfl) dX12_mark_108 ?_
                  refine tov (v := (fI w 0 13)) ((hs_w_34.gI (by decide)).trans ((hs_w_14.gI (by decide)).trans (hs_w_10.gI (by decide)))) ?_
                  refine va_iald hx hb hK hP 3 0 (hW_w_34.a tM_3) rfl (in_I (hW_w.fin tM_0 rfl : In 0 1 (fI w 0 13)) (by decide)) dX12_mark_111 ?_
                  refine lv_topi (fun v_55 ev_55 => ?_)
                  refine lv_bipush (v := 8) hx hb dX12_mark_112 (by decide) ?_
                  refine lv_icmp_ne (tgt := 126) hx hb dX12_mark_114 (by decide) (fun c_56 => ?_) (fun c_56 => ?_)
                  · refine lv_aload_n hx hb dX12_mark_126 rfl (lv_at hl 1 rfl) ?_
                    refine gt_X12 hx hb hts hown hK hP 0 (hW_w_34.o tM_0) 8 (by decide) wd_1409 rfl (hW_w_34.fi tM_0 rfl) dX12_mark_127 ?_
                    refine tov (v := (fI w 0 8)) ((hs_w_34.gI (by decide)).trans ((hs_w_14.gI (by decide)).trans (hs_w_10.gI (by decide)))) ?_
                    refine lv_if_le (tgt := 135) hx hb dX12_mark_130 (by decide) (fun c_57 => ?_) (fun c_57 => ?_)
                    · refine lv_iload hx hb dX12_mark_135 (lv_at hl 0 rfl) ?_
                      refine lv_if_ge (tgt := 183) hx hb dX12_mark_137 (by decide) (fun c_58 => ?_) (fun c_58 => ?_)
                      · exact (In_no (R_le_l (In_lit (n := 0) (by decide) (by decide) : In 0 0 0) (R_lt_l i_r_15 (In_lit (n := 0) (by decide) (by decide) : In 0 0 0) c_53 (by decide) : In (-1) (-1) r_15) c_58 (by decide) : In 0 (-1) 0) (by decide)).elim
                      · refine lv_aload_n hx hb dX12_mark_140 rfl (lv_at hl 1 rfl) ?_
                        refine gt_X12 hx hb hts hown hK hP 0 (hW_w_34.o tM_0) 15 (by decide) wd_1416 rfl (hW_w_34.fr tM_0 rfl) dX12_mark_141 ?_
                        refine lv_aload_n hx hb dX12_mark_144 rfl (lv_at hl 1 rfl) ?_
                        refine gt_X12 hx hb hts hown hK hP 0 (hW_w_34.o tM_0) 13 (by decide) wd_1414 rfl (hW_w_34.fi tM_0 rfl) dX12_mark_145 ?_
                        refine tov (v := (fI w 0 13)) ((hs_w_34.gI (by decide)).trans ((hs_w_14.gI (by decide)).trans (hs_w_10.gI (by decide)))) ?_
                        refine va_iald hx hb hK hP 3 0 (hW_w_34.a tM_3) rfl (in_I (hW_w.fin tM_0 rfl : In 0 1 (fI w 0 13)) (by decide)) dX12_mark_148 ?_
                        refine tov (v := v_55) ((congrFun ((hs_w_34.hA (by decide)).trans ((hs_w_14.hA (by decide)).trans (hs_w_10.hA (by decide)))) _).trans ((congrFun ((hs_w_34.hA (by decide)).trans ((hs_w_14.hA (by decide)).trans (hs_w_10.hA (by decide)))) _).symm.trans ev_55.symm)) ?_
                        refine lv_istore (lv' := [(4, .int v_55), (0, .ref (q 0)), (1, .long p1), (3, .int p2)]) hx hb dX12_mark_149 hl (by decide) rfl (fun ls hl => ?_)
                        refine lv_aload_n hx hb dX12_mark_151 rfl (lv_at hl 1 rfl) ?_
                        refine gt_X12 hx hb hts hown hK hP 0 (hW_w_34.o tM_0) 19 (by decide) wd_1420 rfl (hW_w_34.fr tM_0 rfl) dX12_mark_152 ?_
                        refine lv_bipush (v := 8) hx hb dX12_mark_155 (by decide) ?_
                        refine lv_aload_n hx hb dX12_mark_157 rfl (lv_at hl 1 rfl) ?_
                        refine gt_X12 hx hb hts hown hK hP 0 (hW_w_34.o tM_0) 13 (by decide) wd_1414 rfl (hW_w_34.fi tM_0 rfl) dX12_mark_158 ?_
                        refine tov (v := (fI w 0 13)) ((hs_w_34.gI (by decide)).trans ((hs_w_14.gI (by decide)).trans (hs_w_10.gI (by decide)))) ?_
                        refine lv_imul hx hb dX12_mark_161 ?_
                        refine lv_iload hx hb dX12_mark_162 (lv_at hl 0 rfl) ?_
                        refine lv_iadd hx hb dX12_mark_164 ?_
                        refine lv_aload_n hx hb dX12_mark_165 rfl (lv_at hl 1 rfl) ?_
                        refine gt_X12 hx hb hts hown hK hP 0 (hW_w_34.o tM_0) 7 (by decide) wd_1408 rfl (hW_w_34.fl tM_0 rfl) dX12_mark_166 ?_
                        refine tol (v := (fL w 0 7)) ((hs_w_34.gL (by decide)).trans ((hs_w_14.gL (by decide)).trans (hs_w_10.gL (by decide)))) ?_
                        refine va_last hx hb hK hP hD hS 7 1 (hW_w_34.al tM_7) rfl (in_I ((In_add ((In_mull (hW_w.fin tM_0 rfl : In 0 1 (fI w 0 13)) (n := 8) (by decide) (by decide)) : In 0 8 (8 * (fI w 0 13))) (R_ne_l (In_of ev_55 (hW_w_34.ap tM_3 _) : In 0 8 v_55) (In_lit (n := 8) (by decide) (by decide) : In 8 8 8) c_56 (by decide) : In 0 7 v_55) (by decide)) : In 0 15 ((8 * (fI w 0 13)) + v_55)) (by decide)) dX12_mark_169 (fun H locs hP hD hS => fr_w (hW_w_34.uL tM_7) hP hD (fun w_59 ew_59 hW_w_59 hP hD => ?_))
                        refine lv_aload_n hx hb dX12_mark_170 rfl (lv_at hl 1 rfl) ?_
                        refine gt_X12 hx hb hts hown hK hP 0 (hW_w_59.o tM_0) 15 (by decide) wd_1416 rfl (hW_w_59.fr tM_0 rfl) dX12_mark_171 ?_
                        refine lv_aload_n hx hb dX12_mark_174 rfl (lv_at hl 1 rfl) ?_
                        refine gt_X12 hx hb hts hown hK hP 0 (hW_w_59.o tM_0) 13 (by decide) wd_1414 rfl (hW_w_59.fi tM_0 rfl) dX12_mark_175 ?_
                        refine tov (v := (fI w 0 13)) ((fI_cg (st_ne ew_59 (by decide))).trans ((hs_w_34.gI (by decide)).trans ((hs_w_14.gI (by decide)).trans (hs_w_10.gI (by decide))))) ?_
                        refine lv_dup2_11 hx hb dX12_mark_178 rfl rfl ?_
                        refine va_iald hx hb hK hP 3 0 (hW_w_59.a tM_3) rfl (in_I (hW_w.fin tM_0 rfl : In 0 1 (fI w 0 13)) (by decide)) dX12_mark_179 ?_
                        refine tov (v := v_55) ((congrFun ((aF_cg (st_ne ew_59 (by decide))).trans ((hs_w_34.hA (by decide)).trans ((hs_w_14.hA (by decide)).trans (hs_w_10.hA (by decide))))) _).trans ((congrFun ((hs_w_34.hA (by decide)).trans ((hs_w_14.hA (by decide)).trans (hs_w_10.hA (by decide)))) _).symm.trans ev_55.symm)) ?_
                        refine lv_iconst (v := 1) hx hb dX12_mark_180 (by decide) ?_
                        refine lv_iadd hx hb dX12_mark_181 ?_
                        refine va_iast hx hb hK hP hD hS 3 0 (hW_w_59.a tM_3) rfl (in_I (hW_w.fin tM_0 rfl : In 0 1 (fI w 0 13)) (by decide)) dX12_mark_182 (fun H locs hP hD hS => fr_w (hW_w_59.uA tM_3 (In_w ((In_add (R_ne_l (In_of ev_55 (hW_w_34.ap tM_3 _) : In 0 8 v_55) (In_lit (n := 8) (by decide) (by decide) : In 8 8 8) c_56 (by decide) : In 0 7 v_55) (In_lit (n := 1) (by decide) (by decide) : In 1 1 1) (by decide)) : In 1 8 (v_55 + 1)) (by decide) : In 0 8 (v_55 + 1))) hP hD (fun w_60 ew_60 hW_w_60 hP hD => ?_))
                        refine lv_aload_n hx hb dX12_mark_183 rfl (lv_at hl 1 rfl) ?_
                        refine kW_v ⟨rfl, rfl⟩ hP hD hS hA (rW_V (As := []) (rest := []) hx hb hml hown hts hK hE hP hD (k_X12_looks l D cI cJ cZ q w_60 hW_w_60 (In_of ((fI_cg (st_ne ew_60 (by decide))).trans ((fI_cg (st_ne ew_59 (by decide))).trans ((hs_w_34.gI (by decide)).trans ((hs_w_14.gI (by decide)).trans (hs_w_10.gI (by decide)))))) hf_0_1) _) ⟨⟨rfl, rfl⟩, rfl, rfl⟩ sv_X12_312 ⟨(Nat.le_trans (by decide) hR.1), (Nat.le_trans (by decide) hR.2)⟩ 0 12 (hW_w_60.o tM_0) rfl rfl rfl hl.1 rfl (Nat.le_of_ble_eq_true rfl) dX12_mark_184) (fun w_61 H locs hw_w_61 hP hD hS => ?_)
                        obtain ⟨hW_w_61, hs_w_61, h_63, h_64, h_65⟩ := hw_w_61
                        have f_h_63 : 1 ≤ ((fI w 0 8) : Int32).toInt → 1 ≤ (fI w_61 0 8).toInt := ft_cg h_63 ((fI_cg (st_ne ew_60 (by decide))).trans ((fI_cg (st_ne ew_59 (by decide))).trans ((hs_w_34.gI (by decide)).trans ((hs_w_14.gI (by decide)).trans (hs_w_10.gI (by decide))))))
                        refine lv_iload_n hx hb dX12_mark_187 rfl (lv_at hl 3 rfl) ?_
                        refine lv_iconst (v := 1) hx hb dX12_mark_188 (by decide) ?_
                        refine lv_iload hx hb dX12_mark_189 (lv_at hl 0 rfl) ?_
                        refine lv_ishl hx hb dX12_mark_191 ?_
                        refine lv_topi (fun v_66 ev_66 => ?_)
                        refine lv_ior hx hb dX12_mark_192 ?_
                        refine lv_topi (fun v_67 ev_67 => ?_)
                        exact hret _ _ _ _ _ _ hP hD hS dX12_mark_193 ⟨hW_w_61, ((((((Sm.rf.tr hs_w_10 (by decide)).tr hs_w_14 (by decide)).tr hs_w_34 (by decide)).sa ew_59 (by decide)).sa ew_60 (by decide)).tr hs_w_61 (by decide)), (by intro hh; have i0_8 := (hW_w_61.fin tM_0 rfl : In 0 5 (fI w_61 0 8)); unfold In at i0_8; omega), (Pc_tl (E_eq ((fI_cg (st_ne ew_60 (by decide))).trans ((fI_cg (st_ne ew_59 (by decide))).trans ((hs_w_34.gI (by decide)).trans ((hs_w_14.gI (by decide)).trans (hs_w_10.gI (by decide))))))) (Pc_of h_64))⟩
                    · exact (In_no (R_nle_l (R_eq_l (hW_w.fin tM_0 rfl : In 0 5 (fI w 0 8)) (In_lit (n := 0) (by decide) (by decide) : In 0 0 0) c_1 (by decide) : In 0 0 (fI w 0 8)) (In_lit (n := 0) (by decide) (by decide) : In 0 0 0) c_57 (by decide) : In 1 0 (fI w 0 8)) (by decide)).elim
                  · refine lv_aload_n hx hb dX12_mark_117 rfl (lv_at hl 1 rfl) ?_
                    refine lv_iconst (v := 5) hx hb dX12_mark_118 (by decide) ?_
                    refine lv_aload_n hx hb dX12_mark_119 rfl (lv_at hl 1 rfl) ?_
                    refine gt_X12 hx hb hts hown hK hP 0 (hW_w_34.o tM_0) 4 (by decide) wd_1405 rfl (hW_w_34.fi tM_0 rfl) dX12_mark_120 ?_
                    refine tov (v := (fI w 0 4)) ((hs_w_34.gI (by decide)).trans ((hs_w_14.gI (by decide)).trans (hs_w_10.gI (by decide)))) ?_
                    refine kW_v ⟨rfl, rfl⟩ hP hD hS hA (rW_V (As := [.int 5, .int (fI w 0 4)]) (rest := []) hx hb hml hown hts hK hE hP hD (k_X12_blame l D cI cJ cZ q w_34 hW_w_34 5 (fI w 0 4) (In_lit (n := 5) (by decide) (by decide) : In 1 5 5) (hW_w.fin tM_0 rfl : In 0 1000 (fI w 0 4)) (In_of ((hs_w_34.gI (by decide)).trans ((hs_w_14.gI (by decide)).trans (hs_w_10.gI (by decide)))) hf_0_1) _) ⟨⟨rfl, rfl⟩, rfl, rfl⟩ sv_X12_308 ⟨(Nat.le_trans (by decide) hR.1), (Nat.le_trans (by decide) hR.2)⟩ 0 12 (hW_w_34.o tM_0) rfl rfl rfl hl.1 rfl (Nat.le_of_ble_eq_true rfl) dX12_mark_123) (fun w_68 H locs hw_w_68 hP hD hS => ?_)
                    obtain ⟨hW_w_68, hs_w_68, h_70, h_71, h_72⟩ := hw_w_68
                    have f_h_71 : 1 ≤ ((fI w 0 8) : Int32).toInt → 1 ≤ (fI w_68 0 8).toInt := ft_cg h_71 ((hs_w_34.gI (by decide)).trans ((hs_w_14.gI (by decide)).trans (hs_w_10.gI (by decide))))
                    refine lv_aload_n hx hb dX12_mark_126 rfl (lv_at hl 1 rfl) ?_
                    refine gt_X12 hx hb hts hown hK hP 0 (hW_w_68.o tM_0) 8 (by decide) wd_1409 rfl (hW_w_68.fi tM_0 rfl) dX12_mark_127 ?_
                    refine lv_if_le (tgt := 135) hx hb dX12_mark_130 (by decide) (fun c_73 => ?_) (fun c_73 => ?_)
                    · exact (In_no (R_le_l h_70 (In_lit (n := 0) (by decide) (by decide) : In 0 0 0) c_73 (by decide) : In 1 0 (fI w_68 0 8)) (by decide)).elim
                    · refine lv_iload_n hx hb dX12_mark_133 rfl (lv_at hl 3 rfl) ?_
                      exact hret _ _ _ _ _ _ hP hD hS dX12_mark_134 ⟨hW_w_68, ((((Sm.rf.tr hs_w_10 (by decide)).tr hs_w_14 (by decide)).tr hs_w_34 (by decide)).tr hs_w_68 (by decide)), (by intro hh; have i0_8 := h_70; unfold In at i0_8; omega), (Pc_flt (E_eq ((hs_w_68.2 0 5 (by decide) (by decide)).trans ((hs_w_34.gI (by decide)).trans ((hs_w_14.gI (by decide)).trans (hs_w_10.gI (by decide)))))) (by intro q; have e : (fI w_68 0 8).toInt = (0 : Int32).toInt := congrArg Int32.toInt q; have z : (0 : Int32).toInt = 0 := (by decide); have i0_8 := h_70; unfold In at i0_8; omega))⟩
              · refine lv_iload_n hx hb dX12_mark_79 rfl (lv_at hl 3 rfl) ?_
                refine lv_iload hx hb dX12_mark_80 (lv_at hl 0 rfl) ?_
                refine lv_ishr hx hb dX12_mark_82 ?_
                refine lv_topi (fun v_74 ev_74 => ?_)
                refine lv_iconst (v := 1) hx hb dX12_mark_83 (by decide) ?_
                refine lv_iand hx hb dX12_mark_84 ?_
                refine lv_iconst (v := 1) hx hb dX12_mark_85 (by decide) ?_
                refine lv_icmp_ne (tgt := 98) hx hb dX12_mark_86 (by decide) (fun c_75 => ?_) (fun c_75 => ?_)
                · refine lv_iload hx hb dX12_mark_98 (lv_at hl 0 rfl) ?_
                  refine lv_if_ge (tgt := 126) hx hb dX12_mark_100 (by decide) (fun c_76 => ?_) (fun c_76 => ?_)
                  · refine lv_aload_n hx hb dX12_mark_126 rfl (lv_at hl 1 rfl) ?_
                    refine gt_X12 hx hb hts hown hK hP 0 (hW_w_34.o tM_0) 8 (by decide) wd_1409 rfl (hW_w_34.fi tM_0 rfl) dX12_mark_127 ?_
                    refine tov (v := (fI w 0 8)) ((hs_w_34.gI (by decide)).trans ((hs_w_14.gI (by decide)).trans (hs_w_10.gI (by decide)))) ?_
                    refine lv_if_le (tgt := 135) hx hb dX12_mark_130 (by decide) (fun c_77 => ?_) (fun c_77 => ?_)
                    · refine lv_iload hx hb dX12_mark_135 (lv_at hl 0 rfl) ?_
                      refine lv_if_ge (tgt := 183) hx hb dX12_mark_137 (by decide) (fun c_78 => ?_) (fun c_78 => ?_)
                      · refine lv_aload_n hx hb dX12_mark_183 rfl (lv_at hl 1 rfl) ?_
                        refine kW_v ⟨rfl, rfl⟩ hP hD hS hA (rW_V (As := []) (rest := []) hx hb hml hown hts hK hE hP hD (k_X12_looks l D cI cJ cZ q w_34 hW_w_34 (In_of ((hs_w_34.gI (by decide)).trans ((hs_w_14.gI (by decide)).trans (hs_w_10.gI (by decide)))) hf_0_1) _) ⟨⟨rfl, rfl⟩, rfl, rfl⟩ sv_X12_312 ⟨(Nat.le_trans (by decide) hR.1), (Nat.le_trans (by decide) hR.2)⟩ 0 12 (hW_w_34.o tM_0) rfl rfl rfl hl.1 rfl (Nat.le_of_ble_eq_true rfl) dX12_mark_184) (fun w_79 H locs hw_w_79 hP hD hS => ?_)
                        obtain ⟨hW_w_79, hs_w_79, h_81, h_82, h_83⟩ := hw_w_79
                        have f_h_81 : 1 ≤ ((fI w 0 8) : Int32).toInt → 1 ≤ (fI w_79 0 8).toInt := ft_cg h_81 ((hs_w_34.gI (by decide)).trans ((hs_w_14.gI (by decide)).trans (hs_w_10.gI (by decide))))
                        refine lv_iload_n hx hb dX12_mark_187 rfl (lv_at hl 3 rfl) ?_
                        refine lv_iconst (v := 1) hx hb dX12_mark_188 (by decide) ?_
                        refine lv_iload hx hb dX12_mark_189 (lv_at hl 0 rfl) ?_
                        refine lv_ishl hx hb dX12_mark_191 ?_
                        refine lv_topi (fun v_84 ev_84 => ?_)
                        refine lv_ior hx hb dX12_mark_192 ?_
                        refine lv_topi (fun v_85 ev_85 => ?_)
                        exact hret _ _ _ _ _ _ hP hD hS dX12_mark_193 ⟨hW_w_79, ((((Sm.rf.tr hs_w_10 (by decide)).tr hs_w_14 (by decide)).tr hs_w_34 (by decide)).tr hs_w_79 (by decide)), (by intro hh; have i0_8 := (hW_w_79.fin tM_0 rfl : In 0 5 (fI w_79 0 8)); unfold In at i0_8; omega), (Pc_tl (E_eq ((hs_w_34.gI (by decide)).trans ((hs_w_14.gI (by decide)).trans (hs_w_10.gI (by decide))))) (Pc_of h_82))⟩
                      · exact (In_no (R_nle_l (In_lit (n := 0) (by decide) (by decide) : In 0 0 0) (R_nlt_l i_r_15 (In_lit (n := 0) (by decide) (by decide) : In 0 0 0) c_53 (by decide) : In 0 7 r_15) c_78 (by decide) : In 1 0 0) (by decide)).elim
                    · exact (In_no (R_nle_l (R_eq_l (hW_w.fin tM_0 rfl : In 0 5 (fI w 0 8)) (In_lit (n := 0) (by decide) (by decide) : In 0 0 0) c_1 (by decide) : In 0 0 (fI w 0 8)) (In_lit (n := 0) (by decide) (by decide) : In 0 0 0) c_77 (by decide) : In 1 0 (fI w 0 8)) (by decide)).elim
                  · exact (In_no (R_nle_l (In_lit (n := 0) (by decide) (by decide) : In 0 0 0) (R_nlt_l i_r_15 (In_lit (n := 0) (by decide) (by decide) : In 0 0 0) c_53 (by decide) : In 0 7 r_15) c_76 (by decide) : In 1 0 0) (by decide)).elim
                · refine lv_aload_n hx hb dX12_mark_89 rfl (lv_at hl 1 rfl) ?_
                  refine lv_iconst (v := 2) hx hb dX12_mark_90 (by decide) ?_
                  refine lv_aload_n hx hb dX12_mark_91 rfl (lv_at hl 1 rfl) ?_
                  refine gt_X12 hx hb hts hown hK hP 0 (hW_w_34.o tM_0) 4 (by decide) wd_1405 rfl (hW_w_34.fi tM_0 rfl) dX12_mark_92 ?_
                  refine tov (v := (fI w 0 4)) ((hs_w_34.gI (by decide)).trans ((hs_w_14.gI (by decide)).trans (hs_w_10.gI (by decide)))) ?_
                  refine kW_v ⟨rfl, rfl⟩ hP hD hS hA (rW_V (As := [.int 2, .int (fI w 0 4)]) (rest := []) hx hb hml hown hts hK hE hP hD (k_X12_blame l D cI cJ cZ q w_34 hW_w_34 2 (fI w 0 4) (In_lit (n := 2) (by decide) (by decide) : In 1 5 2) (hW_w.fin tM_0 rfl : In 0 1000 (fI w 0 4)) (In_of ((hs_w_34.gI (by decide)).trans ((hs_w_14.gI (by decide)).trans (hs_w_10.gI (by decide)))) hf_0_1) _) ⟨⟨rfl, rfl⟩, rfl, rfl⟩ sv_X12_308 ⟨(Nat.le_trans (by decide) hR.1), (Nat.le_trans (by decide) hR.2)⟩ 0 12 (hW_w_34.o tM_0) rfl rfl rfl hl.1 rfl (Nat.le_of_ble_eq_true rfl) dX12_mark_95) (fun w_86 H locs hw_w_86 hP hD hS => ?_)
                  obtain ⟨hW_w_86, hs_w_86, h_88, h_89, h_90⟩ := hw_w_86
                  have f_h_89 : 1 ≤ ((fI w 0 8) : Int32).toInt → 1 ≤ (fI w_86 0 8).toInt := ft_cg h_89 ((hs_w_34.gI (by decide)).trans ((hs_w_14.gI (by decide)).trans (hs_w_10.gI (by decide))))
                  refine lv_iload hx hb dX12_mark_98 (lv_at hl 0 rfl) ?_
                  refine lv_if_ge (tgt := 126) hx hb dX12_mark_100 (by decide) (fun c_91 => ?_) (fun c_91 => ?_)
                  · refine lv_aload_n hx hb dX12_mark_126 rfl (lv_at hl 1 rfl) ?_
                    refine gt_X12 hx hb hts hown hK hP 0 (hW_w_86.o tM_0) 8 (by decide) wd_1409 rfl (hW_w_86.fi tM_0 rfl) dX12_mark_127 ?_
                    refine lv_if_le (tgt := 135) hx hb dX12_mark_130 (by decide) (fun c_92 => ?_) (fun c_92 => ?_)
                    · exact (In_no (R_le_l h_88 (In_lit (n := 0) (by decide) (by decide) : In 0 0 0) c_92 (by decide) : In 1 0 (fI w_86 0 8)) (by decide)).elim
                    · refine lv_iload_n hx hb dX12_mark_133 rfl (lv_at hl 3 rfl) ?_
                      exact hret _ _ _ _ _ _ hP hD hS dX12_mark_134 ⟨hW_w_86, ((((Sm.rf.tr hs_w_10 (by decide)).tr hs_w_14 (by decide)).tr hs_w_34 (by decide)).tr hs_w_86 (by decide)), (by intro hh; have i0_8 := h_88; unfold In at i0_8; omega), (Pc_flt (E_eq ((hs_w_86.2 0 5 (by decide) (by decide)).trans ((hs_w_34.gI (by decide)).trans ((hs_w_14.gI (by decide)).trans (hs_w_10.gI (by decide)))))) (by intro q; have e : (fI w_86 0 8).toInt = (0 : Int32).toInt := congrArg Int32.toInt q; have z : (0 : Int32).toInt = 0 := (by decide); have i0_8 := h_88; unfold In at i0_8; omega))⟩
                  · exact (In_no (R_nle_l (In_lit (n := 0) (by decide) (by decide) : In 0 0 0) (R_nlt_l i_r_15 (In_lit (n := 0) (by decide) (by decide) : In 0 0 0) c_53 (by decide) : In 0 7 r_15) c_91 (by decide) : In 1 0 0) (by decide)).elim
        · exact (In_no (R_nle_l (R_eq_l (hW_w.fin tM_0 rfl : In 0 5 (fI w 0 8)) (In_lit (n := 0) (by decide) (by decide) : In 0 0 0) c_1 (by decide) : In 0 0 (fI w 0 8)) (In_lit (n := 0) (by decide) (by decide) : In 0 0 0) c_13 (by decide) : In 1 0 (fI w 0 8)) (by decide)).elim
      · refine lv_aload_n hx hb dX12_mark_26 rfl (lv_at hl 0 rfl) ?_
        refine lv_iconst (v := 1) hx hb dX12_mark_27 (by decide) ?_
        refine lv_aload_n hx hb dX12_mark_28 rfl (lv_at hl 0 rfl) ?_
        refine gt_X12 hx hb hts hown hK hP 0 (hW_w_10.o tM_0) 4 (by decide) wd_1405 rfl (hW_w_10.fi tM_0 rfl) dX12_mark_29 ?_
        refine tov (v := (fI w 0 4)) (hs_w_10.gI (by decide)) ?_
        refine kW_v ⟨rfl, rfl⟩ hP hD hS hA (rW_V (As := [.int 1, .int (fI w 0 4)]) (rest := []) hx hb hml hown hts hK hE hP hD (k_X12_blame l D cI cJ cZ q w_10 hW_w_10 1 (fI w 0 4) (In_lit (n := 1) (by decide) (by decide) : In 1 5 1) (hW_w.fin tM_0 rfl : In 0 1000 (fI w 0 4)) (In_of (hs_w_10.gI (by decide)) hf_0_1) _) ⟨⟨rfl, rfl⟩, rfl, rfl⟩ sv_X12_308 ⟨(Nat.le_trans (by decide) hR.1), (Nat.le_trans (by decide) hR.2)⟩ 0 12 (hW_w_10.o tM_0) rfl rfl rfl hl.1 rfl (Nat.le_of_ble_eq_true rfl) dX12_mark_32) (fun w_93 H locs hw_w_93 hP hD hS => ?_)
        obtain ⟨hW_w_93, hs_w_93, h_95, h_96, h_97⟩ := hw_w_93
        have f_h_96 : 1 ≤ ((fI w 0 8) : Int32).toInt → 1 ≤ (fI w_93 0 8).toInt := ft_cg h_96 (hs_w_10.gI (by decide))
        refine lv_aload_n hx hb dX12_mark_35 rfl (lv_at hl 0 rfl) ?_
        refine gt_X12 hx hb hts hown hK hP 0 (hW_w_93.o tM_0) 8 (by decide) wd_1409 rfl (hW_w_93.fi tM_0 rfl) dX12_mark_36 ?_
        refine lv_if_le (tgt := 44) hx hb dX12_mark_39 (by decide) (fun c_98 => ?_) (fun c_98 => ?_)
        · exact (In_no (R_le_l h_95 (In_lit (n := 0) (by decide) (by decide) : In 0 0 0) c_98 (by decide) : In 1 0 (fI w_93 0 8)) (by decide)).elim
        · refine lv_iload_n hx hb dX12_mark_42 rfl (lv_at hl 2 rfl) ?_
          exact hret _ _ _ _ _ _ hP hD hS dX12_mark_43 ⟨hW_w_93, ((Sm.rf.tr hs_w_10 (by decide)).tr hs_w_93 (by decide)), (by intro hh; have i0_8 := h_95; unfold In at i0_8; omega), (Pc_flt (E_eq ((hs_w_93.2 0 5 (by decide) (by decide)).trans (hs_w_10.gI (by decide)))) (by intro q; have e : (fI w_93 0 8).toInt = (0 : Int32).toInt := congrArg Int32.toInt q; have z : (0 : Int32).toInt = 0 := (by decide); have i0_8 := h_95; unfold In at i0_8; omega))⟩
set_option maxRecDepth 100000 in
set_option maxHeartbeats 8000000 in
theorem k_X12_mustWord (l : Launch) (D : va_G) (cI cJ cZ : ClassId) (q : Nat → Nat) (w : va_W) (hW_w : HT q (TM q cI cJ cZ) w) (p1 : Int64) (hf_0_1 : In 0 0 (fI w 0 1)) (hf_0_8 : In 0 0 (fI w 0 8)) : Con_v l yX12_mustWord cX12_mustWord 3 none ({ frames := 2, cells := 0, slots := 0, locals := 47 }) D cI cJ cZ eW [.ref (q 0), .long p1] w (fun (w1 : va_W) => HT q (TM q cI cJ cZ) w1 ∧ Sm [0] [(0, 3), (0, 4), (0, 5), (0, 6), (0, 7), (0, 8), (0, 9)] w w1 ∧ (1 ≤ (fI w 0 8).toInt → 1 ≤ (fI w1 0 8).toInt) ∧ (Pc w w1) ∧ ((fI w1 0 8 = 0 → SI w1))) := by
  refine eQ_v rfl (by decide) (Nat.le_of_ble_eq_true rfl) ⟨rfl, rfl⟩ ?_
  intro p e R s m args below meth c A Q hx hb hml hown hts hK hE hA hR hret hP hD hS ls hl
  have hown : s.vm.findClass RX12 = some m.cls := hown
  have hl : lv_has ls 3 [(0, .ref (q 0)), (1, .long p1)] := hl
  refine lv_aload_n hx hb dX12_mustWord_0 rfl (lv_at hl 0 rfl) ?_
  refine lv_lload_n hx hb dX12_mustWord_1 rfl (lv_at hl 1 rfl) ?_
  refine kW_i ⟨rfl, rfl⟩ hP hD hS hA (rW_V (As := [.long p1]) (rest := []) hx hb hml hown hts hK hE hP hD (k_X12_isWord l D cI cJ cZ q w hW_w p1 hf_0_1 hf_0_8 _) ⟨⟨rfl, rfl⟩, rfl, rfl⟩ sv_X12_318 ⟨(Nat.le_trans (by decide) hR.1), (Nat.le_trans (by decide) hR.2)⟩ 0 12 (hW_w.o tM_0) rfl rfl rfl hl.1 rfl (Nat.le_of_ble_eq_true rfl) dX12_mustWord_2) (fun r_2 w_1 H locs hw_w_1 hP hD hS => ?_)
  obtain ⟨hW_w_1, hs_w_1, i_r_2, h_3, h_4⟩ := hw_w_1
  refine lv_if_ne (tgt := 17) hx hb dX12_mustWord_5 (by decide) (fun c_5 => ?_) (fun c_5 => ?_)
  · refine lv_aload_n hx hb dX12_mustWord_17 rfl (lv_at hl 0 rfl) ?_
    refine gt_X12 hx hb hts hown hK hP 0 (hW_w_1.o tM_0) 8 (by decide) wd_1409 rfl (hW_w_1.fi tM_0 rfl) dX12_mustWord_18 ?_
    refine tov (v := (fI w 0 8)) (hs_w_1.gI (by decide)) ?_
    refine lv_if_ne (tgt := 28) hx hb dX12_mustWord_21 (by decide) (fun c_6 => ?_) (fun c_6 => ?_)
    · exact (In_no (R_ne_l hf_0_8 (In_lit (n := 0) (by decide) (by decide) : In 0 0 0) c_6 (by decide) : In 1 (-1) (fI w 0 8)) (by decide)).elim
    · refine lv_aload_n hx hb dX12_mustWord_24 rfl (lv_at hl 0 rfl) ?_
      refine kW_v ⟨rfl, rfl⟩ hP hD hS hA (rW_V (As := []) (rest := []) hx hb hml hown hts hK hE hP hD (k_X12_looks l D cI cJ cZ q w_1 hW_w_1 (In_of (hs_w_1.gI (by decide)) hf_0_1) _) ⟨⟨rfl, rfl⟩, rfl, rfl⟩ sv_X12_312 ⟨(Nat.le_trans (by decide) hR.1), (Nat.le_trans (by decide) hR.2)⟩ 0 12 (hW_w_1.o tM_0) rfl rfl rfl hl.1 rfl (Nat.le_of_ble_eq_true rfl) dX12_mustWord_25) (fun w_7 H locs hw_w_7 hP hD hS => ?_)
      obtain ⟨hW_w_7, hs_w_7, h_9, h_10, h_11⟩ := hw_w_7
      have f_h_9 : 1 ≤ ((fI w 0 8) : Int32).toInt → 1 ≤ (fI w_7 0 8).toInt := ft_cg h_9 (hs_w_1.gI (by decide))
      exact hret _ _ _ _ _ hP hD hS dX12_mustWord_28 ⟨hW_w_7, ((Sm.rf.tr hs_w_1 (by decide)).tr hs_w_7 (by decide)), (by intro hh; have i0_8 := (hW_w_7.fin tM_0 rfl : In 0 5 (fI w_7 0 8)); unfold In at i0_8; omega), (Pc_tl (E_eq (hs_w_1.gI (by decide))) (Pc_of h_10)), (fun _ => (SI_lk h_10 h_11))⟩
  · refine lv_aload_n hx hb dX12_mustWord_8 rfl (lv_at hl 0 rfl) ?_
    refine lv_iconst (v := 1) hx hb dX12_mustWord_9 (by decide) ?_
    refine lv_aload_n hx hb dX12_mustWord_10 rfl (lv_at hl 0 rfl) ?_
    refine gt_X12 hx hb hts hown hK hP 0 (hW_w_1.o tM_0) 4 (by decide) wd_1405 rfl (hW_w_1.fi tM_0 rfl) dX12_mustWord_11 ?_
    refine tov (v := (fI w 0 4)) (hs_w_1.gI (by decide)) ?_
    refine kW_v ⟨rfl, rfl⟩ hP hD hS hA (rW_V (As := [.int 1, .int (fI w 0 4)]) (rest := []) hx hb hml hown hts hK hE hP hD (k_X12_blame l D cI cJ cZ q w_1 hW_w_1 1 (fI w 0 4) (In_lit (n := 1) (by decide) (by decide) : In 1 5 1) (hW_w.fin tM_0 rfl : In 0 1000 (fI w 0 4)) (In_of (hs_w_1.gI (by decide)) hf_0_1) _) ⟨⟨rfl, rfl⟩, rfl, rfl⟩ sv_X12_308 ⟨(Nat.le_trans (by decide) hR.1), (Nat.le_trans (by decide) hR.2)⟩ 0 12 (hW_w_1.o tM_0) rfl rfl rfl hl.1 rfl (Nat.le_of_ble_eq_true rfl) dX12_mustWord_14) (fun w_12 H locs hw_w_12 hP hD hS => ?_)
    obtain ⟨hW_w_12, hs_w_12, h_14, h_15, h_16⟩ := hw_w_12
    have f_h_15 : 1 ≤ ((fI w 0 8) : Int32).toInt → 1 ≤ (fI w_12 0 8).toInt := ft_cg h_15 (hs_w_1.gI (by decide))
    refine lv_aload_n hx hb dX12_mustWord_17 rfl (lv_at hl 0 rfl) ?_
    refine gt_X12 hx hb hts hown hK hP 0 (hW_w_12.o tM_0) 8 (by decide) wd_1409 rfl (hW_w_12.fi tM_0 rfl) dX12_mustWord_18 ?_
    refine lv_if_ne (tgt := 28) hx hb dX12_mustWord_21 (by decide) (fun c_17 => ?_) (fun c_17 => ?_)
    · exact hret _ _ _ _ _ hP hD hS dX12_mustWord_28 ⟨hW_w_12, ((Sm.rf.tr hs_w_1 (by decide)).tr hs_w_12 (by decide)), (by intro hh; have i0_8 := h_14; unfold In at i0_8; omega), (Pc_flt (E_eq ((hs_w_12.2 0 5 (by decide) (by decide)).trans (hs_w_1.gI (by decide)))) (by intro q; have e : (fI w_12 0 8).toInt = (0 : Int32).toInt := congrArg Int32.toInt q; have z : (0 : Int32).toInt = 0 := (by decide); have i0_8 := h_14; unfold In at i0_8; omega)), (fun q => absurd q (In_n0 h_14 (by decide)))⟩
    · exact (In_no (R_eq_l h_14 (In_lit (n := 0) (by decide) (by decide) : In 0 0 0) c_17 (by decide) : In 1 0 (fI w_12 0 8)) (by decide)).elim
set_option maxRecDepth 100000 in
set_option maxHeartbeats 8000000 in
theorem k_X12_is (l : Launch) (D : va_G) (cI cJ cZ : ClassId) (q : Nat → Nat) (w : va_W) (hW_w : HT q (TM q cI cJ cZ) w) (p0 : Int32) (p1 : Int32) (p2 : Int32) : Con_i l yX12_is cX12_is 3 (some .boolean) ({ frames := 0, cells := 0, slots := 0, locals := 0 }) D cI cJ cZ eW [.int p0, .int p1, .int p2] w (fun (r : Int32) (w1 : va_W) => HT q (TM q cI cJ cZ) w1 ∧ Sm [] [] w w1 ∧ In 0 1 r ∧ ((¬ r = 0 → p1.toInt ≤ p0.toInt ∧ p0.toInt ≤ p2.toInt))) := by
  refine eQ_z rfl (by decide) (Nat.le_of_ble_eq_true rfl) ⟨rfl, rfl⟩ ?_
  intro p e R s m args below meth c A Q hx hb hml hown hts hK hE hA hR hret hP hD hS ls hl
  have hown : s.vm.findClass RX12 = some m.cls := hown
  have hl : lv_has ls 3 [(0, .int p0), (1, .int p1), (2, .int p2)] := hl
  refine lv_iload_n hx hb dX12_is_0 rfl (lv_at hl 0 rfl) ?_
  refine lv_iload_n hx hb dX12_is_1 rfl (lv_at hl 1 rfl) ?_
  refine lv_icmp_lt (tgt := 14) hx hb dX12_is_2 (by decide) (fun c_1 => ?_) (fun c_1 => ?_)
  · refine lv_iconst (v := 0) hx hb dX12_is_14 (by decide) ?_
    exact hret _ _ _ _ _ _ hP hD hS dX12_is_15 (In_lit (n := 0) (by decide) (by decide) : In 0 1 0) ⟨hW_w, Sm.rf, (In_lit (n := 0) (by decide) (by decide) : In 0 1 0), (fun h => absurd rfl h)⟩
  · refine lv_iload_n hx hb dX12_is_5 rfl (lv_at hl 0 rfl) ?_
    refine lv_iload_n hx hb dX12_is_6 rfl (lv_at hl 2 rfl) ?_
    refine lv_icmp_gt (tgt := 14) hx hb dX12_is_7 (by decide) (fun c_2 => ?_) (fun c_2 => ?_)
    · refine lv_iconst (v := 0) hx hb dX12_is_14 (by decide) ?_
      exact hret _ _ _ _ _ _ hP hD hS dX12_is_15 (In_lit (n := 0) (by decide) (by decide) : In 0 1 0) ⟨hW_w, Sm.rf, (In_lit (n := 0) (by decide) (by decide) : In 0 1 0), (fun h => absurd rfl h)⟩
    · refine lv_iconst (v := 1) hx hb dX12_is_10 (by decide) ?_
      refine lv_goto (tgt := 15) hx hb dX12_is_11 (by decide) ?_
      exact hret _ _ _ _ _ _ hP hD hS dX12_is_15 (In_lit (n := 1) (by decide) (by decide) : In 0 1 1) ⟨hW_w, Sm.rf, (In_lit (n := 1) (by decide) (by decide) : In 0 1 1), (fun _ => ⟨by have a := c_1; rw [q_lt] at a; omega, by have a := c_2; rw [q_lt] at a; omega⟩)⟩
set_option maxRecDepth 100000 in
set_option maxHeartbeats 8000000 in
theorem k_X12_number (l : Launch) (D : va_G) (cI cJ cZ : ClassId) (q : Nat → Nat) (w : va_W) (hW_w : HT q (TM q cI cJ cZ) w) (p1 : Int32) (p2 : Int32) (i_p1 : In 0 1 p1) (i_p2 : In 200 1000 p2) (hf_0_1 : In 0 0 (fI w 0 1)) (hf_0_8 : In 0 0 (fI w 0 8)) : Con_i l yX12_number cX12_number 4 (some .int) ({ frames := 2, cells := 0, slots := 0, locals := 47 }) D cI cJ cZ eW [.ref (q 0), .int p1, .int p2] w (fun (r : Int32) (w1 : va_W) => HT q (TM q cI cJ cZ) w1 ∧ Sm [0] [(0, 3), (0, 4), (0, 5), (0, 6), (0, 7), (0, 8), (0, 9)] w w1 ∧ (1 ≤ (fI w 0 8).toInt → 1 ≤ (fI w1 0 8).toInt) ∧ (Pc w w1)) := by
  refine eQ_i rfl (by decide) (Nat.le_of_ble_eq_true rfl) ⟨rfl, rfl⟩ ?_
  intro p e R s m args below meth c A Q hx hb hml hown hts hK hE hA hR hret hP hD hS ls hl
  have hown : s.vm.findClass RX12 = some m.cls := hown
  have hl : lv_has ls 4 [(0, .ref (q 0)), (1, .int p1), (2, .int p2)] := hl
  refine lv_aload_n hx hb dX12_number_0 rfl (lv_at hl 0 rfl) ?_
  refine gt_X12 hx hb hts hown hK hP 0 (hW_w.o tM_0) 3 (by decide) wd_1404 rfl (hW_w.fi tM_0 rfl) dX12_number_1 ?_
  refine lv_iconst (v := 2) hx hb dX12_number_4 (by decide) ?_
  refine lv_icmp_eq (tgt := 17) hx hb dX12_number_5 (by decide) (fun c_1 => ?_) (fun c_1 => ?_)
  · refine lv_aload_n hx hb dX12_number_17 rfl (lv_at hl 0 rfl) ?_
    refine gt_X12 hx hb hts hown hK hP 0 (hW_w.o tM_0) 8 (by decide) wd_1409 rfl (hW_w.fi tM_0 rfl) dX12_number_18 ?_
    refine lv_if_ne (tgt := 45) hx hb dX12_number_21 (by decide) (fun c_2 => ?_) (fun c_2 => ?_)
    · exact (In_no (R_ne_l hf_0_8 (In_lit (n := 0) (by decide) (by decide) : In 0 0 0) c_2 (by decide) : In 1 (-1) (fI w 0 8)) (by decide)).elim
    · refine lv_aload_n hx hb dX12_number_24 rfl (lv_at hl 0 rfl) ?_
      refine gt_X12 hx hb hts hown hK hP 0 (hW_w.o tM_0) 6 (by decide) wd_1407 rfl (hW_w.fi tM_0 rfl) dX12_number_25 ?_
      refine lv_iload_n hx hb dX12_number_28 rfl (lv_at hl 1 rfl) ?_
      refine lv_iload_n hx hb dX12_number_29 rfl (lv_at hl 2 rfl) ?_
      refine kW_i ⟨rfl, rfl⟩ hP hD hS hA (rW_S (As := [.int (fI w 0 6), .int p1, .int p2]) (rest := []) hx hb hml hown hts hK hE hP hD (k_X12_is l D cI cJ cZ q w hW_w (fI w 0 6) p1 p2 _) ⟨⟨rfl, rfl⟩, rfl, rfl⟩ sv_X12_322 ⟨(Nat.le_trans (by decide) hR.1), (Nat.le_trans (by decide) hR.2)⟩ rfl hl.1 rfl (Nat.le_of_ble_eq_true rfl) dX12_number_30) (fun r_4 w_3 H locs hw_w_3 hP hD hS => ?_)
      obtain ⟨hW_w_3, hs_w_3, i_r_4, h_5⟩ := hw_w_3
      refine lv_if_ne (tgt := 45) hx hb dX12_number_33 (by decide) (fun c_6 => ?_) (fun c_6 => ?_)
      · refine lv_aload_n hx hb dX12_number_45 rfl (lv_at hl 0 rfl) ?_
        refine gt_X12 hx hb hts hown hK hP 0 (hW_w_3.o tM_0) 6 (by decide) wd_1407 rfl (hW_w_3.fi tM_0 rfl) dX12_number_46 ?_
        refine tov (v := (fI w 0 6)) (hs_w_3.gI (by decide)) ?_
        refine lv_istore_n (lv' := [(3, .int (fI w 0 6)), (0, .ref (q 0)), (1, .int p1), (2, .int p2)]) hx hb dX12_number_49 rfl hl (by decide) rfl (fun ls hl => ?_)
        refine lv_aload_n hx hb dX12_number_50 rfl (lv_at hl 1 rfl) ?_
        refine gt_X12 hx hb hts hown hK hP 0 (hW_w_3.o tM_0) 8 (by decide) wd_1409 rfl (hW_w_3.fi tM_0 rfl) dX12_number_51 ?_
        refine tov (v := (fI w 0 8)) (hs_w_3.gI (by decide)) ?_
        refine lv_if_ne (tgt := 61) hx hb dX12_number_54 (by decide) (fun c_7 => ?_) (fun c_7 => ?_)
        · exact (In_no (R_ne_l hf_0_8 (In_lit (n := 0) (by decide) (by decide) : In 0 0 0) c_7 (by decide) : In 1 (-1) (fI w 0 8)) (by decide)).elim
        · refine lv_aload_n hx hb dX12_number_57 rfl (lv_at hl 1 rfl) ?_
          refine kW_v ⟨rfl, rfl⟩ hP hD hS hA (rW_V (As := []) (rest := []) hx hb hml hown hts hK hE hP hD (k_X12_looks l D cI cJ cZ q w_3 hW_w_3 (In_of (hs_w_3.gI (by decide)) hf_0_1) _) ⟨⟨rfl, rfl⟩, rfl, rfl⟩ sv_X12_312 ⟨(Nat.le_trans (by decide) hR.1), (Nat.le_trans (by decide) hR.2)⟩ 0 12 (hW_w_3.o tM_0) rfl rfl rfl hl.1 rfl (Nat.le_of_ble_eq_true rfl) dX12_number_58) (fun w_8 H locs hw_w_8 hP hD hS => ?_)
          obtain ⟨hW_w_8, hs_w_8, h_10, h_11, h_12⟩ := hw_w_8
          have f_h_10 : 1 ≤ ((fI w 0 8) : Int32).toInt → 1 ≤ (fI w_8 0 8).toInt := ft_cg h_10 (hs_w_3.gI (by decide))
          refine lv_iload_n hx hb dX12_number_61 rfl (lv_at hl 0 rfl) ?_
          exact hret _ _ _ _ _ _ hP hD hS dX12_number_62 ⟨hW_w_8, ((Sm.rf.tr hs_w_3 (by decide)).tr hs_w_8 (by decide)), (by intro hh; have i0_8 := (hW_w_8.fin tM_0 rfl : In 0 5 (fI w_8 0 8)); unfold In at i0_8; omega), (Pc_tl (E_eq (hs_w_3.gI (by decide))) (Pc_of h_11))⟩
      · refine lv_aload_n hx hb dX12_number_36 rfl (lv_at hl 0 rfl) ?_
        refine lv_iconst (v := 4) hx hb dX12_number_37 (by decide) ?_
        refine lv_aload_n hx hb dX12_number_38 rfl (lv_at hl 0 rfl) ?_
        refine gt_X12 hx hb hts hown hK hP 0 (hW_w_3.o tM_0) 4 (by decide) wd_1405 rfl (hW_w_3.fi tM_0 rfl) dX12_number_39 ?_
        refine tov (v := (fI w 0 4)) (hs_w_3.gI (by decide)) ?_
        refine kW_v ⟨rfl, rfl⟩ hP hD hS hA (rW_V (As := [.int 4, .int (fI w 0 4)]) (rest := []) hx hb hml hown hts hK hE hP hD (k_X12_blame l D cI cJ cZ q w_3 hW_w_3 4 (fI w 0 4) (In_lit (n := 4) (by decide) (by decide) : In 1 5 4) (hW_w.fin tM_0 rfl : In 0 1000 (fI w 0 4)) (In_of (hs_w_3.gI (by decide)) hf_0_1) _) ⟨⟨rfl, rfl⟩, rfl, rfl⟩ sv_X12_308 ⟨(Nat.le_trans (by decide) hR.1), (Nat.le_trans (by decide) hR.2)⟩ 0 12 (hW_w_3.o tM_0) rfl rfl rfl hl.1 rfl (Nat.le_of_ble_eq_true rfl) dX12_number_42) (fun w_13 H locs hw_w_13 hP hD hS => ?_)
        obtain ⟨hW_w_13, hs_w_13, h_15, h_16, h_17⟩ := hw_w_13
        have f_h_16 : 1 ≤ ((fI w 0 8) : Int32).toInt → 1 ≤ (fI w_13 0 8).toInt := ft_cg h_16 (hs_w_3.gI (by decide))
        refine lv_aload_n hx hb dX12_number_45 rfl (lv_at hl 0 rfl) ?_
        refine gt_X12 hx hb hts hown hK hP 0 (hW_w_13.o tM_0) 6 (by decide) wd_1407 rfl (hW_w_13.fi tM_0 rfl) dX12_number_46 ?_
        refine tov (v := (fI w 0 6)) ((hs_w_13.2 0 6 (by decide) (by decide)).trans (hs_w_3.gI (by decide))) ?_
        refine lv_istore_n (lv' := [(3, .int (fI w 0 6)), (0, .ref (q 0)), (1, .int p1), (2, .int p2)]) hx hb dX12_number_49 rfl hl (by decide) rfl (fun ls hl => ?_)
        refine lv_aload_n hx hb dX12_number_50 rfl (lv_at hl 1 rfl) ?_
        refine gt_X12 hx hb hts hown hK hP 0 (hW_w_13.o tM_0) 8 (by decide) wd_1409 rfl (hW_w_13.fi tM_0 rfl) dX12_number_51 ?_
        refine lv_if_ne (tgt := 61) hx hb dX12_number_54 (by decide) (fun c_18 => ?_) (fun c_18 => ?_)
        · refine lv_iload_n hx hb dX12_number_61 rfl (lv_at hl 0 rfl) ?_
          exact hret _ _ _ _ _ _ hP hD hS dX12_number_62 ⟨hW_w_13, ((Sm.rf.tr hs_w_3 (by decide)).tr hs_w_13 (by decide)), (by intro hh; have i0_8 := h_15; unfold In at i0_8; omega), (Pc_flt (E_eq ((hs_w_13.2 0 5 (by decide) (by decide)).trans (hs_w_3.gI (by decide)))) (by intro q; have e : (fI w_13 0 8).toInt = (0 : Int32).toInt := congrArg Int32.toInt q; have z : (0 : Int32).toInt = 0 := (by decide); have i0_8 := h_15; unfold In at i0_8; omega))⟩
        · exact (In_no (R_eq_l h_15 (In_lit (n := 0) (by decide) (by decide) : In 0 0 0) c_18 (by decide) : In 1 0 (fI w_13 0 8)) (by decide)).elim
  · refine lv_aload_n hx hb dX12_number_8 rfl (lv_at hl 0 rfl) ?_
    refine lv_iconst (v := 1) hx hb dX12_number_9 (by decide) ?_
    refine lv_aload_n hx hb dX12_number_10 rfl (lv_at hl 0 rfl) ?_
    refine gt_X12 hx hb hts hown hK hP 0 (hW_w.o tM_0) 4 (by decide) wd_1405 rfl (hW_w.fi tM_0 rfl) dX12_number_11 ?_
    refine kW_v ⟨rfl, rfl⟩ hP hD hS hA (rW_V (As := [.int 1, .int (fI w 0 4)]) (rest := []) hx hb hml hown hts hK hE hP hD (k_X12_blame l D cI cJ cZ q w hW_w 1 (fI w 0 4) (In_lit (n := 1) (by decide) (by decide) : In 1 5 1) (hW_w.fin tM_0 rfl : In 0 1000 (fI w 0 4)) hf_0_1 _) ⟨⟨rfl, rfl⟩, rfl, rfl⟩ sv_X12_308 ⟨(Nat.le_trans (by decide) hR.1), (Nat.le_trans (by decide) hR.2)⟩ 0 12 (hW_w.o tM_0) rfl rfl rfl hl.1 rfl (Nat.le_of_ble_eq_true rfl) dX12_number_14) (fun w_19 H locs hw_w_19 hP hD hS => ?_)
    obtain ⟨hW_w_19, hs_w_19, h_21, h_22, h_23⟩ := hw_w_19
    have f_h_22 : 1 ≤ ((fI w 0 8) : Int32).toInt → 1 ≤ (fI w_19 0 8).toInt := h_22
    refine lv_aload_n hx hb dX12_number_17 rfl (lv_at hl 0 rfl) ?_
    refine gt_X12 hx hb hts hown hK hP 0 (hW_w_19.o tM_0) 8 (by decide) wd_1409 rfl (hW_w_19.fi tM_0 rfl) dX12_number_18 ?_
    refine lv_if_ne (tgt := 45) hx hb dX12_number_21 (by decide) (fun c_24 => ?_) (fun c_24 => ?_)
    · refine lv_aload_n hx hb dX12_number_45 rfl (lv_at hl 0 rfl) ?_
      refine gt_X12 hx hb hts hown hK hP 0 (hW_w_19.o tM_0) 6 (by decide) wd_1407 rfl (hW_w_19.fi tM_0 rfl) dX12_number_46 ?_
      refine tov (v := (fI w 0 6)) (hs_w_19.2 0 6 (by decide) (by decide)) ?_
      refine lv_istore_n (lv' := [(3, .int (fI w 0 6)), (0, .ref (q 0)), (1, .int p1), (2, .int p2)]) hx hb dX12_number_49 rfl hl (by decide) rfl (fun ls hl => ?_)
      refine lv_aload_n hx hb dX12_number_50 rfl (lv_at hl 1 rfl) ?_
      refine gt_X12 hx hb hts hown hK hP 0 (hW_w_19.o tM_0) 8 (by decide) wd_1409 rfl (hW_w_19.fi tM_0 rfl) dX12_number_51 ?_
      refine lv_if_ne (tgt := 61) hx hb dX12_number_54 (by decide) (fun c_25 => ?_) (fun c_25 => ?_)
      · refine lv_iload_n hx hb dX12_number_61 rfl (lv_at hl 0 rfl) ?_
        exact hret _ _ _ _ _ _ hP hD hS dX12_number_62 ⟨hW_w_19, (Sm.rf.tr hs_w_19 (by decide)), (by intro hh; have i0_8 := h_21; unfold In at i0_8; omega), (Pc_flt (E_eq (hs_w_19.2 0 5 (by decide) (by decide))) (by intro q; have e : (fI w_19 0 8).toInt = (0 : Int32).toInt := congrArg Int32.toInt q; have z : (0 : Int32).toInt = 0 := (by decide); have i0_8 := h_21; unfold In at i0_8; omega))⟩
      · exact (In_no (R_eq_l h_21 (In_lit (n := 0) (by decide) (by decide) : In 0 0 0) c_25 (by decide) : In 1 0 (fI w_19 0 8)) (by decide)).elim
    · exact (In_no (R_eq_l h_21 (In_lit (n := 0) (by decide) (by decide) : In 0 0 0) c_24 (by decide) : In 1 0 (fI w_19 0 8)) (by decide)).elim
