def BIG : List Cond := lw_tbl.filter goodWord
theorem big_lw : ∀ w ∈ BIG, w ∈ lw_tbl := fun w h => (List.mem_filter.mp h).1
theorem big_good {ws : List Cond} (h : ∀ w ∈ ws, w ∈ BIG) : GoodIn BIG ws := fun w hw => ⟨h w hw, good_of_word (List.mem_filter.mp (h w hw)).2⟩
theorem big_t {w : Cond} (h : w ∈ tables_1) (g : goodWord w = true) : w ∈ BIG := List.mem_filter.mpr ⟨List.mem_append_right _ h, g⟩
theorem big_p {q : MethodName × Nat} (h : q ∈ lw_privs) : Cond.selects q.1.cls q.1 q.1 ∈ BIG := List.mem_filter.mpr ⟨List.mem_append_left _ (List.mem_map.mpr ⟨q, h, rfl⟩), rfl⟩
theorem tb_1 {w : Cond} (h : w ∈ tables_1_1) : w ∈ tables_1 := List.mem_append_left _ h
theorem tb_2 {w : Cond} (h : w ∈ tables_1_2) : w ∈ tables_1 := List.mem_append_right _ (List.mem_append_left _ h)
theorem tb_3 {w : Cond} (h : w ∈ tables_1_3) : w ∈ tables_1 := List.mem_append_right _ (List.mem_append_right _ (List.mem_append_left _ h))
theorem tb_4 {w : Cond} (h : w ∈ tables_1_4) : w ∈ tables_1 := List.mem_append_right _ (List.mem_append_right _ (List.mem_append_right _ (List.mem_append_left _ h)))
theorem tb_5 {w : Cond} (h : w ∈ tables_1_5) : w ∈ tables_1 := List.mem_append_right _ (List.mem_append_right _ (List.mem_append_right _ (List.mem_append_right _ (List.mem_append_left _ h))))
theorem tb_6 {w : Cond} (h : w ∈ tables_1_6) : w ∈ tables_1 := List.mem_append_right _ (List.mem_append_right _ (List.mem_append_right _ (List.mem_append_right _ (List.mem_append_right _ (List.mem_append_left _ h)))))
theorem tb_7 {w : Cond} (h : w ∈ tables_1_7) : w ∈ tables_1 := List.mem_append_right _ (List.mem_append_right _ (List.mem_append_right _ (List.mem_append_right _ (List.mem_append_right _ (List.mem_append_right _ (List.mem_append_left _ h))))))
theorem tb_8 {w : Cond} (h : w ∈ tables_1_8) : w ∈ tables_1 := List.mem_append_right _ (List.mem_append_right _ (List.mem_append_right _ (List.mem_append_right _ (List.mem_append_right _ (List.mem_append_right _ (List.mem_append_right _ (List.mem_append_left _ h)))))))
theorem tb_9 {w : Cond} (h : w ∈ tables_1_9) : w ∈ tables_1 := List.mem_append_right _ (List.mem_append_right _ (List.mem_append_right _ (List.mem_append_right _ (List.mem_append_right _ (List.mem_append_right _ (List.mem_append_right _ (List.mem_append_right _ (h))))))))
theorem wd_0 : (Cond.initialized RL) ∈ BIG := big_t (tb_1 (List.mem_of_getElem? (i := 0) (by rfl))) rfl
theorem wd_1 : (Cond.initialized RX11) ∈ BIG := big_t (tb_1 (List.mem_of_getElem? (i := 1) (by rfl))) rfl
theorem wd_2 : (Cond.initialized RX1) ∈ BIG := big_t (tb_1 (List.mem_of_getElem? (i := 2) (by rfl))) rfl
theorem wd_3 : (Cond.initialized RX10) ∈ BIG := big_t (tb_1 (List.mem_of_getElem? (i := 3) (by rfl))) rfl
theorem wd_4 : (Cond.initialized RJ0) ∈ BIG := big_t (tb_1 (List.mem_of_getElem? (i := 4) (by rfl))) rfl
theorem wd_5 : (Cond.initialized RJ1) ∈ BIG := big_t (tb_1 (List.mem_of_getElem? (i := 5) (by rfl))) rfl
theorem wd_6 : (Cond.initialized RJ3) ∈ BIG := big_t (tb_1 (List.mem_of_getElem? (i := 6) (by rfl))) rfl
theorem wd_7 : (Cond.initialized RJ2) ∈ BIG := big_t (tb_1 (List.mem_of_getElem? (i := 7) (by rfl))) rfl
theorem wd_8 : (Cond.initialized RX8) ∈ BIG := big_t (tb_1 (List.mem_of_getElem? (i := 8) (by rfl))) rfl
theorem wd_9 : (Cond.initialized RX7) ∈ BIG := big_t (tb_1 (List.mem_of_getElem? (i := 9) (by rfl))) rfl
theorem wd_10 : (Cond.initialized RX6) ∈ BIG := big_t (tb_1 (List.mem_of_getElem? (i := 10) (by rfl))) rfl
theorem wd_11 : (Cond.initialized RX5) ∈ BIG := big_t (tb_1 (List.mem_of_getElem? (i := 11) (by rfl))) rfl
theorem wd_12 : (Cond.initialized RX3) ∈ BIG := big_t (tb_1 (List.mem_of_getElem? (i := 12) (by rfl))) rfl
theorem wd_13 : (Cond.initialized RX2) ∈ BIG := big_t (tb_1 (List.mem_of_getElem? (i := 13) (by rfl))) rfl
theorem wd_14 : (Cond.initialized RX9) ∈ BIG := big_t (tb_1 (List.mem_of_getElem? (i := 14) (by rfl))) rfl
theorem wd_15 : (Cond.initialized RX4) ∈ BIG := big_t (tb_1 (List.mem_of_getElem? (i := 15) (by rfl))) rfl
theorem wd_16 : (Cond.initialized RX0) ∈ BIG := big_t (tb_1 (List.mem_of_getElem? (i := 16) (by rfl))) rfl
theorem wd_17 : (Cond.initialized RX12) ∈ BIG := big_t (tb_1 (List.mem_of_getElem? (i := 17) (by rfl))) rfl
theorem wd_18 : (Cond.initialized RJ9) ∈ BIG := big_t (tb_1 (List.mem_of_getElem? (i := 18) (by rfl))) rfl
theorem wd_19 : (Cond.initialized RJ7) ∈ BIG := big_t (tb_1 (List.mem_of_getElem? (i := 19) (by rfl))) rfl
theorem wd_20 : (Cond.initialized RJ6) ∈ BIG := big_t (tb_1 (List.mem_of_getElem? (i := 20) (by rfl))) rfl
theorem wd_21 : (Cond.classLink RL 7 RX11) ∈ BIG := big_t (tb_1 (List.mem_of_getElem? (i := 21) (by rfl))) rfl
theorem wd_22 : (Cond.instantiable RX11 14) ∈ BIG := big_t (tb_1 (List.mem_of_getElem? (i := 22) (by rfl))) rfl
theorem wd_23 : (Cond.methodLink RL 9 yX11_init) ∈ BIG := big_t (tb_1 (List.mem_of_getElem? (i := 23) (by rfl))) rfl
theorem wd_24 : (Cond.instanceMethod yX11_init) ∈ BIG := big_t (tb_1 (List.mem_of_getElem? (i := 24) (by rfl))) rfl
theorem wd_25 : (Cond.code yX11_init prog_1_method_1_code 1 none) ∈ BIG := big_t (tb_1 (List.mem_of_getElem? (i := 25) (by rfl))) rfl
theorem wd_26 : (Cond.methodLink RX11 3 objectInit) ∈ BIG := big_t (tb_1 (List.mem_of_getElem? (i := 26) (by rfl))) rfl
theorem wd_27 : (Cond.instanceMethod objectInit) ∈ BIG := big_t (tb_1 (List.mem_of_getElem? (i := 27) (by rfl))) rfl
theorem wd_28 : (Cond.code objectInit object_method_1_code 1 none) ∈ BIG := big_t (tb_1 (List.mem_of_getElem? (i := 28) (by rfl))) rfl
theorem wd_29 : (Cond.classLink RX11 9 RX1) ∈ BIG := big_t (tb_1 (List.mem_of_getElem? (i := 29) (by rfl))) rfl
theorem wd_30 : (Cond.instantiable RX1 20) ∈ BIG := big_t (tb_1 (List.mem_of_getElem? (i := 30) (by rfl))) rfl
theorem wn_31 : (Cond.methodLinkNest RX11 11 yX1_init "WinterToys") ∈ tables_1 := tb_1 (List.mem_of_getElem? (i := 31) (by rfl))
theorem wd_32 : (Cond.instanceMethod yX1_init) ∈ BIG := big_t (tb_1 (List.mem_of_getElem? (i := 32) (by rfl))) rfl
theorem wd_33 : (Cond.code yX1_init prog_3_method_1_code 1 none) ∈ BIG := big_t (tb_1 (List.mem_of_getElem? (i := 33) (by rfl))) rfl
theorem wd_34 : (Cond.methodLink RX1 3 objectInit) ∈ BIG := big_t (tb_1 (List.mem_of_getElem? (i := 34) (by rfl))) rfl
theorem wd_35 : (Cond.fieldLink RX1 59 "WinterToys$Book" "kinds" "I") ∈ BIG := big_t (tb_1 (List.mem_of_getElem? (i := 35) (by rfl))) rfl
theorem wd_36 : (Cond.fieldLink RX5 35 "WinterToys$Book" "kinds" "I") ∈ BIG := big_t (tb_1 (List.mem_of_getElem? (i := 36) (by rfl))) rfl
theorem wd_37 : (Cond.fieldLink RX4 93 "WinterToys$Book" "kinds" "I") ∈ BIG := big_t (tb_1 (List.mem_of_getElem? (i := 37) (by rfl))) rfl
theorem wd_38 : (Cond.fieldLink RX0 48 "WinterToys$Book" "kinds" "I") ∈ BIG := big_t (tb_1 (List.mem_of_getElem? (i := 38) (by rfl))) rfl
theorem wd_39 : (Cond.fieldLink RX11 128 "WinterToys$Book" "kinds" "I") ∈ BIG := big_t (tb_1 (List.mem_of_getElem? (i := 39) (by rfl))) rfl
theorem wd_40 : (Cond.fieldLink RX8 62 "WinterToys$Book" "kinds" "I") ∈ BIG := big_t (tb_1 (List.mem_of_getElem? (i := 40) (by rfl))) rfl
theorem wd_41 : (Cond.fieldLink RX1 9 "WinterToys$Book" "kindName" "[J") ∈ BIG := big_t (tb_1 (List.mem_of_getElem? (i := 41) (by rfl))) rfl
theorem wd_42 : (Cond.fieldLink RX8 76 "WinterToys$Book" "kindName" "[J") ∈ BIG := big_t (tb_1 (List.mem_of_getElem? (i := 42) (by rfl))) rfl
theorem wd_43 : (Cond.fieldLink RX11 147 "WinterToys$Book" "kindName" "[J") ∈ BIG := big_t (tb_1 (List.mem_of_getElem? (i := 43) (by rfl))) rfl
theorem wd_44 : (Cond.fieldLink RX0 97 "WinterToys$Book" "kindName" "[J") ∈ BIG := big_t (tb_1 (List.mem_of_getElem? (i := 44) (by rfl))) rfl
theorem wd_45 : (Cond.fieldLink RX1 15 "WinterToys$Book" "worth" "[I") ∈ BIG := big_t (tb_1 (List.mem_of_getElem? (i := 45) (by rfl))) rfl
theorem wd_46 : (Cond.fieldLink RX8 80 "WinterToys$Book" "worth" "[I") ∈ BIG := big_t (tb_1 (List.mem_of_getElem? (i := 46) (by rfl))) rfl
theorem wd_47 : (Cond.fieldLink RX4 105 "WinterToys$Book" "worth" "[I") ∈ BIG := big_t (tb_1 (List.mem_of_getElem? (i := 47) (by rfl))) rfl
theorem wd_48 : (Cond.fieldLink RX1 19 "WinterToys$Book" "price" "[I") ∈ BIG := big_t (tb_1 (List.mem_of_getElem? (i := 48) (by rfl))) rfl
theorem wd_49 : (Cond.fieldLink RX8 88 "WinterToys$Book" "price" "[I") ∈ BIG := big_t (tb_1 (List.mem_of_getElem? (i := 49) (by rfl))) rfl
theorem wd_50 : (Cond.fieldLink RX4 138 "WinterToys$Book" "price" "[I") ∈ BIG := big_t (tb_1 (List.mem_of_getElem? (i := 50) (by rfl))) rfl
theorem wd_51 : (Cond.fieldLink RX1 22 "WinterToys$Book" "shelf" "[I") ∈ BIG := big_t (tb_1 (List.mem_of_getElem? (i := 51) (by rfl))) rfl
theorem wd_52 : (Cond.fieldLink RX0 53 "WinterToys$Book" "shelf" "[I") ∈ BIG := big_t (tb_1 (List.mem_of_getElem? (i := 52) (by rfl))) rfl
theorem wd_53 : (Cond.fieldLink RX8 91 "WinterToys$Book" "shelf" "[I") ∈ BIG := big_t (tb_1 (List.mem_of_getElem? (i := 53) (by rfl))) rfl
theorem wd_54 : (Cond.fieldLink RX1 62 "WinterToys$Book" "marks" "I") ∈ BIG := big_t (tb_1 (List.mem_of_getElem? (i := 54) (by rfl))) rfl
theorem wd_55 : (Cond.fieldLink RX11 140 "WinterToys$Book" "marks" "I") ∈ BIG := big_t (tb_1 (List.mem_of_getElem? (i := 55) (by rfl))) rfl
theorem wd_56 : (Cond.fieldLink RX8 110 "WinterToys$Book" "marks" "I") ∈ BIG := big_t (tb_1 (List.mem_of_getElem? (i := 56) (by rfl))) rfl
theorem wd_57 : (Cond.fieldLink RX1 25 "WinterToys$Book" "markName" "[J") ∈ BIG := big_t (tb_1 (List.mem_of_getElem? (i := 57) (by rfl))) rfl
theorem wd_58 : (Cond.fieldLink RX11 143 "WinterToys$Book" "markName" "[J") ∈ BIG := big_t (tb_1 (List.mem_of_getElem? (i := 58) (by rfl))) rfl
theorem wd_59 : (Cond.fieldLink RX1 28 "WinterToys$Book" "markKinds" "[I") ∈ BIG := big_t (tb_1 (List.mem_of_getElem? (i := 59) (by rfl))) rfl
theorem wd_60 : (Cond.fieldLink RX11 158 "WinterToys$Book" "markKinds" "[I") ∈ BIG := big_t (tb_1 (List.mem_of_getElem? (i := 60) (by rfl))) rfl
theorem wd_61 : (Cond.fieldLink RX5 132 "WinterToys$Book" "markKinds" "[I") ∈ BIG := big_t (tb_1 (List.mem_of_getElem? (i := 61) (by rfl))) rfl
theorem wd_62 : (Cond.fieldLink RX8 117 "WinterToys$Book" "markKinds" "[I") ∈ BIG := big_t (tb_1 (List.mem_of_getElem? (i := 62) (by rfl))) rfl
theorem wd_63 : (Cond.fieldLink RX1 65 "WinterToys$Book" "others" "I") ∈ BIG := big_t (tb_1 (List.mem_of_getElem? (i := 63) (by rfl))) rfl
theorem wd_64 : (Cond.fieldLink RX5 39 "WinterToys$Book" "others" "I") ∈ BIG := big_t (tb_1 (List.mem_of_getElem? (i := 64) (by rfl))) rfl
theorem wd_65 : (Cond.fieldLink RX11 131 "WinterToys$Book" "others" "I") ∈ BIG := big_t (tb_1 (List.mem_of_getElem? (i := 65) (by rfl))) rfl
theorem wd_66 : (Cond.fieldLink RX8 120 "WinterToys$Book" "others" "I") ∈ BIG := big_t (tb_1 (List.mem_of_getElem? (i := 66) (by rfl))) rfl
theorem wd_67 : (Cond.fieldLink RX1 31 "WinterToys$Book" "even" "I") ∈ BIG := big_t (tb_1 (List.mem_of_getElem? (i := 67) (by rfl))) rfl
theorem wd_68 : (Cond.fieldLink RX4 120 "WinterToys$Book" "even" "I") ∈ BIG := big_t (tb_1 (List.mem_of_getElem? (i := 68) (by rfl))) rfl
theorem wd_69 : (Cond.fieldLink RX8 126 "WinterToys$Book" "even" "I") ∈ BIG := big_t (tb_1 (List.mem_of_getElem? (i := 69) (by rfl))) rfl
theorem wd_70 : (Cond.fieldLink RX11 216 "WinterToys$Book" "even" "I") ∈ BIG := big_t (tb_1 (List.mem_of_getElem? (i := 70) (by rfl))) rfl
theorem wd_71 : (Cond.fieldLink RX1 35 "WinterToys$Book" "what" "[I") ∈ BIG := big_t (tb_1 (List.mem_of_getElem? (i := 71) (by rfl))) rfl
theorem wd_72 : (Cond.fieldLink RX5 70 "WinterToys$Book" "what" "[I") ∈ BIG := big_t (tb_1 (List.mem_of_getElem? (i := 72) (by rfl))) rfl
theorem wd_73 : (Cond.fieldLink RX1 38 "WinterToys$Book" "sumAt" "[I") ∈ BIG := big_t (tb_1 (List.mem_of_getElem? (i := 73) (by rfl))) rfl
theorem wd_74 : (Cond.fieldLink RX5 110 "WinterToys$Book" "sumAt" "[I") ∈ BIG := big_t (tb_1 (List.mem_of_getElem? (i := 74) (by rfl))) rfl
theorem wd_75 : (Cond.fieldLink RX8 123 "WinterToys$Book" "sumAt" "[I") ∈ BIG := big_t (tb_1 (List.mem_of_getElem? (i := 75) (by rfl))) rfl
theorem wd_76 : (Cond.fieldLink RX1 41 "WinterToys$Book" "whichAt" "[I") ∈ BIG := big_t (tb_1 (List.mem_of_getElem? (i := 76) (by rfl))) rfl
theorem wd_77 : (Cond.fieldLink RX5 45 "WinterToys$Book" "whichAt" "[I") ∈ BIG := big_t (tb_1 (List.mem_of_getElem? (i := 77) (by rfl))) rfl
theorem wd_78 : (Cond.fieldLink RX1 44 "WinterToys$Book" "testAt" "[I") ∈ BIG := big_t (tb_1 (List.mem_of_getElem? (i := 78) (by rfl))) rfl
theorem wd_79 : (Cond.fieldLink RX5 48 "WinterToys$Book" "testAt" "[I") ∈ BIG := big_t (tb_1 (List.mem_of_getElem? (i := 79) (by rfl))) rfl
theorem wd_80 : (Cond.fieldLink RX1 47 "WinterToys$Book" "endAt" "[I") ∈ BIG := big_t (tb_1 (List.mem_of_getElem? (i := 80) (by rfl))) rfl
theorem wd_81 : (Cond.fieldLink RX5 73 "WinterToys$Book" "endAt" "[I") ∈ BIG := big_t (tb_1 (List.mem_of_getElem? (i := 81) (by rfl))) rfl
theorem wd_82 : (Cond.fieldLink RX1 50 "WinterToys$Book" "which" "[I") ∈ BIG := big_t (tb_1 (List.mem_of_getElem? (i := 82) (by rfl))) rfl
theorem wd_83 : (Cond.fieldLink RX5 42 "WinterToys$Book" "which" "[I") ∈ BIG := big_t (tb_1 (List.mem_of_getElem? (i := 83) (by rfl))) rfl
theorem wd_84 : (Cond.fieldLink RX1 53 "WinterToys$Book" "code" "[I") ∈ BIG := big_t (tb_1 (List.mem_of_getElem? (i := 84) (by rfl))) rfl
theorem wd_85 : (Cond.fieldLink RX5 122 "WinterToys$Book" "code" "[I") ∈ BIG := big_t (tb_1 (List.mem_of_getElem? (i := 85) (by rfl))) rfl
theorem wd_86 : (Cond.fieldLink RX1 68 "WinterToys$Book" "size" "I") ∈ BIG := big_t (tb_1 (List.mem_of_getElem? (i := 86) (by rfl))) rfl
theorem wd_87 : (Cond.fieldLink RX8 129 "WinterToys$Book" "size" "I") ∈ BIG := big_t (tb_1 (List.mem_of_getElem? (i := 87) (by rfl))) rfl
theorem wd_88 : (Cond.fieldLink RX1 56 "WinterToys$Book" "asked" "[J") ∈ BIG := big_t (tb_1 (List.mem_of_getElem? (i := 88) (by rfl))) rfl
theorem wd_89 : (Cond.fieldLink RX5 102 "WinterToys$Book" "asked" "[J") ∈ BIG := big_t (tb_1 (List.mem_of_getElem? (i := 89) (by rfl))) rfl
theorem wd_90 : (Cond.fieldLink RX1 71 "WinterToys$Book" "askedCount" "I") ∈ BIG := big_t (tb_1 (List.mem_of_getElem? (i := 90) (by rfl))) rfl
theorem wd_91 : (Cond.fieldLink RX5 99 "WinterToys$Book" "askedCount" "I") ∈ BIG := big_t (tb_1 (List.mem_of_getElem? (i := 91) (by rfl))) rfl
theorem wd_92 : (Cond.lays "WinterToys$Book" "WinterToys$Book" "kinds" "I") ∈ BIG := big_t (tb_1 (List.mem_of_getElem? (i := 92) (by rfl))) rfl
theorem wd_93 : (Cond.soleField "WinterToys$Book" "kinds") ∈ BIG := big_t (tb_1 (List.mem_of_getElem? (i := 93) (by rfl))) rfl
theorem wd_94 : (Cond.laysFinal "WinterToys$Book" "WinterToys$Book" "kindName" "[J") ∈ BIG := big_t (tb_1 (List.mem_of_getElem? (i := 94) (by rfl))) rfl
theorem wd_95 : (Cond.soleField "WinterToys$Book" "kindName") ∈ BIG := big_t (tb_1 (List.mem_of_getElem? (i := 95) (by rfl))) rfl
theorem wd_96 : (Cond.laysFinal "WinterToys$Book" "WinterToys$Book" "worth" "[I") ∈ BIG := big_t (tb_1 (List.mem_of_getElem? (i := 96) (by rfl))) rfl
theorem wd_97 : (Cond.soleField "WinterToys$Book" "worth") ∈ BIG := big_t (tb_1 (List.mem_of_getElem? (i := 97) (by rfl))) rfl
theorem wd_98 : (Cond.laysFinal "WinterToys$Book" "WinterToys$Book" "price" "[I") ∈ BIG := big_t (tb_1 (List.mem_of_getElem? (i := 98) (by rfl))) rfl
theorem wd_99 : (Cond.soleField "WinterToys$Book" "price") ∈ BIG := big_t (tb_1 (List.mem_of_getElem? (i := 99) (by rfl))) rfl
theorem wd_100 : (Cond.laysFinal "WinterToys$Book" "WinterToys$Book" "shelf" "[I") ∈ BIG := big_t (tb_1 (List.mem_of_getElem? (i := 100) (by rfl))) rfl
theorem wd_101 : (Cond.soleField "WinterToys$Book" "shelf") ∈ BIG := big_t (tb_1 (List.mem_of_getElem? (i := 101) (by rfl))) rfl
theorem wd_102 : (Cond.lays "WinterToys$Book" "WinterToys$Book" "marks" "I") ∈ BIG := big_t (tb_1 (List.mem_of_getElem? (i := 102) (by rfl))) rfl
theorem wd_103 : (Cond.soleField "WinterToys$Book" "marks") ∈ BIG := big_t (tb_1 (List.mem_of_getElem? (i := 103) (by rfl))) rfl
theorem wd_104 : (Cond.laysFinal "WinterToys$Book" "WinterToys$Book" "markName" "[J") ∈ BIG := big_t (tb_1 (List.mem_of_getElem? (i := 104) (by rfl))) rfl
theorem wd_105 : (Cond.soleField "WinterToys$Book" "markName") ∈ BIG := big_t (tb_1 (List.mem_of_getElem? (i := 105) (by rfl))) rfl
theorem wd_106 : (Cond.laysFinal "WinterToys$Book" "WinterToys$Book" "markKinds" "[I") ∈ BIG := big_t (tb_1 (List.mem_of_getElem? (i := 106) (by rfl))) rfl
theorem wd_107 : (Cond.soleField "WinterToys$Book" "markKinds") ∈ BIG := big_t (tb_1 (List.mem_of_getElem? (i := 107) (by rfl))) rfl
theorem wd_108 : (Cond.lays "WinterToys$Book" "WinterToys$Book" "others" "I") ∈ BIG := big_t (tb_1 (List.mem_of_getElem? (i := 108) (by rfl))) rfl
theorem wd_109 : (Cond.soleField "WinterToys$Book" "others") ∈ BIG := big_t (tb_1 (List.mem_of_getElem? (i := 109) (by rfl))) rfl
theorem wd_110 : (Cond.lays "WinterToys$Book" "WinterToys$Book" "even" "I") ∈ BIG := big_t (tb_1 (List.mem_of_getElem? (i := 110) (by rfl))) rfl
theorem wd_111 : (Cond.soleField "WinterToys$Book" "even") ∈ BIG := big_t (tb_1 (List.mem_of_getElem? (i := 111) (by rfl))) rfl
theorem wd_112 : (Cond.laysFinal "WinterToys$Book" "WinterToys$Book" "what" "[I") ∈ BIG := big_t (tb_1 (List.mem_of_getElem? (i := 112) (by rfl))) rfl
theorem wd_113 : (Cond.soleField "WinterToys$Book" "what") ∈ BIG := big_t (tb_1 (List.mem_of_getElem? (i := 113) (by rfl))) rfl
theorem wd_114 : (Cond.laysFinal "WinterToys$Book" "WinterToys$Book" "sumAt" "[I") ∈ BIG := big_t (tb_1 (List.mem_of_getElem? (i := 114) (by rfl))) rfl
theorem wd_115 : (Cond.soleField "WinterToys$Book" "sumAt") ∈ BIG := big_t (tb_1 (List.mem_of_getElem? (i := 115) (by rfl))) rfl
theorem wd_116 : (Cond.laysFinal "WinterToys$Book" "WinterToys$Book" "whichAt" "[I") ∈ BIG := big_t (tb_1 (List.mem_of_getElem? (i := 116) (by rfl))) rfl
theorem wd_117 : (Cond.soleField "WinterToys$Book" "whichAt") ∈ BIG := big_t (tb_1 (List.mem_of_getElem? (i := 117) (by rfl))) rfl
theorem wd_118 : (Cond.laysFinal "WinterToys$Book" "WinterToys$Book" "testAt" "[I") ∈ BIG := big_t (tb_1 (List.mem_of_getElem? (i := 118) (by rfl))) rfl
theorem wd_119 : (Cond.soleField "WinterToys$Book" "testAt") ∈ BIG := big_t (tb_1 (List.mem_of_getElem? (i := 119) (by rfl))) rfl
theorem wd_120 : (Cond.laysFinal "WinterToys$Book" "WinterToys$Book" "endAt" "[I") ∈ BIG := big_t (tb_1 (List.mem_of_getElem? (i := 120) (by rfl))) rfl
theorem wd_121 : (Cond.soleField "WinterToys$Book" "endAt") ∈ BIG := big_t (tb_1 (List.mem_of_getElem? (i := 121) (by rfl))) rfl
theorem wd_122 : (Cond.laysFinal "WinterToys$Book" "WinterToys$Book" "which" "[I") ∈ BIG := big_t (tb_1 (List.mem_of_getElem? (i := 122) (by rfl))) rfl
theorem wd_123 : (Cond.soleField "WinterToys$Book" "which") ∈ BIG := big_t (tb_1 (List.mem_of_getElem? (i := 123) (by rfl))) rfl
theorem wd_124 : (Cond.laysFinal "WinterToys$Book" "WinterToys$Book" "code" "[I") ∈ BIG := big_t (tb_1 (List.mem_of_getElem? (i := 124) (by rfl))) rfl
theorem wd_125 : (Cond.soleField "WinterToys$Book" "code") ∈ BIG := big_t (tb_1 (List.mem_of_getElem? (i := 125) (by rfl))) rfl
theorem wd_126 : (Cond.lays "WinterToys$Book" "WinterToys$Book" "size" "I") ∈ BIG := big_t (tb_1 (List.mem_of_getElem? (i := 126) (by rfl))) rfl
theorem wd_127 : (Cond.soleField "WinterToys$Book" "size") ∈ BIG := big_t (tb_1 (List.mem_of_getElem? (i := 127) (by rfl))) rfl
theorem wd_128 : (Cond.laysFinal "WinterToys$Book" "WinterToys$Book" "asked" "[J") ∈ BIG := big_t (tb_1 (List.mem_of_getElem? (i := 128) (by rfl))) rfl
theorem wd_129 : (Cond.soleField "WinterToys$Book" "asked") ∈ BIG := big_t (tb_1 (List.mem_of_getElem? (i := 129) (by rfl))) rfl
theorem wd_130 : (Cond.lays "WinterToys$Book" "WinterToys$Book" "askedCount" "I") ∈ BIG := big_t (tb_1 (List.mem_of_getElem? (i := 130) (by rfl))) rfl
theorem wd_131 : (Cond.soleField "WinterToys$Book" "askedCount") ∈ BIG := big_t (tb_1 (List.mem_of_getElem? (i := 131) (by rfl))) rfl
theorem wd_132 : (Cond.superclass "WinterToys$Book" "java/lang/Object") ∈ BIG := big_t (tb_1 (List.mem_of_getElem? (i := 132) (by rfl))) rfl
theorem wd_133 : (Cond.arrayClass .long) ∈ BIG := big_t (tb_1 (List.mem_of_getElem? (i := 133) (by rfl))) rfl
theorem wd_134 : (Cond.arrayClass .int) ∈ BIG := big_t (tb_1 (List.mem_of_getElem? (i := 134) (by rfl))) rfl
theorem wd_135 : (Cond.classLink RX11 19 RX10) ∈ BIG := big_t (tb_1 (List.mem_of_getElem? (i := 135) (by rfl))) rfl
theorem wd_136 : (Cond.instantiable RX10 8) ∈ BIG := big_t (tb_1 (List.mem_of_getElem? (i := 136) (by rfl))) rfl
theorem wd_137 : (Cond.methodLink RX11 21 yX10_init) ∈ BIG := big_t (tb_1 (List.mem_of_getElem? (i := 137) (by rfl))) rfl
theorem wd_138 : (Cond.instanceMethod yX10_init) ∈ BIG := big_t (tb_1 (List.mem_of_getElem? (i := 138) (by rfl))) rfl
theorem wd_139 : (Cond.code yX10_init prog_12_method_1_code 5 none) ∈ BIG := big_t (tb_1 (List.mem_of_getElem? (i := 139) (by rfl))) rfl
theorem wd_140 : (Cond.methodLink RX10 3 objectInit) ∈ BIG := big_t (tb_1 (List.mem_of_getElem? (i := 140) (by rfl))) rfl
theorem wn_141 : (Cond.stringRef "WinterToys$Tape" 19 "kind worth price at is never for likes of gifts even or and not any all wish age ages school house wishes ") ∈ tables_1 := tb_1 (List.mem_of_getElem? (i := 141) (by rfl))
theorem wd_142 : (Cond.methodLink RX10 21 yJ0_length_8abf5) ∈ BIG := big_t (tb_1 (List.mem_of_getElem? (i := 142) (by rfl))) rfl
theorem wd_143 : (Cond.instanceMethod yJ0_length_8abf5) ∈ BIG := big_t (tb_1 (List.mem_of_getElem? (i := 143) (by rfl))) rfl
theorem wd_144 : (Cond.selects RJ0 yJ0_length_8abf5 yJ0_length_8abf5) ∈ BIG := big_t (tb_1 (List.mem_of_getElem? (i := 144) (by rfl))) rfl
theorem wd_145 : (Cond.code yJ0_length_8abf5 prog_17_method_54_code 1 (some .int)) ∈ BIG := big_t (tb_1 (List.mem_of_getElem? (i := 145) (by rfl))) rfl
theorem wd_146 : (Cond.methodLink RJ0 335 yJ0_coder_7d493) ∈ BIG := big_t (tb_1 (List.mem_of_getElem? (i := 146) (by rfl))) rfl
theorem wd_147 : (Cond.instanceMethod yJ0_coder_7d493) ∈ BIG := big_t (tb_1 (List.mem_of_getElem? (i := 147) (by rfl))) rfl
theorem wd_148 : (Cond.selects RJ0 yJ0_coder_7d493 yJ0_coder_7d493) ∈ BIG := big_t (tb_1 (List.mem_of_getElem? (i := 148) (by rfl))) rfl
theorem wd_149 : (Cond.code yJ0_coder_7d493 prog_17_method_152_code 1 (some .byte)) ∈ BIG := big_t (tb_1 (List.mem_of_getElem? (i := 149) (by rfl))) rfl
theorem wd_150 : (Cond.fieldLink RJ0 38 "java/lang/String" "COMPACT_STRINGS" "Z") ∈ BIG := big_t (tb_1 (List.mem_of_getElem? (i := 150) (by rfl))) rfl
theorem wn_151 : (Cond.laysStatic "java/lang/String" "COMPACT_STRINGS" "Z") ∈ tables_1 := tb_1 (List.mem_of_getElem? (i := 151) (by rfl))
theorem wd_152 : (Cond.methodLink RX10 27 yJ0_charAt_5068e) ∈ BIG := big_t (tb_1 (List.mem_of_getElem? (i := 152) (by rfl))) rfl
theorem wd_153 : (Cond.instanceMethod yJ0_charAt_5068e) ∈ BIG := big_t (tb_1 (List.mem_of_getElem? (i := 153) (by rfl))) rfl
theorem wd_154 : (Cond.selects RJ0 yJ0_charAt_5068e yJ0_charAt_5068e) ∈ BIG := big_t (tb_1 (List.mem_of_getElem? (i := 154) (by rfl))) rfl
theorem wd_155 : (Cond.code yJ0_charAt_5068e prog_17_method_56_code 2 (some .char)) ∈ BIG := big_t (tb_1 (List.mem_of_getElem? (i := 155) (by rfl))) rfl
theorem wd_156 : (Cond.methodLink RJ0 492 yJ0_isLatin1_aae02) ∈ BIG := big_t (tb_1 (List.mem_of_getElem? (i := 156) (by rfl))) rfl
theorem wd_157 : (Cond.instanceMethod yJ0_isLatin1_aae02) ∈ BIG := big_t (tb_1 (List.mem_of_getElem? (i := 157) (by rfl))) rfl
theorem wd_158 : (Cond.selects RJ0 yJ0_isLatin1_aae02 yJ0_isLatin1_aae02) ∈ BIG := big_t (tb_1 (List.mem_of_getElem? (i := 158) (by rfl))) rfl
theorem wd_159 : (Cond.code yJ0_isLatin1_aae02 prog_17_method_154_code 1 (some .boolean)) ∈ BIG := big_t (tb_1 (List.mem_of_getElem? (i := 159) (by rfl))) rfl
theorem wd_160 : (Cond.methodLink RJ0 495 yJ1_charAt_3b067) ∈ BIG := big_t (tb_1 (List.mem_of_getElem? (i := 160) (by rfl))) rfl
theorem wd_161 : (Cond.static yJ1_charAt_3b067) ∈ BIG := big_t (tb_1 (List.mem_of_getElem? (i := 161) (by rfl))) rfl
theorem wd_162 : (Cond.code yJ1_charAt_3b067 prog_18_method_2_code 2 (some .char)) ∈ BIG := big_t (tb_1 (List.mem_of_getElem? (i := 162) (by rfl))) rfl
theorem wd_163 : (Cond.methodLink RJ1 9 yJ0_checkIndex_df160) ∈ BIG := big_t (tb_1 (List.mem_of_getElem? (i := 163) (by rfl))) rfl
theorem wd_164 : (Cond.static yJ0_checkIndex_df160) ∈ BIG := big_t (tb_1 (List.mem_of_getElem? (i := 164) (by rfl))) rfl
theorem wd_165 : (Cond.code yJ0_checkIndex_df160 prog_17_method_155_code 2 none) ∈ BIG := big_t (tb_1 (List.mem_of_getElem? (i := 165) (by rfl))) rfl
theorem wd_166 : (Cond.fieldLink RJ0 1053 "jdk/internal/util/Preconditions" "SIOOBE_FORMATTER" "Ljava/util/function/BiFunction;") ∈ BIG := big_t (tb_1 (List.mem_of_getElem? (i := 166) (by rfl))) rfl
theorem wn_167 : (Cond.laysStatic "jdk/internal/util/Preconditions" "SIOOBE_FORMATTER" "Ljava/util/function/BiFunction;") ∈ tables_1 := tb_1 (List.mem_of_getElem? (i := 167) (by rfl))
theorem wd_168 : (Cond.methodLink RJ0 1059 yJ3_checkIndex_8e157) ∈ BIG := big_t (tb_1 (List.mem_of_getElem? (i := 168) (by rfl))) rfl
theorem wd_169 : (Cond.static yJ3_checkIndex_8e157) ∈ BIG := big_t (tb_1 (List.mem_of_getElem? (i := 169) (by rfl))) rfl
theorem wd_170 : (Cond.code yJ3_checkIndex_8e157 prog_21_method_11_code 3 (some .int)) ∈ BIG := big_t (tb_1 (List.mem_of_getElem? (i := 170) (by rfl))) rfl
theorem wd_171 : (Cond.methodLink RJ0 498 yJ2_charAt_3b067) ∈ BIG := big_t (tb_1 (List.mem_of_getElem? (i := 171) (by rfl))) rfl
theorem wd_172 : (Cond.static yJ2_charAt_3b067) ∈ BIG := big_t (tb_1 (List.mem_of_getElem? (i := 172) (by rfl))) rfl
theorem wd_173 : (Cond.code yJ2_charAt_3b067 prog_19_method_83_code 2 (some .char)) ∈ BIG := big_t (tb_1 (List.mem_of_getElem? (i := 173) (by rfl))) rfl
theorem wd_174 : (Cond.methodLink RJ2 67 yJ2_checkIndex_2214a) ∈ BIG := big_t (tb_1 (List.mem_of_getElem? (i := 174) (by rfl))) rfl
theorem wd_175 : (Cond.static yJ2_checkIndex_2214a) ∈ BIG := big_t (tb_1 (List.mem_of_getElem? (i := 175) (by rfl))) rfl
theorem wd_176 : (Cond.code yJ2_checkIndex_2214a prog_19_method_91_code 2 none) ∈ BIG := big_t (tb_1 (List.mem_of_getElem? (i := 176) (by rfl))) rfl
theorem wd_177 : (Cond.methodLink RJ2 48 yJ2_length_9d52b) ∈ BIG := big_t (tb_1 (List.mem_of_getElem? (i := 177) (by rfl))) rfl
theorem wd_178 : (Cond.static yJ2_length_9d52b) ∈ BIG := big_t (tb_1 (List.mem_of_getElem? (i := 178) (by rfl))) rfl
theorem wd_179 : (Cond.code yJ2_length_9d52b prog_19_method_6_code 1 (some .int)) ∈ BIG := big_t (tb_1 (List.mem_of_getElem? (i := 179) (by rfl))) rfl
theorem wd_180 : (Cond.methodLink RJ2 414 yJ0_checkIndex_df160) ∈ BIG := big_t (tb_1 (List.mem_of_getElem? (i := 180) (by rfl))) rfl
theorem wd_181 : (Cond.methodLink RJ2 71 yJ2_getChar_3b067) ∈ BIG := big_t (tb_1 (List.mem_of_getElem? (i := 181) (by rfl))) rfl
theorem wd_182 : (Cond.static yJ2_getChar_3b067) ∈ BIG := big_t (tb_1 (List.mem_of_getElem? (i := 182) (by rfl))) rfl
theorem wd_183 : (Cond.code yJ2_getChar_3b067 prog_19_method_5_code 2 (some .char)) ∈ BIG := big_t (tb_1 (List.mem_of_getElem? (i := 183) (by rfl))) rfl
theorem wd_184 : (Cond.fieldLink RJ2 44 "java/lang/StringUTF16" "$assertionsDisabled" "Z") ∈ BIG := big_t (tb_1 (List.mem_of_getElem? (i := 184) (by rfl))) rfl
theorem wn_185 : (Cond.laysStatic "java/lang/StringUTF16" "$assertionsDisabled" "Z") ∈ tables_1 := tb_1 (List.mem_of_getElem? (i := 185) (by rfl))
theorem wd_186 : (Cond.fieldLink RJ2 59 "java/lang/StringUTF16" "HI_BYTE_SHIFT" "I") ∈ BIG := big_t (tb_1 (List.mem_of_getElem? (i := 186) (by rfl))) rfl
theorem wn_187 : (Cond.laysStatic "java/lang/StringUTF16" "HI_BYTE_SHIFT" "I") ∈ tables_1 := tb_1 (List.mem_of_getElem? (i := 187) (by rfl))
theorem wd_188 : (Cond.fieldLink RJ2 63 "java/lang/StringUTF16" "LO_BYTE_SHIFT" "I") ∈ BIG := big_t (tb_1 (List.mem_of_getElem? (i := 188) (by rfl))) rfl
theorem wn_189 : (Cond.laysStatic "java/lang/StringUTF16" "LO_BYTE_SHIFT" "I") ∈ tables_1 := tb_1 (List.mem_of_getElem? (i := 189) (by rfl))
theorem wd_190 : (Cond.fieldLink RX10 9 "WinterToys$Tape" "bytes" "[I") ∈ BIG := big_t (tb_1 (List.mem_of_getElem? (i := 190) (by rfl))) rfl
theorem wd_191 : (Cond.fieldLink RX11 103 "WinterToys$Tape" "length" "I") ∈ BIG := big_t (tb_1 (List.mem_of_getElem? (i := 191) (by rfl))) rfl
theorem wd_192 : (Cond.fieldLink RX10 31 "WinterToys$Tape" "length" "I") ∈ BIG := big_t (tb_1 (List.mem_of_getElem? (i := 192) (by rfl))) rfl
theorem wd_193 : (Cond.fieldLink RX10 15 "WinterToys$Tape" "own" "[J") ∈ BIG := big_t (tb_1 (List.mem_of_getElem? (i := 193) (by rfl))) rfl
theorem wd_194 : (Cond.fieldLink RX10 34 "WinterToys$Tape" "pos" "I") ∈ BIG := big_t (tb_1 (List.mem_of_getElem? (i := 194) (by rfl))) rfl
theorem wd_195 : (Cond.fieldLink RX8 39 "WinterToys$Tape" "token" "I") ∈ BIG := big_t (tb_1 (List.mem_of_getElem? (i := 195) (by rfl))) rfl
theorem wd_196 : (Cond.fieldLink RX10 37 "WinterToys$Tape" "token" "I") ∈ BIG := big_t (tb_1 (List.mem_of_getElem? (i := 196) (by rfl))) rfl
theorem wd_197 : (Cond.fieldLink RX8 53 "WinterToys$Tape" "start" "I") ∈ BIG := big_t (tb_1 (List.mem_of_getElem? (i := 197) (by rfl))) rfl
theorem wd_198 : (Cond.fieldLink RX10 43 "WinterToys$Tape" "start" "I") ∈ BIG := big_t (tb_1 (List.mem_of_getElem? (i := 198) (by rfl))) rfl
theorem wd_199 : (Cond.fieldLink RX10 58 "WinterToys$Tape" "word" "J") ∈ BIG := big_t (tb_1 (List.mem_of_getElem? (i := 199) (by rfl))) rfl
theorem wd_200 : (Cond.fieldLink RX8 65 "WinterToys$Tape" "word" "J") ∈ BIG := big_t (tb_1 (List.mem_of_getElem? (i := 200) (by rfl))) rfl
theorem wd_201 : (Cond.fieldLink RX10 62 "WinterToys$Tape" "number" "I") ∈ BIG := big_t (tb_1 (List.mem_of_getElem? (i := 201) (by rfl))) rfl
theorem wd_202 : (Cond.fieldLink RX8 100 "WinterToys$Tape" "number" "I") ∈ BIG := big_t (tb_1 (List.mem_of_getElem? (i := 202) (by rfl))) rfl
theorem wd_203 : (Cond.laysFinal "WinterToys$Tape" "WinterToys$Tape" "bytes" "[I") ∈ BIG := big_t (tb_1 (List.mem_of_getElem? (i := 203) (by rfl))) rfl
theorem wd_204 : (Cond.soleField "WinterToys$Tape" "bytes") ∈ BIG := big_t (tb_1 (List.mem_of_getElem? (i := 204) (by rfl))) rfl
theorem wd_205 : (Cond.lays "WinterToys$Tape" "WinterToys$Tape" "length" "I") ∈ BIG := big_t (tb_1 (List.mem_of_getElem? (i := 205) (by rfl))) rfl
theorem wd_206 : (Cond.soleField "WinterToys$Tape" "length") ∈ BIG := big_t (tb_1 (List.mem_of_getElem? (i := 206) (by rfl))) rfl
theorem wd_207 : (Cond.laysFinal "WinterToys$Tape" "WinterToys$Tape" "own" "[J") ∈ BIG := big_t (tb_1 (List.mem_of_getElem? (i := 207) (by rfl))) rfl
theorem wd_208 : (Cond.soleField "WinterToys$Tape" "own") ∈ BIG := big_t (tb_1 (List.mem_of_getElem? (i := 208) (by rfl))) rfl
theorem wd_209 : (Cond.lays "WinterToys$Tape" "WinterToys$Tape" "pos" "I") ∈ BIG := big_t (tb_1 (List.mem_of_getElem? (i := 209) (by rfl))) rfl
theorem wd_210 : (Cond.soleField "WinterToys$Tape" "pos") ∈ BIG := big_t (tb_1 (List.mem_of_getElem? (i := 210) (by rfl))) rfl
theorem wd_211 : (Cond.lays "WinterToys$Tape" "WinterToys$Tape" "token" "I") ∈ BIG := big_t (tb_1 (List.mem_of_getElem? (i := 211) (by rfl))) rfl
theorem wd_212 : (Cond.soleField "WinterToys$Tape" "token") ∈ BIG := big_t (tb_1 (List.mem_of_getElem? (i := 212) (by rfl))) rfl
theorem wd_213 : (Cond.lays "WinterToys$Tape" "WinterToys$Tape" "start" "I") ∈ BIG := big_t (tb_1 (List.mem_of_getElem? (i := 213) (by rfl))) rfl
theorem wd_214 : (Cond.soleField "WinterToys$Tape" "start") ∈ BIG := big_t (tb_1 (List.mem_of_getElem? (i := 214) (by rfl))) rfl
theorem wd_215 : (Cond.lays "WinterToys$Tape" "WinterToys$Tape" "word" "J") ∈ BIG := big_t (tb_1 (List.mem_of_getElem? (i := 215) (by rfl))) rfl
theorem wd_216 : (Cond.soleField "WinterToys$Tape" "word") ∈ BIG := big_t (tb_1 (List.mem_of_getElem? (i := 216) (by rfl))) rfl
theorem wd_217 : (Cond.lays "WinterToys$Tape" "WinterToys$Tape" "number" "I") ∈ BIG := big_t (tb_1 (List.mem_of_getElem? (i := 217) (by rfl))) rfl
theorem wd_218 : (Cond.soleField "WinterToys$Tape" "number") ∈ BIG := big_t (tb_1 (List.mem_of_getElem? (i := 218) (by rfl))) rfl
theorem wd_219 : (Cond.superclass "WinterToys$Tape" "java/lang/Object") ∈ BIG := big_t (tb_1 (List.mem_of_getElem? (i := 219) (by rfl))) rfl
theorem wd_220 : (Cond.arrayClass .byte) ∈ BIG := big_t (tb_1 (List.mem_of_getElem? (i := 220) (by rfl))) rfl
theorem wd_221 : (Cond.classLink RX11 26 RX8) ∈ BIG := big_t (tb_1 (List.mem_of_getElem? (i := 221) (by rfl))) rfl
theorem wd_222 : (Cond.instantiable RX8 5) ∈ BIG := big_t (tb_1 (List.mem_of_getElem? (i := 222) (by rfl))) rfl
theorem wd_223 : (Cond.methodLink RX11 28 yX8_init) ∈ BIG := big_t (tb_1 (List.mem_of_getElem? (i := 223) (by rfl))) rfl
theorem wd_224 : (Cond.instanceMethod yX8_init) ∈ BIG := big_t (tb_1 (List.mem_of_getElem? (i := 224) (by rfl))) rfl
theorem wd_225 : (Cond.code yX8_init prog_10_method_1_code 3 none) ∈ BIG := big_t (tb_1 (List.mem_of_getElem? (i := 225) (by rfl))) rfl
theorem wd_226 : (Cond.methodLink RX8 3 objectInit) ∈ BIG := big_t (tb_1 (List.mem_of_getElem? (i := 226) (by rfl))) rfl
theorem wd_227 : (Cond.fieldLink RX8 15 "WinterToys$Parser" "tape" "LWinterToys$Tape;") ∈ BIG := big_t (tb_1 (List.mem_of_getElem? (i := 227) (by rfl))) rfl
theorem wd_228 : (Cond.fieldLink RX8 19 "WinterToys$Parser" "book" "LWinterToys$Book;") ∈ BIG := big_t (tb_1 (List.mem_of_getElem? (i := 228) (by rfl))) rfl
theorem wd_229 : (Cond.fieldLink RX8 23 "WinterToys$Parser" "fault" "I") ∈ BIG := big_t (tb_1 (List.mem_of_getElem? (i := 229) (by rfl))) rfl
theorem wd_230 : (Cond.fieldLink RX11 134 "WinterToys$Parser" "fault" "I") ∈ BIG := big_t (tb_1 (List.mem_of_getElem? (i := 230) (by rfl))) rfl
theorem wd_231 : (Cond.fieldLink RX8 9 "WinterToys$Parser" "place" "I") ∈ BIG := big_t (tb_1 (List.mem_of_getElem? (i := 231) (by rfl))) rfl
theorem wd_232 : (Cond.fieldLink RX11 137 "WinterToys$Parser" "place" "I") ∈ BIG := big_t (tb_1 (List.mem_of_getElem? (i := 232) (by rfl))) rfl
theorem wd_233 : (Cond.fieldLink RX8 26 "WinterToys$Parser" "open" "I") ∈ BIG := big_t (tb_1 (List.mem_of_getElem? (i := 233) (by rfl))) rfl
theorem wd_234 : (Cond.laysFinal "WinterToys$Parser" "WinterToys$Parser" "tape" "LWinterToys$Tape;") ∈ BIG := big_t (tb_1 (List.mem_of_getElem? (i := 234) (by rfl))) rfl
theorem wd_235 : (Cond.soleField "WinterToys$Parser" "tape") ∈ BIG := big_t (tb_1 (List.mem_of_getElem? (i := 235) (by rfl))) rfl
theorem wd_236 : (Cond.lays "WinterToys$Parser" "WinterToys$Parser" "book" "LWinterToys$Book;") ∈ BIG := big_t (tb_1 (List.mem_of_getElem? (i := 236) (by rfl))) rfl
theorem wd_237 : (Cond.soleField "WinterToys$Parser" "book") ∈ BIG := big_t (tb_1 (List.mem_of_getElem? (i := 237) (by rfl))) rfl
theorem wd_238 : (Cond.lays "WinterToys$Parser" "WinterToys$Parser" "fault" "I") ∈ BIG := big_t (tb_1 (List.mem_of_getElem? (i := 238) (by rfl))) rfl
theorem wd_239 : (Cond.soleField "WinterToys$Parser" "fault") ∈ BIG := big_t (tb_1 (List.mem_of_getElem? (i := 239) (by rfl))) rfl
theorem wd_240 : (Cond.lays "WinterToys$Parser" "WinterToys$Parser" "place" "I") ∈ BIG := big_t (tb_2 (List.mem_of_getElem? (i := 0) (by rfl))) rfl
theorem wd_241 : (Cond.soleField "WinterToys$Parser" "place") ∈ BIG := big_t (tb_2 (List.mem_of_getElem? (i := 1) (by rfl))) rfl
theorem wd_242 : (Cond.lays "WinterToys$Parser" "WinterToys$Parser" "open" "I") ∈ BIG := big_t (tb_2 (List.mem_of_getElem? (i := 2) (by rfl))) rfl
theorem wd_243 : (Cond.soleField "WinterToys$Parser" "open") ∈ BIG := big_t (tb_2 (List.mem_of_getElem? (i := 3) (by rfl))) rfl
theorem wd_244 : (Cond.superclass "WinterToys$Parser" "java/lang/Object") ∈ BIG := big_t (tb_2 (List.mem_of_getElem? (i := 4) (by rfl))) rfl
theorem wd_245 : (Cond.classLink RX11 35 RX7) ∈ BIG := big_t (tb_2 (List.mem_of_getElem? (i := 5) (by rfl))) rfl
theorem wd_246 : (Cond.instantiable RX7 8) ∈ BIG := big_t (tb_2 (List.mem_of_getElem? (i := 6) (by rfl))) rfl
theorem wn_247 : (Cond.methodLinkNest RX11 37 yX7_init "WinterToys") ∈ tables_1 := tb_2 (List.mem_of_getElem? (i := 7) (by rfl))
theorem wd_248 : (Cond.instanceMethod yX7_init) ∈ BIG := big_t (tb_2 (List.mem_of_getElem? (i := 8) (by rfl))) rfl
theorem wd_249 : (Cond.code yX7_init prog_9_method_1_code 1 none) ∈ BIG := big_t (tb_2 (List.mem_of_getElem? (i := 9) (by rfl))) rfl
theorem wd_250 : (Cond.methodLink RX7 3 objectInit) ∈ BIG := big_t (tb_2 (List.mem_of_getElem? (i := 10) (by rfl))) rfl
theorem wd_251 : (Cond.fieldLink RX7 31 "WinterToys$Ledger" "acts" "I") ∈ BIG := big_t (tb_2 (List.mem_of_getElem? (i := 11) (by rfl))) rfl
theorem wd_252 : (Cond.fieldLink RX11 190 "WinterToys$Ledger" "acts" "I") ∈ BIG := big_t (tb_2 (List.mem_of_getElem? (i := 12) (by rfl))) rfl
theorem wd_253 : (Cond.fieldLink RX7 35 "WinterToys$Ledger" "reports" "I") ∈ BIG := big_t (tb_2 (List.mem_of_getElem? (i := 13) (by rfl))) rfl
theorem wd_254 : (Cond.fieldLink RX11 175 "WinterToys$Ledger" "reports" "I") ∈ BIG := big_t (tb_2 (List.mem_of_getElem? (i := 14) (by rfl))) rfl
theorem wd_255 : (Cond.fieldLink RX7 9 "WinterToys$Ledger" "what" "[I") ∈ BIG := big_t (tb_2 (List.mem_of_getElem? (i := 15) (by rfl))) rfl
theorem wd_256 : (Cond.fieldLink RX6 82 "WinterToys$Ledger" "what" "[I") ∈ BIG := big_t (tb_2 (List.mem_of_getElem? (i := 16) (by rfl))) rfl
theorem wd_257 : (Cond.fieldLink RX11 193 "WinterToys$Ledger" "what" "[I") ∈ BIG := big_t (tb_2 (List.mem_of_getElem? (i := 17) (by rfl))) rfl
theorem wd_258 : (Cond.fieldLink RX7 15 "WinterToys$Ledger" "detail" "[I") ∈ BIG := big_t (tb_2 (List.mem_of_getElem? (i := 18) (by rfl))) rfl
theorem wd_259 : (Cond.fieldLink RX7 18 "WinterToys$Ledger" "wishWord" "[J") ∈ BIG := big_t (tb_2 (List.mem_of_getElem? (i := 19) (by rfl))) rfl
theorem wd_260 : (Cond.fieldLink RX6 102 "WinterToys$Ledger" "wishWord" "[J") ∈ BIG := big_t (tb_2 (List.mem_of_getElem? (i := 20) (by rfl))) rfl
theorem wd_261 : (Cond.fieldLink RX7 22 "WinterToys$Ledger" "wishes" "[I") ∈ BIG := big_t (tb_2 (List.mem_of_getElem? (i := 21) (by rfl))) rfl
theorem wd_262 : (Cond.fieldLink RX6 101 "WinterToys$Ledger" "wishes" "[I") ∈ BIG := big_t (tb_2 (List.mem_of_getElem? (i := 22) (by rfl))) rfl
theorem wd_263 : (Cond.fieldLink RX7 25 "WinterToys$Ledger" "voidBy" "[I") ∈ BIG := big_t (tb_2 (List.mem_of_getElem? (i := 23) (by rfl))) rfl
theorem wd_264 : (Cond.fieldLink RX11 196 "WinterToys$Ledger" "voidBy" "[I") ∈ BIG := big_t (tb_2 (List.mem_of_getElem? (i := 24) (by rfl))) rfl
theorem wd_265 : (Cond.fieldLink RX7 28 "WinterToys$Ledger" "heard" "[J") ∈ BIG := big_t (tb_2 (List.mem_of_getElem? (i := 25) (by rfl))) rfl
theorem wd_266 : (Cond.fieldLink RX11 161 "WinterToys$Ledger" "heard" "[J") ∈ BIG := big_t (tb_2 (List.mem_of_getElem? (i := 26) (by rfl))) rfl
theorem wd_267 : (Cond.lays "WinterToys$Ledger" "WinterToys$Ledger" "acts" "I") ∈ BIG := big_t (tb_2 (List.mem_of_getElem? (i := 27) (by rfl))) rfl
theorem wd_268 : (Cond.soleField "WinterToys$Ledger" "acts") ∈ BIG := big_t (tb_2 (List.mem_of_getElem? (i := 28) (by rfl))) rfl
theorem wd_269 : (Cond.lays "WinterToys$Ledger" "WinterToys$Ledger" "reports" "I") ∈ BIG := big_t (tb_2 (List.mem_of_getElem? (i := 29) (by rfl))) rfl
theorem wd_270 : (Cond.soleField "WinterToys$Ledger" "reports") ∈ BIG := big_t (tb_2 (List.mem_of_getElem? (i := 30) (by rfl))) rfl
theorem wd_271 : (Cond.laysFinal "WinterToys$Ledger" "WinterToys$Ledger" "what" "[I") ∈ BIG := big_t (tb_2 (List.mem_of_getElem? (i := 31) (by rfl))) rfl
theorem wd_272 : (Cond.soleField "WinterToys$Ledger" "what") ∈ BIG := big_t (tb_2 (List.mem_of_getElem? (i := 32) (by rfl))) rfl
theorem wd_273 : (Cond.laysFinal "WinterToys$Ledger" "WinterToys$Ledger" "detail" "[I") ∈ BIG := big_t (tb_2 (List.mem_of_getElem? (i := 33) (by rfl))) rfl
theorem wd_274 : (Cond.soleField "WinterToys$Ledger" "detail") ∈ BIG := big_t (tb_2 (List.mem_of_getElem? (i := 34) (by rfl))) rfl
theorem wd_275 : (Cond.laysFinal "WinterToys$Ledger" "WinterToys$Ledger" "wishWord" "[J") ∈ BIG := big_t (tb_2 (List.mem_of_getElem? (i := 35) (by rfl))) rfl
theorem wd_276 : (Cond.soleField "WinterToys$Ledger" "wishWord") ∈ BIG := big_t (tb_2 (List.mem_of_getElem? (i := 36) (by rfl))) rfl
theorem wd_277 : (Cond.laysFinal "WinterToys$Ledger" "WinterToys$Ledger" "wishes" "[I") ∈ BIG := big_t (tb_2 (List.mem_of_getElem? (i := 37) (by rfl))) rfl
theorem wd_278 : (Cond.soleField "WinterToys$Ledger" "wishes") ∈ BIG := big_t (tb_2 (List.mem_of_getElem? (i := 38) (by rfl))) rfl
theorem wd_279 : (Cond.laysFinal "WinterToys$Ledger" "WinterToys$Ledger" "voidBy" "[I") ∈ BIG := big_t (tb_2 (List.mem_of_getElem? (i := 39) (by rfl))) rfl
theorem wd_280 : (Cond.soleField "WinterToys$Ledger" "voidBy") ∈ BIG := big_t (tb_2 (List.mem_of_getElem? (i := 40) (by rfl))) rfl
theorem wd_281 : (Cond.laysFinal "WinterToys$Ledger" "WinterToys$Ledger" "heard" "[J") ∈ BIG := big_t (tb_2 (List.mem_of_getElem? (i := 41) (by rfl))) rfl
theorem wd_282 : (Cond.soleField "WinterToys$Ledger" "heard") ∈ BIG := big_t (tb_2 (List.mem_of_getElem? (i := 42) (by rfl))) rfl
theorem wd_283 : (Cond.superclass "WinterToys$Ledger" "java/lang/Object") ∈ BIG := big_t (tb_2 (List.mem_of_getElem? (i := 43) (by rfl))) rfl
theorem wd_284 : (Cond.classLink RX11 42 RX6) ∈ BIG := big_t (tb_2 (List.mem_of_getElem? (i := 44) (by rfl))) rfl
theorem wd_285 : (Cond.instantiable RX6 16) ∈ BIG := big_t (tb_2 (List.mem_of_getElem? (i := 45) (by rfl))) rfl
theorem wn_286 : (Cond.methodLinkNest RX11 44 yX6_init "WinterToys") ∈ tables_1 := tb_2 (List.mem_of_getElem? (i := 46) (by rfl))
theorem wd_287 : (Cond.instanceMethod yX6_init) ∈ BIG := big_t (tb_2 (List.mem_of_getElem? (i := 47) (by rfl))) rfl
theorem wd_288 : (Cond.code yX6_init prog_8_method_1_code 1 none) ∈ BIG := big_t (tb_2 (List.mem_of_getElem? (i := 48) (by rfl))) rfl
theorem wd_289 : (Cond.methodLink RX6 3 objectInit) ∈ BIG := big_t (tb_2 (List.mem_of_getElem? (i := 49) (by rfl))) rfl
theorem wd_290 : (Cond.fieldLink RX6 9 "WinterToys$Known" "now" "I") ∈ BIG := big_t (tb_2 (List.mem_of_getElem? (i := 50) (by rfl))) rfl
theorem wd_291 : (Cond.fieldLink RX5 55 "WinterToys$Known" "version" "I") ∈ BIG := big_t (tb_2 (List.mem_of_getElem? (i := 51) (by rfl))) rfl
theorem wd_292 : (Cond.fieldLink RX6 56 "WinterToys$Known" "version" "I") ∈ BIG := big_t (tb_2 (List.mem_of_getElem? (i := 52) (by rfl))) rfl
theorem wd_293 : (Cond.fieldLink RX4 59 "WinterToys$Known" "count" "I") ∈ BIG := big_t (tb_2 (List.mem_of_getElem? (i := 53) (by rfl))) rfl
theorem wd_294 : (Cond.fieldLink RX3 55 "WinterToys$Known" "count" "I") ∈ BIG := big_t (tb_2 (List.mem_of_getElem? (i := 54) (by rfl))) rfl
theorem wd_295 : (Cond.fieldLink RX6 59 "WinterToys$Known" "count" "I") ∈ BIG := big_t (tb_2 (List.mem_of_getElem? (i := 55) (by rfl))) rfl
theorem wd_296 : (Cond.fieldLink RX11 210 "WinterToys$Known" "count" "I") ∈ BIG := big_t (tb_2 (List.mem_of_getElem? (i := 56) (by rfl))) rfl
theorem wd_297 : (Cond.fieldLink RX6 15 "WinterToys$Known" "code" "[I") ∈ BIG := big_t (tb_2 (List.mem_of_getElem? (i := 57) (by rfl))) rfl
theorem wd_298 : (Cond.fieldLink RX6 19 "WinterToys$Known" "age" "[I") ∈ BIG := big_t (tb_2 (List.mem_of_getElem? (i := 58) (by rfl))) rfl
theorem wd_299 : (Cond.fieldLink RX4 68 "WinterToys$Known" "age" "[I") ∈ BIG := big_t (tb_2 (List.mem_of_getElem? (i := 59) (by rfl))) rfl
theorem wd_300 : (Cond.fieldLink RX5 80 "WinterToys$Known" "age" "[I") ∈ BIG := big_t (tb_2 (List.mem_of_getElem? (i := 60) (by rfl))) rfl
theorem wd_301 : (Cond.fieldLink RX6 22 "WinterToys$Known" "least" "[I") ∈ BIG := big_t (tb_2 (List.mem_of_getElem? (i := 61) (by rfl))) rfl
theorem wd_302 : (Cond.fieldLink RX5 86 "WinterToys$Known" "least" "[I") ∈ BIG := big_t (tb_2 (List.mem_of_getElem? (i := 62) (by rfl))) rfl
theorem wd_303 : (Cond.fieldLink RX6 25 "WinterToys$Known" "most" "[I") ∈ BIG := big_t (tb_2 (List.mem_of_getElem? (i := 63) (by rfl))) rfl
theorem wd_304 : (Cond.fieldLink RX5 83 "WinterToys$Known" "most" "[I") ∈ BIG := big_t (tb_2 (List.mem_of_getElem? (i := 64) (by rfl))) rfl
theorem wd_305 : (Cond.fieldLink RX6 28 "WinterToys$Known" "school" "[I") ∈ BIG := big_t (tb_2 (List.mem_of_getElem? (i := 65) (by rfl))) rfl
theorem wd_306 : (Cond.fieldLink RX5 89 "WinterToys$Known" "school" "[I") ∈ BIG := big_t (tb_2 (List.mem_of_getElem? (i := 66) (by rfl))) rfl
theorem wd_307 : (Cond.fieldLink RX6 31 "WinterToys$Known" "house" "[I") ∈ BIG := big_t (tb_2 (List.mem_of_getElem? (i := 67) (by rfl))) rfl
theorem wd_308 : (Cond.fieldLink RX4 69 "WinterToys$Known" "house" "[I") ∈ BIG := big_t (tb_2 (List.mem_of_getElem? (i := 68) (by rfl))) rfl
theorem wd_309 : (Cond.fieldLink RX6 34 "WinterToys$Known" "day" "[I") ∈ BIG := big_t (tb_2 (List.mem_of_getElem? (i := 69) (by rfl))) rfl
theorem wd_310 : (Cond.fieldLink RX4 70 "WinterToys$Known" "day" "[I") ∈ BIG := big_t (tb_2 (List.mem_of_getElem? (i := 70) (by rfl))) rfl
theorem wd_311 : (Cond.fieldLink RX3 60 "WinterToys$Known" "day" "[I") ∈ BIG := big_t (tb_2 (List.mem_of_getElem? (i := 71) (by rfl))) rfl
theorem wd_312 : (Cond.fieldLink RX5 67 "WinterToys$Known" "day" "[I") ∈ BIG := big_t (tb_2 (List.mem_of_getElem? (i := 72) (by rfl))) rfl
theorem wd_313 : (Cond.fieldLink RX6 37 "WinterToys$Known" "reports" "[I") ∈ BIG := big_t (tb_2 (List.mem_of_getElem? (i := 73) (by rfl))) rfl
theorem wd_314 : (Cond.fieldLink RX6 40 "WinterToys$Known" "wishes" "[I") ∈ BIG := big_t (tb_2 (List.mem_of_getElem? (i := 74) (by rfl))) rfl
theorem wd_315 : (Cond.fieldLink RX5 96 "WinterToys$Known" "wishes" "[I") ∈ BIG := big_t (tb_2 (List.mem_of_getElem? (i := 75) (by rfl))) rfl
theorem wd_316 : (Cond.fieldLink RX11 236 "WinterToys$Known" "wishes" "[I") ∈ BIG := big_t (tb_2 (List.mem_of_getElem? (i := 76) (by rfl))) rfl
theorem wd_317 : (Cond.fieldLink RX6 43 "WinterToys$Known" "wishWord" "[J") ∈ BIG := big_t (tb_2 (List.mem_of_getElem? (i := 77) (by rfl))) rfl
theorem wd_318 : (Cond.fieldLink RX11 239 "WinterToys$Known" "wishWord" "[J") ∈ BIG := big_t (tb_2 (List.mem_of_getElem? (i := 78) (by rfl))) rfl
theorem wd_319 : (Cond.fieldLink RX6 47 "WinterToys$Known" "childOf" "[I") ∈ BIG := big_t (tb_2 (List.mem_of_getElem? (i := 79) (by rfl))) rfl
theorem wd_320 : (Cond.fieldLink RX11 219 "WinterToys$Known" "childOf" "[I") ∈ BIG := big_t (tb_2 (List.mem_of_getElem? (i := 80) (by rfl))) rfl
theorem wd_321 : (Cond.fieldLink RX6 50 "WinterToys$Known" "come" "[I") ∈ BIG := big_t (tb_2 (List.mem_of_getElem? (i := 81) (by rfl))) rfl
theorem wd_322 : (Cond.fieldLink RX6 53 "WinterToys$Known" "calledDay" "[I") ∈ BIG := big_t (tb_2 (List.mem_of_getElem? (i := 82) (by rfl))) rfl
theorem wd_323 : (Cond.fieldLink RX5 64 "WinterToys$Known" "calledDay" "[I") ∈ BIG := big_t (tb_2 (List.mem_of_getElem? (i := 83) (by rfl))) rfl
theorem wd_324 : (Cond.lays "WinterToys$Known" "WinterToys$Known" "now" "I") ∈ BIG := big_t (tb_2 (List.mem_of_getElem? (i := 84) (by rfl))) rfl
theorem wd_325 : (Cond.soleField "WinterToys$Known" "now") ∈ BIG := big_t (tb_2 (List.mem_of_getElem? (i := 85) (by rfl))) rfl
theorem wd_326 : (Cond.lays "WinterToys$Known" "WinterToys$Known" "version" "I") ∈ BIG := big_t (tb_2 (List.mem_of_getElem? (i := 86) (by rfl))) rfl
theorem wd_327 : (Cond.soleField "WinterToys$Known" "version") ∈ BIG := big_t (tb_2 (List.mem_of_getElem? (i := 87) (by rfl))) rfl
theorem wd_328 : (Cond.lays "WinterToys$Known" "WinterToys$Known" "count" "I") ∈ BIG := big_t (tb_2 (List.mem_of_getElem? (i := 88) (by rfl))) rfl
theorem wd_329 : (Cond.soleField "WinterToys$Known" "count") ∈ BIG := big_t (tb_2 (List.mem_of_getElem? (i := 89) (by rfl))) rfl
theorem wd_330 : (Cond.laysFinal "WinterToys$Known" "WinterToys$Known" "code" "[I") ∈ BIG := big_t (tb_2 (List.mem_of_getElem? (i := 90) (by rfl))) rfl
theorem wd_331 : (Cond.soleField "WinterToys$Known" "code") ∈ BIG := big_t (tb_2 (List.mem_of_getElem? (i := 91) (by rfl))) rfl
theorem wd_332 : (Cond.laysFinal "WinterToys$Known" "WinterToys$Known" "age" "[I") ∈ BIG := big_t (tb_2 (List.mem_of_getElem? (i := 92) (by rfl))) rfl
theorem wd_333 : (Cond.soleField "WinterToys$Known" "age") ∈ BIG := big_t (tb_2 (List.mem_of_getElem? (i := 93) (by rfl))) rfl
theorem wd_334 : (Cond.laysFinal "WinterToys$Known" "WinterToys$Known" "least" "[I") ∈ BIG := big_t (tb_2 (List.mem_of_getElem? (i := 94) (by rfl))) rfl
theorem wd_335 : (Cond.soleField "WinterToys$Known" "least") ∈ BIG := big_t (tb_2 (List.mem_of_getElem? (i := 95) (by rfl))) rfl
theorem wd_336 : (Cond.laysFinal "WinterToys$Known" "WinterToys$Known" "most" "[I") ∈ BIG := big_t (tb_2 (List.mem_of_getElem? (i := 96) (by rfl))) rfl
theorem wd_337 : (Cond.soleField "WinterToys$Known" "most") ∈ BIG := big_t (tb_2 (List.mem_of_getElem? (i := 97) (by rfl))) rfl
theorem wd_338 : (Cond.laysFinal "WinterToys$Known" "WinterToys$Known" "school" "[I") ∈ BIG := big_t (tb_2 (List.mem_of_getElem? (i := 98) (by rfl))) rfl
theorem wd_339 : (Cond.soleField "WinterToys$Known" "school") ∈ BIG := big_t (tb_2 (List.mem_of_getElem? (i := 99) (by rfl))) rfl
theorem wd_340 : (Cond.laysFinal "WinterToys$Known" "WinterToys$Known" "house" "[I") ∈ BIG := big_t (tb_2 (List.mem_of_getElem? (i := 100) (by rfl))) rfl
theorem wd_341 : (Cond.soleField "WinterToys$Known" "house") ∈ BIG := big_t (tb_2 (List.mem_of_getElem? (i := 101) (by rfl))) rfl
theorem wd_342 : (Cond.laysFinal "WinterToys$Known" "WinterToys$Known" "day" "[I") ∈ BIG := big_t (tb_2 (List.mem_of_getElem? (i := 102) (by rfl))) rfl
theorem wd_343 : (Cond.soleField "WinterToys$Known" "day") ∈ BIG := big_t (tb_2 (List.mem_of_getElem? (i := 103) (by rfl))) rfl
theorem wd_344 : (Cond.laysFinal "WinterToys$Known" "WinterToys$Known" "reports" "[I") ∈ BIG := big_t (tb_2 (List.mem_of_getElem? (i := 104) (by rfl))) rfl
theorem wd_345 : (Cond.soleField "WinterToys$Known" "reports") ∈ BIG := big_t (tb_2 (List.mem_of_getElem? (i := 105) (by rfl))) rfl
theorem wd_346 : (Cond.laysFinal "WinterToys$Known" "WinterToys$Known" "wishes" "[I") ∈ BIG := big_t (tb_2 (List.mem_of_getElem? (i := 106) (by rfl))) rfl
theorem wd_347 : (Cond.soleField "WinterToys$Known" "wishes") ∈ BIG := big_t (tb_2 (List.mem_of_getElem? (i := 107) (by rfl))) rfl
theorem wd_348 : (Cond.laysFinal "WinterToys$Known" "WinterToys$Known" "wishWord" "[J") ∈ BIG := big_t (tb_2 (List.mem_of_getElem? (i := 108) (by rfl))) rfl
theorem wd_349 : (Cond.soleField "WinterToys$Known" "wishWord") ∈ BIG := big_t (tb_2 (List.mem_of_getElem? (i := 109) (by rfl))) rfl
theorem wd_350 : (Cond.laysFinal "WinterToys$Known" "WinterToys$Known" "childOf" "[I") ∈ BIG := big_t (tb_2 (List.mem_of_getElem? (i := 110) (by rfl))) rfl
theorem wd_351 : (Cond.soleField "WinterToys$Known" "childOf") ∈ BIG := big_t (tb_2 (List.mem_of_getElem? (i := 111) (by rfl))) rfl
theorem wd_352 : (Cond.laysFinal "WinterToys$Known" "WinterToys$Known" "come" "[I") ∈ BIG := big_t (tb_2 (List.mem_of_getElem? (i := 112) (by rfl))) rfl
theorem wd_353 : (Cond.soleField "WinterToys$Known" "come") ∈ BIG := big_t (tb_2 (List.mem_of_getElem? (i := 113) (by rfl))) rfl
theorem wd_354 : (Cond.laysFinal "WinterToys$Known" "WinterToys$Known" "calledDay" "[I") ∈ BIG := big_t (tb_2 (List.mem_of_getElem? (i := 114) (by rfl))) rfl
theorem wd_355 : (Cond.soleField "WinterToys$Known" "calledDay") ∈ BIG := big_t (tb_2 (List.mem_of_getElem? (i := 115) (by rfl))) rfl
theorem wd_356 : (Cond.superclass "WinterToys$Known" "java/lang/Object") ∈ BIG := big_t (tb_2 (List.mem_of_getElem? (i := 116) (by rfl))) rfl
theorem wd_357 : (Cond.classLink RX11 49 RX5) ∈ BIG := big_t (tb_2 (List.mem_of_getElem? (i := 117) (by rfl))) rfl
theorem wd_358 : (Cond.instantiable RX5 7) ∈ BIG := big_t (tb_2 (List.mem_of_getElem? (i := 118) (by rfl))) rfl
theorem wn_359 : (Cond.methodLinkNest RX11 51 yX5_init "WinterToys") ∈ tables_1 := tb_2 (List.mem_of_getElem? (i := 119) (by rfl))
theorem wd_360 : (Cond.instanceMethod yX5_init) ∈ BIG := big_t (tb_2 (List.mem_of_getElem? (i := 120) (by rfl))) rfl
theorem wd_361 : (Cond.code yX5_init prog_7_method_1_code 1 none) ∈ BIG := big_t (tb_2 (List.mem_of_getElem? (i := 121) (by rfl))) rfl
theorem wd_362 : (Cond.methodLink RX5 3 objectInit) ∈ BIG := big_t (tb_2 (List.mem_of_getElem? (i := 122) (by rfl))) rfl
theorem wd_363 : (Cond.fieldLink RX5 9 "WinterToys$Judge" "due" "[I") ∈ BIG := big_t (tb_2 (List.mem_of_getElem? (i := 123) (by rfl))) rfl
theorem wd_364 : (Cond.fieldLink RX4 71 "WinterToys$Judge" "due" "[I") ∈ BIG := big_t (tb_2 (List.mem_of_getElem? (i := 124) (by rfl))) rfl
theorem wd_365 : (Cond.fieldLink RX3 63 "WinterToys$Judge" "due" "[I") ∈ BIG := big_t (tb_2 (List.mem_of_getElem? (i := 125) (by rfl))) rfl
theorem wd_366 : (Cond.fieldLink RX11 229 "WinterToys$Judge" "due" "[I") ∈ BIG := big_t (tb_2 (List.mem_of_getElem? (i := 126) (by rfl))) rfl
theorem wd_367 : (Cond.fieldLink RX5 15 "WinterToys$Judge" "may" "[I") ∈ BIG := big_t (tb_2 (List.mem_of_getElem? (i := 127) (by rfl))) rfl
theorem wd_368 : (Cond.fieldLink RX4 74 "WinterToys$Judge" "may" "[I") ∈ BIG := big_t (tb_2 (List.mem_of_getElem? (i := 128) (by rfl))) rfl
theorem wd_369 : (Cond.fieldLink RX3 70 "WinterToys$Judge" "may" "[I") ∈ BIG := big_t (tb_2 (List.mem_of_getElem? (i := 129) (by rfl))) rfl
theorem wd_370 : (Cond.fieldLink RX11 242 "WinterToys$Judge" "may" "[I") ∈ BIG := big_t (tb_2 (List.mem_of_getElem? (i := 130) (by rfl))) rfl
theorem wd_371 : (Cond.fieldLink RX5 18 "WinterToys$Judge" "points" "[I") ∈ BIG := big_t (tb_2 (List.mem_of_getElem? (i := 131) (by rfl))) rfl
theorem wd_372 : (Cond.fieldLink RX4 98 "WinterToys$Judge" "points" "[I") ∈ BIG := big_t (tb_2 (List.mem_of_getElem? (i := 132) (by rfl))) rfl
theorem wd_373 : (Cond.fieldLink RX3 71 "WinterToys$Judge" "points" "[I") ∈ BIG := big_t (tb_2 (List.mem_of_getElem? (i := 133) (by rfl))) rfl
theorem wd_374 : (Cond.fieldLink RX11 246 "WinterToys$Judge" "points" "[I") ∈ BIG := big_t (tb_2 (List.mem_of_getElem? (i := 134) (by rfl))) rfl
theorem wd_375 : (Cond.fieldLink RX5 21 "WinterToys$Judge" "weighed" "[I") ∈ BIG := big_t (tb_2 (List.mem_of_getElem? (i := 135) (by rfl))) rfl
theorem wd_376 : (Cond.fieldLink RX5 24 "WinterToys$Judge" "facts" "[I") ∈ BIG := big_t (tb_2 (List.mem_of_getElem? (i := 136) (by rfl))) rfl
theorem wd_377 : (Cond.fieldLink RX5 29 "WinterToys$Judge" "granted" "[I") ∈ BIG := big_t (tb_2 (List.mem_of_getElem? (i := 137) (by rfl))) rfl
theorem wd_378 : (Cond.fieldLink RX5 32 "WinterToys$Judge" "stack" "[I") ∈ BIG := big_t (tb_2 (List.mem_of_getElem? (i := 138) (by rfl))) rfl
theorem wd_379 : (Cond.laysFinal "WinterToys$Judge" "WinterToys$Judge" "due" "[I") ∈ BIG := big_t (tb_2 (List.mem_of_getElem? (i := 139) (by rfl))) rfl
theorem wd_380 : (Cond.soleField "WinterToys$Judge" "due") ∈ BIG := big_t (tb_2 (List.mem_of_getElem? (i := 140) (by rfl))) rfl
theorem wd_381 : (Cond.laysFinal "WinterToys$Judge" "WinterToys$Judge" "may" "[I") ∈ BIG := big_t (tb_2 (List.mem_of_getElem? (i := 141) (by rfl))) rfl
theorem wd_382 : (Cond.soleField "WinterToys$Judge" "may") ∈ BIG := big_t (tb_2 (List.mem_of_getElem? (i := 142) (by rfl))) rfl
theorem wd_383 : (Cond.laysFinal "WinterToys$Judge" "WinterToys$Judge" "points" "[I") ∈ BIG := big_t (tb_2 (List.mem_of_getElem? (i := 143) (by rfl))) rfl
theorem wd_384 : (Cond.soleField "WinterToys$Judge" "points") ∈ BIG := big_t (tb_2 (List.mem_of_getElem? (i := 144) (by rfl))) rfl
theorem wd_385 : (Cond.laysFinal "WinterToys$Judge" "WinterToys$Judge" "weighed" "[I") ∈ BIG := big_t (tb_2 (List.mem_of_getElem? (i := 145) (by rfl))) rfl
theorem wd_386 : (Cond.soleField "WinterToys$Judge" "weighed") ∈ BIG := big_t (tb_2 (List.mem_of_getElem? (i := 146) (by rfl))) rfl
theorem wd_387 : (Cond.laysFinal "WinterToys$Judge" "WinterToys$Judge" "facts" "[I") ∈ BIG := big_t (tb_2 (List.mem_of_getElem? (i := 147) (by rfl))) rfl
theorem wd_388 : (Cond.soleField "WinterToys$Judge" "facts") ∈ BIG := big_t (tb_2 (List.mem_of_getElem? (i := 148) (by rfl))) rfl
theorem wd_389 : (Cond.laysFinal "WinterToys$Judge" "WinterToys$Judge" "granted" "[I") ∈ BIG := big_t (tb_2 (List.mem_of_getElem? (i := 149) (by rfl))) rfl
theorem wd_390 : (Cond.soleField "WinterToys$Judge" "granted") ∈ BIG := big_t (tb_2 (List.mem_of_getElem? (i := 150) (by rfl))) rfl
theorem wd_391 : (Cond.laysFinal "WinterToys$Judge" "WinterToys$Judge" "stack" "[I") ∈ BIG := big_t (tb_2 (List.mem_of_getElem? (i := 151) (by rfl))) rfl
theorem wd_392 : (Cond.soleField "WinterToys$Judge" "stack") ∈ BIG := big_t (tb_2 (List.mem_of_getElem? (i := 152) (by rfl))) rfl
theorem wd_393 : (Cond.superclass "WinterToys$Judge" "java/lang/Object") ∈ BIG := big_t (tb_2 (List.mem_of_getElem? (i := 153) (by rfl))) rfl
theorem wd_394 : (Cond.classLink RX11 56 RX3) ∈ BIG := big_t (tb_2 (List.mem_of_getElem? (i := 154) (by rfl))) rfl
theorem wd_395 : (Cond.instantiable RX3 12) ∈ BIG := big_t (tb_2 (List.mem_of_getElem? (i := 155) (by rfl))) rfl
theorem wn_396 : (Cond.methodLinkNest RX11 58 yX3_init "WinterToys") ∈ tables_1 := tb_2 (List.mem_of_getElem? (i := 156) (by rfl))
theorem wd_397 : (Cond.instanceMethod yX3_init) ∈ BIG := big_t (tb_2 (List.mem_of_getElem? (i := 157) (by rfl))) rfl
theorem wd_398 : (Cond.code yX3_init prog_5_method_1_code 1 none) ∈ BIG := big_t (tb_2 (List.mem_of_getElem? (i := 158) (by rfl))) rfl
theorem wd_399 : (Cond.methodLink RX3 3 objectInit) ∈ BIG := big_t (tb_2 (List.mem_of_getElem? (i := 159) (by rfl))) rfl
theorem wd_400 : (Cond.fieldLink RX3 39 "WinterToys$Floor" "kinds" "I") ∈ BIG := big_t (tb_2 (List.mem_of_getElem? (i := 160) (by rfl))) rfl
theorem wd_401 : (Cond.fieldLink RX9 70 "WinterToys$Floor" "kinds" "I") ∈ BIG := big_t (tb_2 (List.mem_of_getElem? (i := 161) (by rfl))) rfl
theorem wd_402 : (Cond.fieldLink RX2 83 "WinterToys$Floor" "kinds" "I") ∈ BIG := big_t (tb_2 (List.mem_of_getElem? (i := 162) (by rfl))) rfl
theorem wd_403 : (Cond.fieldLink RX9 38 "WinterToys$Floor" "rows" "I") ∈ BIG := big_t (tb_2 (List.mem_of_getElem? (i := 163) (by rfl))) rfl
theorem wd_404 : (Cond.fieldLink RX3 43 "WinterToys$Floor" "rows" "I") ∈ BIG := big_t (tb_2 (List.mem_of_getElem? (i := 164) (by rfl))) rfl
theorem wd_405 : (Cond.fieldLink RX2 35 "WinterToys$Floor" "rows" "I") ∈ BIG := big_t (tb_2 (List.mem_of_getElem? (i := 165) (by rfl))) rfl
theorem wd_406 : (Cond.fieldLink RX11 286 "WinterToys$Floor" "rows" "I") ∈ BIG := big_t (tb_2 (List.mem_of_getElem? (i := 166) (by rfl))) rfl
theorem wd_407 : (Cond.fieldLink RX3 46 "WinterToys$Floor" "slots" "I") ∈ BIG := big_t (tb_2 (List.mem_of_getElem? (i := 167) (by rfl))) rfl
theorem wd_408 : (Cond.fieldLink RX2 70 "WinterToys$Floor" "slots" "I") ∈ BIG := big_t (tb_2 (List.mem_of_getElem? (i := 168) (by rfl))) rfl
theorem wd_409 : (Cond.fieldLink RX9 156 "WinterToys$Floor" "slots" "I") ∈ BIG := big_t (tb_2 (List.mem_of_getElem? (i := 169) (by rfl))) rfl
theorem wd_410 : (Cond.fieldLink RX3 9 "WinterToys$Floor" "slot" "[I") ∈ BIG := big_t (tb_2 (List.mem_of_getElem? (i := 170) (by rfl))) rfl
theorem wd_411 : (Cond.fieldLink RX9 118 "WinterToys$Floor" "slot" "[I") ∈ BIG := big_t (tb_2 (List.mem_of_getElem? (i := 171) (by rfl))) rfl
theorem wd_412 : (Cond.fieldLink RX2 90 "WinterToys$Floor" "slot" "[I") ∈ BIG := big_t (tb_2 (List.mem_of_getElem? (i := 172) (by rfl))) rfl
theorem wd_413 : (Cond.fieldLink RX3 15 "WinterToys$Floor" "firstRow" "[I") ∈ BIG := big_t (tb_2 (List.mem_of_getElem? (i := 173) (by rfl))) rfl
theorem wd_414 : (Cond.fieldLink RX2 122 "WinterToys$Floor" "firstRow" "[I") ∈ BIG := big_t (tb_2 (List.mem_of_getElem? (i := 174) (by rfl))) rfl
theorem wd_415 : (Cond.fieldLink RX9 166 "WinterToys$Floor" "firstRow" "[I") ∈ BIG := big_t (tb_2 (List.mem_of_getElem? (i := 175) (by rfl))) rfl
theorem wd_416 : (Cond.fieldLink RX3 18 "WinterToys$Floor" "rowOf" "[I") ∈ BIG := big_t (tb_2 (List.mem_of_getElem? (i := 176) (by rfl))) rfl
theorem wd_417 : (Cond.fieldLink RX9 57 "WinterToys$Floor" "rowOf" "[I") ∈ BIG := big_t (tb_2 (List.mem_of_getElem? (i := 177) (by rfl))) rfl
theorem wd_418 : (Cond.fieldLink RX4 75 "WinterToys$Floor" "rowOf" "[I") ∈ BIG := big_t (tb_2 (List.mem_of_getElem? (i := 178) (by rfl))) rfl
theorem wd_419 : (Cond.fieldLink RX3 21 "WinterToys$Floor" "due" "[I") ∈ BIG := big_t (tb_2 (List.mem_of_getElem? (i := 179) (by rfl))) rfl
theorem wd_420 : (Cond.fieldLink RX2 41 "WinterToys$Floor" "due" "[I") ∈ BIG := big_t (tb_2 (List.mem_of_getElem? (i := 180) (by rfl))) rfl
theorem wd_421 : (Cond.fieldLink RX9 93 "WinterToys$Floor" "due" "[I") ∈ BIG := big_t (tb_2 (List.mem_of_getElem? (i := 181) (by rfl))) rfl
theorem wd_422 : (Cond.fieldLink RX3 24 "WinterToys$Floor" "may" "[I") ∈ BIG := big_t (tb_2 (List.mem_of_getElem? (i := 182) (by rfl))) rfl
theorem wd_423 : (Cond.fieldLink RX9 121 "WinterToys$Floor" "may" "[I") ∈ BIG := big_t (tb_2 (List.mem_of_getElem? (i := 183) (by rfl))) rfl
theorem wd_424 : (Cond.fieldLink RX2 105 "WinterToys$Floor" "may" "[I") ∈ BIG := big_t (tb_2 (List.mem_of_getElem? (i := 184) (by rfl))) rfl
theorem wd_425 : (Cond.fieldLink RX3 27 "WinterToys$Floor" "has" "[I") ∈ BIG := big_t (tb_2 (List.mem_of_getElem? (i := 185) (by rfl))) rfl
theorem wd_426 : (Cond.fieldLink RX4 80 "WinterToys$Floor" "has" "[I") ∈ BIG := big_t (tb_2 (List.mem_of_getElem? (i := 186) (by rfl))) rfl
theorem wd_427 : (Cond.fieldLink RX9 77 "WinterToys$Floor" "has" "[I") ∈ BIG := big_t (tb_2 (List.mem_of_getElem? (i := 187) (by rfl))) rfl
theorem wd_428 : (Cond.fieldLink RX2 108 "WinterToys$Floor" "has" "[I") ∈ BIG := big_t (tb_2 (List.mem_of_getElem? (i := 188) (by rfl))) rfl
theorem wd_429 : (Cond.fieldLink RX3 30 "WinterToys$Floor" "used" "[I") ∈ BIG := big_t (tb_2 (List.mem_of_getElem? (i := 189) (by rfl))) rfl
theorem wd_430 : (Cond.fieldLink RX9 90 "WinterToys$Floor" "used" "[I") ∈ BIG := big_t (tb_2 (List.mem_of_getElem? (i := 190) (by rfl))) rfl
theorem wd_431 : (Cond.fieldLink RX2 144 "WinterToys$Floor" "used" "[I") ∈ BIG := big_t (tb_2 (List.mem_of_getElem? (i := 191) (by rfl))) rfl
theorem wd_432 : (Cond.fieldLink RX3 33 "WinterToys$Floor" "points" "[I") ∈ BIG := big_t (tb_2 (List.mem_of_getElem? (i := 192) (by rfl))) rfl
theorem wd_433 : (Cond.fieldLink RX3 36 "WinterToys$Floor" "stock" "[I") ∈ BIG := big_t (tb_2 (List.mem_of_getElem? (i := 193) (by rfl))) rfl
theorem wd_434 : (Cond.fieldLink RX2 86 "WinterToys$Floor" "stock" "[I") ∈ BIG := big_t (tb_2 (List.mem_of_getElem? (i := 194) (by rfl))) rfl
theorem wd_435 : (Cond.fieldLink RX9 159 "WinterToys$Floor" "stock" "[I") ∈ BIG := big_t (tb_2 (List.mem_of_getElem? (i := 195) (by rfl))) rfl
theorem wd_436 : (Cond.lays "WinterToys$Floor" "WinterToys$Floor" "kinds" "I") ∈ BIG := big_t (tb_2 (List.mem_of_getElem? (i := 196) (by rfl))) rfl
theorem wd_437 : (Cond.soleField "WinterToys$Floor" "kinds") ∈ BIG := big_t (tb_2 (List.mem_of_getElem? (i := 197) (by rfl))) rfl
theorem wd_438 : (Cond.lays "WinterToys$Floor" "WinterToys$Floor" "rows" "I") ∈ BIG := big_t (tb_2 (List.mem_of_getElem? (i := 198) (by rfl))) rfl
theorem wd_439 : (Cond.soleField "WinterToys$Floor" "rows") ∈ BIG := big_t (tb_2 (List.mem_of_getElem? (i := 199) (by rfl))) rfl
theorem wd_440 : (Cond.lays "WinterToys$Floor" "WinterToys$Floor" "slots" "I") ∈ BIG := big_t (tb_2 (List.mem_of_getElem? (i := 200) (by rfl))) rfl
theorem wd_441 : (Cond.soleField "WinterToys$Floor" "slots") ∈ BIG := big_t (tb_2 (List.mem_of_getElem? (i := 201) (by rfl))) rfl
theorem wd_442 : (Cond.laysFinal "WinterToys$Floor" "WinterToys$Floor" "slot" "[I") ∈ BIG := big_t (tb_2 (List.mem_of_getElem? (i := 202) (by rfl))) rfl
theorem wd_443 : (Cond.soleField "WinterToys$Floor" "slot") ∈ BIG := big_t (tb_2 (List.mem_of_getElem? (i := 203) (by rfl))) rfl
theorem wd_444 : (Cond.laysFinal "WinterToys$Floor" "WinterToys$Floor" "firstRow" "[I") ∈ BIG := big_t (tb_2 (List.mem_of_getElem? (i := 204) (by rfl))) rfl
theorem wd_445 : (Cond.soleField "WinterToys$Floor" "firstRow") ∈ BIG := big_t (tb_2 (List.mem_of_getElem? (i := 205) (by rfl))) rfl
theorem wd_446 : (Cond.laysFinal "WinterToys$Floor" "WinterToys$Floor" "rowOf" "[I") ∈ BIG := big_t (tb_2 (List.mem_of_getElem? (i := 206) (by rfl))) rfl
theorem wd_447 : (Cond.soleField "WinterToys$Floor" "rowOf") ∈ BIG := big_t (tb_2 (List.mem_of_getElem? (i := 207) (by rfl))) rfl
theorem wd_448 : (Cond.laysFinal "WinterToys$Floor" "WinterToys$Floor" "due" "[I") ∈ BIG := big_t (tb_2 (List.mem_of_getElem? (i := 208) (by rfl))) rfl
theorem wd_449 : (Cond.soleField "WinterToys$Floor" "due") ∈ BIG := big_t (tb_2 (List.mem_of_getElem? (i := 209) (by rfl))) rfl
theorem wd_450 : (Cond.laysFinal "WinterToys$Floor" "WinterToys$Floor" "may" "[I") ∈ BIG := big_t (tb_2 (List.mem_of_getElem? (i := 210) (by rfl))) rfl
theorem wd_451 : (Cond.soleField "WinterToys$Floor" "may") ∈ BIG := big_t (tb_2 (List.mem_of_getElem? (i := 211) (by rfl))) rfl
theorem wd_452 : (Cond.laysFinal "WinterToys$Floor" "WinterToys$Floor" "has" "[I") ∈ BIG := big_t (tb_2 (List.mem_of_getElem? (i := 212) (by rfl))) rfl
theorem wd_453 : (Cond.soleField "WinterToys$Floor" "has") ∈ BIG := big_t (tb_2 (List.mem_of_getElem? (i := 213) (by rfl))) rfl
theorem wd_454 : (Cond.laysFinal "WinterToys$Floor" "WinterToys$Floor" "used" "[I") ∈ BIG := big_t (tb_2 (List.mem_of_getElem? (i := 214) (by rfl))) rfl
theorem wd_455 : (Cond.soleField "WinterToys$Floor" "used") ∈ BIG := big_t (tb_2 (List.mem_of_getElem? (i := 215) (by rfl))) rfl
theorem wd_456 : (Cond.laysFinal "WinterToys$Floor" "WinterToys$Floor" "points" "[I") ∈ BIG := big_t (tb_2 (List.mem_of_getElem? (i := 216) (by rfl))) rfl
theorem wd_457 : (Cond.soleField "WinterToys$Floor" "points") ∈ BIG := big_t (tb_2 (List.mem_of_getElem? (i := 217) (by rfl))) rfl
theorem wd_458 : (Cond.laysFinal "WinterToys$Floor" "WinterToys$Floor" "stock" "[I") ∈ BIG := big_t (tb_2 (List.mem_of_getElem? (i := 218) (by rfl))) rfl
theorem wd_459 : (Cond.soleField "WinterToys$Floor" "stock") ∈ BIG := big_t (tb_2 (List.mem_of_getElem? (i := 219) (by rfl))) rfl
theorem wd_460 : (Cond.superclass "WinterToys$Floor" "java/lang/Object") ∈ BIG := big_t (tb_2 (List.mem_of_getElem? (i := 220) (by rfl))) rfl
theorem wd_461 : (Cond.classLink RX11 63 RX2) ∈ BIG := big_t (tb_2 (List.mem_of_getElem? (i := 221) (by rfl))) rfl
theorem wd_462 : (Cond.instantiable RX2 11) ∈ BIG := big_t (tb_2 (List.mem_of_getElem? (i := 222) (by rfl))) rfl
theorem wd_463 : (Cond.methodLink RX11 65 yX2_init) ∈ BIG := big_t (tb_2 (List.mem_of_getElem? (i := 223) (by rfl))) rfl
theorem wd_464 : (Cond.instanceMethod yX2_init) ∈ BIG := big_t (tb_2 (List.mem_of_getElem? (i := 224) (by rfl))) rfl
theorem wd_465 : (Cond.code yX2_init prog_4_method_1_code 2 none) ∈ BIG := big_t (tb_2 (List.mem_of_getElem? (i := 225) (by rfl))) rfl
theorem wd_466 : (Cond.methodLink RX2 3 objectInit) ∈ BIG := big_t (tb_2 (List.mem_of_getElem? (i := 226) (by rfl))) rfl
theorem wd_467 : (Cond.fieldLink RX2 31 "WinterToys$Filler" "floor" "LWinterToys$Floor;") ∈ BIG := big_t (tb_2 (List.mem_of_getElem? (i := 227) (by rfl))) rfl
theorem wd_468 : (Cond.fieldLink RX2 9 "WinterToys$Filler" "rowCost" "[J") ∈ BIG := big_t (tb_2 (List.mem_of_getElem? (i := 228) (by rfl))) rfl
theorem wd_469 : (Cond.fieldLink RX9 128 "WinterToys$Filler" "rowCost" "[J") ∈ BIG := big_t (tb_2 (List.mem_of_getElem? (i := 229) (by rfl))) rfl
theorem wd_470 : (Cond.fieldLink RX2 15 "WinterToys$Filler" "dropped" "[I") ∈ BIG := big_t (tb_2 (List.mem_of_getElem? (i := 230) (by rfl))) rfl
theorem wd_471 : (Cond.fieldLink RX2 19 "WinterToys$Filler" "kindCost" "[J") ∈ BIG := big_t (tb_2 (List.mem_of_getElem? (i := 231) (by rfl))) rfl
theorem wd_472 : (Cond.fieldLink RX9 124 "WinterToys$Filler" "kindCost" "[J") ∈ BIG := big_t (tb_2 (List.mem_of_getElem? (i := 232) (by rfl))) rfl
theorem wd_473 : (Cond.fieldLink RX2 22 "WinterToys$Filler" "taker" "[I") ∈ BIG := big_t (tb_2 (List.mem_of_getElem? (i := 233) (by rfl))) rfl
theorem wd_474 : (Cond.fieldLink RX2 125 "WinterToys$Filler" "dueCost" "J") ∈ BIG := big_t (tb_2 (List.mem_of_getElem? (i := 234) (by rfl))) rfl
theorem wd_475 : (Cond.fieldLink RX9 173 "WinterToys$Filler" "dueCost" "J") ∈ BIG := big_t (tb_2 (List.mem_of_getElem? (i := 235) (by rfl))) rfl
theorem wd_476 : (Cond.fieldLink RX9 162 "WinterToys$Filler" "leftCost" "J") ∈ BIG := big_t (tb_2 (List.mem_of_getElem? (i := 236) (by rfl))) rfl
theorem wd_477 : (Cond.fieldLink RX2 129 "WinterToys$Filler" "leftCost" "J") ∈ BIG := big_t (tb_2 (List.mem_of_getElem? (i := 237) (by rfl))) rfl
theorem wd_478 : (Cond.fieldLink RX2 25 "WinterToys$Filler" "ring" "[I") ∈ BIG := big_t (tb_2 (List.mem_of_getElem? (i := 238) (by rfl))) rfl
theorem wd_479 : (Cond.fieldLink RX2 28 "WinterToys$Filler" "waiting" "[I") ∈ BIG := big_t (tb_2 (List.mem_of_getElem? (i := 239) (by rfl))) rfl
theorem wd_480 : (Cond.fieldLink RX2 96 "WinterToys$Filler" "head" "I") ∈ BIG := big_t (tb_3 (List.mem_of_getElem? (i := 0) (by rfl))) rfl
theorem wd_481 : (Cond.fieldLink RX2 99 "WinterToys$Filler" "tail" "I") ∈ BIG := big_t (tb_3 (List.mem_of_getElem? (i := 1) (by rfl))) rfl
theorem wd_482 : (Cond.laysFinal "WinterToys$Filler" "WinterToys$Filler" "floor" "LWinterToys$Floor;") ∈ BIG := big_t (tb_3 (List.mem_of_getElem? (i := 2) (by rfl))) rfl
theorem wd_483 : (Cond.soleField "WinterToys$Filler" "floor") ∈ BIG := big_t (tb_3 (List.mem_of_getElem? (i := 3) (by rfl))) rfl
theorem wd_484 : (Cond.laysFinal "WinterToys$Filler" "WinterToys$Filler" "rowCost" "[J") ∈ BIG := big_t (tb_3 (List.mem_of_getElem? (i := 4) (by rfl))) rfl
theorem wd_485 : (Cond.soleField "WinterToys$Filler" "rowCost") ∈ BIG := big_t (tb_3 (List.mem_of_getElem? (i := 5) (by rfl))) rfl
theorem wd_486 : (Cond.laysFinal "WinterToys$Filler" "WinterToys$Filler" "dropped" "[I") ∈ BIG := big_t (tb_3 (List.mem_of_getElem? (i := 6) (by rfl))) rfl
theorem wd_487 : (Cond.soleField "WinterToys$Filler" "dropped") ∈ BIG := big_t (tb_3 (List.mem_of_getElem? (i := 7) (by rfl))) rfl
theorem wd_488 : (Cond.laysFinal "WinterToys$Filler" "WinterToys$Filler" "kindCost" "[J") ∈ BIG := big_t (tb_3 (List.mem_of_getElem? (i := 8) (by rfl))) rfl
theorem wd_489 : (Cond.soleField "WinterToys$Filler" "kindCost") ∈ BIG := big_t (tb_3 (List.mem_of_getElem? (i := 9) (by rfl))) rfl
theorem wd_490 : (Cond.laysFinal "WinterToys$Filler" "WinterToys$Filler" "taker" "[I") ∈ BIG := big_t (tb_3 (List.mem_of_getElem? (i := 10) (by rfl))) rfl
theorem wd_491 : (Cond.soleField "WinterToys$Filler" "taker") ∈ BIG := big_t (tb_3 (List.mem_of_getElem? (i := 11) (by rfl))) rfl
theorem wd_492 : (Cond.lays "WinterToys$Filler" "WinterToys$Filler" "dueCost" "J") ∈ BIG := big_t (tb_3 (List.mem_of_getElem? (i := 12) (by rfl))) rfl
theorem wd_493 : (Cond.soleField "WinterToys$Filler" "dueCost") ∈ BIG := big_t (tb_3 (List.mem_of_getElem? (i := 13) (by rfl))) rfl
theorem wd_494 : (Cond.lays "WinterToys$Filler" "WinterToys$Filler" "leftCost" "J") ∈ BIG := big_t (tb_3 (List.mem_of_getElem? (i := 14) (by rfl))) rfl
theorem wd_495 : (Cond.soleField "WinterToys$Filler" "leftCost") ∈ BIG := big_t (tb_3 (List.mem_of_getElem? (i := 15) (by rfl))) rfl
theorem wd_496 : (Cond.laysFinal "WinterToys$Filler" "WinterToys$Filler" "ring" "[I") ∈ BIG := big_t (tb_3 (List.mem_of_getElem? (i := 16) (by rfl))) rfl
theorem wd_497 : (Cond.soleField "WinterToys$Filler" "ring") ∈ BIG := big_t (tb_3 (List.mem_of_getElem? (i := 17) (by rfl))) rfl
theorem wd_498 : (Cond.laysFinal "WinterToys$Filler" "WinterToys$Filler" "waiting" "[I") ∈ BIG := big_t (tb_3 (List.mem_of_getElem? (i := 18) (by rfl))) rfl
theorem wd_499 : (Cond.soleField "WinterToys$Filler" "waiting") ∈ BIG := big_t (tb_3 (List.mem_of_getElem? (i := 19) (by rfl))) rfl
theorem wd_500 : (Cond.lays "WinterToys$Filler" "WinterToys$Filler" "head" "I") ∈ BIG := big_t (tb_3 (List.mem_of_getElem? (i := 20) (by rfl))) rfl
theorem wd_501 : (Cond.soleField "WinterToys$Filler" "head") ∈ BIG := big_t (tb_3 (List.mem_of_getElem? (i := 21) (by rfl))) rfl
theorem wd_502 : (Cond.lays "WinterToys$Filler" "WinterToys$Filler" "tail" "I") ∈ BIG := big_t (tb_3 (List.mem_of_getElem? (i := 22) (by rfl))) rfl
theorem wd_503 : (Cond.soleField "WinterToys$Filler" "tail") ∈ BIG := big_t (tb_3 (List.mem_of_getElem? (i := 23) (by rfl))) rfl
theorem wd_504 : (Cond.superclass "WinterToys$Filler" "java/lang/Object") ∈ BIG := big_t (tb_3 (List.mem_of_getElem? (i := 24) (by rfl))) rfl
theorem wd_505 : (Cond.classLink RX11 72 RX9) ∈ BIG := big_t (tb_3 (List.mem_of_getElem? (i := 25) (by rfl))) rfl
theorem wd_506 : (Cond.instantiable RX9 16) ∈ BIG := big_t (tb_3 (List.mem_of_getElem? (i := 26) (by rfl))) rfl
theorem wd_507 : (Cond.methodLink RX11 74 yX9_init) ∈ BIG := big_t (tb_3 (List.mem_of_getElem? (i := 27) (by rfl))) rfl
theorem wd_508 : (Cond.instanceMethod yX9_init) ∈ BIG := big_t (tb_3 (List.mem_of_getElem? (i := 28) (by rfl))) rfl
theorem wd_509 : (Cond.code yX9_init prog_11_method_1_code 3 none) ∈ BIG := big_t (tb_3 (List.mem_of_getElem? (i := 29) (by rfl))) rfl
theorem wd_510 : (Cond.methodLink RX9 3 objectInit) ∈ BIG := big_t (tb_3 (List.mem_of_getElem? (i := 30) (by rfl))) rfl
theorem wd_511 : (Cond.fieldLink RX9 30 "WinterToys$Ranker" "floor" "LWinterToys$Floor;") ∈ BIG := big_t (tb_3 (List.mem_of_getElem? (i := 31) (by rfl))) rfl
theorem wd_512 : (Cond.fieldLink RX9 34 "WinterToys$Ranker" "filler" "LWinterToys$Filler;") ∈ BIG := big_t (tb_3 (List.mem_of_getElem? (i := 32) (by rfl))) rfl
theorem wd_513 : (Cond.fieldLink RX9 64 "WinterToys$Ranker" "goal" "I") ∈ BIG := big_t (tb_3 (List.mem_of_getElem? (i := 33) (by rfl))) rfl
theorem wd_514 : (Cond.fieldLink RX9 9 "WinterToys$Ranker" "fixed" "[I") ∈ BIG := big_t (tb_3 (List.mem_of_getElem? (i := 34) (by rfl))) rfl
theorem wd_515 : (Cond.fieldLink RX9 96 "WinterToys$Ranker" "stamp" "I") ∈ BIG := big_t (tb_3 (List.mem_of_getElem? (i := 35) (by rfl))) rfl
theorem wd_516 : (Cond.fieldLink RX9 15 "WinterToys$Ranker" "rowSeen" "[I") ∈ BIG := big_t (tb_3 (List.mem_of_getElem? (i := 36) (by rfl))) rfl
theorem wd_517 : (Cond.fieldLink RX9 18 "WinterToys$Ranker" "dropped" "[I") ∈ BIG := big_t (tb_3 (List.mem_of_getElem? (i := 37) (by rfl))) rfl
theorem wd_518 : (Cond.fieldLink RX9 21 "WinterToys$Ranker" "kindSeen" "[I") ∈ BIG := big_t (tb_3 (List.mem_of_getElem? (i := 38) (by rfl))) rfl
theorem wd_519 : (Cond.fieldLink RX9 24 "WinterToys$Ranker" "taker" "[I") ∈ BIG := big_t (tb_3 (List.mem_of_getElem? (i := 39) (by rfl))) rfl
theorem wd_520 : (Cond.fieldLink RX9 27 "WinterToys$Ranker" "line" "[I") ∈ BIG := big_t (tb_3 (List.mem_of_getElem? (i := 40) (by rfl))) rfl
theorem wd_521 : (Cond.fieldLink RX9 99 "WinterToys$Ranker" "head" "I") ∈ BIG := big_t (tb_3 (List.mem_of_getElem? (i := 41) (by rfl))) rfl
theorem wd_522 : (Cond.fieldLink RX9 102 "WinterToys$Ranker" "tail" "I") ∈ BIG := big_t (tb_3 (List.mem_of_getElem? (i := 42) (by rfl))) rfl
theorem wd_523 : (Cond.fieldLink RX9 105 "WinterToys$Ranker" "loser" "I") ∈ BIG := big_t (tb_3 (List.mem_of_getElem? (i := 43) (by rfl))) rfl
theorem wd_524 : (Cond.fieldLink RX9 108 "WinterToys$Ranker" "leftKind" "I") ∈ BIG := big_t (tb_3 (List.mem_of_getElem? (i := 44) (by rfl))) rfl
theorem wd_525 : (Cond.fieldLink RX9 111 "WinterToys$Ranker" "dueSpread" "Z") ∈ BIG := big_t (tb_3 (List.mem_of_getElem? (i := 45) (by rfl))) rfl
theorem wd_526 : (Cond.fieldLink RX9 115 "WinterToys$Ranker" "leftSpread" "Z") ∈ BIG := big_t (tb_3 (List.mem_of_getElem? (i := 46) (by rfl))) rfl
theorem wd_527 : (Cond.laysFinal "WinterToys$Ranker" "WinterToys$Ranker" "floor" "LWinterToys$Floor;") ∈ BIG := big_t (tb_3 (List.mem_of_getElem? (i := 47) (by rfl))) rfl
theorem wd_528 : (Cond.soleField "WinterToys$Ranker" "floor") ∈ BIG := big_t (tb_3 (List.mem_of_getElem? (i := 48) (by rfl))) rfl
theorem wd_529 : (Cond.laysFinal "WinterToys$Ranker" "WinterToys$Ranker" "filler" "LWinterToys$Filler;") ∈ BIG := big_t (tb_3 (List.mem_of_getElem? (i := 49) (by rfl))) rfl
theorem wd_530 : (Cond.soleField "WinterToys$Ranker" "filler") ∈ BIG := big_t (tb_3 (List.mem_of_getElem? (i := 50) (by rfl))) rfl
theorem wd_531 : (Cond.lays "WinterToys$Ranker" "WinterToys$Ranker" "goal" "I") ∈ BIG := big_t (tb_3 (List.mem_of_getElem? (i := 51) (by rfl))) rfl
theorem wd_532 : (Cond.soleField "WinterToys$Ranker" "goal") ∈ BIG := big_t (tb_3 (List.mem_of_getElem? (i := 52) (by rfl))) rfl
theorem wd_533 : (Cond.laysFinal "WinterToys$Ranker" "WinterToys$Ranker" "fixed" "[I") ∈ BIG := big_t (tb_3 (List.mem_of_getElem? (i := 53) (by rfl))) rfl
theorem wd_534 : (Cond.soleField "WinterToys$Ranker" "fixed") ∈ BIG := big_t (tb_3 (List.mem_of_getElem? (i := 54) (by rfl))) rfl
theorem wd_535 : (Cond.lays "WinterToys$Ranker" "WinterToys$Ranker" "stamp" "I") ∈ BIG := big_t (tb_3 (List.mem_of_getElem? (i := 55) (by rfl))) rfl
theorem wd_536 : (Cond.soleField "WinterToys$Ranker" "stamp") ∈ BIG := big_t (tb_3 (List.mem_of_getElem? (i := 56) (by rfl))) rfl
theorem wd_537 : (Cond.laysFinal "WinterToys$Ranker" "WinterToys$Ranker" "rowSeen" "[I") ∈ BIG := big_t (tb_3 (List.mem_of_getElem? (i := 57) (by rfl))) rfl
theorem wd_538 : (Cond.soleField "WinterToys$Ranker" "rowSeen") ∈ BIG := big_t (tb_3 (List.mem_of_getElem? (i := 58) (by rfl))) rfl
theorem wd_539 : (Cond.laysFinal "WinterToys$Ranker" "WinterToys$Ranker" "dropped" "[I") ∈ BIG := big_t (tb_3 (List.mem_of_getElem? (i := 59) (by rfl))) rfl
theorem wd_540 : (Cond.soleField "WinterToys$Ranker" "dropped") ∈ BIG := big_t (tb_3 (List.mem_of_getElem? (i := 60) (by rfl))) rfl
theorem wd_541 : (Cond.laysFinal "WinterToys$Ranker" "WinterToys$Ranker" "kindSeen" "[I") ∈ BIG := big_t (tb_3 (List.mem_of_getElem? (i := 61) (by rfl))) rfl
theorem wd_542 : (Cond.soleField "WinterToys$Ranker" "kindSeen") ∈ BIG := big_t (tb_3 (List.mem_of_getElem? (i := 62) (by rfl))) rfl
theorem wd_543 : (Cond.laysFinal "WinterToys$Ranker" "WinterToys$Ranker" "taker" "[I") ∈ BIG := big_t (tb_3 (List.mem_of_getElem? (i := 63) (by rfl))) rfl
theorem wd_544 : (Cond.soleField "WinterToys$Ranker" "taker") ∈ BIG := big_t (tb_3 (List.mem_of_getElem? (i := 64) (by rfl))) rfl
theorem wd_545 : (Cond.laysFinal "WinterToys$Ranker" "WinterToys$Ranker" "line" "[I") ∈ BIG := big_t (tb_3 (List.mem_of_getElem? (i := 65) (by rfl))) rfl
theorem wd_546 : (Cond.soleField "WinterToys$Ranker" "line") ∈ BIG := big_t (tb_3 (List.mem_of_getElem? (i := 66) (by rfl))) rfl
theorem wd_547 : (Cond.lays "WinterToys$Ranker" "WinterToys$Ranker" "head" "I") ∈ BIG := big_t (tb_3 (List.mem_of_getElem? (i := 67) (by rfl))) rfl
theorem wd_548 : (Cond.soleField "WinterToys$Ranker" "head") ∈ BIG := big_t (tb_3 (List.mem_of_getElem? (i := 68) (by rfl))) rfl
theorem wd_549 : (Cond.lays "WinterToys$Ranker" "WinterToys$Ranker" "tail" "I") ∈ BIG := big_t (tb_3 (List.mem_of_getElem? (i := 69) (by rfl))) rfl
theorem wd_550 : (Cond.soleField "WinterToys$Ranker" "tail") ∈ BIG := big_t (tb_3 (List.mem_of_getElem? (i := 70) (by rfl))) rfl
theorem wd_551 : (Cond.lays "WinterToys$Ranker" "WinterToys$Ranker" "loser" "I") ∈ BIG := big_t (tb_3 (List.mem_of_getElem? (i := 71) (by rfl))) rfl
theorem wd_552 : (Cond.soleField "WinterToys$Ranker" "loser") ∈ BIG := big_t (tb_3 (List.mem_of_getElem? (i := 72) (by rfl))) rfl
theorem wd_553 : (Cond.lays "WinterToys$Ranker" "WinterToys$Ranker" "leftKind" "I") ∈ BIG := big_t (tb_3 (List.mem_of_getElem? (i := 73) (by rfl))) rfl
theorem wd_554 : (Cond.soleField "WinterToys$Ranker" "leftKind") ∈ BIG := big_t (tb_3 (List.mem_of_getElem? (i := 74) (by rfl))) rfl
theorem wd_555 : (Cond.lays "WinterToys$Ranker" "WinterToys$Ranker" "dueSpread" "Z") ∈ BIG := big_t (tb_3 (List.mem_of_getElem? (i := 75) (by rfl))) rfl
theorem wd_556 : (Cond.soleField "WinterToys$Ranker" "dueSpread") ∈ BIG := big_t (tb_3 (List.mem_of_getElem? (i := 76) (by rfl))) rfl
theorem wd_557 : (Cond.lays "WinterToys$Ranker" "WinterToys$Ranker" "leftSpread" "Z") ∈ BIG := big_t (tb_3 (List.mem_of_getElem? (i := 77) (by rfl))) rfl
theorem wd_558 : (Cond.soleField "WinterToys$Ranker" "leftSpread") ∈ BIG := big_t (tb_3 (List.mem_of_getElem? (i := 78) (by rfl))) rfl
theorem wd_559 : (Cond.superclass "WinterToys$Ranker" "java/lang/Object") ∈ BIG := big_t (tb_3 (List.mem_of_getElem? (i := 79) (by rfl))) rfl
theorem wd_560 : (Cond.classLink RX11 81 RX4) ∈ BIG := big_t (tb_3 (List.mem_of_getElem? (i := 80) (by rfl))) rfl
theorem wd_561 : (Cond.instantiable RX4 17) ∈ BIG := big_t (tb_3 (List.mem_of_getElem? (i := 81) (by rfl))) rfl
theorem wn_562 : (Cond.methodLinkNest RX11 83 yX4_init "WinterToys") ∈ tables_1 := tb_3 (List.mem_of_getElem? (i := 82) (by rfl))
theorem wd_563 : (Cond.instanceMethod yX4_init) ∈ BIG := big_t (tb_3 (List.mem_of_getElem? (i := 83) (by rfl))) rfl
theorem wd_564 : (Cond.code yX4_init prog_6_method_1_code 1 none) ∈ BIG := big_t (tb_3 (List.mem_of_getElem? (i := 84) (by rfl))) rfl
theorem wd_565 : (Cond.methodLink RX4 3 objectInit) ∈ BIG := big_t (tb_3 (List.mem_of_getElem? (i := 85) (by rfl))) rfl
theorem wd_566 : (Cond.fieldLink RX4 51 "WinterToys$Giving" "there" "Z") ∈ BIG := big_t (tb_3 (List.mem_of_getElem? (i := 86) (by rfl))) rfl
theorem wd_567 : (Cond.fieldLink RX11 124 "WinterToys$Giving" "there" "Z") ∈ BIG := big_t (tb_3 (List.mem_of_getElem? (i := 87) (by rfl))) rfl
theorem wd_568 : (Cond.fieldLink RX0 34 "WinterToys$Giving" "count" "I") ∈ BIG := big_t (tb_3 (List.mem_of_getElem? (i := 88) (by rfl))) rfl
theorem wd_569 : (Cond.fieldLink RX4 64 "WinterToys$Giving" "count" "I") ∈ BIG := big_t (tb_3 (List.mem_of_getElem? (i := 89) (by rfl))) rfl
theorem wd_570 : (Cond.fieldLink RX4 9 "WinterToys$Giving" "age" "[I") ∈ BIG := big_t (tb_3 (List.mem_of_getElem? (i := 90) (by rfl))) rfl
theorem wd_571 : (Cond.fieldLink RX4 15 "WinterToys$Giving" "house" "[I") ∈ BIG := big_t (tb_3 (List.mem_of_getElem? (i := 91) (by rfl))) rfl
theorem wd_572 : (Cond.fieldLink RX0 72 "WinterToys$Giving" "house" "[I") ∈ BIG := big_t (tb_3 (List.mem_of_getElem? (i := 92) (by rfl))) rfl
theorem wd_573 : (Cond.fieldLink RX4 18 "WinterToys$Giving" "day" "[I") ∈ BIG := big_t (tb_3 (List.mem_of_getElem? (i := 93) (by rfl))) rfl
theorem wd_574 : (Cond.fieldLink RX0 65 "WinterToys$Giving" "day" "[I") ∈ BIG := big_t (tb_3 (List.mem_of_getElem? (i := 94) (by rfl))) rfl
theorem wd_575 : (Cond.fieldLink RX4 21 "WinterToys$Giving" "due" "[I") ∈ BIG := big_t (tb_3 (List.mem_of_getElem? (i := 95) (by rfl))) rfl
theorem wd_576 : (Cond.fieldLink RX4 24 "WinterToys$Giving" "may" "[I") ∈ BIG := big_t (tb_3 (List.mem_of_getElem? (i := 96) (by rfl))) rfl
theorem wd_577 : (Cond.fieldLink RX4 27 "WinterToys$Giving" "dealt" "[I") ∈ BIG := big_t (tb_3 (List.mem_of_getElem? (i := 97) (by rfl))) rfl
theorem wd_578 : (Cond.fieldLink RX4 30 "WinterToys$Giving" "bag" "[I") ∈ BIG := big_t (tb_3 (List.mem_of_getElem? (i := 98) (by rfl))) rfl
theorem wd_579 : (Cond.fieldLink RX0 37 "WinterToys$Giving" "bag" "[I") ∈ BIG := big_t (tb_3 (List.mem_of_getElem? (i := 99) (by rfl))) rfl
theorem wd_580 : (Cond.fieldLink RX11 280 "WinterToys$Giving" "bag" "[I") ∈ BIG := big_t (tb_3 (List.mem_of_getElem? (i := 100) (by rfl))) rfl
theorem wd_581 : (Cond.fieldLink RX4 33 "WinterToys$Giving" "rest" "[I") ∈ BIG := big_t (tb_3 (List.mem_of_getElem? (i := 101) (by rfl))) rfl
theorem wd_582 : (Cond.fieldLink RX11 283 "WinterToys$Giving" "rest" "[I") ∈ BIG := big_t (tb_3 (List.mem_of_getElem? (i := 102) (by rfl))) rfl
theorem wd_583 : (Cond.fieldLink RX4 65 "WinterToys$Giving" "pointsSum" "I") ∈ BIG := big_t (tb_3 (List.mem_of_getElem? (i := 103) (by rfl))) rfl
theorem wd_584 : (Cond.fieldLink RX4 55 "WinterToys$Giving" "cost" "I") ∈ BIG := big_t (tb_3 (List.mem_of_getElem? (i := 104) (by rfl))) rfl
theorem wd_585 : (Cond.fieldLink RX11 300 "WinterToys$Giving" "cost" "I") ∈ BIG := big_t (tb_3 (List.mem_of_getElem? (i := 105) (by rfl))) rfl
theorem wd_586 : (Cond.fieldLink RX4 36 "WinterToys$Giving" "offer" "[I") ∈ BIG := big_t (tb_3 (List.mem_of_getElem? (i := 106) (by rfl))) rfl
theorem wd_587 : (Cond.fieldLink RX4 39 "WinterToys$Giving" "offerCost" "[I") ∈ BIG := big_t (tb_3 (List.mem_of_getElem? (i := 107) (by rfl))) rfl
theorem wd_588 : (Cond.fieldLink RX4 42 "WinterToys$Giving" "set" "[I") ∈ BIG := big_t (tb_3 (List.mem_of_getElem? (i := 108) (by rfl))) rfl
theorem wd_589 : (Cond.fieldLink RX4 45 "WinterToys$Giving" "setWorth" "[I") ∈ BIG := big_t (tb_3 (List.mem_of_getElem? (i := 109) (by rfl))) rfl
theorem wd_590 : (Cond.fieldLink RX4 48 "WinterToys$Giving" "setPrice" "[I") ∈ BIG := big_t (tb_3 (List.mem_of_getElem? (i := 110) (by rfl))) rfl
theorem wd_591 : (Cond.lays "WinterToys$Giving" "WinterToys$Giving" "there" "Z") ∈ BIG := big_t (tb_3 (List.mem_of_getElem? (i := 111) (by rfl))) rfl
theorem wd_592 : (Cond.soleField "WinterToys$Giving" "there") ∈ BIG := big_t (tb_3 (List.mem_of_getElem? (i := 112) (by rfl))) rfl
theorem wd_593 : (Cond.lays "WinterToys$Giving" "WinterToys$Giving" "count" "I") ∈ BIG := big_t (tb_3 (List.mem_of_getElem? (i := 113) (by rfl))) rfl
theorem wd_594 : (Cond.soleField "WinterToys$Giving" "count") ∈ BIG := big_t (tb_3 (List.mem_of_getElem? (i := 114) (by rfl))) rfl
theorem wd_595 : (Cond.laysFinal "WinterToys$Giving" "WinterToys$Giving" "age" "[I") ∈ BIG := big_t (tb_3 (List.mem_of_getElem? (i := 115) (by rfl))) rfl
theorem wd_596 : (Cond.soleField "WinterToys$Giving" "age") ∈ BIG := big_t (tb_3 (List.mem_of_getElem? (i := 116) (by rfl))) rfl
theorem wd_597 : (Cond.laysFinal "WinterToys$Giving" "WinterToys$Giving" "house" "[I") ∈ BIG := big_t (tb_3 (List.mem_of_getElem? (i := 117) (by rfl))) rfl
theorem wd_598 : (Cond.soleField "WinterToys$Giving" "house") ∈ BIG := big_t (tb_3 (List.mem_of_getElem? (i := 118) (by rfl))) rfl
theorem wd_599 : (Cond.laysFinal "WinterToys$Giving" "WinterToys$Giving" "day" "[I") ∈ BIG := big_t (tb_3 (List.mem_of_getElem? (i := 119) (by rfl))) rfl
theorem wd_600 : (Cond.soleField "WinterToys$Giving" "day") ∈ BIG := big_t (tb_3 (List.mem_of_getElem? (i := 120) (by rfl))) rfl
theorem wd_601 : (Cond.laysFinal "WinterToys$Giving" "WinterToys$Giving" "due" "[I") ∈ BIG := big_t (tb_3 (List.mem_of_getElem? (i := 121) (by rfl))) rfl
theorem wd_602 : (Cond.soleField "WinterToys$Giving" "due") ∈ BIG := big_t (tb_3 (List.mem_of_getElem? (i := 122) (by rfl))) rfl
theorem wd_603 : (Cond.laysFinal "WinterToys$Giving" "WinterToys$Giving" "may" "[I") ∈ BIG := big_t (tb_3 (List.mem_of_getElem? (i := 123) (by rfl))) rfl
theorem wd_604 : (Cond.soleField "WinterToys$Giving" "may") ∈ BIG := big_t (tb_3 (List.mem_of_getElem? (i := 124) (by rfl))) rfl
theorem wd_605 : (Cond.laysFinal "WinterToys$Giving" "WinterToys$Giving" "dealt" "[I") ∈ BIG := big_t (tb_3 (List.mem_of_getElem? (i := 125) (by rfl))) rfl
theorem wd_606 : (Cond.soleField "WinterToys$Giving" "dealt") ∈ BIG := big_t (tb_3 (List.mem_of_getElem? (i := 126) (by rfl))) rfl
theorem wd_607 : (Cond.laysFinal "WinterToys$Giving" "WinterToys$Giving" "bag" "[I") ∈ BIG := big_t (tb_3 (List.mem_of_getElem? (i := 127) (by rfl))) rfl
theorem wd_608 : (Cond.soleField "WinterToys$Giving" "bag") ∈ BIG := big_t (tb_3 (List.mem_of_getElem? (i := 128) (by rfl))) rfl
theorem wd_609 : (Cond.laysFinal "WinterToys$Giving" "WinterToys$Giving" "rest" "[I") ∈ BIG := big_t (tb_3 (List.mem_of_getElem? (i := 129) (by rfl))) rfl
theorem wd_610 : (Cond.soleField "WinterToys$Giving" "rest") ∈ BIG := big_t (tb_3 (List.mem_of_getElem? (i := 130) (by rfl))) rfl
theorem wd_611 : (Cond.lays "WinterToys$Giving" "WinterToys$Giving" "pointsSum" "I") ∈ BIG := big_t (tb_3 (List.mem_of_getElem? (i := 131) (by rfl))) rfl
theorem wd_612 : (Cond.soleField "WinterToys$Giving" "pointsSum") ∈ BIG := big_t (tb_3 (List.mem_of_getElem? (i := 132) (by rfl))) rfl
theorem wd_613 : (Cond.lays "WinterToys$Giving" "WinterToys$Giving" "cost" "I") ∈ BIG := big_t (tb_3 (List.mem_of_getElem? (i := 133) (by rfl))) rfl
theorem wd_614 : (Cond.soleField "WinterToys$Giving" "cost") ∈ BIG := big_t (tb_3 (List.mem_of_getElem? (i := 134) (by rfl))) rfl
theorem wd_615 : (Cond.laysFinal "WinterToys$Giving" "WinterToys$Giving" "offer" "[I") ∈ BIG := big_t (tb_3 (List.mem_of_getElem? (i := 135) (by rfl))) rfl
theorem wd_616 : (Cond.soleField "WinterToys$Giving" "offer") ∈ BIG := big_t (tb_3 (List.mem_of_getElem? (i := 136) (by rfl))) rfl
theorem wd_617 : (Cond.laysFinal "WinterToys$Giving" "WinterToys$Giving" "offerCost" "[I") ∈ BIG := big_t (tb_3 (List.mem_of_getElem? (i := 137) (by rfl))) rfl
theorem wd_618 : (Cond.soleField "WinterToys$Giving" "offerCost") ∈ BIG := big_t (tb_3 (List.mem_of_getElem? (i := 138) (by rfl))) rfl
theorem wd_619 : (Cond.laysFinal "WinterToys$Giving" "WinterToys$Giving" "set" "[I") ∈ BIG := big_t (tb_3 (List.mem_of_getElem? (i := 139) (by rfl))) rfl
theorem wd_620 : (Cond.soleField "WinterToys$Giving" "set") ∈ BIG := big_t (tb_3 (List.mem_of_getElem? (i := 140) (by rfl))) rfl
theorem wd_621 : (Cond.laysFinal "WinterToys$Giving" "WinterToys$Giving" "setWorth" "[I") ∈ BIG := big_t (tb_3 (List.mem_of_getElem? (i := 141) (by rfl))) rfl
theorem wd_622 : (Cond.soleField "WinterToys$Giving" "setWorth") ∈ BIG := big_t (tb_3 (List.mem_of_getElem? (i := 142) (by rfl))) rfl
theorem wd_623 : (Cond.laysFinal "WinterToys$Giving" "WinterToys$Giving" "setPrice" "[I") ∈ BIG := big_t (tb_3 (List.mem_of_getElem? (i := 143) (by rfl))) rfl
theorem wd_624 : (Cond.soleField "WinterToys$Giving" "setPrice") ∈ BIG := big_t (tb_3 (List.mem_of_getElem? (i := 144) (by rfl))) rfl
theorem wd_625 : (Cond.superclass "WinterToys$Giving" "java/lang/Object") ∈ BIG := big_t (tb_3 (List.mem_of_getElem? (i := 145) (by rfl))) rfl
theorem wd_626 : (Cond.classLink RX11 88 RX0) ∈ BIG := big_t (tb_3 (List.mem_of_getElem? (i := 146) (by rfl))) rfl
theorem wd_627 : (Cond.instantiable RX0 11) ∈ BIG := big_t (tb_3 (List.mem_of_getElem? (i := 147) (by rfl))) rfl
theorem wn_628 : (Cond.methodLinkNest RX11 90 yX0_init "WinterToys") ∈ tables_1 := tb_3 (List.mem_of_getElem? (i := 148) (by rfl))
theorem wd_629 : (Cond.instanceMethod yX0_init) ∈ BIG := big_t (tb_3 (List.mem_of_getElem? (i := 149) (by rfl))) rfl
theorem wd_630 : (Cond.code yX0_init prog_2_method_1_code 1 none) ∈ BIG := big_t (tb_3 (List.mem_of_getElem? (i := 150) (by rfl))) rfl
theorem wd_631 : (Cond.methodLink RX0 3 objectInit) ∈ BIG := big_t (tb_3 (List.mem_of_getElem? (i := 151) (by rfl))) rfl
theorem wd_632 : (Cond.fieldLink RX0 30 "WinterToys$Bags" "count" "I") ∈ BIG := big_t (tb_3 (List.mem_of_getElem? (i := 152) (by rfl))) rfl
theorem wd_633 : (Cond.fieldLink RX11 318 "WinterToys$Bags" "count" "I") ∈ BIG := big_t (tb_3 (List.mem_of_getElem? (i := 153) (by rfl))) rfl
theorem wd_634 : (Cond.fieldLink RX0 9 "WinterToys$Bags" "order" "[I") ∈ BIG := big_t (tb_3 (List.mem_of_getElem? (i := 154) (by rfl))) rfl
theorem wd_635 : (Cond.fieldLink RX11 319 "WinterToys$Bags" "order" "[I") ∈ BIG := big_t (tb_3 (List.mem_of_getElem? (i := 155) (by rfl))) rfl
theorem wd_636 : (Cond.fieldLink RX0 15 "WinterToys$Bags" "far" "[I") ∈ BIG := big_t (tb_3 (List.mem_of_getElem? (i := 156) (by rfl))) rfl
theorem wd_637 : (Cond.fieldLink RX0 62 "WinterToys$Bags" "houses" "I") ∈ BIG := big_t (tb_3 (List.mem_of_getElem? (i := 157) (by rfl))) rfl
theorem wd_638 : (Cond.fieldLink RX11 326 "WinterToys$Bags" "houses" "I") ∈ BIG := big_t (tb_3 (List.mem_of_getElem? (i := 158) (by rfl))) rfl
theorem wd_639 : (Cond.fieldLink RX0 18 "WinterToys$Bags" "first" "[I") ∈ BIG := big_t (tb_3 (List.mem_of_getElem? (i := 159) (by rfl))) rfl
theorem wd_640 : (Cond.fieldLink RX0 21 "WinterToys$Bags" "minutes" "[I") ∈ BIG := big_t (tb_3 (List.mem_of_getElem? (i := 160) (by rfl))) rfl
theorem wd_641 : (Cond.fieldLink RX0 24 "WinterToys$Bags" "free" "[I") ∈ BIG := big_t (tb_3 (List.mem_of_getElem? (i := 161) (by rfl))) rfl
theorem wd_642 : (Cond.fieldLink RX0 81 "WinterToys$Bags" "waited" "I") ∈ BIG := big_t (tb_3 (List.mem_of_getElem? (i := 162) (by rfl))) rfl
theorem wd_643 : (Cond.fieldLink RX11 332 "WinterToys$Bags" "waited" "I") ∈ BIG := big_t (tb_3 (List.mem_of_getElem? (i := 163) (by rfl))) rfl
theorem wd_644 : (Cond.fieldLink RX0 84 "WinterToys$Bags" "lastMinute" "I") ∈ BIG := big_t (tb_3 (List.mem_of_getElem? (i := 164) (by rfl))) rfl
theorem wd_645 : (Cond.fieldLink RX11 335 "WinterToys$Bags" "lastMinute" "I") ∈ BIG := big_t (tb_3 (List.mem_of_getElem? (i := 165) (by rfl))) rfl
theorem wd_646 : (Cond.fieldLink RX0 27 "WinterToys$Bags" "text" "[I") ∈ BIG := big_t (tb_3 (List.mem_of_getElem? (i := 166) (by rfl))) rfl
theorem wd_647 : (Cond.fieldLink RX11 344 "WinterToys$Bags" "text" "[I") ∈ BIG := big_t (tb_3 (List.mem_of_getElem? (i := 167) (by rfl))) rfl
theorem wd_648 : (Cond.fieldLink RX0 90 "WinterToys$Bags" "written" "I") ∈ BIG := big_t (tb_3 (List.mem_of_getElem? (i := 168) (by rfl))) rfl
theorem wd_649 : (Cond.fieldLink RX11 341 "WinterToys$Bags" "written" "I") ∈ BIG := big_t (tb_3 (List.mem_of_getElem? (i := 169) (by rfl))) rfl
theorem wd_650 : (Cond.lays "WinterToys$Bags" "WinterToys$Bags" "count" "I") ∈ BIG := big_t (tb_3 (List.mem_of_getElem? (i := 170) (by rfl))) rfl
theorem wd_651 : (Cond.soleField "WinterToys$Bags" "count") ∈ BIG := big_t (tb_3 (List.mem_of_getElem? (i := 171) (by rfl))) rfl
theorem wd_652 : (Cond.laysFinal "WinterToys$Bags" "WinterToys$Bags" "order" "[I") ∈ BIG := big_t (tb_3 (List.mem_of_getElem? (i := 172) (by rfl))) rfl
theorem wd_653 : (Cond.soleField "WinterToys$Bags" "order") ∈ BIG := big_t (tb_3 (List.mem_of_getElem? (i := 173) (by rfl))) rfl
theorem wd_654 : (Cond.laysFinal "WinterToys$Bags" "WinterToys$Bags" "far" "[I") ∈ BIG := big_t (tb_3 (List.mem_of_getElem? (i := 174) (by rfl))) rfl
theorem wd_655 : (Cond.soleField "WinterToys$Bags" "far") ∈ BIG := big_t (tb_3 (List.mem_of_getElem? (i := 175) (by rfl))) rfl
theorem wd_656 : (Cond.lays "WinterToys$Bags" "WinterToys$Bags" "houses" "I") ∈ BIG := big_t (tb_3 (List.mem_of_getElem? (i := 176) (by rfl))) rfl
theorem wd_657 : (Cond.soleField "WinterToys$Bags" "houses") ∈ BIG := big_t (tb_3 (List.mem_of_getElem? (i := 177) (by rfl))) rfl
theorem wd_658 : (Cond.laysFinal "WinterToys$Bags" "WinterToys$Bags" "first" "[I") ∈ BIG := big_t (tb_3 (List.mem_of_getElem? (i := 178) (by rfl))) rfl
theorem wd_659 : (Cond.soleField "WinterToys$Bags" "first") ∈ BIG := big_t (tb_3 (List.mem_of_getElem? (i := 179) (by rfl))) rfl
theorem wd_660 : (Cond.laysFinal "WinterToys$Bags" "WinterToys$Bags" "minutes" "[I") ∈ BIG := big_t (tb_3 (List.mem_of_getElem? (i := 180) (by rfl))) rfl
theorem wd_661 : (Cond.soleField "WinterToys$Bags" "minutes") ∈ BIG := big_t (tb_3 (List.mem_of_getElem? (i := 181) (by rfl))) rfl
theorem wd_662 : (Cond.laysFinal "WinterToys$Bags" "WinterToys$Bags" "free" "[I") ∈ BIG := big_t (tb_3 (List.mem_of_getElem? (i := 182) (by rfl))) rfl
theorem wd_663 : (Cond.soleField "WinterToys$Bags" "free") ∈ BIG := big_t (tb_3 (List.mem_of_getElem? (i := 183) (by rfl))) rfl
theorem wd_664 : (Cond.lays "WinterToys$Bags" "WinterToys$Bags" "waited" "I") ∈ BIG := big_t (tb_3 (List.mem_of_getElem? (i := 184) (by rfl))) rfl
theorem wd_665 : (Cond.soleField "WinterToys$Bags" "waited") ∈ BIG := big_t (tb_3 (List.mem_of_getElem? (i := 185) (by rfl))) rfl
theorem wd_666 : (Cond.lays "WinterToys$Bags" "WinterToys$Bags" "lastMinute" "I") ∈ BIG := big_t (tb_3 (List.mem_of_getElem? (i := 186) (by rfl))) rfl
theorem wd_667 : (Cond.soleField "WinterToys$Bags" "lastMinute") ∈ BIG := big_t (tb_3 (List.mem_of_getElem? (i := 187) (by rfl))) rfl
theorem wd_668 : (Cond.laysFinal "WinterToys$Bags" "WinterToys$Bags" "text" "[I") ∈ BIG := big_t (tb_3 (List.mem_of_getElem? (i := 188) (by rfl))) rfl
theorem wd_669 : (Cond.soleField "WinterToys$Bags" "text") ∈ BIG := big_t (tb_3 (List.mem_of_getElem? (i := 189) (by rfl))) rfl
theorem wd_670 : (Cond.lays "WinterToys$Bags" "WinterToys$Bags" "written" "I") ∈ BIG := big_t (tb_3 (List.mem_of_getElem? (i := 190) (by rfl))) rfl
theorem wd_671 : (Cond.soleField "WinterToys$Bags" "written") ∈ BIG := big_t (tb_3 (List.mem_of_getElem? (i := 191) (by rfl))) rfl
theorem wd_672 : (Cond.superclass "WinterToys$Bags" "java/lang/Object") ∈ BIG := big_t (tb_3 (List.mem_of_getElem? (i := 192) (by rfl))) rfl
theorem wd_673 : (Cond.fieldLink RX11 12 "WinterToys" "book" "LWinterToys$Book;") ∈ BIG := big_t (tb_3 (List.mem_of_getElem? (i := 193) (by rfl))) rfl
theorem wd_674 : (Cond.fieldLink RX11 16 "WinterToys" "spare" "LWinterToys$Book;") ∈ BIG := big_t (tb_3 (List.mem_of_getElem? (i := 194) (by rfl))) rfl
theorem wd_675 : (Cond.fieldLink RX11 22 "WinterToys" "tape" "LWinterToys$Tape;") ∈ BIG := big_t (tb_3 (List.mem_of_getElem? (i := 195) (by rfl))) rfl
theorem wd_676 : (Cond.fieldLink RX11 31 "WinterToys" "parser" "LWinterToys$Parser;") ∈ BIG := big_t (tb_3 (List.mem_of_getElem? (i := 196) (by rfl))) rfl
theorem wd_677 : (Cond.fieldLink RX11 38 "WinterToys" "ledger" "LWinterToys$Ledger;") ∈ BIG := big_t (tb_3 (List.mem_of_getElem? (i := 197) (by rfl))) rfl
theorem wd_678 : (Cond.fieldLink RX11 45 "WinterToys" "known" "LWinterToys$Known;") ∈ BIG := big_t (tb_3 (List.mem_of_getElem? (i := 198) (by rfl))) rfl
theorem wd_679 : (Cond.fieldLink RX11 52 "WinterToys" "judge" "LWinterToys$Judge;") ∈ BIG := big_t (tb_3 (List.mem_of_getElem? (i := 199) (by rfl))) rfl
theorem wd_680 : (Cond.fieldLink RX11 59 "WinterToys" "floor" "LWinterToys$Floor;") ∈ BIG := big_t (tb_3 (List.mem_of_getElem? (i := 200) (by rfl))) rfl
theorem wd_681 : (Cond.fieldLink RX11 68 "WinterToys" "filler" "LWinterToys$Filler;") ∈ BIG := big_t (tb_3 (List.mem_of_getElem? (i := 201) (by rfl))) rfl
theorem wd_682 : (Cond.fieldLink RX11 77 "WinterToys" "ranker" "LWinterToys$Ranker;") ∈ BIG := big_t (tb_3 (List.mem_of_getElem? (i := 202) (by rfl))) rfl
theorem wd_683 : (Cond.fieldLink RX11 84 "WinterToys" "giving" "LWinterToys$Giving;") ∈ BIG := big_t (tb_3 (List.mem_of_getElem? (i := 203) (by rfl))) rfl
theorem wd_684 : (Cond.fieldLink RX11 91 "WinterToys" "bags" "LWinterToys$Bags;") ∈ BIG := big_t (tb_3 (List.mem_of_getElem? (i := 204) (by rfl))) rfl
theorem wd_685 : (Cond.fieldLink RX11 95 "WinterToys" "asAct" "I") ∈ BIG := big_t (tb_3 (List.mem_of_getElem? (i := 205) (by rfl))) rfl
theorem wd_686 : (Cond.fieldLink RX11 99 "WinterToys" "come" "[I") ∈ BIG := big_t (tb_3 (List.mem_of_getElem? (i := 206) (by rfl))) rfl
theorem wd_687 : (Cond.lays "WinterToys" "WinterToys" "book" "LWinterToys$Book;") ∈ BIG := big_t (tb_3 (List.mem_of_getElem? (i := 207) (by rfl))) rfl
theorem wd_688 : (Cond.soleField "WinterToys" "book") ∈ BIG := big_t (tb_3 (List.mem_of_getElem? (i := 208) (by rfl))) rfl
theorem wd_689 : (Cond.lays "WinterToys" "WinterToys" "spare" "LWinterToys$Book;") ∈ BIG := big_t (tb_3 (List.mem_of_getElem? (i := 209) (by rfl))) rfl
theorem wd_690 : (Cond.soleField "WinterToys" "spare") ∈ BIG := big_t (tb_3 (List.mem_of_getElem? (i := 210) (by rfl))) rfl
theorem wd_691 : (Cond.laysFinal "WinterToys" "WinterToys" "tape" "LWinterToys$Tape;") ∈ BIG := big_t (tb_3 (List.mem_of_getElem? (i := 211) (by rfl))) rfl
theorem wd_692 : (Cond.soleField "WinterToys" "tape") ∈ BIG := big_t (tb_3 (List.mem_of_getElem? (i := 212) (by rfl))) rfl
theorem wd_693 : (Cond.laysFinal "WinterToys" "WinterToys" "parser" "LWinterToys$Parser;") ∈ BIG := big_t (tb_3 (List.mem_of_getElem? (i := 213) (by rfl))) rfl
theorem wd_694 : (Cond.soleField "WinterToys" "parser") ∈ BIG := big_t (tb_3 (List.mem_of_getElem? (i := 214) (by rfl))) rfl
theorem wd_695 : (Cond.laysFinal "WinterToys" "WinterToys" "ledger" "LWinterToys$Ledger;") ∈ BIG := big_t (tb_3 (List.mem_of_getElem? (i := 215) (by rfl))) rfl
theorem wd_696 : (Cond.soleField "WinterToys" "ledger") ∈ BIG := big_t (tb_3 (List.mem_of_getElem? (i := 216) (by rfl))) rfl
theorem wd_697 : (Cond.laysFinal "WinterToys" "WinterToys" "known" "LWinterToys$Known;") ∈ BIG := big_t (tb_3 (List.mem_of_getElem? (i := 217) (by rfl))) rfl
theorem wd_698 : (Cond.soleField "WinterToys" "known") ∈ BIG := big_t (tb_3 (List.mem_of_getElem? (i := 218) (by rfl))) rfl
theorem wd_699 : (Cond.laysFinal "WinterToys" "WinterToys" "judge" "LWinterToys$Judge;") ∈ BIG := big_t (tb_3 (List.mem_of_getElem? (i := 219) (by rfl))) rfl
theorem wd_700 : (Cond.soleField "WinterToys" "judge") ∈ BIG := big_t (tb_3 (List.mem_of_getElem? (i := 220) (by rfl))) rfl
theorem wd_701 : (Cond.laysFinal "WinterToys" "WinterToys" "floor" "LWinterToys$Floor;") ∈ BIG := big_t (tb_3 (List.mem_of_getElem? (i := 221) (by rfl))) rfl
theorem wd_702 : (Cond.soleField "WinterToys" "floor") ∈ BIG := big_t (tb_3 (List.mem_of_getElem? (i := 222) (by rfl))) rfl
theorem wd_703 : (Cond.laysFinal "WinterToys" "WinterToys" "filler" "LWinterToys$Filler;") ∈ BIG := big_t (tb_3 (List.mem_of_getElem? (i := 223) (by rfl))) rfl
theorem wd_704 : (Cond.soleField "WinterToys" "filler") ∈ BIG := big_t (tb_3 (List.mem_of_getElem? (i := 224) (by rfl))) rfl
theorem wd_705 : (Cond.laysFinal "WinterToys" "WinterToys" "ranker" "LWinterToys$Ranker;") ∈ BIG := big_t (tb_3 (List.mem_of_getElem? (i := 225) (by rfl))) rfl
theorem wd_706 : (Cond.soleField "WinterToys" "ranker") ∈ BIG := big_t (tb_3 (List.mem_of_getElem? (i := 226) (by rfl))) rfl
theorem wd_707 : (Cond.laysFinal "WinterToys" "WinterToys" "giving" "LWinterToys$Giving;") ∈ BIG := big_t (tb_3 (List.mem_of_getElem? (i := 227) (by rfl))) rfl
theorem wd_708 : (Cond.soleField "WinterToys" "giving") ∈ BIG := big_t (tb_3 (List.mem_of_getElem? (i := 228) (by rfl))) rfl
theorem wd_709 : (Cond.laysFinal "WinterToys" "WinterToys" "bags" "LWinterToys$Bags;") ∈ BIG := big_t (tb_3 (List.mem_of_getElem? (i := 229) (by rfl))) rfl
theorem wd_710 : (Cond.soleField "WinterToys" "bags") ∈ BIG := big_t (tb_3 (List.mem_of_getElem? (i := 230) (by rfl))) rfl
theorem wd_711 : (Cond.lays "WinterToys" "WinterToys" "asAct" "I") ∈ BIG := big_t (tb_3 (List.mem_of_getElem? (i := 231) (by rfl))) rfl
theorem wd_712 : (Cond.soleField "WinterToys" "asAct") ∈ BIG := big_t (tb_3 (List.mem_of_getElem? (i := 232) (by rfl))) rfl
theorem wd_713 : (Cond.laysFinal "WinterToys" "WinterToys" "come" "[I") ∈ BIG := big_t (tb_3 (List.mem_of_getElem? (i := 233) (by rfl))) rfl
theorem wd_714 : (Cond.soleField "WinterToys" "come") ∈ BIG := big_t (tb_3 (List.mem_of_getElem? (i := 234) (by rfl))) rfl
theorem wd_715 : (Cond.superclass "WinterToys" "java/lang/Object") ∈ BIG := big_t (tb_3 (List.mem_of_getElem? (i := 235) (by rfl))) rfl
theorem wd_716 : (Cond.methodLink RL 13 yX11_feed) ∈ BIG := big_t (tb_3 (List.mem_of_getElem? (i := 236) (by rfl))) rfl
theorem wd_717 : (Cond.instanceMethod yX11_feed) ∈ BIG := big_t (tb_3 (List.mem_of_getElem? (i := 237) (by rfl))) rfl
theorem wd_718 : (Cond.selects RX11 yX11_feed yX11_feed) ∈ BIG := big_t (tb_3 (List.mem_of_getElem? (i := 238) (by rfl))) rfl
theorem wd_719 : (Cond.code yX11_feed prog_1_method_2_code 6 (some .int)) ∈ BIG := big_t (tb_3 (List.mem_of_getElem? (i := 239) (by rfl))) rfl
theorem wd_720 : (Cond.methodLink RX11 106 yX10_put) ∈ BIG := big_t (tb_4 (List.mem_of_getElem? (i := 0) (by rfl))) rfl
theorem wd_721 : (Cond.instanceMethod yX10_put) ∈ BIG := big_t (tb_4 (List.mem_of_getElem? (i := 1) (by rfl))) rfl
theorem wd_722 : (Cond.selects RX10 yX10_put yX10_put) ∈ BIG := big_t (tb_4 (List.mem_of_getElem? (i := 2) (by rfl))) rfl
theorem wd_723 : (Cond.code yX10_put prog_12_method_2_code 3 none) ∈ BIG := big_t (tb_4 (List.mem_of_getElem? (i := 3) (by rfl))) rfl
theorem wd_724 : (Cond.methodLink RL 18 yX11_end) ∈ BIG := big_t (tb_4 (List.mem_of_getElem? (i := 4) (by rfl))) rfl
theorem wd_725 : (Cond.instanceMethod yX11_end) ∈ BIG := big_t (tb_4 (List.mem_of_getElem? (i := 5) (by rfl))) rfl
theorem wd_726 : (Cond.selects RX11 yX11_end yX11_end) ∈ BIG := big_t (tb_4 (List.mem_of_getElem? (i := 6) (by rfl))) rfl
theorem wd_727 : (Cond.code yX11_end prog_1_method_3_code 2 (some .boolean)) ∈ BIG := big_t (tb_4 (List.mem_of_getElem? (i := 7) (by rfl))) rfl
theorem wd_728 : (Cond.methodLink RL 23 yX11_rules) ∈ BIG := big_t (tb_4 (List.mem_of_getElem? (i := 8) (by rfl))) rfl
theorem wd_729 : (Cond.instanceMethod yX11_rules) ∈ BIG := big_t (tb_4 (List.mem_of_getElem? (i := 9) (by rfl))) rfl
theorem wd_730 : (Cond.selects RX11 yX11_rules yX11_rules) ∈ BIG := big_t (tb_4 (List.mem_of_getElem? (i := 10) (by rfl))) rfl
theorem wd_731 : (Cond.code yX11_rules prog_1_method_4_code 3 (some .int)) ∈ BIG := big_t (tb_4 (List.mem_of_getElem? (i := 11) (by rfl))) rfl
theorem wd_732 : (Cond.methodLink RX11 110 yX8_readsAll) ∈ BIG := big_t (tb_4 (List.mem_of_getElem? (i := 12) (by rfl))) rfl
theorem wd_733 : (Cond.instanceMethod yX8_readsAll) ∈ BIG := big_t (tb_4 (List.mem_of_getElem? (i := 13) (by rfl))) rfl
theorem wd_734 : (Cond.selects RX8 yX8_readsAll yX8_readsAll) ∈ BIG := big_t (tb_4 (List.mem_of_getElem? (i := 14) (by rfl))) rfl
theorem wd_735 : (Cond.code yX8_readsAll prog_10_method_2_code 4 (some .boolean)) ∈ BIG := big_t (tb_4 (List.mem_of_getElem? (i := 15) (by rfl))) rfl
theorem wd_736 : (Cond.methodLink RX8 29 yX1_empty) ∈ BIG := big_t (tb_4 (List.mem_of_getElem? (i := 16) (by rfl))) rfl
theorem wd_737 : (Cond.instanceMethod yX1_empty) ∈ BIG := big_t (tb_4 (List.mem_of_getElem? (i := 17) (by rfl))) rfl
theorem wd_738 : (Cond.selects RX1 yX1_empty yX1_empty) ∈ BIG := big_t (tb_4 (List.mem_of_getElem? (i := 18) (by rfl))) rfl
theorem wd_739 : (Cond.code yX1_empty prog_3_method_2_code 1 none) ∈ BIG := big_t (tb_4 (List.mem_of_getElem? (i := 19) (by rfl))) rfl
theorem wd_740 : (Cond.methodLink RX8 34 yX10_rewind) ∈ BIG := big_t (tb_4 (List.mem_of_getElem? (i := 20) (by rfl))) rfl
theorem wd_741 : (Cond.instanceMethod yX10_rewind) ∈ BIG := big_t (tb_4 (List.mem_of_getElem? (i := 21) (by rfl))) rfl
theorem wd_742 : (Cond.selects RX10 yX10_rewind yX10_rewind) ∈ BIG := big_t (tb_4 (List.mem_of_getElem? (i := 22) (by rfl))) rfl
theorem wd_743 : (Cond.code yX10_rewind prog_12_method_3_code 1 none) ∈ BIG := big_t (tb_4 (List.mem_of_getElem? (i := 23) (by rfl))) rfl
theorem wd_744 : (Cond.methodLink RX10 40 yX10_step) ∈ BIG := big_t (tb_4 (List.mem_of_getElem? (i := 24) (by rfl))) rfl
theorem wd_745 : (Cond.instanceMethod yX10_step) ∈ BIG := big_t (tb_4 (List.mem_of_getElem? (i := 25) (by rfl))) rfl
theorem wd_746 : (Cond.selects RX10 yX10_step yX10_step) ∈ BIG := big_t (tb_4 (List.mem_of_getElem? (i := 26) (by rfl))) rfl
theorem wd_747 : (Cond.code yX10_step prog_12_method_4_code 5 none) ∈ BIG := big_t (tb_4 (List.mem_of_getElem? (i := 27) (by rfl))) rfl
theorem wd_748 : (Cond.methodLink RX10 46 yX10_readWord) ∈ BIG := big_t (tb_4 (List.mem_of_getElem? (i := 28) (by rfl))) rfl
theorem wn_749 : (Cond.privateMethod yX10_readWord) ∈ tables_1 := tb_4 (List.mem_of_getElem? (i := 29) (by rfl))
theorem wd_750 : (Cond.instanceMethod yX10_readWord) ∈ BIG := big_t (tb_4 (List.mem_of_getElem? (i := 30) (by rfl))) rfl
theorem wd_751 : (Cond.code yX10_readWord prog_12_method_5_code 2 none) ∈ BIG := big_t (tb_4 (List.mem_of_getElem? (i := 31) (by rfl))) rfl
theorem wd_752 : (Cond.methodLink RX10 49 yX10_readNumber) ∈ BIG := big_t (tb_4 (List.mem_of_getElem? (i := 32) (by rfl))) rfl
theorem wn_753 : (Cond.privateMethod yX10_readNumber) ∈ tables_1 := tb_4 (List.mem_of_getElem? (i := 33) (by rfl))
theorem wd_754 : (Cond.instanceMethod yX10_readNumber) ∈ BIG := big_t (tb_4 (List.mem_of_getElem? (i := 34) (by rfl))) rfl
theorem wd_755 : (Cond.code yX10_readNumber prog_12_method_6_code 1 none) ∈ BIG := big_t (tb_4 (List.mem_of_getElem? (i := 35) (by rfl))) rfl
theorem wd_756 : (Cond.methodLink RX10 52 yJ9_min_7cf53) ∈ BIG := big_t (tb_4 (List.mem_of_getElem? (i := 36) (by rfl))) rfl
theorem wd_757 : (Cond.static yJ9_min_7cf53) ∈ BIG := big_t (tb_4 (List.mem_of_getElem? (i := 37) (by rfl))) rfl
theorem wd_758 : (Cond.code yJ9_min_7cf53 prog_16_method_69_code 2 (some .int)) ∈ BIG := big_t (tb_4 (List.mem_of_getElem? (i := 38) (by rfl))) rfl
theorem wd_759 : (Cond.methodLink RX8 42 yX8_readsKind) ∈ BIG := big_t (tb_4 (List.mem_of_getElem? (i := 39) (by rfl))) rfl
theorem wn_760 : (Cond.privateMethod yX8_readsKind) ∈ tables_1 := tb_4 (List.mem_of_getElem? (i := 40) (by rfl))
theorem wd_761 : (Cond.instanceMethod yX8_readsKind) ∈ BIG := big_t (tb_4 (List.mem_of_getElem? (i := 41) (by rfl))) rfl
theorem wd_762 : (Cond.code yX8_readsKind prog_10_method_5_code 2 (some .boolean)) ∈ BIG := big_t (tb_4 (List.mem_of_getElem? (i := 42) (by rfl))) rfl
theorem wd_763 : (Cond.methodLink RX8 56 yX8_fails) ∈ BIG := big_t (tb_4 (List.mem_of_getElem? (i := 43) (by rfl))) rfl
theorem wn_764 : (Cond.privateMethod yX8_fails) ∈ tables_1 := tb_4 (List.mem_of_getElem? (i := 44) (by rfl))
theorem wd_765 : (Cond.instanceMethod yX8_fails) ∈ BIG := big_t (tb_4 (List.mem_of_getElem? (i := 45) (by rfl))) rfl
theorem wd_766 : (Cond.code yX8_fails prog_10_method_3_code 2 (some .boolean)) ∈ BIG := big_t (tb_4 (List.mem_of_getElem? (i := 46) (by rfl))) rfl
theorem wd_767 : (Cond.methodLink RX8 59 yX10_step) ∈ BIG := big_t (tb_4 (List.mem_of_getElem? (i := 47) (by rfl))) rfl
theorem wd_768 : (Cond.methodLink RX8 69 yX1_kindOf) ∈ BIG := big_t (tb_4 (List.mem_of_getElem? (i := 48) (by rfl))) rfl
theorem wd_769 : (Cond.instanceMethod yX1_kindOf) ∈ BIG := big_t (tb_4 (List.mem_of_getElem? (i := 49) (by rfl))) rfl
theorem wd_770 : (Cond.selects RX1 yX1_kindOf yX1_kindOf) ∈ BIG := big_t (tb_4 (List.mem_of_getElem? (i := 50) (by rfl))) rfl
theorem wd_771 : (Cond.code yX1_kindOf prog_3_method_3_code 4 (some .int)) ∈ BIG := big_t (tb_4 (List.mem_of_getElem? (i := 51) (by rfl))) rfl
theorem wd_772 : (Cond.methodLink RX8 73 yX1_markOf) ∈ BIG := big_t (tb_4 (List.mem_of_getElem? (i := 52) (by rfl))) rfl
theorem wd_773 : (Cond.instanceMethod yX1_markOf) ∈ BIG := big_t (tb_4 (List.mem_of_getElem? (i := 53) (by rfl))) rfl
theorem wd_774 : (Cond.selects RX1 yX1_markOf yX1_markOf) ∈ BIG := big_t (tb_4 (List.mem_of_getElem? (i := 54) (by rfl))) rfl
theorem wd_775 : (Cond.code yX1_markOf prog_3_method_4_code 4 (some .int)) ∈ BIG := big_t (tb_4 (List.mem_of_getElem? (i := 55) (by rfl))) rfl
theorem wd_776 : (Cond.methodLink RX8 84 yX8_readsNumber) ∈ BIG := big_t (tb_4 (List.mem_of_getElem? (i := 56) (by rfl))) rfl
theorem wn_777 : (Cond.privateMethod yX8_readsNumber) ∈ tables_1 := tb_4 (List.mem_of_getElem? (i := 57) (by rfl))
theorem wd_778 : (Cond.instanceMethod yX8_readsNumber) ∈ BIG := big_t (tb_4 (List.mem_of_getElem? (i := 58) (by rfl))) rfl
theorem wd_779 : (Cond.code yX8_readsNumber prog_10_method_6_code 6 (some .boolean)) ∈ BIG := big_t (tb_4 (List.mem_of_getElem? (i := 59) (by rfl))) rfl
theorem wd_780 : (Cond.methodLink RX8 97 yX8_passes) ∈ BIG := big_t (tb_4 (List.mem_of_getElem? (i := 60) (by rfl))) rfl
theorem wn_781 : (Cond.privateMethod yX8_passes) ∈ tables_1 := tb_4 (List.mem_of_getElem? (i := 61) (by rfl))
theorem wd_782 : (Cond.instanceMethod yX8_passes) ∈ BIG := big_t (tb_4 (List.mem_of_getElem? (i := 62) (by rfl))) rfl
theorem wd_783 : (Cond.code yX8_passes prog_10_method_4_code 2 (some .boolean)) ∈ BIG := big_t (tb_4 (List.mem_of_getElem? (i := 63) (by rfl))) rfl
theorem wn_784 : (Cond.methodLinkNest RX8 103 yX11_within "WinterToys") ∈ tables_1 := tb_4 (List.mem_of_getElem? (i := 64) (by rfl))
theorem wd_785 : (Cond.static yX11_within) ∈ BIG := big_t (tb_4 (List.mem_of_getElem? (i := 65) (by rfl))) rfl
theorem wd_786 : (Cond.code yX11_within prog_1_method_34_code 3 (some .boolean)) ∈ BIG := big_t (tb_4 (List.mem_of_getElem? (i := 66) (by rfl))) rfl
theorem wd_787 : (Cond.methodLink RX8 94 yX8_readsMarks) ∈ BIG := big_t (tb_4 (List.mem_of_getElem? (i := 67) (by rfl))) rfl
theorem wn_788 : (Cond.privateMethod yX8_readsMarks) ∈ tables_1 := tb_4 (List.mem_of_getElem? (i := 68) (by rfl))
theorem wd_789 : (Cond.instanceMethod yX8_readsMarks) ∈ BIG := big_t (tb_4 (List.mem_of_getElem? (i := 69) (by rfl))) rfl
theorem wd_790 : (Cond.code yX8_readsMarks prog_10_method_7_code 3 (some .boolean)) ∈ BIG := big_t (tb_4 (List.mem_of_getElem? (i := 70) (by rfl))) rfl
theorem wd_791 : (Cond.methodLink RX8 107 yX8_readsMark) ∈ BIG := big_t (tb_4 (List.mem_of_getElem? (i := 71) (by rfl))) rfl
theorem wn_792 : (Cond.privateMethod yX8_readsMark) ∈ tables_1 := tb_4 (List.mem_of_getElem? (i := 72) (by rfl))
theorem wd_793 : (Cond.instanceMethod yX8_readsMark) ∈ BIG := big_t (tb_4 (List.mem_of_getElem? (i := 73) (by rfl))) rfl
theorem wd_794 : (Cond.code yX8_readsMark prog_10_method_8_code 3 (some .boolean)) ∈ BIG := big_t (tb_4 (List.mem_of_getElem? (i := 74) (by rfl))) rfl
theorem wd_795 : (Cond.methodLink RX8 113 yX1_addMark) ∈ BIG := big_t (tb_4 (List.mem_of_getElem? (i := 75) (by rfl))) rfl
theorem wd_796 : (Cond.instanceMethod yX1_addMark) ∈ BIG := big_t (tb_4 (List.mem_of_getElem? (i := 76) (by rfl))) rfl
theorem wd_797 : (Cond.selects RX1 yX1_addMark yX1_addMark) ∈ BIG := big_t (tb_4 (List.mem_of_getElem? (i := 77) (by rfl))) rfl
theorem wd_798 : (Cond.code yX1_addMark prog_3_method_5_code 3 none) ∈ BIG := big_t (tb_4 (List.mem_of_getElem? (i := 78) (by rfl))) rfl
theorem wd_799 : (Cond.methodLink RX8 46 yX8_readsEven) ∈ BIG := big_t (tb_4 (List.mem_of_getElem? (i := 79) (by rfl))) rfl
theorem wn_800 : (Cond.privateMethod yX8_readsEven) ∈ tables_1 := tb_4 (List.mem_of_getElem? (i := 80) (by rfl))
theorem wd_801 : (Cond.instanceMethod yX8_readsEven) ∈ BIG := big_t (tb_4 (List.mem_of_getElem? (i := 81) (by rfl))) rfl
theorem wd_802 : (Cond.code yX8_readsEven prog_10_method_9_code 1 (some .boolean)) ∈ BIG := big_t (tb_4 (List.mem_of_getElem? (i := 82) (by rfl))) rfl
theorem wd_803 : (Cond.methodLink RX8 132 yX1_addOther) ∈ BIG := big_t (tb_4 (List.mem_of_getElem? (i := 83) (by rfl))) rfl
theorem wd_804 : (Cond.instanceMethod yX1_addOther) ∈ BIG := big_t (tb_4 (List.mem_of_getElem? (i := 84) (by rfl))) rfl
theorem wd_805 : (Cond.selects RX1 yX1_addOther yX1_addOther) ∈ BIG := big_t (tb_4 (List.mem_of_getElem? (i := 85) (by rfl))) rfl
theorem wd_806 : (Cond.code yX1_addOther prog_3_method_8_code 5 none) ∈ BIG := big_t (tb_4 (List.mem_of_getElem? (i := 86) (by rfl))) rfl
theorem wd_807 : (Cond.methodLink RX8 49 yX8_readsClause) ∈ BIG := big_t (tb_4 (List.mem_of_getElem? (i := 87) (by rfl))) rfl
theorem wn_808 : (Cond.privateMethod yX8_readsClause) ∈ tables_1 := tb_4 (List.mem_of_getElem? (i := 88) (by rfl))
theorem wd_809 : (Cond.instanceMethod yX8_readsClause) ∈ BIG := big_t (tb_4 (List.mem_of_getElem? (i := 89) (by rfl))) rfl
theorem wd_810 : (Cond.code yX8_readsClause prog_10_method_10_code 5 (some .boolean)) ∈ BIG := big_t (tb_4 (List.mem_of_getElem? (i := 90) (by rfl))) rfl
theorem wd_811 : (Cond.methodLink RX8 136 yX8_readsSum) ∈ BIG := big_t (tb_4 (List.mem_of_getElem? (i := 91) (by rfl))) rfl
theorem wn_812 : (Cond.privateMethod yX8_readsSum) ∈ tables_1 := tb_4 (List.mem_of_getElem? (i := 92) (by rfl))
theorem wd_813 : (Cond.instanceMethod yX8_readsSum) ∈ BIG := big_t (tb_4 (List.mem_of_getElem? (i := 93) (by rfl))) rfl
theorem wd_814 : (Cond.code yX8_readsSum prog_10_method_19_code 3 (some .boolean)) ∈ BIG := big_t (tb_4 (List.mem_of_getElem? (i := 94) (by rfl))) rfl
theorem wd_815 : (Cond.methodLink RX8 172 yX8_readsPart) ∈ BIG := big_t (tb_4 (List.mem_of_getElem? (i := 95) (by rfl))) rfl
theorem wn_816 : (Cond.privateMethod yX8_readsPart) ∈ tables_1 := tb_4 (List.mem_of_getElem? (i := 96) (by rfl))
theorem wd_817 : (Cond.instanceMethod yX8_readsPart) ∈ BIG := big_t (tb_4 (List.mem_of_getElem? (i := 97) (by rfl))) rfl
theorem wd_818 : (Cond.code yX8_readsPart prog_10_method_20_code 2 (some .boolean)) ∈ BIG := big_t (tb_4 (List.mem_of_getElem? (i := 98) (by rfl))) rfl
theorem wd_819 : (Cond.methodLink RX8 153 yX8_opens) ∈ BIG := big_t (tb_4 (List.mem_of_getElem? (i := 99) (by rfl))) rfl
theorem wn_820 : (Cond.privateMethod yX8_opens) ∈ tables_1 := tb_4 (List.mem_of_getElem? (i := 100) (by rfl))
theorem wd_821 : (Cond.instanceMethod yX8_opens) ∈ BIG := big_t (tb_4 (List.mem_of_getElem? (i := 101) (by rfl))) rfl
theorem wd_822 : (Cond.code yX8_opens prog_10_method_14_code 1 (some .boolean)) ∈ BIG := big_t (tb_4 (List.mem_of_getElem? (i := 102) (by rfl))) rfl
theorem wd_823 : (Cond.methodLink RX8 146 yX1_addCode) ∈ BIG := big_t (tb_4 (List.mem_of_getElem? (i := 103) (by rfl))) rfl
theorem wd_824 : (Cond.instanceMethod yX1_addCode) ∈ BIG := big_t (tb_4 (List.mem_of_getElem? (i := 104) (by rfl))) rfl
theorem wd_825 : (Cond.selects RX1 yX1_addCode yX1_addCode) ∈ BIG := big_t (tb_4 (List.mem_of_getElem? (i := 105) (by rfl))) rfl
theorem wd_826 : (Cond.code yX1_addCode prog_3_method_6_code 3 none) ∈ BIG := big_t (tb_4 (List.mem_of_getElem? (i := 106) (by rfl))) rfl
theorem wd_827 : (Cond.methodLink RX8 139 yX8_readsEither) ∈ BIG := big_t (tb_4 (List.mem_of_getElem? (i := 107) (by rfl))) rfl
theorem wn_828 : (Cond.privateMethod yX8_readsEither) ∈ tables_1 := tb_4 (List.mem_of_getElem? (i := 108) (by rfl))
theorem wd_829 : (Cond.instanceMethod yX8_readsEither) ∈ BIG := big_t (tb_4 (List.mem_of_getElem? (i := 109) (by rfl))) rfl
theorem wd_830 : (Cond.code yX8_readsEither prog_10_method_11_code 3 (some .boolean)) ∈ BIG := big_t (tb_4 (List.mem_of_getElem? (i := 110) (by rfl))) rfl
theorem wd_831 : (Cond.methodLink RX8 143 yX8_readsBoth) ∈ BIG := big_t (tb_4 (List.mem_of_getElem? (i := 111) (by rfl))) rfl
theorem wn_832 : (Cond.privateMethod yX8_readsBoth) ∈ tables_1 := tb_4 (List.mem_of_getElem? (i := 112) (by rfl))
theorem wd_833 : (Cond.instanceMethod yX8_readsBoth) ∈ BIG := big_t (tb_4 (List.mem_of_getElem? (i := 113) (by rfl))) rfl
theorem wd_834 : (Cond.code yX8_readsBoth prog_10_method_12_code 3 (some .boolean)) ∈ BIG := big_t (tb_4 (List.mem_of_getElem? (i := 114) (by rfl))) rfl
theorem wd_835 : (Cond.methodLink RX8 150 yX8_readsSingle) ∈ BIG := big_t (tb_4 (List.mem_of_getElem? (i := 115) (by rfl))) rfl
theorem wn_836 : (Cond.privateMethod yX8_readsSingle) ∈ tables_1 := tb_4 (List.mem_of_getElem? (i := 116) (by rfl))
theorem wd_837 : (Cond.instanceMethod yX8_readsSingle) ∈ BIG := big_t (tb_4 (List.mem_of_getElem? (i := 117) (by rfl))) rfl
theorem wd_838 : (Cond.code yX8_readsSingle prog_10_method_13_code 5 (some .boolean)) ∈ BIG := big_t (tb_4 (List.mem_of_getElem? (i := 118) (by rfl))) rfl
theorem wd_839 : (Cond.methodLink RX8 156 yX8_readsKinds) ∈ BIG := big_t (tb_4 (List.mem_of_getElem? (i := 119) (by rfl))) rfl
theorem wn_840 : (Cond.privateMethod yX8_readsKinds) ∈ tables_1 := tb_4 (List.mem_of_getElem? (i := 120) (by rfl))
theorem wd_841 : (Cond.instanceMethod yX8_readsKinds) ∈ BIG := big_t (tb_4 (List.mem_of_getElem? (i := 121) (by rfl))) rfl
theorem wd_842 : (Cond.code yX8_readsKinds prog_10_method_17_code 3 (some .boolean)) ∈ BIG := big_t (tb_4 (List.mem_of_getElem? (i := 122) (by rfl))) rfl
theorem wd_843 : (Cond.methodLink RX8 159 yX8_readsFact) ∈ BIG := big_t (tb_4 (List.mem_of_getElem? (i := 123) (by rfl))) rfl
theorem wn_844 : (Cond.privateMethod yX8_readsFact) ∈ tables_1 := tb_4 (List.mem_of_getElem? (i := 124) (by rfl))
theorem wd_845 : (Cond.instanceMethod yX8_readsFact) ∈ BIG := big_t (tb_4 (List.mem_of_getElem? (i := 125) (by rfl))) rfl
theorem wd_846 : (Cond.code yX8_readsFact prog_10_method_18_code 1 (some .boolean)) ∈ BIG := big_t (tb_4 (List.mem_of_getElem? (i := 126) (by rfl))) rfl
theorem wd_847 : (Cond.methodLink RX8 169 yX1_addAsked) ∈ BIG := big_t (tb_4 (List.mem_of_getElem? (i := 127) (by rfl))) rfl
theorem wd_848 : (Cond.instanceMethod yX1_addAsked) ∈ BIG := big_t (tb_4 (List.mem_of_getElem? (i := 128) (by rfl))) rfl
theorem wd_849 : (Cond.selects RX1 yX1_addAsked yX1_addAsked) ∈ BIG := big_t (tb_4 (List.mem_of_getElem? (i := 129) (by rfl))) rfl
theorem wd_850 : (Cond.code yX1_addAsked prog_3_method_7_code 3 none) ∈ BIG := big_t (tb_4 (List.mem_of_getElem? (i := 130) (by rfl))) rfl
theorem wd_851 : (Cond.methodLink RX1 74 yX1_addCode) ∈ BIG := big_t (tb_4 (List.mem_of_getElem? (i := 131) (by rfl))) rfl
theorem wd_852 : (Cond.methodLink RX8 162 yX8_comparison) ∈ BIG := big_t (tb_4 (List.mem_of_getElem? (i := 132) (by rfl))) rfl
theorem wd_853 : (Cond.static yX8_comparison) ∈ BIG := big_t (tb_4 (List.mem_of_getElem? (i := 133) (by rfl))) rfl
theorem wd_854 : (Cond.code yX8_comparison prog_10_method_15_code 1 (some .int)) ∈ BIG := big_t (tb_4 (List.mem_of_getElem? (i := 134) (by rfl))) rfl
theorem wd_855 : (Cond.methodLink RX8 166 yX8_passesComparison) ∈ BIG := big_t (tb_4 (List.mem_of_getElem? (i := 135) (by rfl))) rfl
theorem wn_856 : (Cond.privateMethod yX8_passesComparison) ∈ tables_1 := tb_4 (List.mem_of_getElem? (i := 136) (by rfl))
theorem wd_857 : (Cond.instanceMethod yX8_passesComparison) ∈ BIG := big_t (tb_4 (List.mem_of_getElem? (i := 137) (by rfl))) rfl
theorem wd_858 : (Cond.code yX8_passesComparison prog_10_method_16_code 2 (some .boolean)) ∈ BIG := big_t (tb_4 (List.mem_of_getElem? (i := 138) (by rfl))) rfl
theorem wd_859 : (Cond.methodLink RX11 114 yX5_chooseKinds) ∈ BIG := big_t (tb_4 (List.mem_of_getElem? (i := 139) (by rfl))) rfl
theorem wd_860 : (Cond.instanceMethod yX5_chooseKinds) ∈ BIG := big_t (tb_4 (List.mem_of_getElem? (i := 140) (by rfl))) rfl
theorem wd_861 : (Cond.selects RX5 yX5_chooseKinds yX5_chooseKinds) ∈ BIG := big_t (tb_4 (List.mem_of_getElem? (i := 141) (by rfl))) rfl
theorem wd_862 : (Cond.code yX5_chooseKinds prog_7_method_2_code 4 none) ∈ BIG := big_t (tb_4 (List.mem_of_getElem? (i := 142) (by rfl))) rfl
theorem wd_863 : (Cond.methodLink RX5 51 yX5_value) ∈ BIG := big_t (tb_4 (List.mem_of_getElem? (i := 143) (by rfl))) rfl
theorem wn_864 : (Cond.privateMethod yX5_value) ∈ tables_1 := tb_4 (List.mem_of_getElem? (i := 144) (by rfl))
theorem wd_865 : (Cond.instanceMethod yX5_value) ∈ BIG := big_t (tb_4 (List.mem_of_getElem? (i := 145) (by rfl))) rfl
theorem wd_866 : (Cond.code yX5_value prog_7_method_6_code 8 (some .int)) ∈ BIG := big_t (tb_4 (List.mem_of_getElem? (i := 146) (by rfl))) rfl
theorem wd_867 : (Cond.methodLink RX5 125 yX5_leaf) ∈ BIG := big_t (tb_4 (List.mem_of_getElem? (i := 147) (by rfl))) rfl
theorem wn_868 : (Cond.privateMethod yX5_leaf) ∈ tables_1 := tb_4 (List.mem_of_getElem? (i := 148) (by rfl))
theorem wd_869 : (Cond.instanceMethod yX5_leaf) ∈ BIG := big_t (tb_4 (List.mem_of_getElem? (i := 149) (by rfl))) rfl
theorem wd_870 : (Cond.code yX5_leaf prog_7_method_7_code 5 (some .int)) ∈ BIG := big_t (tb_4 (List.mem_of_getElem? (i := 150) (by rfl))) rfl
theorem wd_871 : (Cond.methodLink RX5 128 yX5_joined) ∈ BIG := big_t (tb_4 (List.mem_of_getElem? (i := 151) (by rfl))) rfl
theorem wd_872 : (Cond.static yX5_joined) ∈ BIG := big_t (tb_4 (List.mem_of_getElem? (i := 152) (by rfl))) rfl
theorem wd_873 : (Cond.code yX5_joined prog_7_method_8_code 3 (some .int)) ∈ BIG := big_t (tb_4 (List.mem_of_getElem? (i := 153) (by rfl))) rfl
theorem wd_874 : (Cond.methodLink RX5 135 yX5_bounded) ∈ BIG := big_t (tb_4 (List.mem_of_getElem? (i := 154) (by rfl))) rfl
theorem wd_875 : (Cond.static yX5_bounded) ∈ BIG := big_t (tb_4 (List.mem_of_getElem? (i := 155) (by rfl))) rfl
theorem wd_876 : (Cond.code yX5_bounded prog_7_method_9_code 2 (some .int)) ∈ BIG := big_t (tb_4 (List.mem_of_getElem? (i := 156) (by rfl))) rfl
theorem wd_877 : (Cond.constantLong RX5 139 (-1000000)) ∈ BIG := big_t (tb_4 (List.mem_of_getElem? (i := 157) (by rfl))) rfl
theorem wd_878 : (Cond.constantLong RX5 141 1000000) ∈ BIG := big_t (tb_4 (List.mem_of_getElem? (i := 158) (by rfl))) rfl
theorem wd_879 : (Cond.methodLink RX5 143 yJ9_min_f86c9) ∈ BIG := big_t (tb_4 (List.mem_of_getElem? (i := 159) (by rfl))) rfl
theorem wd_880 : (Cond.static yJ9_min_f86c9) ∈ BIG := big_t (tb_4 (List.mem_of_getElem? (i := 160) (by rfl))) rfl
theorem wd_881 : (Cond.code yJ9_min_f86c9 prog_16_method_70_code 4 (some .long)) ∈ BIG := big_t (tb_4 (List.mem_of_getElem? (i := 161) (by rfl))) rfl
theorem wd_882 : (Cond.methodLink RX5 146 yJ9_max_f86c9) ∈ BIG := big_t (tb_4 (List.mem_of_getElem? (i := 162) (by rfl))) rfl
theorem wd_883 : (Cond.static yJ9_max_f86c9) ∈ BIG := big_t (tb_4 (List.mem_of_getElem? (i := 163) (by rfl))) rfl
theorem wd_884 : (Cond.code yJ9_max_f86c9 prog_16_method_66_code 4 (some .long)) ∈ BIG := big_t (tb_4 (List.mem_of_getElem? (i := 164) (by rfl))) rfl
theorem wd_885 : (Cond.methodLink RX11 118 yX7_empty) ∈ BIG := big_t (tb_4 (List.mem_of_getElem? (i := 165) (by rfl))) rfl
theorem wd_886 : (Cond.instanceMethod yX7_empty) ∈ BIG := big_t (tb_4 (List.mem_of_getElem? (i := 166) (by rfl))) rfl
theorem wd_887 : (Cond.selects RX7 yX7_empty yX7_empty) ∈ BIG := big_t (tb_4 (List.mem_of_getElem? (i := 167) (by rfl))) rfl
theorem wd_888 : (Cond.code yX7_empty prog_9_method_2_code 1 none) ∈ BIG := big_t (tb_4 (List.mem_of_getElem? (i := 168) (by rfl))) rfl
theorem wd_889 : (Cond.methodLink RX11 121 yX6_forget) ∈ BIG := big_t (tb_4 (List.mem_of_getElem? (i := 169) (by rfl))) rfl
theorem wd_890 : (Cond.instanceMethod yX6_forget) ∈ BIG := big_t (tb_4 (List.mem_of_getElem? (i := 170) (by rfl))) rfl
theorem wd_891 : (Cond.selects RX6 yX6_forget yX6_forget) ∈ BIG := big_t (tb_4 (List.mem_of_getElem? (i := 171) (by rfl))) rfl
theorem wd_892 : (Cond.code yX6_forget prog_8_method_2_code 1 none) ∈ BIG := big_t (tb_4 (List.mem_of_getElem? (i := 172) (by rfl))) rfl
theorem wd_893 : (Cond.methodLink RL 28 yX11_fault) ∈ BIG := big_t (tb_4 (List.mem_of_getElem? (i := 173) (by rfl))) rfl
theorem wd_894 : (Cond.instanceMethod yX11_fault) ∈ BIG := big_t (tb_4 (List.mem_of_getElem? (i := 174) (by rfl))) rfl
theorem wd_895 : (Cond.selects RX11 yX11_fault yX11_fault) ∈ BIG := big_t (tb_4 (List.mem_of_getElem? (i := 175) (by rfl))) rfl
theorem wd_896 : (Cond.code yX11_fault prog_1_method_5_code 2 (some .int)) ∈ BIG := big_t (tb_4 (List.mem_of_getElem? (i := 176) (by rfl))) rfl
theorem wd_897 : (Cond.methodLink RL 33 yX11_name) ∈ BIG := big_t (tb_4 (List.mem_of_getElem? (i := 177) (by rfl))) rfl
theorem wd_898 : (Cond.instanceMethod yX11_name) ∈ BIG := big_t (tb_4 (List.mem_of_getElem? (i := 178) (by rfl))) rfl
theorem wd_899 : (Cond.selects RX11 yX11_name yX11_name) ∈ BIG := big_t (tb_4 (List.mem_of_getElem? (i := 179) (by rfl))) rfl
theorem wd_900 : (Cond.code yX11_name prog_1_method_6_code 4 (some .int)) ∈ BIG := big_t (tb_4 (List.mem_of_getElem? (i := 180) (by rfl))) rfl
theorem wd_901 : (Cond.methodLink RX11 150 yX11_letterOf) ∈ BIG := big_t (tb_4 (List.mem_of_getElem? (i := 181) (by rfl))) rfl
theorem wd_902 : (Cond.static yX11_letterOf) ∈ BIG := big_t (tb_4 (List.mem_of_getElem? (i := 182) (by rfl))) rfl
theorem wd_903 : (Cond.code yX11_letterOf prog_1_method_36_code 4 (some .int)) ∈ BIG := big_t (tb_4 (List.mem_of_getElem? (i := 183) (by rfl))) rfl
theorem wd_904 : (Cond.methodLink RL 38 yX11_marked) ∈ BIG := big_t (tb_4 (List.mem_of_getElem? (i := 184) (by rfl))) rfl
theorem wd_905 : (Cond.instanceMethod yX11_marked) ∈ BIG := big_t (tb_4 (List.mem_of_getElem? (i := 185) (by rfl))) rfl
theorem wd_906 : (Cond.selects RX11 yX11_marked yX11_marked) ∈ BIG := big_t (tb_4 (List.mem_of_getElem? (i := 186) (by rfl))) rfl
theorem wd_907 : (Cond.code yX11_marked prog_1_method_7_code 3 (some .int)) ∈ BIG := big_t (tb_4 (List.mem_of_getElem? (i := 187) (by rfl))) rfl
theorem wd_908 : (Cond.methodLink RX11 154 yX11_isKind) ∈ BIG := big_t (tb_4 (List.mem_of_getElem? (i := 188) (by rfl))) rfl
theorem wn_909 : (Cond.privateMethod yX11_isKind) ∈ tables_1 := tb_4 (List.mem_of_getElem? (i := 189) (by rfl))
theorem wd_910 : (Cond.instanceMethod yX11_isKind) ∈ BIG := big_t (tb_4 (List.mem_of_getElem? (i := 190) (by rfl))) rfl
theorem wd_911 : (Cond.code yX11_isKind prog_1_method_37_code 2 (some .boolean)) ∈ BIG := big_t (tb_4 (List.mem_of_getElem? (i := 191) (by rfl))) rfl
theorem wd_912 : (Cond.methodLink RL 43 yX11_report) ∈ BIG := big_t (tb_4 (List.mem_of_getElem? (i := 192) (by rfl))) rfl
theorem wd_913 : (Cond.instanceMethod yX11_report) ∈ BIG := big_t (tb_4 (List.mem_of_getElem? (i := 193) (by rfl))) rfl
theorem wd_914 : (Cond.selects RX11 yX11_report yX11_report) ∈ BIG := big_t (tb_4 (List.mem_of_getElem? (i := 194) (by rfl))) rfl
theorem wd_915 : (Cond.code yX11_report prog_1_method_8_code 8 (some .int)) ∈ BIG := big_t (tb_4 (List.mem_of_getElem? (i := 195) (by rfl))) rfl
theorem wd_916 : (Cond.methodLink RX11 164 yX10_readWishes) ∈ BIG := big_t (tb_4 (List.mem_of_getElem? (i := 196) (by rfl))) rfl
theorem wd_917 : (Cond.instanceMethod yX10_readWishes) ∈ BIG := big_t (tb_4 (List.mem_of_getElem? (i := 197) (by rfl))) rfl
theorem wd_918 : (Cond.selects RX10 yX10_readWishes yX10_readWishes) ∈ BIG := big_t (tb_4 (List.mem_of_getElem? (i := 198) (by rfl))) rfl
theorem wd_919 : (Cond.code yX10_readWishes prog_12_method_7_code 3 (some .int)) ∈ BIG := big_t (tb_4 (List.mem_of_getElem? (i := 199) (by rfl))) rfl
theorem wd_920 : (Cond.methodLink RX10 65 yX10_rewind) ∈ BIG := big_t (tb_4 (List.mem_of_getElem? (i := 200) (by rfl))) rfl
theorem wd_921 : (Cond.methodLink RX11 168 yX11_within) ∈ BIG := big_t (tb_4 (List.mem_of_getElem? (i := 201) (by rfl))) rfl
theorem wd_922 : (Cond.methodLink RX11 172 yX11_isDay) ∈ BIG := big_t (tb_4 (List.mem_of_getElem? (i := 202) (by rfl))) rfl
theorem wd_923 : (Cond.static yX11_isDay) ∈ BIG := big_t (tb_4 (List.mem_of_getElem? (i := 203) (by rfl))) rfl
theorem wd_924 : (Cond.code yX11_isDay prog_1_method_35_code 1 (some .boolean)) ∈ BIG := big_t (tb_4 (List.mem_of_getElem? (i := 204) (by rfl))) rfl
theorem wd_925 : (Cond.methodLink RX11 178 yX7_isFull) ∈ BIG := big_t (tb_4 (List.mem_of_getElem? (i := 205) (by rfl))) rfl
theorem wd_926 : (Cond.instanceMethod yX7_isFull) ∈ BIG := big_t (tb_4 (List.mem_of_getElem? (i := 206) (by rfl))) rfl
theorem wd_927 : (Cond.selects RX7 yX7_isFull yX7_isFull) ∈ BIG := big_t (tb_4 (List.mem_of_getElem? (i := 207) (by rfl))) rfl
theorem wd_928 : (Cond.code yX7_isFull prog_9_method_3_code 1 (some .boolean)) ∈ BIG := big_t (tb_4 (List.mem_of_getElem? (i := 208) (by rfl))) rfl
theorem wd_929 : (Cond.methodLink RX11 182 yX7_addReport) ∈ BIG := big_t (tb_4 (List.mem_of_getElem? (i := 209) (by rfl))) rfl
theorem wd_930 : (Cond.instanceMethod yX7_addReport) ∈ BIG := big_t (tb_4 (List.mem_of_getElem? (i := 210) (by rfl))) rfl
theorem wd_931 : (Cond.selects RX7 yX7_addReport yX7_addReport) ∈ BIG := big_t (tb_4 (List.mem_of_getElem? (i := 211) (by rfl))) rfl
theorem wd_932 : (Cond.code yX7_addReport prog_9_method_5_code 9 (some .int)) ∈ BIG := big_t (tb_4 (List.mem_of_getElem? (i := 212) (by rfl))) rfl
theorem wd_933 : (Cond.methodLink RX7 38 yX7_add) ∈ BIG := big_t (tb_4 (List.mem_of_getElem? (i := 213) (by rfl))) rfl
theorem wd_934 : (Cond.instanceMethod yX7_add) ∈ BIG := big_t (tb_4 (List.mem_of_getElem? (i := 214) (by rfl))) rfl
theorem wd_935 : (Cond.selects RX7 yX7_add yX7_add) ∈ BIG := big_t (tb_4 (List.mem_of_getElem? (i := 215) (by rfl))) rfl
theorem wd_936 : (Cond.code yX7_add prog_9_method_4_code 5 (some .int)) ∈ BIG := big_t (tb_4 (List.mem_of_getElem? (i := 216) (by rfl))) rfl
theorem wd_937 : (Cond.methodLink RL 47 yX11_gifts) ∈ BIG := big_t (tb_4 (List.mem_of_getElem? (i := 217) (by rfl))) rfl
theorem wd_938 : (Cond.instanceMethod yX11_gifts) ∈ BIG := big_t (tb_4 (List.mem_of_getElem? (i := 218) (by rfl))) rfl
theorem wd_939 : (Cond.selects RX11 yX11_gifts yX11_gifts) ∈ BIG := big_t (tb_4 (List.mem_of_getElem? (i := 219) (by rfl))) rfl
theorem wd_940 : (Cond.code yX11_gifts prog_1_method_9_code 4 (some .int)) ∈ BIG := big_t (tb_4 (List.mem_of_getElem? (i := 220) (by rfl))) rfl
theorem wd_941 : (Cond.methodLink RX11 186 yX7_add) ∈ BIG := big_t (tb_4 (List.mem_of_getElem? (i := 221) (by rfl))) rfl
theorem wd_942 : (Cond.methodLink RL 52 yX11_call) ∈ BIG := big_t (tb_4 (List.mem_of_getElem? (i := 222) (by rfl))) rfl
theorem wd_943 : (Cond.instanceMethod yX11_call) ∈ BIG := big_t (tb_4 (List.mem_of_getElem? (i := 223) (by rfl))) rfl
theorem wd_944 : (Cond.selects RX11 yX11_call yX11_call) ∈ BIG := big_t (tb_4 (List.mem_of_getElem? (i := 224) (by rfl))) rfl
theorem wd_945 : (Cond.code yX11_call prog_1_method_10_code 3 (some .int)) ∈ BIG := big_t (tb_4 (List.mem_of_getElem? (i := 225) (by rfl))) rfl
theorem wd_946 : (Cond.methodLink RL 56 yX11_annul) ∈ BIG := big_t (tb_4 (List.mem_of_getElem? (i := 226) (by rfl))) rfl
theorem wd_947 : (Cond.instanceMethod yX11_annul) ∈ BIG := big_t (tb_4 (List.mem_of_getElem? (i := 227) (by rfl))) rfl
theorem wd_948 : (Cond.selects RX11 yX11_annul yX11_annul) ∈ BIG := big_t (tb_4 (List.mem_of_getElem? (i := 228) (by rfl))) rfl
theorem wd_949 : (Cond.code yX11_annul prog_1_method_11_code 2 (some .int)) ∈ BIG := big_t (tb_4 (List.mem_of_getElem? (i := 229) (by rfl))) rfl
theorem wd_950 : (Cond.methodLink RX11 199 yX7_addVoid) ∈ BIG := big_t (tb_4 (List.mem_of_getElem? (i := 230) (by rfl))) rfl
theorem wd_951 : (Cond.instanceMethod yX7_addVoid) ∈ BIG := big_t (tb_4 (List.mem_of_getElem? (i := 231) (by rfl))) rfl
theorem wd_952 : (Cond.selects RX7 yX7_addVoid yX7_addVoid) ∈ BIG := big_t (tb_4 (List.mem_of_getElem? (i := 232) (by rfl))) rfl
theorem wd_953 : (Cond.code yX7_addVoid prog_9_method_6_code 3 (some .int)) ∈ BIG := big_t (tb_4 (List.mem_of_getElem? (i := 233) (by rfl))) rfl
theorem wd_954 : (Cond.methodLink RL 60 yX11_as) ∈ BIG := big_t (tb_4 (List.mem_of_getElem? (i := 234) (by rfl))) rfl
theorem wd_955 : (Cond.instanceMethod yX11_as) ∈ BIG := big_t (tb_4 (List.mem_of_getElem? (i := 235) (by rfl))) rfl
theorem wd_956 : (Cond.selects RX11 yX11_as yX11_as) ∈ BIG := big_t (tb_4 (List.mem_of_getElem? (i := 236) (by rfl))) rfl
theorem wd_957 : (Cond.code yX11_as prog_1_method_12_code 2 (some .boolean)) ∈ BIG := big_t (tb_4 (List.mem_of_getElem? (i := 237) (by rfl))) rfl
theorem wd_958 : (Cond.methodLink RL 64 yX11_all) ∈ BIG := big_t (tb_4 (List.mem_of_getElem? (i := 238) (by rfl))) rfl
theorem wd_959 : (Cond.instanceMethod yX11_all) ∈ BIG := big_t (tb_4 (List.mem_of_getElem? (i := 239) (by rfl))) rfl
theorem wd_960 : (Cond.selects RX11 yX11_all yX11_all) ∈ BIG := big_t (tb_5 (List.mem_of_getElem? (i := 0) (by rfl))) rfl
theorem wd_961 : (Cond.code yX11_all prog_1_method_13_code 2 (some .int)) ∈ BIG := big_t (tb_5 (List.mem_of_getElem? (i := 1) (by rfl))) rfl
theorem wd_962 : (Cond.methodLink RX11 203 yX11_actNow) ∈ BIG := big_t (tb_5 (List.mem_of_getElem? (i := 2) (by rfl))) rfl
theorem wn_963 : (Cond.privateMethod yX11_actNow) ∈ tables_1 := tb_5 (List.mem_of_getElem? (i := 3) (by rfl))
theorem wd_964 : (Cond.instanceMethod yX11_actNow) ∈ BIG := big_t (tb_5 (List.mem_of_getElem? (i := 4) (by rfl))) rfl
theorem wd_965 : (Cond.code yX11_actNow prog_1_method_39_code 1 (some .int)) ∈ BIG := big_t (tb_5 (List.mem_of_getElem? (i := 5) (by rfl))) rfl
theorem wd_966 : (Cond.methodLink RX11 207 yX11_look) ∈ BIG := big_t (tb_5 (List.mem_of_getElem? (i := 6) (by rfl))) rfl
theorem wn_967 : (Cond.privateMethod yX11_look) ∈ tables_1 := tb_5 (List.mem_of_getElem? (i := 7) (by rfl))
theorem wd_968 : (Cond.instanceMethod yX11_look) ∈ BIG := big_t (tb_5 (List.mem_of_getElem? (i := 8) (by rfl))) rfl
theorem wd_969 : (Cond.code yX11_look prog_1_method_40_code 1 none) ∈ BIG := big_t (tb_5 (List.mem_of_getElem? (i := 9) (by rfl))) rfl
theorem wd_970 : (Cond.methodLink RX11 347 yX6_look) ∈ BIG := big_t (tb_5 (List.mem_of_getElem? (i := 10) (by rfl))) rfl
theorem wd_971 : (Cond.instanceMethod yX6_look) ∈ BIG := big_t (tb_5 (List.mem_of_getElem? (i := 11) (by rfl))) rfl
theorem wd_972 : (Cond.selects RX6 yX6_look yX6_look) ∈ BIG := big_t (tb_5 (List.mem_of_getElem? (i := 12) (by rfl))) rfl
theorem wd_973 : (Cond.code yX6_look prog_8_method_3_code 4 none) ∈ BIG := big_t (tb_5 (List.mem_of_getElem? (i := 13) (by rfl))) rfl
theorem wd_974 : (Cond.methodLink RX6 62 yJ7_fill_53178) ∈ BIG := big_t (tb_5 (List.mem_of_getElem? (i := 14) (by rfl))) rfl
theorem wd_975 : (Cond.static yJ7_fill_53178) ∈ BIG := big_t (tb_5 (List.mem_of_getElem? (i := 15) (by rfl))) rfl
theorem wd_976 : (Cond.code yJ7_fill_53178 prog_20_method_103_code 4 none) ∈ BIG := big_t (tb_5 (List.mem_of_getElem? (i := 16) (by rfl))) rfl
theorem wd_977 : (Cond.methodLink RX6 68 yX7_isKnown) ∈ BIG := big_t (tb_5 (List.mem_of_getElem? (i := 17) (by rfl))) rfl
theorem wd_978 : (Cond.instanceMethod yX7_isKnown) ∈ BIG := big_t (tb_5 (List.mem_of_getElem? (i := 18) (by rfl))) rfl
theorem wd_979 : (Cond.selects RX7 yX7_isKnown yX7_isKnown) ∈ BIG := big_t (tb_5 (List.mem_of_getElem? (i := 19) (by rfl))) rfl
theorem wd_980 : (Cond.code yX7_isKnown prog_9_method_7_code 3 (some .boolean)) ∈ BIG := big_t (tb_5 (List.mem_of_getElem? (i := 20) (by rfl))) rfl
theorem wd_981 : (Cond.methodLink RX6 74 yX6_learn) ∈ BIG := big_t (tb_5 (List.mem_of_getElem? (i := 21) (by rfl))) rfl
theorem wn_982 : (Cond.privateMethod yX6_learn) ∈ tables_1 := tb_5 (List.mem_of_getElem? (i := 22) (by rfl))
theorem wd_983 : (Cond.instanceMethod yX6_learn) ∈ BIG := big_t (tb_5 (List.mem_of_getElem? (i := 23) (by rfl))) rfl
theorem wd_984 : (Cond.code yX6_learn prog_8_method_4_code 5 none) ∈ BIG := big_t (tb_5 (List.mem_of_getElem? (i := 24) (by rfl))) rfl
theorem wd_985 : (Cond.methodLink RX6 78 yX7_detailOf) ∈ BIG := big_t (tb_5 (List.mem_of_getElem? (i := 25) (by rfl))) rfl
theorem wd_986 : (Cond.instanceMethod yX7_detailOf) ∈ BIG := big_t (tb_5 (List.mem_of_getElem? (i := 26) (by rfl))) rfl
theorem wd_987 : (Cond.selects RX7 yX7_detailOf yX7_detailOf) ∈ BIG := big_t (tb_5 (List.mem_of_getElem? (i := 27) (by rfl))) rfl
theorem wd_988 : (Cond.code yX7_detailOf prog_9_method_8_code 3 (some .int)) ∈ BIG := big_t (tb_5 (List.mem_of_getElem? (i := 28) (by rfl))) rfl
theorem wd_989 : (Cond.methodLink RX6 85 yX6_learnReport) ∈ BIG := big_t (tb_5 (List.mem_of_getElem? (i := 29) (by rfl))) rfl
theorem wn_990 : (Cond.privateMethod yX6_learnReport) ∈ tables_1 := tb_5 (List.mem_of_getElem? (i := 30) (by rfl))
theorem wd_991 : (Cond.instanceMethod yX6_learnReport) ∈ BIG := big_t (tb_5 (List.mem_of_getElem? (i := 31) (by rfl))) rfl
theorem wd_992 : (Cond.code yX6_learnReport prog_8_method_5_code 7 none) ∈ BIG := big_t (tb_5 (List.mem_of_getElem? (i := 32) (by rfl))) rfl
theorem wd_993 : (Cond.methodLink RX6 94 yX6_find) ∈ BIG := big_t (tb_5 (List.mem_of_getElem? (i := 33) (by rfl))) rfl
theorem wn_994 : (Cond.privateMethod yX6_find) ∈ tables_1 := tb_5 (List.mem_of_getElem? (i := 34) (by rfl))
theorem wd_995 : (Cond.instanceMethod yX6_find) ∈ BIG := big_t (tb_5 (List.mem_of_getElem? (i := 35) (by rfl))) rfl
theorem wd_996 : (Cond.code yX6_find prog_8_method_6_code 3 (some .int)) ∈ BIG := big_t (tb_5 (List.mem_of_getElem? (i := 36) (by rfl))) rfl
theorem wd_997 : (Cond.methodLink RX6 89 yJ9_min_7cf53) ∈ BIG := big_t (tb_5 (List.mem_of_getElem? (i := 37) (by rfl))) rfl
theorem wd_998 : (Cond.methodLink RX6 98 yJ9_max_7cf53) ∈ BIG := big_t (tb_5 (List.mem_of_getElem? (i := 38) (by rfl))) rfl
theorem wd_999 : (Cond.static yJ9_max_7cf53) ∈ BIG := big_t (tb_5 (List.mem_of_getElem? (i := 39) (by rfl))) rfl
theorem wd_1000 : (Cond.code yJ9_max_7cf53 prog_16_method_65_code 2 (some .int)) ∈ BIG := big_t (tb_5 (List.mem_of_getElem? (i := 40) (by rfl))) rfl
theorem wd_1001 : (Cond.methodLink RX6 103 yX6_learnWish) ∈ BIG := big_t (tb_5 (List.mem_of_getElem? (i := 41) (by rfl))) rfl
theorem wn_1002 : (Cond.privateMethod yX6_learnWish) ∈ tables_1 := tb_5 (List.mem_of_getElem? (i := 42) (by rfl))
theorem wd_1003 : (Cond.instanceMethod yX6_learnWish) ∈ BIG := big_t (tb_5 (List.mem_of_getElem? (i := 43) (by rfl))) rfl
theorem wd_1004 : (Cond.code yX6_learnWish prog_8_method_7_code 4 none) ∈ BIG := big_t (tb_5 (List.mem_of_getElem? (i := 44) (by rfl))) rfl
theorem wd_1005 : (Cond.methodLink RX6 107 yX6_wants) ∈ BIG := big_t (tb_5 (List.mem_of_getElem? (i := 45) (by rfl))) rfl
theorem wd_1006 : (Cond.instanceMethod yX6_wants) ∈ BIG := big_t (tb_5 (List.mem_of_getElem? (i := 46) (by rfl))) rfl
theorem wd_1007 : (Cond.selects RX6 yX6_wants yX6_wants) ∈ BIG := big_t (tb_5 (List.mem_of_getElem? (i := 47) (by rfl))) rfl
theorem wd_1008 : (Cond.code yX6_wants prog_8_method_8_code 5 (some .boolean)) ∈ BIG := big_t (tb_5 (List.mem_of_getElem? (i := 48) (by rfl))) rfl
theorem wd_1009 : (Cond.methodLink RX11 213 yX6_doubts) ∈ BIG := big_t (tb_5 (List.mem_of_getElem? (i := 49) (by rfl))) rfl
theorem wd_1010 : (Cond.instanceMethod yX6_doubts) ∈ BIG := big_t (tb_5 (List.mem_of_getElem? (i := 50) (by rfl))) rfl
theorem wd_1011 : (Cond.selects RX6 yX6_doubts yX6_doubts) ∈ BIG := big_t (tb_5 (List.mem_of_getElem? (i := 51) (by rfl))) rfl
theorem wd_1012 : (Cond.code yX6_doubts prog_8_method_10_code 4 (some .int)) ∈ BIG := big_t (tb_5 (List.mem_of_getElem? (i := 52) (by rfl))) rfl
theorem wd_1013 : (Cond.methodLink RX6 111 yX6_areAlike) ∈ BIG := big_t (tb_5 (List.mem_of_getElem? (i := 53) (by rfl))) rfl
theorem wn_1014 : (Cond.privateMethod yX6_areAlike) ∈ tables_1 := tb_5 (List.mem_of_getElem? (i := 54) (by rfl))
theorem wd_1015 : (Cond.instanceMethod yX6_areAlike) ∈ BIG := big_t (tb_5 (List.mem_of_getElem? (i := 55) (by rfl))) rfl
theorem wd_1016 : (Cond.code yX6_areAlike prog_8_method_11_code 3 (some .boolean)) ∈ BIG := big_t (tb_5 (List.mem_of_getElem? (i := 56) (by rfl))) rfl
theorem wd_1017 : (Cond.methodLink RL 68 yX11_child) ∈ BIG := big_t (tb_5 (List.mem_of_getElem? (i := 57) (by rfl))) rfl
theorem wd_1018 : (Cond.instanceMethod yX11_child) ∈ BIG := big_t (tb_5 (List.mem_of_getElem? (i := 58) (by rfl))) rfl
theorem wd_1019 : (Cond.selects RX11 yX11_child yX11_child) ∈ BIG := big_t (tb_5 (List.mem_of_getElem? (i := 59) (by rfl))) rfl
theorem wd_1020 : (Cond.code yX11_child prog_1_method_14_code 2 (some .int)) ∈ BIG := big_t (tb_5 (List.mem_of_getElem? (i := 60) (by rfl))) rfl
theorem wd_1021 : (Cond.methodLink RL 72 yX11_of) ∈ BIG := big_t (tb_5 (List.mem_of_getElem? (i := 61) (by rfl))) rfl
theorem wd_1022 : (Cond.instanceMethod yX11_of) ∈ BIG := big_t (tb_5 (List.mem_of_getElem? (i := 62) (by rfl))) rfl
theorem wd_1023 : (Cond.selects RX11 yX11_of yX11_of) ∈ BIG := big_t (tb_5 (List.mem_of_getElem? (i := 63) (by rfl))) rfl
theorem wd_1024 : (Cond.code yX11_of prog_1_method_15_code 3 (some .int)) ∈ BIG := big_t (tb_5 (List.mem_of_getElem? (i := 64) (by rfl))) rfl
theorem wd_1025 : (Cond.methodLink RX11 222 yX11_isChild) ∈ BIG := big_t (tb_5 (List.mem_of_getElem? (i := 65) (by rfl))) rfl
theorem wn_1026 : (Cond.privateMethod yX11_isChild) ∈ tables_1 := tb_5 (List.mem_of_getElem? (i := 66) (by rfl))
theorem wd_1027 : (Cond.instanceMethod yX11_isChild) ∈ BIG := big_t (tb_5 (List.mem_of_getElem? (i := 67) (by rfl))) rfl
theorem wd_1028 : (Cond.code yX11_isChild prog_1_method_38_code 2 (some .boolean)) ∈ BIG := big_t (tb_5 (List.mem_of_getElem? (i := 68) (by rfl))) rfl
theorem wd_1029 : (Cond.methodLink RX11 225 yX5_weigh) ∈ BIG := big_t (tb_5 (List.mem_of_getElem? (i := 69) (by rfl))) rfl
theorem wd_1030 : (Cond.instanceMethod yX5_weigh) ∈ BIG := big_t (tb_5 (List.mem_of_getElem? (i := 70) (by rfl))) rfl
theorem wd_1031 : (Cond.selects RX5 yX5_weigh yX5_weigh) ∈ BIG := big_t (tb_5 (List.mem_of_getElem? (i := 71) (by rfl))) rfl
theorem wd_1032 : (Cond.code yX5_weigh prog_7_method_3_code 5 none) ∈ BIG := big_t (tb_5 (List.mem_of_getElem? (i := 72) (by rfl))) rfl
theorem wd_1033 : (Cond.methodLink RX5 60 yX5_gatherFacts) ∈ BIG := big_t (tb_5 (List.mem_of_getElem? (i := 73) (by rfl))) rfl
theorem wn_1034 : (Cond.privateMethod yX5_gatherFacts) ∈ tables_1 := tb_5 (List.mem_of_getElem? (i := 74) (by rfl))
theorem wd_1035 : (Cond.instanceMethod yX5_gatherFacts) ∈ BIG := big_t (tb_5 (List.mem_of_getElem? (i := 75) (by rfl))) rfl
theorem wd_1036 : (Cond.code yX5_gatherFacts prog_7_method_4_code 5 none) ∈ BIG := big_t (tb_5 (List.mem_of_getElem? (i := 76) (by rfl))) rfl
theorem wd_1037 : (Cond.methodLink RX5 92 yX6_mates) ∈ BIG := big_t (tb_5 (List.mem_of_getElem? (i := 77) (by rfl))) rfl
theorem wd_1038 : (Cond.instanceMethod yX6_mates) ∈ BIG := big_t (tb_5 (List.mem_of_getElem? (i := 78) (by rfl))) rfl
theorem wd_1039 : (Cond.selects RX6 yX6_mates yX6_mates) ∈ BIG := big_t (tb_5 (List.mem_of_getElem? (i := 79) (by rfl))) rfl
theorem wd_1040 : (Cond.code yX6_mates prog_8_method_9_code 4 (some .int)) ∈ BIG := big_t (tb_5 (List.mem_of_getElem? (i := 80) (by rfl))) rfl
theorem wd_1041 : (Cond.methodLink RX5 106 yX6_wants) ∈ BIG := big_t (tb_5 (List.mem_of_getElem? (i := 81) (by rfl))) rfl
theorem wd_1042 : (Cond.methodLink RX5 76 yX5_obey) ∈ BIG := big_t (tb_5 (List.mem_of_getElem? (i := 82) (by rfl))) rfl
theorem wn_1043 : (Cond.privateMethod yX5_obey) ∈ tables_1 := tb_5 (List.mem_of_getElem? (i := 83) (by rfl))
theorem wd_1044 : (Cond.instanceMethod yX5_obey) ∈ BIG := big_t (tb_5 (List.mem_of_getElem? (i := 84) (by rfl))) rfl
theorem wd_1045 : (Cond.code yX5_obey prog_7_method_5_code 6 none) ∈ BIG := big_t (tb_5 (List.mem_of_getElem? (i := 85) (by rfl))) rfl
theorem wd_1046 : (Cond.methodLink RX5 113 yJ9_min_7cf53) ∈ BIG := big_t (tb_5 (List.mem_of_getElem? (i := 86) (by rfl))) rfl
theorem wd_1047 : (Cond.methodLink RX5 119 yJ9_max_7cf53) ∈ BIG := big_t (tb_5 (List.mem_of_getElem? (i := 87) (by rfl))) rfl
theorem wd_1048 : (Cond.methodLink RX11 232 yX6_fact) ∈ BIG := big_t (tb_5 (List.mem_of_getElem? (i := 88) (by rfl))) rfl
theorem wd_1049 : (Cond.instanceMethod yX6_fact) ∈ BIG := big_t (tb_5 (List.mem_of_getElem? (i := 89) (by rfl))) rfl
theorem wd_1050 : (Cond.selects RX6 yX6_fact yX6_fact) ∈ BIG := big_t (tb_5 (List.mem_of_getElem? (i := 90) (by rfl))) rfl
theorem wd_1051 : (Cond.code yX6_fact prog_8_method_12_code 3 (some .int)) ∈ BIG := big_t (tb_5 (List.mem_of_getElem? (i := 91) (by rfl))) rfl
theorem wd_1052 : (Cond.methodLink RX6 114 yX6_mates) ∈ BIG := big_t (tb_5 (List.mem_of_getElem? (i := 92) (by rfl))) rfl
theorem wd_1053 : (Cond.methodLink RL 76 yX11_wish) ∈ BIG := big_t (tb_5 (List.mem_of_getElem? (i := 93) (by rfl))) rfl
theorem wd_1054 : (Cond.instanceMethod yX11_wish) ∈ BIG := big_t (tb_5 (List.mem_of_getElem? (i := 94) (by rfl))) rfl
theorem wd_1055 : (Cond.selects RX11 yX11_wish yX11_wish) ∈ BIG := big_t (tb_5 (List.mem_of_getElem? (i := 95) (by rfl))) rfl
theorem wd_1056 : (Cond.code yX11_wish prog_1_method_16_code 4 (some .int)) ∈ BIG := big_t (tb_5 (List.mem_of_getElem? (i := 96) (by rfl))) rfl
theorem wd_1057 : (Cond.methodLink RL 80 yX11_may) ∈ BIG := big_t (tb_5 (List.mem_of_getElem? (i := 97) (by rfl))) rfl
theorem wd_1058 : (Cond.instanceMethod yX11_may) ∈ BIG := big_t (tb_5 (List.mem_of_getElem? (i := 98) (by rfl))) rfl
theorem wd_1059 : (Cond.selects RX11 yX11_may yX11_may) ∈ BIG := big_t (tb_5 (List.mem_of_getElem? (i := 99) (by rfl))) rfl
theorem wd_1060 : (Cond.code yX11_may prog_1_method_17_code 3 (some .int)) ∈ BIG := big_t (tb_5 (List.mem_of_getElem? (i := 100) (by rfl))) rfl
theorem wd_1061 : (Cond.methodLink RL 84 yX11_points) ∈ BIG := big_t (tb_5 (List.mem_of_getElem? (i := 101) (by rfl))) rfl
theorem wd_1062 : (Cond.instanceMethod yX11_points) ∈ BIG := big_t (tb_5 (List.mem_of_getElem? (i := 102) (by rfl))) rfl
theorem wd_1063 : (Cond.selects RX11 yX11_points yX11_points) ∈ BIG := big_t (tb_5 (List.mem_of_getElem? (i := 103) (by rfl))) rfl
theorem wd_1064 : (Cond.code yX11_points prog_1_method_18_code 3 (some .int)) ∈ BIG := big_t (tb_5 (List.mem_of_getElem? (i := 104) (by rfl))) rfl
theorem wd_1065 : (Cond.constant RX11 245 (-2000000000)) ∈ BIG := big_t (tb_5 (List.mem_of_getElem? (i := 105) (by rfl))) rfl
theorem wd_1066 : (Cond.methodLink RL 88 yX11_give) ∈ BIG := big_t (tb_5 (List.mem_of_getElem? (i := 106) (by rfl))) rfl
theorem wd_1067 : (Cond.instanceMethod yX11_give) ∈ BIG := big_t (tb_5 (List.mem_of_getElem? (i := 107) (by rfl))) rfl
theorem wd_1068 : (Cond.selects RX11 yX11_give yX11_give) ∈ BIG := big_t (tb_5 (List.mem_of_getElem? (i := 108) (by rfl))) rfl
theorem wd_1069 : (Cond.code yX11_give prog_1_method_19_code 2 (some .int)) ∈ BIG := big_t (tb_5 (List.mem_of_getElem? (i := 109) (by rfl))) rfl
theorem wd_1070 : (Cond.methodLink RX11 249 yX11_weighAll) ∈ BIG := big_t (tb_5 (List.mem_of_getElem? (i := 110) (by rfl))) rfl
theorem wn_1071 : (Cond.privateMethod yX11_weighAll) ∈ tables_1 := tb_5 (List.mem_of_getElem? (i := 111) (by rfl))
theorem wd_1072 : (Cond.instanceMethod yX11_weighAll) ∈ BIG := big_t (tb_5 (List.mem_of_getElem? (i := 112) (by rfl))) rfl
theorem wd_1073 : (Cond.code yX11_weighAll prog_1_method_41_code 2 none) ∈ BIG := big_t (tb_5 (List.mem_of_getElem? (i := 113) (by rfl))) rfl
theorem wd_1074 : (Cond.methodLink RX11 252 yX3_clear) ∈ BIG := big_t (tb_5 (List.mem_of_getElem? (i := 114) (by rfl))) rfl
theorem wd_1075 : (Cond.instanceMethod yX3_clear) ∈ BIG := big_t (tb_5 (List.mem_of_getElem? (i := 115) (by rfl))) rfl
theorem wd_1076 : (Cond.selects RX3 yX3_clear yX3_clear) ∈ BIG := big_t (tb_5 (List.mem_of_getElem? (i := 116) (by rfl))) rfl
theorem wd_1077 : (Cond.code yX3_clear prog_5_method_2_code 2 none) ∈ BIG := big_t (tb_5 (List.mem_of_getElem? (i := 117) (by rfl))) rfl
theorem wd_1078 : (Cond.methodLink RX3 49 yJ7_fill_53178) ∈ BIG := big_t (tb_5 (List.mem_of_getElem? (i := 118) (by rfl))) rfl
theorem wd_1079 : (Cond.methodLink RX11 255 yJ7_fill_53178) ∈ BIG := big_t (tb_5 (List.mem_of_getElem? (i := 119) (by rfl))) rfl
theorem wd_1080 : (Cond.methodLink RX11 261 yX6_addCome) ∈ BIG := big_t (tb_5 (List.mem_of_getElem? (i := 120) (by rfl))) rfl
theorem wd_1081 : (Cond.instanceMethod yX6_addCome) ∈ BIG := big_t (tb_5 (List.mem_of_getElem? (i := 121) (by rfl))) rfl
theorem wd_1082 : (Cond.selects RX6 yX6_addCome yX6_addCome) ∈ BIG := big_t (tb_5 (List.mem_of_getElem? (i := 122) (by rfl))) rfl
theorem wd_1083 : (Cond.code yX6_addCome prog_8_method_13_code 5 none) ∈ BIG := big_t (tb_5 (List.mem_of_getElem? (i := 123) (by rfl))) rfl
theorem wd_1084 : (Cond.methodLink RX11 265 yX3_addDay) ∈ BIG := big_t (tb_5 (List.mem_of_getElem? (i := 124) (by rfl))) rfl
theorem wd_1085 : (Cond.instanceMethod yX3_addDay) ∈ BIG := big_t (tb_5 (List.mem_of_getElem? (i := 125) (by rfl))) rfl
theorem wd_1086 : (Cond.selects RX3 yX3_addDay yX3_addDay) ∈ BIG := big_t (tb_5 (List.mem_of_getElem? (i := 126) (by rfl))) rfl
theorem wd_1087 : (Cond.code yX3_addDay prog_5_method_3_code 7 none) ∈ BIG := big_t (tb_5 (List.mem_of_getElem? (i := 127) (by rfl))) rfl
theorem wd_1088 : (Cond.methodLink RX3 66 yX3_addRow) ∈ BIG := big_t (tb_5 (List.mem_of_getElem? (i := 128) (by rfl))) rfl
theorem wn_1089 : (Cond.privateMethod yX3_addRow) ∈ tables_1 := tb_5 (List.mem_of_getElem? (i := 129) (by rfl))
theorem wd_1090 : (Cond.instanceMethod yX3_addRow) ∈ BIG := big_t (tb_5 (List.mem_of_getElem? (i := 130) (by rfl))) rfl
theorem wd_1091 : (Cond.code yX3_addRow prog_5_method_4_code 4 none) ∈ BIG := big_t (tb_5 (List.mem_of_getElem? (i := 131) (by rfl))) rfl
theorem wd_1092 : (Cond.methodLink RX11 269 yX9_deal) ∈ BIG := big_t (tb_5 (List.mem_of_getElem? (i := 132) (by rfl))) rfl
theorem wd_1093 : (Cond.instanceMethod yX9_deal) ∈ BIG := big_t (tb_5 (List.mem_of_getElem? (i := 133) (by rfl))) rfl
theorem wd_1094 : (Cond.selects RX9 yX9_deal yX9_deal) ∈ BIG := big_t (tb_5 (List.mem_of_getElem? (i := 134) (by rfl))) rfl
theorem wd_1095 : (Cond.code yX9_deal prog_11_method_2_code 2 none) ∈ BIG := big_t (tb_5 (List.mem_of_getElem? (i := 135) (by rfl))) rfl
theorem wd_1096 : (Cond.methodLink RX9 44 yX2_fill) ∈ BIG := big_t (tb_5 (List.mem_of_getElem? (i := 136) (by rfl))) rfl
theorem wd_1097 : (Cond.instanceMethod yX2_fill) ∈ BIG := big_t (tb_5 (List.mem_of_getElem? (i := 137) (by rfl))) rfl
theorem wd_1098 : (Cond.selects RX2 yX2_fill yX2_fill) ∈ BIG := big_t (tb_5 (List.mem_of_getElem? (i := 138) (by rfl))) rfl
theorem wd_1099 : (Cond.code yX2_fill prog_4_method_2_code 4 none) ∈ BIG := big_t (tb_5 (List.mem_of_getElem? (i := 139) (by rfl))) rfl
theorem wd_1100 : (Cond.methodLink RX2 44 yX2_serves) ∈ BIG := big_t (tb_5 (List.mem_of_getElem? (i := 140) (by rfl))) rfl
theorem wn_1101 : (Cond.privateMethod yX2_serves) ∈ tables_1 := tb_5 (List.mem_of_getElem? (i := 141) (by rfl))
theorem wd_1102 : (Cond.instanceMethod yX2_serves) ∈ BIG := big_t (tb_5 (List.mem_of_getElem? (i := 142) (by rfl))) rfl
theorem wd_1103 : (Cond.code yX2_serves prog_4_method_3_code 4 (some .boolean)) ∈ BIG := big_t (tb_5 (List.mem_of_getElem? (i := 143) (by rfl))) rfl
theorem wd_1104 : (Cond.constantLong RX2 48 1152921504606846976) ∈ BIG := big_t (tb_5 (List.mem_of_getElem? (i := 144) (by rfl))) rfl
theorem wd_1105 : (Cond.methodLink RX2 50 yJ7_fill_d0a16) ∈ BIG := big_t (tb_5 (List.mem_of_getElem? (i := 145) (by rfl))) rfl
theorem wd_1106 : (Cond.static yJ7_fill_d0a16) ∈ BIG := big_t (tb_5 (List.mem_of_getElem? (i := 146) (by rfl))) rfl
theorem wd_1107 : (Cond.code yJ7_fill_d0a16 prog_20_method_101_code 5 none) ∈ BIG := big_t (tb_5 (List.mem_of_getElem? (i := 147) (by rfl))) rfl
theorem wd_1108 : (Cond.methodLink RX2 56 yX2_startQueue) ∈ BIG := big_t (tb_5 (List.mem_of_getElem? (i := 148) (by rfl))) rfl
theorem wn_1109 : (Cond.privateMethod yX2_startQueue) ∈ tables_1 := tb_5 (List.mem_of_getElem? (i := 149) (by rfl))
theorem wd_1110 : (Cond.instanceMethod yX2_startQueue) ∈ BIG := big_t (tb_5 (List.mem_of_getElem? (i := 150) (by rfl))) rfl
theorem wd_1111 : (Cond.code yX2_startQueue prog_4_method_7_code 1 none) ∈ BIG := big_t (tb_5 (List.mem_of_getElem? (i := 151) (by rfl))) rfl
theorem wd_1112 : (Cond.methodLink RX2 102 yJ7_fill_53178) ∈ BIG := big_t (tb_5 (List.mem_of_getElem? (i := 152) (by rfl))) rfl
theorem wd_1113 : (Cond.methodLink RX2 59 yX2_enqueue) ∈ BIG := big_t (tb_5 (List.mem_of_getElem? (i := 153) (by rfl))) rfl
theorem wn_1114 : (Cond.privateMethod yX2_enqueue) ∈ tables_1 := tb_5 (List.mem_of_getElem? (i := 154) (by rfl))
theorem wd_1115 : (Cond.instanceMethod yX2_enqueue) ∈ BIG := big_t (tb_5 (List.mem_of_getElem? (i := 155) (by rfl))) rfl
theorem wd_1116 : (Cond.code yX2_enqueue prog_4_method_8_code 2 none) ∈ BIG := big_t (tb_5 (List.mem_of_getElem? (i := 156) (by rfl))) rfl
theorem wd_1117 : (Cond.methodLink RX2 63 yX2_runQueue) ∈ BIG := big_t (tb_5 (List.mem_of_getElem? (i := 157) (by rfl))) rfl
theorem wn_1118 : (Cond.privateMethod yX2_runQueue) ∈ tables_1 := tb_5 (List.mem_of_getElem? (i := 158) (by rfl))
theorem wd_1119 : (Cond.instanceMethod yX2_runQueue) ∈ BIG := big_t (tb_5 (List.mem_of_getElem? (i := 159) (by rfl))) rfl
theorem wd_1120 : (Cond.code yX2_runQueue prog_4_method_9_code 5 none) ∈ BIG := big_t (tb_5 (List.mem_of_getElem? (i := 160) (by rfl))) rfl
theorem wd_1121 : (Cond.constant RX2 89 1000000) ∈ BIG := big_t (tb_5 (List.mem_of_getElem? (i := 161) (by rfl))) rfl
theorem wd_1122 : (Cond.methodLink RX2 111 yX3_pointsOf) ∈ BIG := big_t (tb_5 (List.mem_of_getElem? (i := 162) (by rfl))) rfl
theorem wd_1123 : (Cond.instanceMethod yX3_pointsOf) ∈ BIG := big_t (tb_5 (List.mem_of_getElem? (i := 163) (by rfl))) rfl
theorem wd_1124 : (Cond.selects RX3 yX3_pointsOf yX3_pointsOf) ∈ BIG := big_t (tb_5 (List.mem_of_getElem? (i := 164) (by rfl))) rfl
theorem wd_1125 : (Cond.code yX3_pointsOf prog_5_method_5_code 3 (some .int)) ∈ BIG := big_t (tb_5 (List.mem_of_getElem? (i := 165) (by rfl))) rfl
theorem wd_1126 : (Cond.methodLink RX2 115 yX2_want) ∈ BIG := big_t (tb_5 (List.mem_of_getElem? (i := 166) (by rfl))) rfl
theorem wn_1127 : (Cond.privateMethod yX2_want) ∈ tables_1 := tb_5 (List.mem_of_getElem? (i := 167) (by rfl))
theorem wd_1128 : (Cond.instanceMethod yX2_want) ∈ BIG := big_t (tb_5 (List.mem_of_getElem? (i := 168) (by rfl))) rfl
theorem wd_1129 : (Cond.code yX2_want prog_4_method_10_code 8 none) ∈ BIG := big_t (tb_5 (List.mem_of_getElem? (i := 169) (by rfl))) rfl
theorem wd_1130 : (Cond.methodLink RX2 119 yX2_settle) ∈ BIG := big_t (tb_5 (List.mem_of_getElem? (i := 170) (by rfl))) rfl
theorem wn_1131 : (Cond.privateMethod yX2_settle) ∈ tables_1 := tb_5 (List.mem_of_getElem? (i := 171) (by rfl))
theorem wd_1132 : (Cond.instanceMethod yX2_settle) ∈ BIG := big_t (tb_5 (List.mem_of_getElem? (i := 172) (by rfl))) rfl
theorem wd_1133 : (Cond.code yX2_settle prog_4_method_11_code 9 none) ∈ BIG := big_t (tb_5 (List.mem_of_getElem? (i := 173) (by rfl))) rfl
theorem wd_1134 : (Cond.methodLink RX2 66 yX2_cheapestLeft) ∈ BIG := big_t (tb_5 (List.mem_of_getElem? (i := 174) (by rfl))) rfl
theorem wn_1135 : (Cond.privateMethod yX2_cheapestLeft) ∈ tables_1 := tb_5 (List.mem_of_getElem? (i := 175) (by rfl))
theorem wd_1136 : (Cond.instanceMethod yX2_cheapestLeft) ∈ BIG := big_t (tb_5 (List.mem_of_getElem? (i := 176) (by rfl))) rfl
theorem wd_1137 : (Cond.code yX2_cheapestLeft prog_4_method_4_code 6 (some .int)) ∈ BIG := big_t (tb_5 (List.mem_of_getElem? (i := 177) (by rfl))) rfl
theorem wd_1138 : (Cond.methodLink RX2 73 yX3_take) ∈ BIG := big_t (tb_5 (List.mem_of_getElem? (i := 178) (by rfl))) rfl
theorem wd_1139 : (Cond.instanceMethod yX3_take) ∈ BIG := big_t (tb_5 (List.mem_of_getElem? (i := 179) (by rfl))) rfl
theorem wd_1140 : (Cond.selects RX3 yX3_take yX3_take) ∈ BIG := big_t (tb_5 (List.mem_of_getElem? (i := 180) (by rfl))) rfl
theorem wd_1141 : (Cond.code yX3_take prog_5_method_6_code 4 none) ∈ BIG := big_t (tb_5 (List.mem_of_getElem? (i := 181) (by rfl))) rfl
theorem wd_1142 : (Cond.methodLink RX2 77 yX2_change) ∈ BIG := big_t (tb_5 (List.mem_of_getElem? (i := 182) (by rfl))) rfl
theorem wn_1143 : (Cond.privateMethod yX2_change) ∈ tables_1 := tb_5 (List.mem_of_getElem? (i := 183) (by rfl))
theorem wd_1144 : (Cond.instanceMethod yX2_change) ∈ BIG := big_t (tb_5 (List.mem_of_getElem? (i := 184) (by rfl))) rfl
theorem wd_1145 : (Cond.code yX2_change prog_4_method_6_code 7 none) ∈ BIG := big_t (tb_5 (List.mem_of_getElem? (i := 185) (by rfl))) rfl
theorem wd_1146 : (Cond.methodLink RX2 93 yX3_drop) ∈ BIG := big_t (tb_5 (List.mem_of_getElem? (i := 186) (by rfl))) rfl
theorem wd_1147 : (Cond.instanceMethod yX3_drop) ∈ BIG := big_t (tb_5 (List.mem_of_getElem? (i := 187) (by rfl))) rfl
theorem wd_1148 : (Cond.selects RX3 yX3_drop yX3_drop) ∈ BIG := big_t (tb_5 (List.mem_of_getElem? (i := 188) (by rfl))) rfl
theorem wd_1149 : (Cond.code yX3_drop prog_5_method_7_code 4 none) ∈ BIG := big_t (tb_5 (List.mem_of_getElem? (i := 189) (by rfl))) rfl
theorem wd_1150 : (Cond.methodLink RX2 80 yX2_cheapestLoser) ∈ BIG := big_t (tb_5 (List.mem_of_getElem? (i := 190) (by rfl))) rfl
theorem wn_1151 : (Cond.privateMethod yX2_cheapestLoser) ∈ tables_1 := tb_5 (List.mem_of_getElem? (i := 191) (by rfl))
theorem wd_1152 : (Cond.instanceMethod yX2_cheapestLoser) ∈ BIG := big_t (tb_5 (List.mem_of_getElem? (i := 192) (by rfl))) rfl
theorem wd_1153 : (Cond.code yX2_cheapestLoser prog_4_method_5_code 5 (some .int)) ∈ BIG := big_t (tb_5 (List.mem_of_getElem? (i := 193) (by rfl))) rfl
theorem wd_1154 : (Cond.methodLink RX9 49 yX2_level) ∈ BIG := big_t (tb_5 (List.mem_of_getElem? (i := 194) (by rfl))) rfl
theorem wd_1155 : (Cond.instanceMethod yX2_level) ∈ BIG := big_t (tb_5 (List.mem_of_getElem? (i := 195) (by rfl))) rfl
theorem wd_1156 : (Cond.selects RX2 yX2_level yX2_level) ∈ BIG := big_t (tb_5 (List.mem_of_getElem? (i := 196) (by rfl))) rfl
theorem wd_1157 : (Cond.code yX2_level prog_4_method_12_code 3 none) ∈ BIG := big_t (tb_5 (List.mem_of_getElem? (i := 197) (by rfl))) rfl
theorem wd_1158 : (Cond.methodLink RX2 132 yJ9_min_f86c9) ∈ BIG := big_t (tb_5 (List.mem_of_getElem? (i := 198) (by rfl))) rfl
theorem wd_1159 : (Cond.methodLink RX2 138 yX2_levelDue) ∈ BIG := big_t (tb_5 (List.mem_of_getElem? (i := 199) (by rfl))) rfl
theorem wn_1160 : (Cond.privateMethod yX2_levelDue) ∈ tables_1 := tb_5 (List.mem_of_getElem? (i := 200) (by rfl))
theorem wd_1161 : (Cond.instanceMethod yX2_levelDue) ∈ BIG := big_t (tb_5 (List.mem_of_getElem? (i := 201) (by rfl))) rfl
theorem wd_1162 : (Cond.code yX2_levelDue prog_4_method_13_code 2 none) ∈ BIG := big_t (tb_5 (List.mem_of_getElem? (i := 202) (by rfl))) rfl
theorem wd_1163 : (Cond.methodLink RX2 141 yX2_levelLeft) ∈ BIG := big_t (tb_5 (List.mem_of_getElem? (i := 203) (by rfl))) rfl
theorem wn_1164 : (Cond.privateMethod yX2_levelLeft) ∈ tables_1 := tb_5 (List.mem_of_getElem? (i := 204) (by rfl))
theorem wd_1165 : (Cond.instanceMethod yX2_levelLeft) ∈ BIG := big_t (tb_5 (List.mem_of_getElem? (i := 205) (by rfl))) rfl
theorem wd_1166 : (Cond.code yX2_levelLeft prog_4_method_14_code 3 none) ∈ BIG := big_t (tb_5 (List.mem_of_getElem? (i := 206) (by rfl))) rfl
theorem wd_1167 : (Cond.methodLink RX9 52 yJ7_fill_53178) ∈ BIG := big_t (tb_5 (List.mem_of_getElem? (i := 207) (by rfl))) rfl
theorem wd_1168 : (Cond.methodLink RX9 60 yX9_rankRow) ∈ BIG := big_t (tb_5 (List.mem_of_getElem? (i := 208) (by rfl))) rfl
theorem wn_1169 : (Cond.privateMethod yX9_rankRow) ∈ tables_1 := tb_5 (List.mem_of_getElem? (i := 209) (by rfl))
theorem wd_1170 : (Cond.instanceMethod yX9_rankRow) ∈ BIG := big_t (tb_5 (List.mem_of_getElem? (i := 210) (by rfl))) rfl
theorem wd_1171 : (Cond.code yX9_rankRow prog_11_method_3_code 3 none) ∈ BIG := big_t (tb_5 (List.mem_of_getElem? (i := 211) (by rfl))) rfl
theorem wd_1172 : (Cond.methodLink RX9 67 yX9_freshSearch) ∈ BIG := big_t (tb_5 (List.mem_of_getElem? (i := 212) (by rfl))) rfl
theorem wn_1173 : (Cond.privateMethod yX9_freshSearch) ∈ tables_1 := tb_5 (List.mem_of_getElem? (i := 213) (by rfl))
theorem wd_1174 : (Cond.instanceMethod yX9_freshSearch) ∈ BIG := big_t (tb_5 (List.mem_of_getElem? (i := 214) (by rfl))) rfl
theorem wd_1175 : (Cond.code yX9_freshSearch prog_11_method_5_code 1 none) ∈ BIG := big_t (tb_5 (List.mem_of_getElem? (i := 215) (by rfl))) rfl
theorem wd_1176 : (Cond.methodLink RX9 73 yX9_canChange) ∈ BIG := big_t (tb_5 (List.mem_of_getElem? (i := 216) (by rfl))) rfl
theorem wn_1177 : (Cond.privateMethod yX9_canChange) ∈ tables_1 := tb_5 (List.mem_of_getElem? (i := 217) (by rfl))
theorem wd_1178 : (Cond.instanceMethod yX9_canChange) ∈ BIG := big_t (tb_5 (List.mem_of_getElem? (i := 218) (by rfl))) rfl
theorem wd_1179 : (Cond.code yX9_canChange prog_11_method_4_code 2 (some .boolean)) ∈ BIG := big_t (tb_5 (List.mem_of_getElem? (i := 219) (by rfl))) rfl
theorem wd_1180 : (Cond.methodLink RX9 80 yX9_mayTake) ∈ BIG := big_t (tb_5 (List.mem_of_getElem? (i := 220) (by rfl))) rfl
theorem wn_1181 : (Cond.privateMethod yX9_mayTake) ∈ tables_1 := tb_5 (List.mem_of_getElem? (i := 221) (by rfl))
theorem wd_1182 : (Cond.instanceMethod yX9_mayTake) ∈ BIG := big_t (tb_5 (List.mem_of_getElem? (i := 222) (by rfl))) rfl
theorem wd_1183 : (Cond.code yX9_mayTake prog_11_method_6_code 4 (some .boolean)) ∈ BIG := big_t (tb_5 (List.mem_of_getElem? (i := 223) (by rfl))) rfl
theorem wd_1184 : (Cond.methodLink RX9 131 yX3_pointsOf) ∈ BIG := big_t (tb_5 (List.mem_of_getElem? (i := 224) (by rfl))) rfl
theorem wd_1185 : (Cond.methodLink RX9 84 yX9_finds) ∈ BIG := big_t (tb_5 (List.mem_of_getElem? (i := 225) (by rfl))) rfl
theorem wn_1186 : (Cond.privateMethod yX9_finds) ∈ tables_1 := tb_5 (List.mem_of_getElem? (i := 226) (by rfl))
theorem wd_1187 : (Cond.instanceMethod yX9_finds) ∈ BIG := big_t (tb_5 (List.mem_of_getElem? (i := 227) (by rfl))) rfl
theorem wd_1188 : (Cond.code yX9_finds prog_11_method_7_code 3 (some .boolean)) ∈ BIG := big_t (tb_5 (List.mem_of_getElem? (i := 228) (by rfl))) rfl
theorem wd_1189 : (Cond.methodLink RX9 135 yX9_spread) ∈ BIG := big_t (tb_5 (List.mem_of_getElem? (i := 229) (by rfl))) rfl
theorem wn_1190 : (Cond.privateMethod yX9_spread) ∈ tables_1 := tb_5 (List.mem_of_getElem? (i := 230) (by rfl))
theorem wd_1191 : (Cond.instanceMethod yX9_spread) ∈ BIG := big_t (tb_5 (List.mem_of_getElem? (i := 231) (by rfl))) rfl
theorem wd_1192 : (Cond.code yX9_spread prog_11_method_9_code 8 none) ∈ BIG := big_t (tb_5 (List.mem_of_getElem? (i := 232) (by rfl))) rfl
theorem wd_1193 : (Cond.methodLink RX9 149 yX9_isFree) ∈ BIG := big_t (tb_5 (List.mem_of_getElem? (i := 233) (by rfl))) rfl
theorem wn_1194 : (Cond.privateMethod yX9_isFree) ∈ tables_1 := tb_5 (List.mem_of_getElem? (i := 234) (by rfl))
theorem wd_1195 : (Cond.instanceMethod yX9_isFree) ∈ BIG := big_t (tb_5 (List.mem_of_getElem? (i := 235) (by rfl))) rfl
theorem wd_1196 : (Cond.code yX9_isFree prog_11_method_10_code 4 (some .boolean)) ∈ BIG := big_t (tb_5 (List.mem_of_getElem? (i := 236) (by rfl))) rfl
theorem wd_1197 : (Cond.methodLink RX9 153 yX9_see) ∈ BIG := big_t (tb_5 (List.mem_of_getElem? (i := 237) (by rfl))) rfl
theorem wn_1198 : (Cond.privateMethod yX9_see) ∈ tables_1 := tb_5 (List.mem_of_getElem? (i := 238) (by rfl))
theorem wd_1199 : (Cond.instanceMethod yX9_see) ∈ BIG := big_t (tb_5 (List.mem_of_getElem? (i := 239) (by rfl))) rfl
theorem wd_1200 : (Cond.code yX9_see prog_11_method_11_code 9 none) ∈ BIG := big_t (tb_6 (List.mem_of_getElem? (i := 0) (by rfl))) rfl
theorem wd_1201 : (Cond.methodLink RX9 169 yX9_seeRow) ∈ BIG := big_t (tb_6 (List.mem_of_getElem? (i := 1) (by rfl))) rfl
theorem wn_1202 : (Cond.privateMethod yX9_seeRow) ∈ tables_1 := tb_6 (List.mem_of_getElem? (i := 2) (by rfl))
theorem wd_1203 : (Cond.instanceMethod yX9_seeRow) ∈ BIG := big_t (tb_6 (List.mem_of_getElem? (i := 3) (by rfl))) rfl
theorem wd_1204 : (Cond.code yX9_seeRow prog_11_method_12_code 3 none) ∈ BIG := big_t (tb_6 (List.mem_of_getElem? (i := 4) (by rfl))) rfl
theorem wd_1205 : (Cond.constant RX9 139 1000000) ∈ BIG := big_t (tb_6 (List.mem_of_getElem? (i := 5) (by rfl))) rfl
theorem wd_1206 : (Cond.methodLink RX9 140 yX9_widen) ∈ BIG := big_t (tb_6 (List.mem_of_getElem? (i := 6) (by rfl))) rfl
theorem wn_1207 : (Cond.privateMethod yX9_widen) ∈ tables_1 := tb_6 (List.mem_of_getElem? (i := 7) (by rfl))
theorem wd_1208 : (Cond.instanceMethod yX9_widen) ∈ BIG := big_t (tb_6 (List.mem_of_getElem? (i := 8) (by rfl))) rfl
theorem wd_1209 : (Cond.code yX9_widen prog_11_method_8_code 4 none) ∈ BIG := big_t (tb_6 (List.mem_of_getElem? (i := 9) (by rfl))) rfl
theorem wd_1210 : (Cond.methodLink RX9 143 yX9_spreadDue) ∈ BIG := big_t (tb_6 (List.mem_of_getElem? (i := 10) (by rfl))) rfl
theorem wn_1211 : (Cond.privateMethod yX9_spreadDue) ∈ tables_1 := tb_6 (List.mem_of_getElem? (i := 11) (by rfl))
theorem wd_1212 : (Cond.instanceMethod yX9_spreadDue) ∈ BIG := big_t (tb_6 (List.mem_of_getElem? (i := 12) (by rfl))) rfl
theorem wd_1213 : (Cond.code yX9_spreadDue prog_11_method_13_code 2 none) ∈ BIG := big_t (tb_6 (List.mem_of_getElem? (i := 13) (by rfl))) rfl
theorem wd_1214 : (Cond.methodLink RX9 146 yX9_spreadLeft) ∈ BIG := big_t (tb_6 (List.mem_of_getElem? (i := 14) (by rfl))) rfl
theorem wn_1215 : (Cond.privateMethod yX9_spreadLeft) ∈ tables_1 := tb_6 (List.mem_of_getElem? (i := 15) (by rfl))
theorem wd_1216 : (Cond.instanceMethod yX9_spreadLeft) ∈ BIG := big_t (tb_6 (List.mem_of_getElem? (i := 16) (by rfl))) rfl
theorem wd_1217 : (Cond.code yX9_spreadLeft prog_11_method_14_code 3 none) ∈ BIG := big_t (tb_6 (List.mem_of_getElem? (i := 17) (by rfl))) rfl
theorem wd_1218 : (Cond.methodLink RX9 87 yX9_turn) ∈ BIG := big_t (tb_6 (List.mem_of_getElem? (i := 18) (by rfl))) rfl
theorem wn_1219 : (Cond.privateMethod yX9_turn) ∈ tables_1 := tb_6 (List.mem_of_getElem? (i := 19) (by rfl))
theorem wd_1220 : (Cond.instanceMethod yX9_turn) ∈ BIG := big_t (tb_6 (List.mem_of_getElem? (i := 20) (by rfl))) rfl
theorem wd_1221 : (Cond.code yX9_turn prog_11_method_15_code 5 none) ∈ BIG := big_t (tb_6 (List.mem_of_getElem? (i := 21) (by rfl))) rfl
theorem wd_1222 : (Cond.methodLink RX9 176 yX3_drop) ∈ BIG := big_t (tb_6 (List.mem_of_getElem? (i := 22) (by rfl))) rfl
theorem wd_1223 : (Cond.methodLink RX9 179 yX3_take) ∈ BIG := big_t (tb_6 (List.mem_of_getElem? (i := 23) (by rfl))) rfl
theorem wd_1224 : (Cond.methodLink RX11 272 yX4_keep) ∈ BIG := big_t (tb_6 (List.mem_of_getElem? (i := 24) (by rfl))) rfl
theorem wd_1225 : (Cond.instanceMethod yX4_keep) ∈ BIG := big_t (tb_6 (List.mem_of_getElem? (i := 25) (by rfl))) rfl
theorem wd_1226 : (Cond.selects RX4 yX4_keep yX4_keep) ∈ BIG := big_t (tb_6 (List.mem_of_getElem? (i := 26) (by rfl))) rfl
theorem wd_1227 : (Cond.code yX4_keep prog_6_method_2_code 9 (some .int)) ∈ BIG := big_t (tb_6 (List.mem_of_getElem? (i := 27) (by rfl))) rfl
theorem wd_1228 : (Cond.methodLink RX4 83 yJ6_bitCount_0f7a4) ∈ BIG := big_t (tb_6 (List.mem_of_getElem? (i := 28) (by rfl))) rfl
theorem wd_1229 : (Cond.static yJ6_bitCount_0f7a4) ∈ BIG := big_t (tb_6 (List.mem_of_getElem? (i := 29) (by rfl))) rfl
theorem wd_1230 : (Cond.code yJ6_bitCount_0f7a4 prog_15_method_49_code 1 (some .int)) ∈ BIG := big_t (tb_6 (List.mem_of_getElem? (i := 30) (by rfl))) rfl
theorem wd_1231 : (Cond.constant RJ6 265 1431655765) ∈ BIG := big_t (tb_6 (List.mem_of_getElem? (i := 31) (by rfl))) rfl
theorem wd_1232 : (Cond.constant RJ6 266 858993459) ∈ BIG := big_t (tb_6 (List.mem_of_getElem? (i := 32) (by rfl))) rfl
theorem wd_1233 : (Cond.constant RJ6 267 252645135) ∈ BIG := big_t (tb_6 (List.mem_of_getElem? (i := 33) (by rfl))) rfl
theorem wd_1234 : (Cond.methodLink RX4 89 yX4_tally) ∈ BIG := big_t (tb_6 (List.mem_of_getElem? (i := 34) (by rfl))) rfl
theorem wn_1235 : (Cond.privateMethod yX4_tally) ∈ tables_1 := tb_6 (List.mem_of_getElem? (i := 35) (by rfl))
theorem wd_1236 : (Cond.instanceMethod yX4_tally) ∈ BIG := big_t (tb_6 (List.mem_of_getElem? (i := 36) (by rfl))) rfl
theorem wd_1237 : (Cond.code yX4_tally prog_6_method_3_code 5 none) ∈ BIG := big_t (tb_6 (List.mem_of_getElem? (i := 37) (by rfl))) rfl
theorem wd_1238 : (Cond.methodLink RL 92 yX11_given) ∈ BIG := big_t (tb_6 (List.mem_of_getElem? (i := 38) (by rfl))) rfl
theorem wd_1239 : (Cond.instanceMethod yX11_given) ∈ BIG := big_t (tb_6 (List.mem_of_getElem? (i := 39) (by rfl))) rfl
theorem wd_1240 : (Cond.selects RX11 yX11_given yX11_given) ∈ BIG := big_t (tb_6 (List.mem_of_getElem? (i := 40) (by rfl))) rfl
theorem wd_1241 : (Cond.code yX11_given prog_1_method_20_code 2 (some .int)) ∈ BIG := big_t (tb_6 (List.mem_of_getElem? (i := 41) (by rfl))) rfl
theorem wd_1242 : (Cond.methodLink RX11 276 yX4_total) ∈ BIG := big_t (tb_6 (List.mem_of_getElem? (i := 42) (by rfl))) rfl
theorem wd_1243 : (Cond.instanceMethod yX4_total) ∈ BIG := big_t (tb_6 (List.mem_of_getElem? (i := 43) (by rfl))) rfl
theorem wd_1244 : (Cond.selects RX4 yX4_total yX4_total) ∈ BIG := big_t (tb_6 (List.mem_of_getElem? (i := 44) (by rfl))) rfl
theorem wd_1245 : (Cond.code yX4_total prog_6_method_5_code 4 (some .int)) ∈ BIG := big_t (tb_6 (List.mem_of_getElem? (i := 45) (by rfl))) rfl
theorem wd_1246 : (Cond.methodLink RX4 101 yX4_lacking) ∈ BIG := big_t (tb_6 (List.mem_of_getElem? (i := 46) (by rfl))) rfl
theorem wd_1247 : (Cond.instanceMethod yX4_lacking) ∈ BIG := big_t (tb_6 (List.mem_of_getElem? (i := 47) (by rfl))) rfl
theorem wd_1248 : (Cond.selects RX4 yX4_lacking yX4_lacking) ∈ BIG := big_t (tb_6 (List.mem_of_getElem? (i := 48) (by rfl))) rfl
theorem wd_1249 : (Cond.code yX4_lacking prog_6_method_6_code 5 (some .int)) ∈ BIG := big_t (tb_6 (List.mem_of_getElem? (i := 49) (by rfl))) rfl
theorem wd_1250 : (Cond.methodLink RL 96 yX11_gets) ∈ BIG := big_t (tb_6 (List.mem_of_getElem? (i := 50) (by rfl))) rfl
theorem wd_1251 : (Cond.instanceMethod yX11_gets) ∈ BIG := big_t (tb_6 (List.mem_of_getElem? (i := 51) (by rfl))) rfl
theorem wd_1252 : (Cond.selects RX11 yX11_gets yX11_gets) ∈ BIG := big_t (tb_6 (List.mem_of_getElem? (i := 52) (by rfl))) rfl
theorem wd_1253 : (Cond.code yX11_gets prog_1_method_21_code 2 (some .int)) ∈ BIG := big_t (tb_6 (List.mem_of_getElem? (i := 53) (by rfl))) rfl
theorem wd_1254 : (Cond.methodLink RX11 279 yX4_isChild) ∈ BIG := big_t (tb_6 (List.mem_of_getElem? (i := 54) (by rfl))) rfl
theorem wd_1255 : (Cond.instanceMethod yX4_isChild) ∈ BIG := big_t (tb_6 (List.mem_of_getElem? (i := 55) (by rfl))) rfl
theorem wd_1256 : (Cond.selects RX4 yX4_isChild yX4_isChild) ∈ BIG := big_t (tb_6 (List.mem_of_getElem? (i := 56) (by rfl))) rfl
theorem wd_1257 : (Cond.code yX4_isChild prog_6_method_4_code 2 (some .boolean)) ∈ BIG := big_t (tb_6 (List.mem_of_getElem? (i := 57) (by rfl))) rfl
theorem wd_1258 : (Cond.methodLink RL 100 yX11_left) ∈ BIG := big_t (tb_6 (List.mem_of_getElem? (i := 58) (by rfl))) rfl
theorem wd_1259 : (Cond.instanceMethod yX11_left) ∈ BIG := big_t (tb_6 (List.mem_of_getElem? (i := 59) (by rfl))) rfl
theorem wd_1260 : (Cond.selects RX11 yX11_left yX11_left) ∈ BIG := big_t (tb_6 (List.mem_of_getElem? (i := 60) (by rfl))) rfl
theorem wd_1261 : (Cond.code yX11_left prog_1_method_22_code 2 (some .int)) ∈ BIG := big_t (tb_6 (List.mem_of_getElem? (i := 61) (by rfl))) rfl
theorem wd_1262 : (Cond.methodLink RL 104 yX11_blind) ∈ BIG := big_t (tb_6 (List.mem_of_getElem? (i := 62) (by rfl))) rfl
theorem wd_1263 : (Cond.instanceMethod yX11_blind) ∈ BIG := big_t (tb_6 (List.mem_of_getElem? (i := 63) (by rfl))) rfl
theorem wd_1264 : (Cond.selects RX11 yX11_blind yX11_blind) ∈ BIG := big_t (tb_6 (List.mem_of_getElem? (i := 64) (by rfl))) rfl
theorem wd_1265 : (Cond.code yX11_blind prog_1_method_23_code 3 (some .int)) ∈ BIG := big_t (tb_6 (List.mem_of_getElem? (i := 65) (by rfl))) rfl
theorem wd_1266 : (Cond.methodLink RX11 289 yX3_takeRest) ∈ BIG := big_t (tb_6 (List.mem_of_getElem? (i := 66) (by rfl))) rfl
theorem wd_1267 : (Cond.instanceMethod yX3_takeRest) ∈ BIG := big_t (tb_6 (List.mem_of_getElem? (i := 67) (by rfl))) rfl
theorem wd_1268 : (Cond.selects RX3 yX3_takeRest yX3_takeRest) ∈ BIG := big_t (tb_6 (List.mem_of_getElem? (i := 68) (by rfl))) rfl
theorem wd_1269 : (Cond.code yX3_takeRest prog_5_method_8_code 4 (some .int)) ∈ BIG := big_t (tb_6 (List.mem_of_getElem? (i := 69) (by rfl))) rfl
theorem wd_1270 : (Cond.methodLink RL 108 yX11_lacks) ∈ BIG := big_t (tb_6 (List.mem_of_getElem? (i := 70) (by rfl))) rfl
theorem wd_1271 : (Cond.instanceMethod yX11_lacks) ∈ BIG := big_t (tb_6 (List.mem_of_getElem? (i := 71) (by rfl))) rfl
theorem wd_1272 : (Cond.selects RX11 yX11_lacks yX11_lacks) ∈ BIG := big_t (tb_6 (List.mem_of_getElem? (i := 72) (by rfl))) rfl
theorem wd_1273 : (Cond.code yX11_lacks prog_1_method_24_code 3 (some .int)) ∈ BIG := big_t (tb_6 (List.mem_of_getElem? (i := 73) (by rfl))) rfl
theorem wd_1274 : (Cond.methodLink RX11 293 yX4_lacking) ∈ BIG := big_t (tb_6 (List.mem_of_getElem? (i := 74) (by rfl))) rfl
theorem wd_1275 : (Cond.methodLink RL 112 yX11_price) ∈ BIG := big_t (tb_6 (List.mem_of_getElem? (i := 75) (by rfl))) rfl
theorem wd_1276 : (Cond.instanceMethod yX11_price) ∈ BIG := big_t (tb_6 (List.mem_of_getElem? (i := 76) (by rfl))) rfl
theorem wd_1277 : (Cond.selects RX11 yX11_price yX11_price) ∈ BIG := big_t (tb_6 (List.mem_of_getElem? (i := 77) (by rfl))) rfl
theorem wd_1278 : (Cond.code yX11_price prog_1_method_25_code 2 (some .int)) ∈ BIG := big_t (tb_6 (List.mem_of_getElem? (i := 78) (by rfl))) rfl
theorem wd_1279 : (Cond.methodLink RX11 296 yX4_costOf) ∈ BIG := big_t (tb_6 (List.mem_of_getElem? (i := 79) (by rfl))) rfl
theorem wd_1280 : (Cond.instanceMethod yX4_costOf) ∈ BIG := big_t (tb_6 (List.mem_of_getElem? (i := 80) (by rfl))) rfl
theorem wd_1281 : (Cond.selects RX4 yX4_costOf yX4_costOf) ∈ BIG := big_t (tb_6 (List.mem_of_getElem? (i := 81) (by rfl))) rfl
theorem wd_1282 : (Cond.code yX4_costOf prog_6_method_11_code 4 (some .int)) ∈ BIG := big_t (tb_6 (List.mem_of_getElem? (i := 82) (by rfl))) rfl
theorem wd_1283 : (Cond.methodLink RX4 123 yX4_isRight) ∈ BIG := big_t (tb_6 (List.mem_of_getElem? (i := 83) (by rfl))) rfl
theorem wn_1284 : (Cond.privateMethod yX4_isRight) ∈ tables_1 := tb_6 (List.mem_of_getElem? (i := 84) (by rfl))
theorem wd_1285 : (Cond.instanceMethod yX4_isRight) ∈ BIG := big_t (tb_6 (List.mem_of_getElem? (i := 85) (by rfl))) rfl
theorem wd_1286 : (Cond.code yX4_isRight prog_6_method_9_code 3 (some .boolean)) ∈ BIG := big_t (tb_6 (List.mem_of_getElem? (i := 86) (by rfl))) rfl
theorem wd_1287 : (Cond.methodLink RX4 108 yX4_worthOf) ∈ BIG := big_t (tb_6 (List.mem_of_getElem? (i := 87) (by rfl))) rfl
theorem wn_1288 : (Cond.privateMethod yX4_worthOf) ∈ tables_1 := tb_6 (List.mem_of_getElem? (i := 88) (by rfl))
theorem wd_1289 : (Cond.instanceMethod yX4_worthOf) ∈ BIG := big_t (tb_6 (List.mem_of_getElem? (i := 89) (by rfl))) rfl
theorem wd_1290 : (Cond.code yX4_worthOf prog_6_method_7_code 5 (some .int)) ∈ BIG := big_t (tb_6 (List.mem_of_getElem? (i := 90) (by rfl))) rfl
theorem wd_1291 : (Cond.methodLink RX4 117 yX4_greatest) ∈ BIG := big_t (tb_6 (List.mem_of_getElem? (i := 91) (by rfl))) rfl
theorem wn_1292 : (Cond.privateMethod yX4_greatest) ∈ tables_1 := tb_6 (List.mem_of_getElem? (i := 92) (by rfl))
theorem wd_1293 : (Cond.instanceMethod yX4_greatest) ∈ BIG := big_t (tb_6 (List.mem_of_getElem? (i := 93) (by rfl))) rfl
theorem wd_1294 : (Cond.code yX4_greatest prog_6_method_8_code 5 (some .int)) ∈ BIG := big_t (tb_6 (List.mem_of_getElem? (i := 94) (by rfl))) rfl
theorem wd_1295 : (Cond.methodLink RX4 112 yJ9_max_7cf53) ∈ BIG := big_t (tb_6 (List.mem_of_getElem? (i := 95) (by rfl))) rfl
theorem wd_1296 : (Cond.methodLink RX4 127 yX4_cheapest) ∈ BIG := big_t (tb_6 (List.mem_of_getElem? (i := 96) (by rfl))) rfl
theorem wn_1297 : (Cond.privateMethod yX4_cheapest) ∈ tables_1 := tb_6 (List.mem_of_getElem? (i := 97) (by rfl))
theorem wd_1298 : (Cond.instanceMethod yX4_cheapest) ∈ BIG := big_t (tb_6 (List.mem_of_getElem? (i := 98) (by rfl))) rfl
theorem wd_1299 : (Cond.code yX4_cheapest prog_6_method_12_code 9 (some .int)) ∈ BIG := big_t (tb_6 (List.mem_of_getElem? (i := 99) (by rfl))) rfl
theorem wd_1300 : (Cond.methodLink RX4 130 yX4_listSets) ∈ BIG := big_t (tb_6 (List.mem_of_getElem? (i := 100) (by rfl))) rfl
theorem wn_1301 : (Cond.privateMethod yX4_listSets) ∈ tables_1 := tb_6 (List.mem_of_getElem? (i := 101) (by rfl))
theorem wd_1302 : (Cond.instanceMethod yX4_listSets) ∈ BIG := big_t (tb_6 (List.mem_of_getElem? (i := 102) (by rfl))) rfl
theorem wd_1303 : (Cond.code yX4_listSets prog_6_method_13_code 9 (some .int)) ∈ BIG := big_t (tb_6 (List.mem_of_getElem? (i := 103) (by rfl))) rfl
theorem wd_1304 : (Cond.methodLink RX4 134 yX4_isBetter) ∈ BIG := big_t (tb_6 (List.mem_of_getElem? (i := 104) (by rfl))) rfl
theorem wn_1305 : (Cond.privateMethod yX4_isBetter) ∈ tables_1 := tb_6 (List.mem_of_getElem? (i := 105) (by rfl))
theorem wd_1306 : (Cond.instanceMethod yX4_isBetter) ∈ BIG := big_t (tb_6 (List.mem_of_getElem? (i := 106) (by rfl))) rfl
theorem wd_1307 : (Cond.code yX4_isBetter prog_6_method_14_code 6 (some .boolean)) ∈ BIG := big_t (tb_6 (List.mem_of_getElem? (i := 107) (by rfl))) rfl
theorem wd_1308 : (Cond.methodLink RL 116 yX11_spend) ∈ BIG := big_t (tb_6 (List.mem_of_getElem? (i := 108) (by rfl))) rfl
theorem wd_1309 : (Cond.instanceMethod yX11_spend) ∈ BIG := big_t (tb_6 (List.mem_of_getElem? (i := 109) (by rfl))) rfl
theorem wd_1310 : (Cond.selects RX11 yX11_spend yX11_spend) ∈ BIG := big_t (tb_6 (List.mem_of_getElem? (i := 110) (by rfl))) rfl
theorem wd_1311 : (Cond.code yX11_spend prog_1_method_26_code 2 (some .int)) ∈ BIG := big_t (tb_6 (List.mem_of_getElem? (i := 111) (by rfl))) rfl
theorem wd_1312 : (Cond.constant RX11 303 100000) ∈ BIG := big_t (tb_6 (List.mem_of_getElem? (i := 112) (by rfl))) rfl
theorem wd_1313 : (Cond.methodLink RX11 304 yX4_buy) ∈ BIG := big_t (tb_6 (List.mem_of_getElem? (i := 113) (by rfl))) rfl
theorem wd_1314 : (Cond.instanceMethod yX4_buy) ∈ BIG := big_t (tb_6 (List.mem_of_getElem? (i := 114) (by rfl))) rfl
theorem wd_1315 : (Cond.selects RX4 yX4_buy yX4_buy) ∈ BIG := big_t (tb_6 (List.mem_of_getElem? (i := 115) (by rfl))) rfl
theorem wd_1316 : (Cond.code yX4_buy prog_6_method_15_code 5 (some .int)) ∈ BIG := big_t (tb_6 (List.mem_of_getElem? (i := 116) (by rfl))) rfl
theorem wd_1317 : (Cond.methodLink RX4 141 yX4_cheapestOffer) ∈ BIG := big_t (tb_6 (List.mem_of_getElem? (i := 117) (by rfl))) rfl
theorem wn_1318 : (Cond.privateMethod yX4_cheapestOffer) ∈ tables_1 := tb_6 (List.mem_of_getElem? (i := 118) (by rfl))
theorem wd_1319 : (Cond.instanceMethod yX4_cheapestOffer) ∈ BIG := big_t (tb_6 (List.mem_of_getElem? (i := 119) (by rfl))) rfl
theorem wd_1320 : (Cond.code yX4_cheapestOffer prog_6_method_16_code 3 (some .int)) ∈ BIG := big_t (tb_6 (List.mem_of_getElem? (i := 120) (by rfl))) rfl
theorem wd_1321 : (Cond.methodLink RL 120 yX11_spent) ∈ BIG := big_t (tb_6 (List.mem_of_getElem? (i := 121) (by rfl))) rfl
theorem wd_1322 : (Cond.instanceMethod yX11_spent) ∈ BIG := big_t (tb_6 (List.mem_of_getElem? (i := 122) (by rfl))) rfl
theorem wd_1323 : (Cond.selects RX11 yX11_spent yX11_spent) ∈ BIG := big_t (tb_6 (List.mem_of_getElem? (i := 123) (by rfl))) rfl
theorem wd_1324 : (Cond.code yX11_spent prog_1_method_27_code 1 (some .int)) ∈ BIG := big_t (tb_6 (List.mem_of_getElem? (i := 124) (by rfl))) rfl
theorem wd_1325 : (Cond.methodLink RL 124 yX11_right) ∈ BIG := big_t (tb_6 (List.mem_of_getElem? (i := 125) (by rfl))) rfl
theorem wd_1326 : (Cond.instanceMethod yX11_right) ∈ BIG := big_t (tb_6 (List.mem_of_getElem? (i := 126) (by rfl))) rfl
theorem wd_1327 : (Cond.selects RX11 yX11_right yX11_right) ∈ BIG := big_t (tb_6 (List.mem_of_getElem? (i := 127) (by rfl))) rfl
theorem wd_1328 : (Cond.code yX11_right prog_1_method_28_code 1 (some .int)) ∈ BIG := big_t (tb_6 (List.mem_of_getElem? (i := 128) (by rfl))) rfl
theorem wd_1329 : (Cond.methodLink RX11 307 yX4_countRight) ∈ BIG := big_t (tb_6 (List.mem_of_getElem? (i := 129) (by rfl))) rfl
theorem wd_1330 : (Cond.instanceMethod yX4_countRight) ∈ BIG := big_t (tb_6 (List.mem_of_getElem? (i := 130) (by rfl))) rfl
theorem wd_1331 : (Cond.selects RX4 yX4_countRight yX4_countRight) ∈ BIG := big_t (tb_6 (List.mem_of_getElem? (i := 131) (by rfl))) rfl
theorem wd_1332 : (Cond.code yX4_countRight prog_6_method_10_code 4 (some .int)) ∈ BIG := big_t (tb_6 (List.mem_of_getElem? (i := 132) (by rfl))) rfl
theorem wd_1333 : (Cond.methodLink RL 128 yX11_walks) ∈ BIG := big_t (tb_6 (List.mem_of_getElem? (i := 133) (by rfl))) rfl
theorem wd_1334 : (Cond.instanceMethod yX11_walks) ∈ BIG := big_t (tb_6 (List.mem_of_getElem? (i := 134) (by rfl))) rfl
theorem wd_1335 : (Cond.selects RX11 yX11_walks yX11_walks) ∈ BIG := big_t (tb_6 (List.mem_of_getElem? (i := 135) (by rfl))) rfl
theorem wd_1336 : (Cond.code yX11_walks prog_1_method_29_code 2 (some .int)) ∈ BIG := big_t (tb_6 (List.mem_of_getElem? (i := 136) (by rfl))) rfl
theorem wd_1337 : (Cond.methodLink RX11 311 yX0_sort) ∈ BIG := big_t (tb_6 (List.mem_of_getElem? (i := 137) (by rfl))) rfl
theorem wd_1338 : (Cond.instanceMethod yX0_sort) ∈ BIG := big_t (tb_6 (List.mem_of_getElem? (i := 138) (by rfl))) rfl
theorem wd_1339 : (Cond.selects RX0 yX0_sort yX0_sort) ∈ BIG := big_t (tb_6 (List.mem_of_getElem? (i := 139) (by rfl))) rfl
theorem wd_1340 : (Cond.code yX0_sort prog_2_method_2_code 4 none) ∈ BIG := big_t (tb_6 (List.mem_of_getElem? (i := 140) (by rfl))) rfl
theorem wd_1341 : (Cond.methodLink RX0 40 yX0_farOf) ∈ BIG := big_t (tb_6 (List.mem_of_getElem? (i := 141) (by rfl))) rfl
theorem wd_1342 : (Cond.static yX0_farOf) ∈ BIG := big_t (tb_6 (List.mem_of_getElem? (i := 142) (by rfl))) rfl
theorem wd_1343 : (Cond.code yX0_farOf prog_2_method_3_code 4 (some .int)) ∈ BIG := big_t (tb_6 (List.mem_of_getElem? (i := 143) (by rfl))) rfl
theorem wd_1344 : (Cond.methodLink RX0 56 yJ9_max_7cf53) ∈ BIG := big_t (tb_6 (List.mem_of_getElem? (i := 144) (by rfl))) rfl
theorem wd_1345 : (Cond.methodLink RX0 44 yX0_insert) ∈ BIG := big_t (tb_6 (List.mem_of_getElem? (i := 145) (by rfl))) rfl
theorem wn_1346 : (Cond.privateMethod yX0_insert) ∈ tables_1 := tb_6 (List.mem_of_getElem? (i := 146) (by rfl))
theorem wd_1347 : (Cond.instanceMethod yX0_insert) ∈ BIG := big_t (tb_6 (List.mem_of_getElem? (i := 147) (by rfl))) rfl
theorem wd_1348 : (Cond.code yX0_insert prog_2_method_4_code 4 none) ∈ BIG := big_t (tb_6 (List.mem_of_getElem? (i := 148) (by rfl))) rfl
theorem wd_1349 : (Cond.methodLink RX11 315 yX0_steps) ∈ BIG := big_t (tb_6 (List.mem_of_getElem? (i := 149) (by rfl))) rfl
theorem wd_1350 : (Cond.instanceMethod yX0_steps) ∈ BIG := big_t (tb_6 (List.mem_of_getElem? (i := 150) (by rfl))) rfl
theorem wd_1351 : (Cond.selects RX0 yX0_steps yX0_steps) ∈ BIG := big_t (tb_6 (List.mem_of_getElem? (i := 151) (by rfl))) rfl
theorem wd_1352 : (Cond.code yX0_steps prog_2_method_5_code 5 (some .int)) ∈ BIG := big_t (tb_6 (List.mem_of_getElem? (i := 152) (by rfl))) rfl
theorem wd_1353 : (Cond.methodLink RL 132 yX11_bag) ∈ BIG := big_t (tb_6 (List.mem_of_getElem? (i := 153) (by rfl))) rfl
theorem wd_1354 : (Cond.instanceMethod yX11_bag) ∈ BIG := big_t (tb_6 (List.mem_of_getElem? (i := 154) (by rfl))) rfl
theorem wd_1355 : (Cond.selects RX11 yX11_bag yX11_bag) ∈ BIG := big_t (tb_6 (List.mem_of_getElem? (i := 155) (by rfl))) rfl
theorem wd_1356 : (Cond.code yX11_bag prog_1_method_30_code 2 (some .int)) ∈ BIG := big_t (tb_6 (List.mem_of_getElem? (i := 156) (by rfl))) rfl
theorem wd_1357 : (Cond.methodLink RL 136 yX11_queue) ∈ BIG := big_t (tb_6 (List.mem_of_getElem? (i := 157) (by rfl))) rfl
theorem wd_1358 : (Cond.instanceMethod yX11_queue) ∈ BIG := big_t (tb_6 (List.mem_of_getElem? (i := 158) (by rfl))) rfl
theorem wd_1359 : (Cond.selects RX11 yX11_queue yX11_queue) ∈ BIG := big_t (tb_6 (List.mem_of_getElem? (i := 159) (by rfl))) rfl
theorem wd_1360 : (Cond.code yX11_queue prog_1_method_31_code 4 (some .int)) ∈ BIG := big_t (tb_6 (List.mem_of_getElem? (i := 160) (by rfl))) rfl
theorem wd_1361 : (Cond.methodLink RX11 322 yX0_formLine) ∈ BIG := big_t (tb_6 (List.mem_of_getElem? (i := 161) (by rfl))) rfl
theorem wd_1362 : (Cond.instanceMethod yX0_formLine) ∈ BIG := big_t (tb_6 (List.mem_of_getElem? (i := 162) (by rfl))) rfl
theorem wd_1363 : (Cond.selects RX0 yX0_formLine yX0_formLine) ∈ BIG := big_t (tb_6 (List.mem_of_getElem? (i := 163) (by rfl))) rfl
theorem wd_1364 : (Cond.code yX0_formLine prog_2_method_6_code 4 none) ∈ BIG := big_t (tb_6 (List.mem_of_getElem? (i := 164) (by rfl))) rfl
theorem wd_1365 : (Cond.methodLink RX0 68 yX0_addToHouse) ∈ BIG := big_t (tb_6 (List.mem_of_getElem? (i := 165) (by rfl))) rfl
theorem wn_1366 : (Cond.privateMethod yX0_addToHouse) ∈ tables_1 := tb_6 (List.mem_of_getElem? (i := 166) (by rfl))
theorem wd_1367 : (Cond.instanceMethod yX0_addToHouse) ∈ BIG := big_t (tb_6 (List.mem_of_getElem? (i := 167) (by rfl))) rfl
theorem wd_1368 : (Cond.code yX0_addToHouse prog_2_method_7_code 5 none) ∈ BIG := big_t (tb_6 (List.mem_of_getElem? (i := 168) (by rfl))) rfl
theorem wd_1369 : (Cond.methodLink RX11 329 yX0_serveLine) ∈ BIG := big_t (tb_6 (List.mem_of_getElem? (i := 169) (by rfl))) rfl
theorem wd_1370 : (Cond.instanceMethod yX0_serveLine) ∈ BIG := big_t (tb_6 (List.mem_of_getElem? (i := 170) (by rfl))) rfl
theorem wd_1371 : (Cond.selects RX0 yX0_serveLine yX0_serveLine) ∈ BIG := big_t (tb_6 (List.mem_of_getElem? (i := 171) (by rfl))) rfl
theorem wd_1372 : (Cond.code yX0_serveLine prog_2_method_8_code 4 none) ∈ BIG := big_t (tb_6 (List.mem_of_getElem? (i := 172) (by rfl))) rfl
theorem wd_1373 : (Cond.methodLink RX0 75 yJ7_fill_53178) ∈ BIG := big_t (tb_6 (List.mem_of_getElem? (i := 173) (by rfl))) rfl
theorem wd_1374 : (Cond.methodLink RX0 87 yX0_serve) ∈ BIG := big_t (tb_6 (List.mem_of_getElem? (i := 174) (by rfl))) rfl
theorem wn_1375 : (Cond.privateMethod yX0_serve) ∈ tables_1 := tb_6 (List.mem_of_getElem? (i := 175) (by rfl))
theorem wd_1376 : (Cond.instanceMethod yX0_serve) ∈ BIG := big_t (tb_6 (List.mem_of_getElem? (i := 176) (by rfl))) rfl
theorem wd_1377 : (Cond.code yX0_serve prog_2_method_9_code 5 none) ∈ BIG := big_t (tb_6 (List.mem_of_getElem? (i := 177) (by rfl))) rfl
theorem wd_1378 : (Cond.methodLink RL 140 yX11_label) ∈ BIG := big_t (tb_6 (List.mem_of_getElem? (i := 178) (by rfl))) rfl
theorem wd_1379 : (Cond.instanceMethod yX11_label) ∈ BIG := big_t (tb_6 (List.mem_of_getElem? (i := 179) (by rfl))) rfl
theorem wd_1380 : (Cond.selects RX11 yX11_label yX11_label) ∈ BIG := big_t (tb_6 (List.mem_of_getElem? (i := 180) (by rfl))) rfl
theorem wd_1381 : (Cond.code yX11_label prog_1_method_32_code 2 (some .int)) ∈ BIG := big_t (tb_6 (List.mem_of_getElem? (i := 181) (by rfl))) rfl
theorem wd_1382 : (Cond.methodLink RX11 338 yX0_write) ∈ BIG := big_t (tb_6 (List.mem_of_getElem? (i := 182) (by rfl))) rfl
theorem wd_1383 : (Cond.instanceMethod yX0_write) ∈ BIG := big_t (tb_6 (List.mem_of_getElem? (i := 183) (by rfl))) rfl
theorem wd_1384 : (Cond.selects RX0 yX0_write yX0_write) ∈ BIG := big_t (tb_6 (List.mem_of_getElem? (i := 184) (by rfl))) rfl
theorem wd_1385 : (Cond.code yX0_write prog_2_method_10_code 5 (some .int)) ∈ BIG := big_t (tb_6 (List.mem_of_getElem? (i := 185) (by rfl))) rfl
theorem wd_1386 : (Cond.methodLink RX0 93 yX0_put) ∈ BIG := big_t (tb_6 (List.mem_of_getElem? (i := 186) (by rfl))) rfl
theorem wn_1387 : (Cond.privateMethod yX0_put) ∈ tables_1 := tb_6 (List.mem_of_getElem? (i := 187) (by rfl))
theorem wd_1388 : (Cond.instanceMethod yX0_put) ∈ BIG := big_t (tb_6 (List.mem_of_getElem? (i := 188) (by rfl))) rfl
theorem wd_1389 : (Cond.code yX0_put prog_2_method_11_code 2 none) ∈ BIG := big_t (tb_6 (List.mem_of_getElem? (i := 189) (by rfl))) rfl
theorem wn_1390 : (Cond.methodLinkNest RX0 101 yX11_letterOf "WinterToys") ∈ tables_1 := tb_6 (List.mem_of_getElem? (i := 190) (by rfl))
theorem wd_1391 : (Cond.methodLink RL 144 yX11_at) ∈ BIG := big_t (tb_6 (List.mem_of_getElem? (i := 191) (by rfl))) rfl
theorem wd_1392 : (Cond.instanceMethod yX11_at) ∈ BIG := big_t (tb_6 (List.mem_of_getElem? (i := 192) (by rfl))) rfl
theorem wd_1393 : (Cond.selects RX11 yX11_at yX11_at) ∈ BIG := big_t (tb_6 (List.mem_of_getElem? (i := 193) (by rfl))) rfl
theorem wd_1394 : (Cond.code yX11_at prog_1_method_33_code 2 (some .int)) ∈ BIG := big_t (tb_6 (List.mem_of_getElem? (i := 194) (by rfl))) rfl
theorem wd_1395 : (Cond.classLink RL 10 RX12) ∈ BIG := big_t (tb_6 (List.mem_of_getElem? (i := 195) (by rfl))) rfl
theorem wd_1396 : (Cond.instantiable RX12 94) ∈ BIG := big_t (tb_6 (List.mem_of_getElem? (i := 196) (by rfl))) rfl
theorem wd_1397 : (Cond.methodLink RL 12 yX12_init) ∈ BIG := big_t (tb_6 (List.mem_of_getElem? (i := 197) (by rfl))) rfl
theorem wd_1398 : (Cond.instanceMethod yX12_init) ∈ BIG := big_t (tb_6 (List.mem_of_getElem? (i := 198) (by rfl))) rfl
theorem wd_1399 : (Cond.code yX12_init prog_14_method_1_code 1 none) ∈ BIG := big_t (tb_6 (List.mem_of_getElem? (i := 199) (by rfl))) rfl
theorem wd_1400 : (Cond.methodLink RX12 1 objectInit) ∈ BIG := big_t (tb_6 (List.mem_of_getElem? (i := 200) (by rfl))) rfl
theorem wd_1401 : (Cond.fieldLink RX12 7 "WinterToysModel" "tape" "[I") ∈ BIG := big_t (tb_6 (List.mem_of_getElem? (i := 201) (by rfl))) rfl
theorem wd_1402 : (Cond.fieldLink RX12 13 "WinterToysModel" "taped" "I") ∈ BIG := big_t (tb_6 (List.mem_of_getElem? (i := 202) (by rfl))) rfl
theorem wd_1403 : (Cond.fieldLink RX12 17 "WinterToysModel" "size" "I") ∈ BIG := big_t (tb_6 (List.mem_of_getElem? (i := 203) (by rfl))) rfl
theorem wd_1404 : (Cond.fieldLink RX12 20 "WinterToysModel" "sign" "I") ∈ BIG := big_t (tb_6 (List.mem_of_getElem? (i := 204) (by rfl))) rfl
theorem wd_1405 : (Cond.fieldLink RX12 23 "WinterToysModel" "signAt" "I") ∈ BIG := big_t (tb_6 (List.mem_of_getElem? (i := 205) (by rfl))) rfl
theorem wd_1406 : (Cond.fieldLink RX12 26 "WinterToysModel" "signEnd" "I") ∈ BIG := big_t (tb_6 (List.mem_of_getElem? (i := 206) (by rfl))) rfl
theorem wd_1407 : (Cond.fieldLink RX12 29 "WinterToysModel" "value" "I") ∈ BIG := big_t (tb_6 (List.mem_of_getElem? (i := 207) (by rfl))) rfl
theorem wd_1408 : (Cond.fieldLink RX12 32 "WinterToysModel" "word" "J") ∈ BIG := big_t (tb_6 (List.mem_of_getElem? (i := 208) (by rfl))) rfl
theorem wd_1409 : (Cond.fieldLink RX12 36 "WinterToysModel" "faultKind" "I") ∈ BIG := big_t (tb_6 (List.mem_of_getElem? (i := 209) (by rfl))) rfl
theorem wd_1410 : (Cond.fieldLink RX12 39 "WinterToysModel" "faultPlace" "I") ∈ BIG := big_t (tb_6 (List.mem_of_getElem? (i := 210) (by rfl))) rfl
theorem wd_1411 : (Cond.fieldLink RX12 42 "WinterToysModel" "toldKind" "I") ∈ BIG := big_t (tb_6 (List.mem_of_getElem? (i := 211) (by rfl))) rfl
theorem wd_1412 : (Cond.fieldLink RX12 45 "WinterToysModel" "toldPlace" "I") ∈ BIG := big_t (tb_6 (List.mem_of_getElem? (i := 212) (by rfl))) rfl
theorem wd_1413 : (Cond.fieldLink RX12 48 "WinterToysModel" "bank" "I") ∈ BIG := big_t (tb_6 (List.mem_of_getElem? (i := 213) (by rfl))) rfl
theorem wd_1414 : (Cond.fieldLink RX12 51 "WinterToysModel" "into" "I") ∈ BIG := big_t (tb_6 (List.mem_of_getElem? (i := 214) (by rfl))) rfl
theorem wd_1415 : (Cond.fieldLink RX12 54 "WinterToysModel" "kinds" "[I") ∈ BIG := big_t (tb_6 (List.mem_of_getElem? (i := 215) (by rfl))) rfl
theorem wd_1416 : (Cond.fieldLink RX12 57 "WinterToysModel" "marks" "[I") ∈ BIG := big_t (tb_6 (List.mem_of_getElem? (i := 216) (by rfl))) rfl
theorem wd_1417 : (Cond.fieldLink RX12 60 "WinterToysModel" "others" "[I") ∈ BIG := big_t (tb_6 (List.mem_of_getElem? (i := 217) (by rfl))) rfl
theorem wd_1418 : (Cond.fieldLink RX12 63 "WinterToysModel" "evens" "[I") ∈ BIG := big_t (tb_6 (List.mem_of_getElem? (i := 218) (by rfl))) rfl
theorem wd_1419 : (Cond.fieldLink RX12 66 "WinterToysModel" "kindNames" "[J") ∈ BIG := big_t (tb_6 (List.mem_of_getElem? (i := 219) (by rfl))) rfl
theorem wd_1420 : (Cond.fieldLink RX12 70 "WinterToysModel" "markNames" "[J") ∈ BIG := big_t (tb_6 (List.mem_of_getElem? (i := 220) (by rfl))) rfl
theorem wd_1421 : (Cond.fieldLink RX12 73 "WinterToysModel" "worths" "[I") ∈ BIG := big_t (tb_6 (List.mem_of_getElem? (i := 221) (by rfl))) rfl
theorem wd_1422 : (Cond.fieldLink RX12 76 "WinterToysModel" "prices" "[I") ∈ BIG := big_t (tb_6 (List.mem_of_getElem? (i := 222) (by rfl))) rfl
theorem wd_1423 : (Cond.fieldLink RX12 79 "WinterToysModel" "shelves" "[I") ∈ BIG := big_t (tb_6 (List.mem_of_getElem? (i := 223) (by rfl))) rfl
theorem wd_1424 : (Cond.fieldLink RX12 82 "WinterToysModel" "markBits" "[I") ∈ BIG := big_t (tb_6 (List.mem_of_getElem? (i := 224) (by rfl))) rfl
theorem wd_1425 : (Cond.fieldLink RX12 85 "WinterToysModel" "rules" "[I") ∈ BIG := big_t (tb_6 (List.mem_of_getElem? (i := 225) (by rfl))) rfl
theorem wd_1426 : (Cond.fieldLink RX12 88 "WinterToysModel" "code" "[I") ∈ BIG := big_t (tb_6 (List.mem_of_getElem? (i := 226) (by rfl))) rfl
theorem wd_1427 : (Cond.fieldLink RX12 91 "WinterToysModel" "codes" "[I") ∈ BIG := big_t (tb_6 (List.mem_of_getElem? (i := 227) (by rfl))) rfl
theorem wd_1428 : (Cond.fieldLink RX12 94 "WinterToysModel" "wanted" "[J") ∈ BIG := big_t (tb_6 (List.mem_of_getElem? (i := 228) (by rfl))) rfl
theorem wd_1429 : (Cond.fieldLink RX12 97 "WinterToysModel" "frame" "[I") ∈ BIG := big_t (tb_6 (List.mem_of_getElem? (i := 229) (by rfl))) rfl
theorem wd_1430 : (Cond.fieldLink RX12 100 "WinterToysModel" "phase" "[I") ∈ BIG := big_t (tb_6 (List.mem_of_getElem? (i := 230) (by rfl))) rfl
theorem wd_1431 : (Cond.fieldLink RX12 103 "WinterToysModel" "begins" "[Z") ∈ BIG := big_t (tb_6 (List.mem_of_getElem? (i := 231) (by rfl))) rfl
theorem wd_1432 : (Cond.fieldLink RX12 107 "WinterToysModel" "base" "[I") ∈ BIG := big_t (tb_6 (List.mem_of_getElem? (i := 232) (by rfl))) rfl
theorem wd_1433 : (Cond.fieldLink RX12 110 "WinterToysModel" "deep" "I") ∈ BIG := big_t (tb_6 (List.mem_of_getElem? (i := 233) (by rfl))) rfl
theorem wd_1434 : (Cond.fieldLink RX12 113 "WinterToysModel" "open" "I") ∈ BIG := big_t (tb_6 (List.mem_of_getElem? (i := 234) (by rfl))) rfl
theorem wd_1435 : (Cond.fieldLink RX12 116 "WinterToysModel" "ops" "[I") ∈ BIG := big_t (tb_6 (List.mem_of_getElem? (i := 235) (by rfl))) rfl
theorem wd_1436 : (Cond.fieldLink RX12 119 "WinterToysModel" "opMany" "I") ∈ BIG := big_t (tb_6 (List.mem_of_getElem? (i := 236) (by rfl))) rfl
theorem wd_1437 : (Cond.fieldLink RX12 122 "WinterToysModel" "operand" "Z") ∈ BIG := big_t (tb_6 (List.mem_of_getElem? (i := 237) (by rfl))) rfl
theorem wd_1438 : (Cond.fieldLink RX12 126 "WinterToysModel" "acts" "I") ∈ BIG := big_t (tb_6 (List.mem_of_getElem? (i := 238) (by rfl))) rfl
theorem wd_1439 : (Cond.fieldLink RX12 129 "WinterToysModel" "reports" "I") ∈ BIG := big_t (tb_6 (List.mem_of_getElem? (i := 239) (by rfl))) rfl
theorem wd_1440 : (Cond.fieldLink RX12 132 "WinterToysModel" "told" "I") ∈ BIG := big_t (tb_7 (List.mem_of_getElem? (i := 0) (by rfl))) rfl
theorem wd_1441 : (Cond.fieldLink RX12 135 "WinterToysModel" "sorts" "[I") ∈ BIG := big_t (tb_7 (List.mem_of_getElem? (i := 1) (by rfl))) rfl
theorem wd_1442 : (Cond.fieldLink RX12 138 "WinterToysModel" "data" "[I") ∈ BIG := big_t (tb_7 (List.mem_of_getElem? (i := 2) (by rfl))) rfl
theorem wd_1443 : (Cond.fieldLink RX12 141 "WinterToysModel" "voids" "[I") ∈ BIG := big_t (tb_7 (List.mem_of_getElem? (i := 3) (by rfl))) rfl
theorem wd_1444 : (Cond.fieldLink RX12 144 "WinterToysModel" "asked" "[J") ∈ BIG := big_t (tb_7 (List.mem_of_getElem? (i := 4) (by rfl))) rfl
theorem wd_1445 : (Cond.fieldLink RX12 147 "WinterToysModel" "words" "[J") ∈ BIG := big_t (tb_7 (List.mem_of_getElem? (i := 5) (by rfl))) rfl
theorem wd_1446 : (Cond.fieldLink RX12 150 "WinterToysModel" "children" "I") ∈ BIG := big_t (tb_7 (List.mem_of_getElem? (i := 6) (by rfl))) rfl
theorem wd_1447 : (Cond.fieldLink RX12 153 "WinterToysModel" "codeOf" "[I") ∈ BIG := big_t (tb_7 (List.mem_of_getElem? (i := 7) (by rfl))) rfl
theorem wd_1448 : (Cond.fieldLink RX12 156 "WinterToysModel" "ageOf" "[I") ∈ BIG := big_t (tb_7 (List.mem_of_getElem? (i := 8) (by rfl))) rfl
theorem wd_1449 : (Cond.fieldLink RX12 159 "WinterToysModel" "youngest" "[I") ∈ BIG := big_t (tb_7 (List.mem_of_getElem? (i := 9) (by rfl))) rfl
theorem wd_1450 : (Cond.fieldLink RX12 162 "WinterToysModel" "oldest" "[I") ∈ BIG := big_t (tb_7 (List.mem_of_getElem? (i := 10) (by rfl))) rfl
theorem wd_1451 : (Cond.fieldLink RX12 165 "WinterToysModel" "schoolOf" "[I") ∈ BIG := big_t (tb_7 (List.mem_of_getElem? (i := 11) (by rfl))) rfl
theorem wd_1452 : (Cond.fieldLink RX12 168 "WinterToysModel" "houseOf" "[I") ∈ BIG := big_t (tb_7 (List.mem_of_getElem? (i := 12) (by rfl))) rfl
theorem wd_1453 : (Cond.fieldLink RX12 171 "WinterToysModel" "dayOf" "[I") ∈ BIG := big_t (tb_7 (List.mem_of_getElem? (i := 13) (by rfl))) rfl
theorem wd_1454 : (Cond.fieldLink RX12 174 "WinterToysModel" "wishMany" "[I") ∈ BIG := big_t (tb_7 (List.mem_of_getElem? (i := 14) (by rfl))) rfl
theorem wd_1455 : (Cond.fieldLink RX12 177 "WinterToysModel" "wishOf" "[J") ∈ BIG := big_t (tb_7 (List.mem_of_getElem? (i := 15) (by rfl))) rfl
theorem wd_1456 : (Cond.fieldLink RX12 180 "WinterToysModel" "reportMany" "[I") ∈ BIG := big_t (tb_7 (List.mem_of_getElem? (i := 16) (by rfl))) rfl
theorem wd_1457 : (Cond.fieldLink RX12 183 "WinterToysModel" "childOf" "[I") ∈ BIG := big_t (tb_7 (List.mem_of_getElem? (i := 17) (by rfl))) rfl
theorem wd_1458 : (Cond.fieldLink RX12 186 "WinterToysModel" "heap" "[J") ∈ BIG := big_t (tb_7 (List.mem_of_getElem? (i := 18) (by rfl))) rfl
theorem wd_1459 : (Cond.fieldLink RX12 189 "WinterToysModel" "laneFrom" "[I") ∈ BIG := big_t (tb_7 (List.mem_of_getElem? (i := 19) (by rfl))) rfl
theorem wd_1460 : (Cond.fieldLink RX12 192 "WinterToysModel" "laneTo" "[I") ∈ BIG := big_t (tb_7 (List.mem_of_getElem? (i := 20) (by rfl))) rfl
theorem wd_1461 : (Cond.fieldLink RX12 195 "WinterToysModel" "room" "[I") ∈ BIG := big_t (tb_7 (List.mem_of_getElem? (i := 21) (by rfl))) rfl
theorem wd_1462 : (Cond.fieldLink RX12 198 "WinterToysModel" "price" "[J") ∈ BIG := big_t (tb_7 (List.mem_of_getElem? (i := 22) (by rfl))) rfl
theorem wd_1463 : (Cond.fieldLink RX12 201 "WinterToysModel" "lanes" "I") ∈ BIG := big_t (tb_7 (List.mem_of_getElem? (i := 23) (by rfl))) rfl
theorem wd_1464 : (Cond.fieldLink RX12 204 "WinterToysModel" "far" "[J") ∈ BIG := big_t (tb_7 (List.mem_of_getElem? (i := 24) (by rfl))) rfl
theorem wd_1465 : (Cond.fieldLink RX12 207 "WinterToysModel" "by" "[I") ∈ BIG := big_t (tb_7 (List.mem_of_getElem? (i := 25) (by rfl))) rfl
theorem wd_1466 : (Cond.fieldLink RX12 210 "WinterToysModel" "pairs" "[I") ∈ BIG := big_t (tb_7 (List.mem_of_getElem? (i := 26) (by rfl))) rfl
theorem wd_1467 : (Cond.fieldLink RX12 213 "WinterToysModel" "got" "[Z") ∈ BIG := big_t (tb_7 (List.mem_of_getElem? (i := 27) (by rfl))) rfl
theorem wd_1468 : (Cond.fieldLink RX12 216 "WinterToysModel" "came" "[I") ∈ BIG := big_t (tb_7 (List.mem_of_getElem? (i := 28) (by rfl))) rfl
theorem wd_1469 : (Cond.fieldLink RX12 219 "WinterToysModel" "hasGiven" "Z") ∈ BIG := big_t (tb_7 (List.mem_of_getElem? (i := 29) (by rfl))) rfl
theorem wd_1470 : (Cond.fieldLink RX12 222 "WinterToysModel" "thenMany" "I") ∈ BIG := big_t (tb_7 (List.mem_of_getElem? (i := 30) (by rfl))) rfl
theorem wd_1471 : (Cond.fieldLink RX12 225 "WinterToysModel" "thenDue" "[I") ∈ BIG := big_t (tb_7 (List.mem_of_getElem? (i := 31) (by rfl))) rfl
theorem wd_1472 : (Cond.fieldLink RX12 228 "WinterToysModel" "thenHouse" "[I") ∈ BIG := big_t (tb_7 (List.mem_of_getElem? (i := 32) (by rfl))) rfl
theorem wd_1473 : (Cond.fieldLink RX12 231 "WinterToysModel" "thenDay" "[I") ∈ BIG := big_t (tb_7 (List.mem_of_getElem? (i := 33) (by rfl))) rfl
theorem wd_1474 : (Cond.fieldLink RX12 234 "WinterToysModel" "thenAge" "[I") ∈ BIG := big_t (tb_7 (List.mem_of_getElem? (i := 34) (by rfl))) rfl
theorem wd_1475 : (Cond.fieldLink RX12 237 "WinterToysModel" "thenMay" "[Z") ∈ BIG := big_t (tb_7 (List.mem_of_getElem? (i := 35) (by rfl))) rfl
theorem wd_1476 : (Cond.fieldLink RX12 240 "WinterToysModel" "gave" "[I") ∈ BIG := big_t (tb_7 (List.mem_of_getElem? (i := 36) (by rfl))) rfl
theorem wd_1477 : (Cond.fieldLink RX12 243 "WinterToysModel" "has" "[I") ∈ BIG := big_t (tb_7 (List.mem_of_getElem? (i := 37) (by rfl))) rfl
theorem wd_1478 : (Cond.fieldLink RX12 246 "WinterToysModel" "over" "[I") ∈ BIG := big_t (tb_7 (List.mem_of_getElem? (i := 38) (by rfl))) rfl
theorem wd_1479 : (Cond.fieldLink RX12 249 "WinterToysModel" "givenMany" "I") ∈ BIG := big_t (tb_7 (List.mem_of_getElem? (i := 39) (by rfl))) rfl
theorem wd_1480 : (Cond.fieldLink RX12 252 "WinterToysModel" "givenPoints" "I") ∈ BIG := big_t (tb_7 (List.mem_of_getElem? (i := 40) (by rfl))) rfl
theorem wd_1481 : (Cond.fieldLink RX12 255 "WinterToysModel" "hasSpent" "Z") ∈ BIG := big_t (tb_7 (List.mem_of_getElem? (i := 41) (by rfl))) rfl
theorem wd_1482 : (Cond.fieldLink RX12 258 "WinterToysModel" "spentCoins" "I") ∈ BIG := big_t (tb_7 (List.mem_of_getElem? (i := 42) (by rfl))) rfl
theorem wd_1483 : (Cond.fieldLink RX12 261 "WinterToysModel" "there" "[I") ∈ BIG := big_t (tb_7 (List.mem_of_getElem? (i := 43) (by rfl))) rfl
theorem wd_1484 : (Cond.fieldLink RX12 264 "WinterToysModel" "chosen" "I") ∈ BIG := big_t (tb_7 (List.mem_of_getElem? (i := 44) (by rfl))) rfl
theorem wd_1485 : (Cond.fieldLink RX12 267 "WinterToysModel" "costOf" "[I") ∈ BIG := big_t (tb_7 (List.mem_of_getElem? (i := 45) (by rfl))) rfl
theorem wd_1486 : (Cond.fieldLink RX12 270 "WinterToysModel" "setOf" "[I") ∈ BIG := big_t (tb_7 (List.mem_of_getElem? (i := 46) (by rfl))) rfl
theorem wd_1487 : (Cond.fieldLink RX12 273 "WinterToysModel" "done" "[Z") ∈ BIG := big_t (tb_7 (List.mem_of_getElem? (i := 47) (by rfl))) rfl
theorem wd_1488 : (Cond.fieldLink RX12 276 "WinterToysModel" "bags" "[I") ∈ BIG := big_t (tb_7 (List.mem_of_getElem? (i := 48) (by rfl))) rfl
theorem wd_1489 : (Cond.fieldLink RX12 279 "WinterToysModel" "bagMany" "I") ∈ BIG := big_t (tb_7 (List.mem_of_getElem? (i := 49) (by rfl))) rfl
theorem wd_1490 : (Cond.fieldLink RX12 282 "WinterToysModel" "comers" "[I") ∈ BIG := big_t (tb_7 (List.mem_of_getElem? (i := 50) (by rfl))) rfl
theorem wd_1491 : (Cond.fieldLink RX12 285 "WinterToysModel" "minutes" "[I") ∈ BIG := big_t (tb_7 (List.mem_of_getElem? (i := 51) (by rfl))) rfl
theorem wd_1492 : (Cond.fieldLink RX12 288 "WinterToysModel" "windows" "[I") ∈ BIG := big_t (tb_7 (List.mem_of_getElem? (i := 52) (by rfl))) rfl
theorem wd_1493 : (Cond.fieldLink RX12 291 "WinterToysModel" "out" "[I") ∈ BIG := big_t (tb_7 (List.mem_of_getElem? (i := 53) (by rfl))) rfl
theorem wd_1494 : (Cond.fieldLink RX12 294 "WinterToysModel" "outs" "I") ∈ BIG := big_t (tb_7 (List.mem_of_getElem? (i := 54) (by rfl))) rfl
theorem wd_1495 : (Cond.laysFinal "WinterToysModel" "WinterToysModel" "tape" "[I") ∈ BIG := big_t (tb_7 (List.mem_of_getElem? (i := 55) (by rfl))) rfl
theorem wd_1496 : (Cond.soleField "WinterToysModel" "tape") ∈ BIG := big_t (tb_7 (List.mem_of_getElem? (i := 56) (by rfl))) rfl
theorem wd_1497 : (Cond.lays "WinterToysModel" "WinterToysModel" "taped" "I") ∈ BIG := big_t (tb_7 (List.mem_of_getElem? (i := 57) (by rfl))) rfl
theorem wd_1498 : (Cond.soleField "WinterToysModel" "taped") ∈ BIG := big_t (tb_7 (List.mem_of_getElem? (i := 58) (by rfl))) rfl
theorem wd_1499 : (Cond.lays "WinterToysModel" "WinterToysModel" "size" "I") ∈ BIG := big_t (tb_7 (List.mem_of_getElem? (i := 59) (by rfl))) rfl
theorem wd_1500 : (Cond.soleField "WinterToysModel" "size") ∈ BIG := big_t (tb_7 (List.mem_of_getElem? (i := 60) (by rfl))) rfl
theorem wd_1501 : (Cond.lays "WinterToysModel" "WinterToysModel" "sign" "I") ∈ BIG := big_t (tb_7 (List.mem_of_getElem? (i := 61) (by rfl))) rfl
theorem wd_1502 : (Cond.soleField "WinterToysModel" "sign") ∈ BIG := big_t (tb_7 (List.mem_of_getElem? (i := 62) (by rfl))) rfl
theorem wd_1503 : (Cond.lays "WinterToysModel" "WinterToysModel" "signAt" "I") ∈ BIG := big_t (tb_7 (List.mem_of_getElem? (i := 63) (by rfl))) rfl
theorem wd_1504 : (Cond.soleField "WinterToysModel" "signAt") ∈ BIG := big_t (tb_7 (List.mem_of_getElem? (i := 64) (by rfl))) rfl
theorem wd_1505 : (Cond.lays "WinterToysModel" "WinterToysModel" "signEnd" "I") ∈ BIG := big_t (tb_7 (List.mem_of_getElem? (i := 65) (by rfl))) rfl
theorem wd_1506 : (Cond.soleField "WinterToysModel" "signEnd") ∈ BIG := big_t (tb_7 (List.mem_of_getElem? (i := 66) (by rfl))) rfl
theorem wd_1507 : (Cond.lays "WinterToysModel" "WinterToysModel" "value" "I") ∈ BIG := big_t (tb_7 (List.mem_of_getElem? (i := 67) (by rfl))) rfl
theorem wd_1508 : (Cond.soleField "WinterToysModel" "value") ∈ BIG := big_t (tb_7 (List.mem_of_getElem? (i := 68) (by rfl))) rfl
theorem wd_1509 : (Cond.lays "WinterToysModel" "WinterToysModel" "word" "J") ∈ BIG := big_t (tb_7 (List.mem_of_getElem? (i := 69) (by rfl))) rfl
theorem wd_1510 : (Cond.soleField "WinterToysModel" "word") ∈ BIG := big_t (tb_7 (List.mem_of_getElem? (i := 70) (by rfl))) rfl
theorem wd_1511 : (Cond.lays "WinterToysModel" "WinterToysModel" "faultKind" "I") ∈ BIG := big_t (tb_7 (List.mem_of_getElem? (i := 71) (by rfl))) rfl
theorem wd_1512 : (Cond.soleField "WinterToysModel" "faultKind") ∈ BIG := big_t (tb_7 (List.mem_of_getElem? (i := 72) (by rfl))) rfl
theorem wd_1513 : (Cond.lays "WinterToysModel" "WinterToysModel" "faultPlace" "I") ∈ BIG := big_t (tb_7 (List.mem_of_getElem? (i := 73) (by rfl))) rfl
theorem wd_1514 : (Cond.soleField "WinterToysModel" "faultPlace") ∈ BIG := big_t (tb_7 (List.mem_of_getElem? (i := 74) (by rfl))) rfl
theorem wd_1515 : (Cond.lays "WinterToysModel" "WinterToysModel" "toldKind" "I") ∈ BIG := big_t (tb_7 (List.mem_of_getElem? (i := 75) (by rfl))) rfl
theorem wd_1516 : (Cond.soleField "WinterToysModel" "toldKind") ∈ BIG := big_t (tb_7 (List.mem_of_getElem? (i := 76) (by rfl))) rfl
theorem wd_1517 : (Cond.lays "WinterToysModel" "WinterToysModel" "toldPlace" "I") ∈ BIG := big_t (tb_7 (List.mem_of_getElem? (i := 77) (by rfl))) rfl
theorem wd_1518 : (Cond.soleField "WinterToysModel" "toldPlace") ∈ BIG := big_t (tb_7 (List.mem_of_getElem? (i := 78) (by rfl))) rfl
theorem wd_1519 : (Cond.lays "WinterToysModel" "WinterToysModel" "bank" "I") ∈ BIG := big_t (tb_7 (List.mem_of_getElem? (i := 79) (by rfl))) rfl
theorem wd_1520 : (Cond.soleField "WinterToysModel" "bank") ∈ BIG := big_t (tb_7 (List.mem_of_getElem? (i := 80) (by rfl))) rfl
theorem wd_1521 : (Cond.lays "WinterToysModel" "WinterToysModel" "into" "I") ∈ BIG := big_t (tb_7 (List.mem_of_getElem? (i := 81) (by rfl))) rfl
theorem wd_1522 : (Cond.soleField "WinterToysModel" "into") ∈ BIG := big_t (tb_7 (List.mem_of_getElem? (i := 82) (by rfl))) rfl
theorem wd_1523 : (Cond.laysFinal "WinterToysModel" "WinterToysModel" "kinds" "[I") ∈ BIG := big_t (tb_7 (List.mem_of_getElem? (i := 83) (by rfl))) rfl
theorem wd_1524 : (Cond.soleField "WinterToysModel" "kinds") ∈ BIG := big_t (tb_7 (List.mem_of_getElem? (i := 84) (by rfl))) rfl
theorem wd_1525 : (Cond.laysFinal "WinterToysModel" "WinterToysModel" "marks" "[I") ∈ BIG := big_t (tb_7 (List.mem_of_getElem? (i := 85) (by rfl))) rfl
theorem wd_1526 : (Cond.soleField "WinterToysModel" "marks") ∈ BIG := big_t (tb_7 (List.mem_of_getElem? (i := 86) (by rfl))) rfl
theorem wd_1527 : (Cond.laysFinal "WinterToysModel" "WinterToysModel" "others" "[I") ∈ BIG := big_t (tb_7 (List.mem_of_getElem? (i := 87) (by rfl))) rfl
theorem wd_1528 : (Cond.soleField "WinterToysModel" "others") ∈ BIG := big_t (tb_7 (List.mem_of_getElem? (i := 88) (by rfl))) rfl
theorem wd_1529 : (Cond.laysFinal "WinterToysModel" "WinterToysModel" "evens" "[I") ∈ BIG := big_t (tb_7 (List.mem_of_getElem? (i := 89) (by rfl))) rfl
theorem wd_1530 : (Cond.soleField "WinterToysModel" "evens") ∈ BIG := big_t (tb_7 (List.mem_of_getElem? (i := 90) (by rfl))) rfl
theorem wd_1531 : (Cond.laysFinal "WinterToysModel" "WinterToysModel" "kindNames" "[J") ∈ BIG := big_t (tb_7 (List.mem_of_getElem? (i := 91) (by rfl))) rfl
theorem wd_1532 : (Cond.soleField "WinterToysModel" "kindNames") ∈ BIG := big_t (tb_7 (List.mem_of_getElem? (i := 92) (by rfl))) rfl
theorem wd_1533 : (Cond.laysFinal "WinterToysModel" "WinterToysModel" "markNames" "[J") ∈ BIG := big_t (tb_7 (List.mem_of_getElem? (i := 93) (by rfl))) rfl
theorem wd_1534 : (Cond.soleField "WinterToysModel" "markNames") ∈ BIG := big_t (tb_7 (List.mem_of_getElem? (i := 94) (by rfl))) rfl
theorem wd_1535 : (Cond.laysFinal "WinterToysModel" "WinterToysModel" "worths" "[I") ∈ BIG := big_t (tb_7 (List.mem_of_getElem? (i := 95) (by rfl))) rfl
theorem wd_1536 : (Cond.soleField "WinterToysModel" "worths") ∈ BIG := big_t (tb_7 (List.mem_of_getElem? (i := 96) (by rfl))) rfl
theorem wd_1537 : (Cond.laysFinal "WinterToysModel" "WinterToysModel" "prices" "[I") ∈ BIG := big_t (tb_7 (List.mem_of_getElem? (i := 97) (by rfl))) rfl
theorem wd_1538 : (Cond.soleField "WinterToysModel" "prices") ∈ BIG := big_t (tb_7 (List.mem_of_getElem? (i := 98) (by rfl))) rfl
theorem wd_1539 : (Cond.laysFinal "WinterToysModel" "WinterToysModel" "shelves" "[I") ∈ BIG := big_t (tb_7 (List.mem_of_getElem? (i := 99) (by rfl))) rfl
theorem wd_1540 : (Cond.soleField "WinterToysModel" "shelves") ∈ BIG := big_t (tb_7 (List.mem_of_getElem? (i := 100) (by rfl))) rfl
theorem wd_1541 : (Cond.laysFinal "WinterToysModel" "WinterToysModel" "markBits" "[I") ∈ BIG := big_t (tb_7 (List.mem_of_getElem? (i := 101) (by rfl))) rfl
theorem wd_1542 : (Cond.soleField "WinterToysModel" "markBits") ∈ BIG := big_t (tb_7 (List.mem_of_getElem? (i := 102) (by rfl))) rfl
theorem wd_1543 : (Cond.laysFinal "WinterToysModel" "WinterToysModel" "rules" "[I") ∈ BIG := big_t (tb_7 (List.mem_of_getElem? (i := 103) (by rfl))) rfl
theorem wd_1544 : (Cond.soleField "WinterToysModel" "rules") ∈ BIG := big_t (tb_7 (List.mem_of_getElem? (i := 104) (by rfl))) rfl
theorem wd_1545 : (Cond.laysFinal "WinterToysModel" "WinterToysModel" "code" "[I") ∈ BIG := big_t (tb_7 (List.mem_of_getElem? (i := 105) (by rfl))) rfl
theorem wd_1546 : (Cond.soleField "WinterToysModel" "code") ∈ BIG := big_t (tb_7 (List.mem_of_getElem? (i := 106) (by rfl))) rfl
theorem wd_1547 : (Cond.laysFinal "WinterToysModel" "WinterToysModel" "codes" "[I") ∈ BIG := big_t (tb_7 (List.mem_of_getElem? (i := 107) (by rfl))) rfl
theorem wd_1548 : (Cond.soleField "WinterToysModel" "codes") ∈ BIG := big_t (tb_7 (List.mem_of_getElem? (i := 108) (by rfl))) rfl
theorem wd_1549 : (Cond.laysFinal "WinterToysModel" "WinterToysModel" "wanted" "[J") ∈ BIG := big_t (tb_7 (List.mem_of_getElem? (i := 109) (by rfl))) rfl
theorem wd_1550 : (Cond.soleField "WinterToysModel" "wanted") ∈ BIG := big_t (tb_7 (List.mem_of_getElem? (i := 110) (by rfl))) rfl
theorem wd_1551 : (Cond.laysFinal "WinterToysModel" "WinterToysModel" "frame" "[I") ∈ BIG := big_t (tb_7 (List.mem_of_getElem? (i := 111) (by rfl))) rfl
theorem wd_1552 : (Cond.soleField "WinterToysModel" "frame") ∈ BIG := big_t (tb_7 (List.mem_of_getElem? (i := 112) (by rfl))) rfl
theorem wd_1553 : (Cond.laysFinal "WinterToysModel" "WinterToysModel" "phase" "[I") ∈ BIG := big_t (tb_7 (List.mem_of_getElem? (i := 113) (by rfl))) rfl
theorem wd_1554 : (Cond.soleField "WinterToysModel" "phase") ∈ BIG := big_t (tb_7 (List.mem_of_getElem? (i := 114) (by rfl))) rfl
theorem wd_1555 : (Cond.laysFinal "WinterToysModel" "WinterToysModel" "begins" "[Z") ∈ BIG := big_t (tb_7 (List.mem_of_getElem? (i := 115) (by rfl))) rfl
theorem wd_1556 : (Cond.soleField "WinterToysModel" "begins") ∈ BIG := big_t (tb_7 (List.mem_of_getElem? (i := 116) (by rfl))) rfl
theorem wd_1557 : (Cond.laysFinal "WinterToysModel" "WinterToysModel" "base" "[I") ∈ BIG := big_t (tb_7 (List.mem_of_getElem? (i := 117) (by rfl))) rfl
theorem wd_1558 : (Cond.soleField "WinterToysModel" "base") ∈ BIG := big_t (tb_7 (List.mem_of_getElem? (i := 118) (by rfl))) rfl
theorem wd_1559 : (Cond.lays "WinterToysModel" "WinterToysModel" "deep" "I") ∈ BIG := big_t (tb_7 (List.mem_of_getElem? (i := 119) (by rfl))) rfl
theorem wd_1560 : (Cond.soleField "WinterToysModel" "deep") ∈ BIG := big_t (tb_7 (List.mem_of_getElem? (i := 120) (by rfl))) rfl
theorem wd_1561 : (Cond.lays "WinterToysModel" "WinterToysModel" "open" "I") ∈ BIG := big_t (tb_7 (List.mem_of_getElem? (i := 121) (by rfl))) rfl
theorem wd_1562 : (Cond.soleField "WinterToysModel" "open") ∈ BIG := big_t (tb_7 (List.mem_of_getElem? (i := 122) (by rfl))) rfl
theorem wd_1563 : (Cond.laysFinal "WinterToysModel" "WinterToysModel" "ops" "[I") ∈ BIG := big_t (tb_7 (List.mem_of_getElem? (i := 123) (by rfl))) rfl
theorem wd_1564 : (Cond.soleField "WinterToysModel" "ops") ∈ BIG := big_t (tb_7 (List.mem_of_getElem? (i := 124) (by rfl))) rfl
theorem wd_1565 : (Cond.lays "WinterToysModel" "WinterToysModel" "opMany" "I") ∈ BIG := big_t (tb_7 (List.mem_of_getElem? (i := 125) (by rfl))) rfl
theorem wd_1566 : (Cond.soleField "WinterToysModel" "opMany") ∈ BIG := big_t (tb_7 (List.mem_of_getElem? (i := 126) (by rfl))) rfl
theorem wd_1567 : (Cond.lays "WinterToysModel" "WinterToysModel" "operand" "Z") ∈ BIG := big_t (tb_7 (List.mem_of_getElem? (i := 127) (by rfl))) rfl
theorem wd_1568 : (Cond.soleField "WinterToysModel" "operand") ∈ BIG := big_t (tb_7 (List.mem_of_getElem? (i := 128) (by rfl))) rfl
theorem wd_1569 : (Cond.lays "WinterToysModel" "WinterToysModel" "acts" "I") ∈ BIG := big_t (tb_7 (List.mem_of_getElem? (i := 129) (by rfl))) rfl
theorem wd_1570 : (Cond.soleField "WinterToysModel" "acts") ∈ BIG := big_t (tb_7 (List.mem_of_getElem? (i := 130) (by rfl))) rfl
theorem wd_1571 : (Cond.lays "WinterToysModel" "WinterToysModel" "reports" "I") ∈ BIG := big_t (tb_7 (List.mem_of_getElem? (i := 131) (by rfl))) rfl
theorem wd_1572 : (Cond.soleField "WinterToysModel" "reports") ∈ BIG := big_t (tb_7 (List.mem_of_getElem? (i := 132) (by rfl))) rfl
theorem wd_1573 : (Cond.lays "WinterToysModel" "WinterToysModel" "told" "I") ∈ BIG := big_t (tb_7 (List.mem_of_getElem? (i := 133) (by rfl))) rfl
theorem wd_1574 : (Cond.soleField "WinterToysModel" "told") ∈ BIG := big_t (tb_7 (List.mem_of_getElem? (i := 134) (by rfl))) rfl
theorem wd_1575 : (Cond.laysFinal "WinterToysModel" "WinterToysModel" "sorts" "[I") ∈ BIG := big_t (tb_7 (List.mem_of_getElem? (i := 135) (by rfl))) rfl
theorem wd_1576 : (Cond.soleField "WinterToysModel" "sorts") ∈ BIG := big_t (tb_7 (List.mem_of_getElem? (i := 136) (by rfl))) rfl
theorem wd_1577 : (Cond.laysFinal "WinterToysModel" "WinterToysModel" "data" "[I") ∈ BIG := big_t (tb_7 (List.mem_of_getElem? (i := 137) (by rfl))) rfl
theorem wd_1578 : (Cond.soleField "WinterToysModel" "data") ∈ BIG := big_t (tb_7 (List.mem_of_getElem? (i := 138) (by rfl))) rfl
theorem wd_1579 : (Cond.laysFinal "WinterToysModel" "WinterToysModel" "voids" "[I") ∈ BIG := big_t (tb_7 (List.mem_of_getElem? (i := 139) (by rfl))) rfl
theorem wd_1580 : (Cond.soleField "WinterToysModel" "voids") ∈ BIG := big_t (tb_7 (List.mem_of_getElem? (i := 140) (by rfl))) rfl
theorem wd_1581 : (Cond.laysFinal "WinterToysModel" "WinterToysModel" "asked" "[J") ∈ BIG := big_t (tb_7 (List.mem_of_getElem? (i := 141) (by rfl))) rfl
theorem wd_1582 : (Cond.soleField "WinterToysModel" "asked") ∈ BIG := big_t (tb_7 (List.mem_of_getElem? (i := 142) (by rfl))) rfl
theorem wd_1583 : (Cond.laysFinal "WinterToysModel" "WinterToysModel" "words" "[J") ∈ BIG := big_t (tb_7 (List.mem_of_getElem? (i := 143) (by rfl))) rfl
theorem wd_1584 : (Cond.soleField "WinterToysModel" "words") ∈ BIG := big_t (tb_7 (List.mem_of_getElem? (i := 144) (by rfl))) rfl
theorem wd_1585 : (Cond.lays "WinterToysModel" "WinterToysModel" "children" "I") ∈ BIG := big_t (tb_7 (List.mem_of_getElem? (i := 145) (by rfl))) rfl
theorem wd_1586 : (Cond.soleField "WinterToysModel" "children") ∈ BIG := big_t (tb_7 (List.mem_of_getElem? (i := 146) (by rfl))) rfl
theorem wd_1587 : (Cond.laysFinal "WinterToysModel" "WinterToysModel" "codeOf" "[I") ∈ BIG := big_t (tb_7 (List.mem_of_getElem? (i := 147) (by rfl))) rfl
theorem wd_1588 : (Cond.soleField "WinterToysModel" "codeOf") ∈ BIG := big_t (tb_7 (List.mem_of_getElem? (i := 148) (by rfl))) rfl
theorem wd_1589 : (Cond.laysFinal "WinterToysModel" "WinterToysModel" "ageOf" "[I") ∈ BIG := big_t (tb_7 (List.mem_of_getElem? (i := 149) (by rfl))) rfl
theorem wd_1590 : (Cond.soleField "WinterToysModel" "ageOf") ∈ BIG := big_t (tb_7 (List.mem_of_getElem? (i := 150) (by rfl))) rfl
theorem wd_1591 : (Cond.laysFinal "WinterToysModel" "WinterToysModel" "youngest" "[I") ∈ BIG := big_t (tb_7 (List.mem_of_getElem? (i := 151) (by rfl))) rfl
theorem wd_1592 : (Cond.soleField "WinterToysModel" "youngest") ∈ BIG := big_t (tb_7 (List.mem_of_getElem? (i := 152) (by rfl))) rfl
theorem wd_1593 : (Cond.laysFinal "WinterToysModel" "WinterToysModel" "oldest" "[I") ∈ BIG := big_t (tb_7 (List.mem_of_getElem? (i := 153) (by rfl))) rfl
theorem wd_1594 : (Cond.soleField "WinterToysModel" "oldest") ∈ BIG := big_t (tb_7 (List.mem_of_getElem? (i := 154) (by rfl))) rfl
theorem wd_1595 : (Cond.laysFinal "WinterToysModel" "WinterToysModel" "schoolOf" "[I") ∈ BIG := big_t (tb_7 (List.mem_of_getElem? (i := 155) (by rfl))) rfl
theorem wd_1596 : (Cond.soleField "WinterToysModel" "schoolOf") ∈ BIG := big_t (tb_7 (List.mem_of_getElem? (i := 156) (by rfl))) rfl
theorem wd_1597 : (Cond.laysFinal "WinterToysModel" "WinterToysModel" "houseOf" "[I") ∈ BIG := big_t (tb_7 (List.mem_of_getElem? (i := 157) (by rfl))) rfl
theorem wd_1598 : (Cond.soleField "WinterToysModel" "houseOf") ∈ BIG := big_t (tb_7 (List.mem_of_getElem? (i := 158) (by rfl))) rfl
theorem wd_1599 : (Cond.laysFinal "WinterToysModel" "WinterToysModel" "dayOf" "[I") ∈ BIG := big_t (tb_7 (List.mem_of_getElem? (i := 159) (by rfl))) rfl
theorem wd_1600 : (Cond.soleField "WinterToysModel" "dayOf") ∈ BIG := big_t (tb_7 (List.mem_of_getElem? (i := 160) (by rfl))) rfl
theorem wd_1601 : (Cond.laysFinal "WinterToysModel" "WinterToysModel" "wishMany" "[I") ∈ BIG := big_t (tb_7 (List.mem_of_getElem? (i := 161) (by rfl))) rfl
theorem wd_1602 : (Cond.soleField "WinterToysModel" "wishMany") ∈ BIG := big_t (tb_7 (List.mem_of_getElem? (i := 162) (by rfl))) rfl
theorem wd_1603 : (Cond.laysFinal "WinterToysModel" "WinterToysModel" "wishOf" "[J") ∈ BIG := big_t (tb_7 (List.mem_of_getElem? (i := 163) (by rfl))) rfl
theorem wd_1604 : (Cond.soleField "WinterToysModel" "wishOf") ∈ BIG := big_t (tb_7 (List.mem_of_getElem? (i := 164) (by rfl))) rfl
theorem wd_1605 : (Cond.laysFinal "WinterToysModel" "WinterToysModel" "reportMany" "[I") ∈ BIG := big_t (tb_7 (List.mem_of_getElem? (i := 165) (by rfl))) rfl
theorem wd_1606 : (Cond.soleField "WinterToysModel" "reportMany") ∈ BIG := big_t (tb_7 (List.mem_of_getElem? (i := 166) (by rfl))) rfl
theorem wd_1607 : (Cond.laysFinal "WinterToysModel" "WinterToysModel" "childOf" "[I") ∈ BIG := big_t (tb_7 (List.mem_of_getElem? (i := 167) (by rfl))) rfl
theorem wd_1608 : (Cond.soleField "WinterToysModel" "childOf") ∈ BIG := big_t (tb_7 (List.mem_of_getElem? (i := 168) (by rfl))) rfl
theorem wd_1609 : (Cond.laysFinal "WinterToysModel" "WinterToysModel" "heap" "[J") ∈ BIG := big_t (tb_7 (List.mem_of_getElem? (i := 169) (by rfl))) rfl
theorem wd_1610 : (Cond.soleField "WinterToysModel" "heap") ∈ BIG := big_t (tb_7 (List.mem_of_getElem? (i := 170) (by rfl))) rfl
theorem wd_1611 : (Cond.laysFinal "WinterToysModel" "WinterToysModel" "laneFrom" "[I") ∈ BIG := big_t (tb_7 (List.mem_of_getElem? (i := 171) (by rfl))) rfl
theorem wd_1612 : (Cond.soleField "WinterToysModel" "laneFrom") ∈ BIG := big_t (tb_7 (List.mem_of_getElem? (i := 172) (by rfl))) rfl
theorem wd_1613 : (Cond.laysFinal "WinterToysModel" "WinterToysModel" "laneTo" "[I") ∈ BIG := big_t (tb_7 (List.mem_of_getElem? (i := 173) (by rfl))) rfl
theorem wd_1614 : (Cond.soleField "WinterToysModel" "laneTo") ∈ BIG := big_t (tb_7 (List.mem_of_getElem? (i := 174) (by rfl))) rfl
theorem wd_1615 : (Cond.laysFinal "WinterToysModel" "WinterToysModel" "room" "[I") ∈ BIG := big_t (tb_7 (List.mem_of_getElem? (i := 175) (by rfl))) rfl
theorem wd_1616 : (Cond.soleField "WinterToysModel" "room") ∈ BIG := big_t (tb_7 (List.mem_of_getElem? (i := 176) (by rfl))) rfl
theorem wd_1617 : (Cond.laysFinal "WinterToysModel" "WinterToysModel" "price" "[J") ∈ BIG := big_t (tb_7 (List.mem_of_getElem? (i := 177) (by rfl))) rfl
theorem wd_1618 : (Cond.soleField "WinterToysModel" "price") ∈ BIG := big_t (tb_7 (List.mem_of_getElem? (i := 178) (by rfl))) rfl
theorem wd_1619 : (Cond.lays "WinterToysModel" "WinterToysModel" "lanes" "I") ∈ BIG := big_t (tb_7 (List.mem_of_getElem? (i := 179) (by rfl))) rfl
theorem wd_1620 : (Cond.soleField "WinterToysModel" "lanes") ∈ BIG := big_t (tb_7 (List.mem_of_getElem? (i := 180) (by rfl))) rfl
theorem wd_1621 : (Cond.laysFinal "WinterToysModel" "WinterToysModel" "far" "[J") ∈ BIG := big_t (tb_7 (List.mem_of_getElem? (i := 181) (by rfl))) rfl
theorem wd_1622 : (Cond.soleField "WinterToysModel" "far") ∈ BIG := big_t (tb_7 (List.mem_of_getElem? (i := 182) (by rfl))) rfl
theorem wd_1623 : (Cond.laysFinal "WinterToysModel" "WinterToysModel" "by" "[I") ∈ BIG := big_t (tb_7 (List.mem_of_getElem? (i := 183) (by rfl))) rfl
theorem wd_1624 : (Cond.soleField "WinterToysModel" "by") ∈ BIG := big_t (tb_7 (List.mem_of_getElem? (i := 184) (by rfl))) rfl
theorem wd_1625 : (Cond.laysFinal "WinterToysModel" "WinterToysModel" "pairs" "[I") ∈ BIG := big_t (tb_7 (List.mem_of_getElem? (i := 185) (by rfl))) rfl
theorem wd_1626 : (Cond.soleField "WinterToysModel" "pairs") ∈ BIG := big_t (tb_7 (List.mem_of_getElem? (i := 186) (by rfl))) rfl
theorem wd_1627 : (Cond.laysFinal "WinterToysModel" "WinterToysModel" "got" "[Z") ∈ BIG := big_t (tb_7 (List.mem_of_getElem? (i := 187) (by rfl))) rfl
theorem wd_1628 : (Cond.soleField "WinterToysModel" "got") ∈ BIG := big_t (tb_7 (List.mem_of_getElem? (i := 188) (by rfl))) rfl
theorem wd_1629 : (Cond.laysFinal "WinterToysModel" "WinterToysModel" "came" "[I") ∈ BIG := big_t (tb_7 (List.mem_of_getElem? (i := 189) (by rfl))) rfl
theorem wd_1630 : (Cond.soleField "WinterToysModel" "came") ∈ BIG := big_t (tb_7 (List.mem_of_getElem? (i := 190) (by rfl))) rfl
theorem wd_1631 : (Cond.lays "WinterToysModel" "WinterToysModel" "hasGiven" "Z") ∈ BIG := big_t (tb_7 (List.mem_of_getElem? (i := 191) (by rfl))) rfl
theorem wd_1632 : (Cond.soleField "WinterToysModel" "hasGiven") ∈ BIG := big_t (tb_7 (List.mem_of_getElem? (i := 192) (by rfl))) rfl
theorem wd_1633 : (Cond.lays "WinterToysModel" "WinterToysModel" "thenMany" "I") ∈ BIG := big_t (tb_7 (List.mem_of_getElem? (i := 193) (by rfl))) rfl
theorem wd_1634 : (Cond.soleField "WinterToysModel" "thenMany") ∈ BIG := big_t (tb_7 (List.mem_of_getElem? (i := 194) (by rfl))) rfl
theorem wd_1635 : (Cond.laysFinal "WinterToysModel" "WinterToysModel" "thenDue" "[I") ∈ BIG := big_t (tb_7 (List.mem_of_getElem? (i := 195) (by rfl))) rfl
theorem wd_1636 : (Cond.soleField "WinterToysModel" "thenDue") ∈ BIG := big_t (tb_7 (List.mem_of_getElem? (i := 196) (by rfl))) rfl
theorem wd_1637 : (Cond.laysFinal "WinterToysModel" "WinterToysModel" "thenHouse" "[I") ∈ BIG := big_t (tb_7 (List.mem_of_getElem? (i := 197) (by rfl))) rfl
theorem wd_1638 : (Cond.soleField "WinterToysModel" "thenHouse") ∈ BIG := big_t (tb_7 (List.mem_of_getElem? (i := 198) (by rfl))) rfl
theorem wd_1639 : (Cond.laysFinal "WinterToysModel" "WinterToysModel" "thenDay" "[I") ∈ BIG := big_t (tb_7 (List.mem_of_getElem? (i := 199) (by rfl))) rfl
theorem wd_1640 : (Cond.soleField "WinterToysModel" "thenDay") ∈ BIG := big_t (tb_7 (List.mem_of_getElem? (i := 200) (by rfl))) rfl
theorem wd_1641 : (Cond.laysFinal "WinterToysModel" "WinterToysModel" "thenAge" "[I") ∈ BIG := big_t (tb_7 (List.mem_of_getElem? (i := 201) (by rfl))) rfl
theorem wd_1642 : (Cond.soleField "WinterToysModel" "thenAge") ∈ BIG := big_t (tb_7 (List.mem_of_getElem? (i := 202) (by rfl))) rfl
theorem wd_1643 : (Cond.laysFinal "WinterToysModel" "WinterToysModel" "thenMay" "[Z") ∈ BIG := big_t (tb_7 (List.mem_of_getElem? (i := 203) (by rfl))) rfl
theorem wd_1644 : (Cond.soleField "WinterToysModel" "thenMay") ∈ BIG := big_t (tb_7 (List.mem_of_getElem? (i := 204) (by rfl))) rfl
theorem wd_1645 : (Cond.laysFinal "WinterToysModel" "WinterToysModel" "gave" "[I") ∈ BIG := big_t (tb_7 (List.mem_of_getElem? (i := 205) (by rfl))) rfl
theorem wd_1646 : (Cond.soleField "WinterToysModel" "gave") ∈ BIG := big_t (tb_7 (List.mem_of_getElem? (i := 206) (by rfl))) rfl
theorem wd_1647 : (Cond.laysFinal "WinterToysModel" "WinterToysModel" "has" "[I") ∈ BIG := big_t (tb_7 (List.mem_of_getElem? (i := 207) (by rfl))) rfl
theorem wd_1648 : (Cond.soleField "WinterToysModel" "has") ∈ BIG := big_t (tb_7 (List.mem_of_getElem? (i := 208) (by rfl))) rfl
theorem wd_1649 : (Cond.laysFinal "WinterToysModel" "WinterToysModel" "over" "[I") ∈ BIG := big_t (tb_7 (List.mem_of_getElem? (i := 209) (by rfl))) rfl
theorem wd_1650 : (Cond.soleField "WinterToysModel" "over") ∈ BIG := big_t (tb_7 (List.mem_of_getElem? (i := 210) (by rfl))) rfl
theorem wd_1651 : (Cond.lays "WinterToysModel" "WinterToysModel" "givenMany" "I") ∈ BIG := big_t (tb_7 (List.mem_of_getElem? (i := 211) (by rfl))) rfl
theorem wd_1652 : (Cond.soleField "WinterToysModel" "givenMany") ∈ BIG := big_t (tb_7 (List.mem_of_getElem? (i := 212) (by rfl))) rfl
theorem wd_1653 : (Cond.lays "WinterToysModel" "WinterToysModel" "givenPoints" "I") ∈ BIG := big_t (tb_7 (List.mem_of_getElem? (i := 213) (by rfl))) rfl
theorem wd_1654 : (Cond.soleField "WinterToysModel" "givenPoints") ∈ BIG := big_t (tb_7 (List.mem_of_getElem? (i := 214) (by rfl))) rfl
theorem wd_1655 : (Cond.lays "WinterToysModel" "WinterToysModel" "hasSpent" "Z") ∈ BIG := big_t (tb_7 (List.mem_of_getElem? (i := 215) (by rfl))) rfl
theorem wd_1656 : (Cond.soleField "WinterToysModel" "hasSpent") ∈ BIG := big_t (tb_7 (List.mem_of_getElem? (i := 216) (by rfl))) rfl
theorem wd_1657 : (Cond.lays "WinterToysModel" "WinterToysModel" "spentCoins" "I") ∈ BIG := big_t (tb_7 (List.mem_of_getElem? (i := 217) (by rfl))) rfl
theorem wd_1658 : (Cond.soleField "WinterToysModel" "spentCoins") ∈ BIG := big_t (tb_7 (List.mem_of_getElem? (i := 218) (by rfl))) rfl
theorem wd_1659 : (Cond.laysFinal "WinterToysModel" "WinterToysModel" "there" "[I") ∈ BIG := big_t (tb_7 (List.mem_of_getElem? (i := 219) (by rfl))) rfl
theorem wd_1660 : (Cond.soleField "WinterToysModel" "there") ∈ BIG := big_t (tb_7 (List.mem_of_getElem? (i := 220) (by rfl))) rfl
theorem wd_1661 : (Cond.lays "WinterToysModel" "WinterToysModel" "chosen" "I") ∈ BIG := big_t (tb_7 (List.mem_of_getElem? (i := 221) (by rfl))) rfl
theorem wd_1662 : (Cond.soleField "WinterToysModel" "chosen") ∈ BIG := big_t (tb_7 (List.mem_of_getElem? (i := 222) (by rfl))) rfl
theorem wd_1663 : (Cond.laysFinal "WinterToysModel" "WinterToysModel" "costOf" "[I") ∈ BIG := big_t (tb_7 (List.mem_of_getElem? (i := 223) (by rfl))) rfl
theorem wd_1664 : (Cond.soleField "WinterToysModel" "costOf") ∈ BIG := big_t (tb_7 (List.mem_of_getElem? (i := 224) (by rfl))) rfl
theorem wd_1665 : (Cond.laysFinal "WinterToysModel" "WinterToysModel" "setOf" "[I") ∈ BIG := big_t (tb_7 (List.mem_of_getElem? (i := 225) (by rfl))) rfl
theorem wd_1666 : (Cond.soleField "WinterToysModel" "setOf") ∈ BIG := big_t (tb_7 (List.mem_of_getElem? (i := 226) (by rfl))) rfl
theorem wd_1667 : (Cond.laysFinal "WinterToysModel" "WinterToysModel" "done" "[Z") ∈ BIG := big_t (tb_7 (List.mem_of_getElem? (i := 227) (by rfl))) rfl
theorem wd_1668 : (Cond.soleField "WinterToysModel" "done") ∈ BIG := big_t (tb_7 (List.mem_of_getElem? (i := 228) (by rfl))) rfl
theorem wd_1669 : (Cond.laysFinal "WinterToysModel" "WinterToysModel" "bags" "[I") ∈ BIG := big_t (tb_7 (List.mem_of_getElem? (i := 229) (by rfl))) rfl
theorem wd_1670 : (Cond.soleField "WinterToysModel" "bags") ∈ BIG := big_t (tb_7 (List.mem_of_getElem? (i := 230) (by rfl))) rfl
theorem wd_1671 : (Cond.lays "WinterToysModel" "WinterToysModel" "bagMany" "I") ∈ BIG := big_t (tb_7 (List.mem_of_getElem? (i := 231) (by rfl))) rfl
theorem wd_1672 : (Cond.soleField "WinterToysModel" "bagMany") ∈ BIG := big_t (tb_7 (List.mem_of_getElem? (i := 232) (by rfl))) rfl
theorem wd_1673 : (Cond.laysFinal "WinterToysModel" "WinterToysModel" "comers" "[I") ∈ BIG := big_t (tb_7 (List.mem_of_getElem? (i := 233) (by rfl))) rfl
theorem wd_1674 : (Cond.soleField "WinterToysModel" "comers") ∈ BIG := big_t (tb_7 (List.mem_of_getElem? (i := 234) (by rfl))) rfl
theorem wd_1675 : (Cond.laysFinal "WinterToysModel" "WinterToysModel" "minutes" "[I") ∈ BIG := big_t (tb_7 (List.mem_of_getElem? (i := 235) (by rfl))) rfl
theorem wd_1676 : (Cond.soleField "WinterToysModel" "minutes") ∈ BIG := big_t (tb_7 (List.mem_of_getElem? (i := 236) (by rfl))) rfl
theorem wd_1677 : (Cond.laysFinal "WinterToysModel" "WinterToysModel" "windows" "[I") ∈ BIG := big_t (tb_7 (List.mem_of_getElem? (i := 237) (by rfl))) rfl
theorem wd_1678 : (Cond.soleField "WinterToysModel" "windows") ∈ BIG := big_t (tb_7 (List.mem_of_getElem? (i := 238) (by rfl))) rfl
theorem wd_1679 : (Cond.laysFinal "WinterToysModel" "WinterToysModel" "out" "[I") ∈ BIG := big_t (tb_7 (List.mem_of_getElem? (i := 239) (by rfl))) rfl
theorem wd_1680 : (Cond.soleField "WinterToysModel" "out") ∈ BIG := big_t (tb_8 (List.mem_of_getElem? (i := 0) (by rfl))) rfl
theorem wd_1681 : (Cond.lays "WinterToysModel" "WinterToysModel" "outs" "I") ∈ BIG := big_t (tb_8 (List.mem_of_getElem? (i := 1) (by rfl))) rfl
theorem wd_1682 : (Cond.soleField "WinterToysModel" "outs") ∈ BIG := big_t (tb_8 (List.mem_of_getElem? (i := 2) (by rfl))) rfl
theorem wd_1683 : (Cond.superclass "WinterToysModel" "java/lang/Object") ∈ BIG := big_t (tb_8 (List.mem_of_getElem? (i := 3) (by rfl))) rfl
theorem wd_1684 : (Cond.arrayClass .boolean) ∈ BIG := big_t (tb_8 (List.mem_of_getElem? (i := 4) (by rfl))) rfl
theorem wd_1685 : (Cond.methodLink RL 17 yX12_feed) ∈ BIG := big_t (tb_8 (List.mem_of_getElem? (i := 5) (by rfl))) rfl
theorem wd_1686 : (Cond.instanceMethod yX12_feed) ∈ BIG := big_t (tb_8 (List.mem_of_getElem? (i := 6) (by rfl))) rfl
theorem wd_1687 : (Cond.selects RX12 yX12_feed yX12_feed) ∈ BIG := big_t (tb_8 (List.mem_of_getElem? (i := 7) (by rfl))) rfl
theorem wd_1688 : (Cond.code yX12_feed prog_14_method_4_code 6 (some .int)) ∈ BIG := big_t (tb_8 (List.mem_of_getElem? (i := 8) (by rfl))) rfl
theorem wd_1689 : (Cond.methodLink RX12 297 yX12_put) ∈ BIG := big_t (tb_8 (List.mem_of_getElem? (i := 9) (by rfl))) rfl
theorem wn_1690 : (Cond.privateMethod yX12_put) ∈ tables_1 := tb_8 (List.mem_of_getElem? (i := 10) (by rfl))
theorem wd_1691 : (Cond.instanceMethod yX12_put) ∈ BIG := big_t (tb_8 (List.mem_of_getElem? (i := 11) (by rfl))) rfl
theorem wd_1692 : (Cond.code yX12_put prog_14_method_3_code 3 none) ∈ BIG := big_t (tb_8 (List.mem_of_getElem? (i := 12) (by rfl))) rfl
theorem wd_1693 : (Cond.methodLink RL 22 yX12_end) ∈ BIG := big_t (tb_8 (List.mem_of_getElem? (i := 13) (by rfl))) rfl
theorem wd_1694 : (Cond.instanceMethod yX12_end) ∈ BIG := big_t (tb_8 (List.mem_of_getElem? (i := 14) (by rfl))) rfl
theorem wd_1695 : (Cond.selects RX12 yX12_end yX12_end) ∈ BIG := big_t (tb_8 (List.mem_of_getElem? (i := 15) (by rfl))) rfl
theorem wd_1696 : (Cond.code yX12_end prog_14_method_5_code 2 (some .boolean)) ∈ BIG := big_t (tb_8 (List.mem_of_getElem? (i := 16) (by rfl))) rfl
theorem wd_1697 : (Cond.methodLink RL 27 yX12_rules) ∈ BIG := big_t (tb_8 (List.mem_of_getElem? (i := 17) (by rfl))) rfl
theorem wd_1698 : (Cond.instanceMethod yX12_rules) ∈ BIG := big_t (tb_8 (List.mem_of_getElem? (i := 18) (by rfl))) rfl
theorem wd_1699 : (Cond.selects RX12 yX12_rules yX12_rules) ∈ BIG := big_t (tb_8 (List.mem_of_getElem? (i := 19) (by rfl))) rfl
theorem wd_1700 : (Cond.code yX12_rules prog_14_method_35_code 2 (some .int)) ∈ BIG := big_t (tb_8 (List.mem_of_getElem? (i := 20) (by rfl))) rfl
theorem wd_1701 : (Cond.methodLink RX12 439 yX12_starts) ∈ BIG := big_t (tb_8 (List.mem_of_getElem? (i := 21) (by rfl))) rfl
theorem wn_1702 : (Cond.privateMethod yX12_starts) ∈ tables_1 := tb_8 (List.mem_of_getElem? (i := 22) (by rfl))
theorem wd_1703 : (Cond.instanceMethod yX12_starts) ∈ BIG := big_t (tb_8 (List.mem_of_getElem? (i := 23) (by rfl))) rfl
theorem wd_1704 : (Cond.code yX12_starts prog_14_method_10_code 1 none) ∈ BIG := big_t (tb_8 (List.mem_of_getElem? (i := 24) (by rfl))) rfl
theorem wd_1705 : (Cond.methodLink RX12 312 yX12_looks) ∈ BIG := big_t (tb_8 (List.mem_of_getElem? (i := 25) (by rfl))) rfl
theorem wn_1706 : (Cond.privateMethod yX12_looks) ∈ tables_1 := tb_8 (List.mem_of_getElem? (i := 26) (by rfl))
theorem wd_1707 : (Cond.instanceMethod yX12_looks) ∈ BIG := big_t (tb_8 (List.mem_of_getElem? (i := 27) (by rfl))) rfl
theorem wd_1708 : (Cond.code yX12_looks prog_14_method_9_code 6 none) ∈ BIG := big_t (tb_8 (List.mem_of_getElem? (i := 28) (by rfl))) rfl
theorem wd_1709 : (Cond.methodLink RX12 301 yX12_isLetter) ∈ BIG := big_t (tb_8 (List.mem_of_getElem? (i := 29) (by rfl))) rfl
theorem wd_1710 : (Cond.static yX12_isLetter) ∈ BIG := big_t (tb_8 (List.mem_of_getElem? (i := 30) (by rfl))) rfl
theorem wd_1711 : (Cond.code yX12_isLetter prog_14_method_7_code 1 (some .boolean)) ∈ BIG := big_t (tb_8 (List.mem_of_getElem? (i := 31) (by rfl))) rfl
theorem wd_1712 : (Cond.methodLink RX12 305 yX12_isDigit) ∈ BIG := big_t (tb_8 (List.mem_of_getElem? (i := 32) (by rfl))) rfl
theorem wd_1713 : (Cond.static yX12_isDigit) ∈ BIG := big_t (tb_8 (List.mem_of_getElem? (i := 33) (by rfl))) rfl
theorem wd_1714 : (Cond.code yX12_isDigit prog_14_method_8_code 1 (some .boolean)) ∈ BIG := big_t (tb_8 (List.mem_of_getElem? (i := 34) (by rfl))) rfl
theorem wd_1715 : (Cond.methodLink RX12 308 yX12_blame) ∈ BIG := big_t (tb_8 (List.mem_of_getElem? (i := 35) (by rfl))) rfl
theorem wn_1716 : (Cond.privateMethod yX12_blame) ∈ tables_1 := tb_8 (List.mem_of_getElem? (i := 36) (by rfl))
theorem wd_1717 : (Cond.instanceMethod yX12_blame) ∈ BIG := big_t (tb_8 (List.mem_of_getElem? (i := 37) (by rfl))) rfl
theorem wd_1718 : (Cond.code yX12_blame prog_14_method_6_code 3 none) ∈ BIG := big_t (tb_8 (List.mem_of_getElem? (i := 38) (by rfl))) rfl
theorem wd_1719 : (Cond.methodLink RX12 442 yX12_statement) ∈ BIG := big_t (tb_8 (List.mem_of_getElem? (i := 39) (by rfl))) rfl
theorem wn_1720 : (Cond.privateMethod yX12_statement) ∈ tables_1 := tb_8 (List.mem_of_getElem? (i := 40) (by rfl))
theorem wd_1721 : (Cond.instanceMethod yX12_statement) ∈ BIG := big_t (tb_8 (List.mem_of_getElem? (i := 41) (by rfl))) rfl
theorem wd_1722 : (Cond.code yX12_statement prog_14_method_34_code 1 none) ∈ BIG := big_t (tb_8 (List.mem_of_getElem? (i := 42) (by rfl))) rfl
theorem wd_1723 : (Cond.constantLong RX12 326 1802071652) ∈ BIG := big_t (tb_8 (List.mem_of_getElem? (i := 43) (by rfl))) rfl
theorem wd_1724 : (Cond.methodLink RX12 318 yX12_isWord) ∈ BIG := big_t (tb_8 (List.mem_of_getElem? (i := 44) (by rfl))) rfl
theorem wn_1725 : (Cond.privateMethod yX12_isWord) ∈ tables_1 := tb_8 (List.mem_of_getElem? (i := 45) (by rfl))
theorem wd_1726 : (Cond.instanceMethod yX12_isWord) ∈ BIG := big_t (tb_8 (List.mem_of_getElem? (i := 46) (by rfl))) rfl
theorem wd_1727 : (Cond.code yX12_isWord prog_14_method_12_code 3 (some .boolean)) ∈ BIG := big_t (tb_8 (List.mem_of_getElem? (i := 47) (by rfl))) rfl
theorem wd_1728 : (Cond.methodLink RX12 430 yX12_kind) ∈ BIG := big_t (tb_8 (List.mem_of_getElem? (i := 48) (by rfl))) rfl
theorem wn_1729 : (Cond.privateMethod yX12_kind) ∈ tables_1 := tb_8 (List.mem_of_getElem? (i := 49) (by rfl))
theorem wd_1730 : (Cond.instanceMethod yX12_kind) ∈ BIG := big_t (tb_8 (List.mem_of_getElem? (i := 50) (by rfl))) rfl
theorem wd_1731 : (Cond.code yX12_kind prog_14_method_31_code 9 none) ∈ BIG := big_t (tb_8 (List.mem_of_getElem? (i := 51) (by rfl))) rfl
theorem wd_1732 : (Cond.methodLink RX12 395 yX12_isOwn) ∈ BIG := big_t (tb_8 (List.mem_of_getElem? (i := 52) (by rfl))) rfl
theorem wn_1733 : (Cond.privateMethod yX12_isOwn) ∈ tables_1 := tb_8 (List.mem_of_getElem? (i := 53) (by rfl))
theorem wd_1734 : (Cond.instanceMethod yX12_isOwn) ∈ BIG := big_t (tb_8 (List.mem_of_getElem? (i := 54) (by rfl))) rfl
theorem wd_1735 : (Cond.code yX12_isOwn prog_14_method_16_code 3 (some .boolean)) ∈ BIG := big_t (tb_8 (List.mem_of_getElem? (i := 55) (by rfl))) rfl
theorem wd_1736 : (Cond.constantLong RX12 328 512970880104) ∈ BIG := big_t (tb_8 (List.mem_of_getElem? (i := 56) (by rfl))) rfl
theorem wd_1737 : (Cond.constantLong RX12 330 482955846501) ∈ BIG := big_t (tb_8 (List.mem_of_getElem? (i := 57) (by rfl))) rfl
theorem wd_1738 : (Cond.constantLong RX12 332 24948) ∈ BIG := big_t (tb_8 (List.mem_of_getElem? (i := 58) (by rfl))) rfl
theorem wd_1739 : (Cond.constantLong RX12 334 26995) ∈ BIG := big_t (tb_8 (List.mem_of_getElem? (i := 59) (by rfl))) rfl
theorem wd_1740 : (Cond.constantLong RX12 336 474148660594) ∈ BIG := big_t (tb_8 (List.mem_of_getElem? (i := 60) (by rfl))) rfl
theorem wd_1741 : (Cond.constantLong RX12 338 6713202) ∈ BIG := big_t (tb_8 (List.mem_of_getElem? (i := 61) (by rfl))) rfl
theorem wd_1742 : (Cond.constantLong RX12 340 465625113971) ∈ BIG := big_t (tb_8 (List.mem_of_getElem? (i := 62) (by rfl))) rfl
theorem wd_1743 : (Cond.constantLong RX12 342 28518) ∈ BIG := big_t (tb_8 (List.mem_of_getElem? (i := 63) (by rfl))) rfl
theorem wd_1744 : (Cond.constantLong RX12 344 444149953651) ∈ BIG := big_t (tb_8 (List.mem_of_getElem? (i := 64) (by rfl))) rfl
theorem wd_1745 : (Cond.constantLong RX12 346 1702258030) ∈ BIG := big_t (tb_8 (List.mem_of_getElem? (i := 65) (by rfl))) rfl
theorem wd_1746 : (Cond.constantLong RX12 348 28530) ∈ BIG := big_t (tb_8 (List.mem_of_getElem? (i := 66) (by rfl))) rfl
theorem wd_1747 : (Cond.constantLong RX12 350 6385252) ∈ BIG := big_t (tb_8 (List.mem_of_getElem? (i := 67) (by rfl))) rfl
theorem wd_1748 : (Cond.constantLong RX12 352 7237492) ∈ BIG := big_t (tb_8 (List.mem_of_getElem? (i := 68) (by rfl))) rfl
theorem wd_1749 : (Cond.constantLong RX12 354 6385273) ∈ BIG := big_t (tb_8 (List.mem_of_getElem? (i := 69) (by rfl))) rfl
theorem wd_1750 : (Cond.constantLong RX12 356 6384748) ∈ BIG := big_t (tb_8 (List.mem_of_getElem? (i := 70) (by rfl))) rfl
theorem wd_1751 : (Cond.constantLong RX12 358 2003399528) ∈ BIG := big_t (tb_8 (List.mem_of_getElem? (i := 71) (by rfl))) rfl
theorem wd_1752 : (Cond.constantLong RX12 360 6383461) ∈ BIG := big_t (tb_8 (List.mem_of_getElem? (i := 72) (by rfl))) rfl
theorem wd_1753 : (Cond.constantLong RX12 362 1634166131) ∈ BIG := big_t (tb_8 (List.mem_of_getElem? (i := 73) (by rfl))) rfl
theorem wd_1754 : (Cond.constantLong RX12 364 126870791090028) ∈ BIG := big_t (tb_8 (List.mem_of_getElem? (i := 74) (by rfl))) rfl
theorem wd_1755 : (Cond.constantLong RX12 366 448546567013) ∈ BIG := big_t (tb_8 (List.mem_of_getElem? (i := 75) (by rfl))) rfl
theorem wd_1756 : (Cond.constantLong RX12 368 131294791492979) ∈ BIG := big_t (tb_8 (List.mem_of_getElem? (i := 76) (by rfl))) rfl
theorem wd_1757 : (Cond.methodLink RX12 398 yX12_findKind) ∈ BIG := big_t (tb_8 (List.mem_of_getElem? (i := 77) (by rfl))) rfl
theorem wn_1758 : (Cond.privateMethod yX12_findKind) ∈ tables_1 := tb_8 (List.mem_of_getElem? (i := 78) (by rfl))
theorem wd_1759 : (Cond.instanceMethod yX12_findKind) ∈ BIG := big_t (tb_8 (List.mem_of_getElem? (i := 79) (by rfl))) rfl
theorem wd_1760 : (Cond.code yX12_findKind prog_14_method_17_code 4 (some .int)) ∈ BIG := big_t (tb_8 (List.mem_of_getElem? (i := 80) (by rfl))) rfl
theorem wd_1761 : (Cond.methodLink RX12 402 yX12_findMark) ∈ BIG := big_t (tb_8 (List.mem_of_getElem? (i := 81) (by rfl))) rfl
theorem wn_1762 : (Cond.privateMethod yX12_findMark) ∈ tables_1 := tb_8 (List.mem_of_getElem? (i := 82) (by rfl))
theorem wd_1763 : (Cond.instanceMethod yX12_findMark) ∈ BIG := big_t (tb_8 (List.mem_of_getElem? (i := 83) (by rfl))) rfl
theorem wd_1764 : (Cond.code yX12_findMark prog_14_method_18_code 4 (some .int)) ∈ BIG := big_t (tb_8 (List.mem_of_getElem? (i := 84) (by rfl))) rfl
theorem wd_1765 : (Cond.methodLink RX12 415 yX12_mustWord) ∈ BIG := big_t (tb_8 (List.mem_of_getElem? (i := 85) (by rfl))) rfl
theorem wn_1766 : (Cond.privateMethod yX12_mustWord) ∈ tables_1 := tb_8 (List.mem_of_getElem? (i := 86) (by rfl))
theorem wd_1767 : (Cond.instanceMethod yX12_mustWord) ∈ BIG := big_t (tb_8 (List.mem_of_getElem? (i := 87) (by rfl))) rfl
theorem wd_1768 : (Cond.code yX12_mustWord prog_14_method_14_code 3 none) ∈ BIG := big_t (tb_8 (List.mem_of_getElem? (i := 88) (by rfl))) rfl
theorem wd_1769 : (Cond.methodLink RX12 419 yX12_number) ∈ BIG := big_t (tb_8 (List.mem_of_getElem? (i := 89) (by rfl))) rfl
theorem wn_1770 : (Cond.privateMethod yX12_number) ∈ tables_1 := tb_8 (List.mem_of_getElem? (i := 90) (by rfl))
theorem wd_1771 : (Cond.instanceMethod yX12_number) ∈ BIG := big_t (tb_8 (List.mem_of_getElem? (i := 91) (by rfl))) rfl
theorem wd_1772 : (Cond.code yX12_number prog_14_method_15_code 4 (some .int)) ∈ BIG := big_t (tb_8 (List.mem_of_getElem? (i := 92) (by rfl))) rfl
theorem wd_1773 : (Cond.methodLink RX12 322 yX12_is) ∈ BIG := big_t (tb_8 (List.mem_of_getElem? (i := 93) (by rfl))) rfl
theorem wd_1774 : (Cond.static yX12_is) ∈ BIG := big_t (tb_8 (List.mem_of_getElem? (i := 94) (by rfl))) rfl
theorem wd_1775 : (Cond.code yX12_is prog_14_method_2_code 3 (some .boolean)) ∈ BIG := big_t (tb_8 (List.mem_of_getElem? (i := 95) (by rfl))) rfl
theorem wd_1776 : (Cond.methodLink RX12 423 yX12_mark) ∈ BIG := big_t (tb_8 (List.mem_of_getElem? (i := 96) (by rfl))) rfl
theorem wn_1777 : (Cond.privateMethod yX12_mark) ∈ tables_1 := tb_8 (List.mem_of_getElem? (i := 97) (by rfl))
theorem wd_1778 : (Cond.instanceMethod yX12_mark) ∈ BIG := big_t (tb_8 (List.mem_of_getElem? (i := 98) (by rfl))) rfl
theorem wd_1779 : (Cond.code yX12_mark prog_14_method_32_code 5 (some .int)) ∈ BIG := big_t (tb_8 (List.mem_of_getElem? (i := 99) (by rfl))) rfl
theorem wd_1780 : (Cond.methodLink RX12 315 yX12_isSign) ∈ BIG := big_t (tb_8 (List.mem_of_getElem? (i := 100) (by rfl))) rfl
theorem wn_1781 : (Cond.privateMethod yX12_isSign) ∈ tables_1 := tb_8 (List.mem_of_getElem? (i := 101) (by rfl))
theorem wd_1782 : (Cond.instanceMethod yX12_isSign) ∈ BIG := big_t (tb_8 (List.mem_of_getElem? (i := 102) (by rfl))) rfl
theorem wd_1783 : (Cond.code yX12_isSign prog_14_method_11_code 2 (some .boolean)) ∈ BIG := big_t (tb_8 (List.mem_of_getElem? (i := 103) (by rfl))) rfl
theorem wd_1784 : (Cond.methodLink RX12 433 yX12_rule) ∈ BIG := big_t (tb_8 (List.mem_of_getElem? (i := 104) (by rfl))) rfl
theorem wn_1785 : (Cond.privateMethod yX12_rule) ∈ tables_1 := tb_8 (List.mem_of_getElem? (i := 105) (by rfl))
theorem wd_1786 : (Cond.instanceMethod yX12_rule) ∈ BIG := big_t (tb_8 (List.mem_of_getElem? (i := 106) (by rfl))) rfl
theorem wd_1787 : (Cond.code yX12_rule prog_14_method_33_code 5 none) ∈ BIG := big_t (tb_8 (List.mem_of_getElem? (i := 107) (by rfl))) rfl
theorem wd_1788 : (Cond.methodLink RX12 427 yX12_reads) ∈ BIG := big_t (tb_8 (List.mem_of_getElem? (i := 108) (by rfl))) rfl
theorem wn_1789 : (Cond.privateMethod yX12_reads) ∈ tables_1 := tb_8 (List.mem_of_getElem? (i := 109) (by rfl))
theorem wd_1790 : (Cond.instanceMethod yX12_reads) ∈ BIG := big_t (tb_8 (List.mem_of_getElem? (i := 110) (by rfl))) rfl
theorem wd_1791 : (Cond.code yX12_reads prog_14_method_30_code 3 none) ∈ BIG := big_t (tb_8 (List.mem_of_getElem? (i := 111) (by rfl))) rfl
theorem wd_1792 : (Cond.methodLink RX12 377 yX12_pushes) ∈ BIG := big_t (tb_8 (List.mem_of_getElem? (i := 112) (by rfl))) rfl
theorem wn_1793 : (Cond.privateMethod yX12_pushes) ∈ tables_1 := tb_8 (List.mem_of_getElem? (i := 113) (by rfl))
theorem wd_1794 : (Cond.instanceMethod yX12_pushes) ∈ BIG := big_t (tb_8 (List.mem_of_getElem? (i := 114) (by rfl))) rfl
theorem wd_1795 : (Cond.code yX12_pushes prog_14_method_23_code 2 none) ∈ BIG := big_t (tb_8 (List.mem_of_getElem? (i := 115) (by rfl))) rfl
theorem wd_1796 : (Cond.methodLink RX12 408 yX12_part) ∈ BIG := big_t (tb_8 (List.mem_of_getElem? (i := 116) (by rfl))) rfl
theorem wn_1797 : (Cond.privateMethod yX12_part) ∈ tables_1 := tb_8 (List.mem_of_getElem? (i := 117) (by rfl))
theorem wd_1798 : (Cond.instanceMethod yX12_part) ∈ BIG := big_t (tb_8 (List.mem_of_getElem? (i := 118) (by rfl))) rfl
theorem wd_1799 : (Cond.code yX12_part prog_14_method_27_code 4 (some .boolean)) ∈ BIG := big_t (tb_8 (List.mem_of_getElem? (i := 119) (by rfl))) rfl
theorem wd_1800 : (Cond.methodLink RX12 380 yX12_waits) ∈ BIG := big_t (tb_8 (List.mem_of_getElem? (i := 120) (by rfl))) rfl
theorem wn_1801 : (Cond.privateMethod yX12_waits) ∈ tables_1 := tb_8 (List.mem_of_getElem? (i := 121) (by rfl))
theorem wd_1802 : (Cond.instanceMethod yX12_waits) ∈ BIG := big_t (tb_8 (List.mem_of_getElem? (i := 122) (by rfl))) rfl
theorem wd_1803 : (Cond.code yX12_waits prog_14_method_22_code 2 none) ∈ BIG := big_t (tb_8 (List.mem_of_getElem? (i := 123) (by rfl))) rfl
theorem wd_1804 : (Cond.methodLink RX12 383 yX12_isTest) ∈ BIG := big_t (tb_8 (List.mem_of_getElem? (i := 124) (by rfl))) rfl
theorem wd_1805 : (Cond.static yX12_isTest) ∈ BIG := big_t (tb_8 (List.mem_of_getElem? (i := 125) (by rfl))) rfl
theorem wd_1806 : (Cond.code yX12_isTest prog_14_method_25_code 1 (some .boolean)) ∈ BIG := big_t (tb_8 (List.mem_of_getElem? (i := 126) (by rfl))) rfl
theorem wd_1807 : (Cond.methodLink RX12 386 yX12_opens) ∈ BIG := big_t (tb_8 (List.mem_of_getElem? (i := 127) (by rfl))) rfl
theorem wn_1808 : (Cond.privateMethod yX12_opens) ∈ tables_1 := tb_8 (List.mem_of_getElem? (i := 128) (by rfl))
theorem wd_1809 : (Cond.instanceMethod yX12_opens) ∈ BIG := big_t (tb_8 (List.mem_of_getElem? (i := 129) (by rfl))) rfl
theorem wd_1810 : (Cond.code yX12_opens prog_14_method_24_code 2 none) ∈ BIG := big_t (tb_8 (List.mem_of_getElem? (i := 130) (by rfl))) rfl
theorem wd_1811 : (Cond.methodLink RX12 389 yX12_isWhich) ∈ BIG := big_t (tb_8 (List.mem_of_getElem? (i := 131) (by rfl))) rfl
theorem wd_1812 : (Cond.static yX12_isWhich) ∈ BIG := big_t (tb_8 (List.mem_of_getElem? (i := 132) (by rfl))) rfl
theorem wd_1813 : (Cond.code yX12_isWhich prog_14_method_26_code 1 (some .boolean)) ∈ BIG := big_t (tb_8 (List.mem_of_getElem? (i := 133) (by rfl))) rfl
theorem wd_1814 : (Cond.methodLink RX12 392 yX12_atom) ∈ BIG := big_t (tb_8 (List.mem_of_getElem? (i := 134) (by rfl))) rfl
theorem wn_1815 : (Cond.privateMethod yX12_atom) ∈ tables_1 := tb_8 (List.mem_of_getElem? (i := 135) (by rfl))
theorem wd_1816 : (Cond.instanceMethod yX12_atom) ∈ BIG := big_t (tb_8 (List.mem_of_getElem? (i := 136) (by rfl))) rfl
theorem wd_1817 : (Cond.code yX12_atom prog_14_method_28_code 4 (some .boolean)) ∈ BIG := big_t (tb_8 (List.mem_of_getElem? (i := 137) (by rfl))) rfl
theorem wd_1818 : (Cond.methodLink RX12 374 yX12_add) ∈ BIG := big_t (tb_8 (List.mem_of_getElem? (i := 138) (by rfl))) rfl
theorem wn_1819 : (Cond.privateMethod yX12_add) ∈ tables_1 := tb_8 (List.mem_of_getElem? (i := 139) (by rfl))
theorem wd_1820 : (Cond.instanceMethod yX12_add) ∈ BIG := big_t (tb_8 (List.mem_of_getElem? (i := 140) (by rfl))) rfl
theorem wd_1821 : (Cond.code yX12_add prog_14_method_19_code 4 none) ∈ BIG := big_t (tb_8 (List.mem_of_getElem? (i := 141) (by rfl))) rfl
theorem wd_1822 : (Cond.methodLink RX12 412 yX12_goesOn) ∈ BIG := big_t (tb_8 (List.mem_of_getElem? (i := 142) (by rfl))) rfl
theorem wn_1823 : (Cond.privateMethod yX12_goesOn) ∈ tables_1 := tb_8 (List.mem_of_getElem? (i := 143) (by rfl))
theorem wd_1824 : (Cond.instanceMethod yX12_goesOn) ∈ BIG := big_t (tb_8 (List.mem_of_getElem? (i := 144) (by rfl))) rfl
theorem wd_1825 : (Cond.code yX12_goesOn prog_14_method_29_code 5 (some .boolean)) ∈ BIG := big_t (tb_8 (List.mem_of_getElem? (i := 145) (by rfl))) rfl
theorem wd_1826 : (Cond.methodLink RX12 405 yX12_joins) ∈ BIG := big_t (tb_8 (List.mem_of_getElem? (i := 146) (by rfl))) rfl
theorem wn_1827 : (Cond.privateMethod yX12_joins) ∈ tables_1 := tb_8 (List.mem_of_getElem? (i := 147) (by rfl))
theorem wd_1828 : (Cond.instanceMethod yX12_joins) ∈ BIG := big_t (tb_8 (List.mem_of_getElem? (i := 148) (by rfl))) rfl
theorem wd_1829 : (Cond.code yX12_joins prog_14_method_21_code 2 none) ∈ BIG := big_t (tb_8 (List.mem_of_getElem? (i := 149) (by rfl))) rfl
theorem wd_1830 : (Cond.methodLink RX12 370 yX12_rank) ∈ BIG := big_t (tb_8 (List.mem_of_getElem? (i := 150) (by rfl))) rfl
theorem wd_1831 : (Cond.static yX12_rank) ∈ BIG := big_t (tb_8 (List.mem_of_getElem? (i := 151) (by rfl))) rfl
theorem wd_1832 : (Cond.code yX12_rank prog_14_method_20_code 1 (some .int)) ∈ BIG := big_t (tb_8 (List.mem_of_getElem? (i := 152) (by rfl))) rfl
theorem wd_1833 : (Cond.methodLink RX12 436 yX12_must) ∈ BIG := big_t (tb_8 (List.mem_of_getElem? (i := 153) (by rfl))) rfl
theorem wn_1834 : (Cond.privateMethod yX12_must) ∈ tables_1 := tb_8 (List.mem_of_getElem? (i := 154) (by rfl))
theorem wd_1835 : (Cond.instanceMethod yX12_must) ∈ BIG := big_t (tb_8 (List.mem_of_getElem? (i := 155) (by rfl))) rfl
theorem wd_1836 : (Cond.code yX12_must prog_14_method_13_code 2 none) ∈ BIG := big_t (tb_8 (List.mem_of_getElem? (i := 156) (by rfl))) rfl
theorem wd_1837 : (Cond.methodLink RL 32 yX12_fault) ∈ BIG := big_t (tb_8 (List.mem_of_getElem? (i := 157) (by rfl))) rfl
theorem wd_1838 : (Cond.instanceMethod yX12_fault) ∈ BIG := big_t (tb_8 (List.mem_of_getElem? (i := 158) (by rfl))) rfl
theorem wd_1839 : (Cond.selects RX12 yX12_fault yX12_fault) ∈ BIG := big_t (tb_8 (List.mem_of_getElem? (i := 159) (by rfl))) rfl
theorem wd_1840 : (Cond.code yX12_fault prog_14_method_36_code 2 (some .int)) ∈ BIG := big_t (tb_8 (List.mem_of_getElem? (i := 160) (by rfl))) rfl
theorem wd_1841 : (Cond.methodLink RL 37 yX12_name) ∈ BIG := big_t (tb_8 (List.mem_of_getElem? (i := 161) (by rfl))) rfl
theorem wd_1842 : (Cond.instanceMethod yX12_name) ∈ BIG := big_t (tb_8 (List.mem_of_getElem? (i := 162) (by rfl))) rfl
theorem wd_1843 : (Cond.selects RX12 yX12_name yX12_name) ∈ BIG := big_t (tb_8 (List.mem_of_getElem? (i := 163) (by rfl))) rfl
theorem wd_1844 : (Cond.code yX12_name prog_14_method_39_code 4 (some .int)) ∈ BIG := big_t (tb_8 (List.mem_of_getElem? (i := 164) (by rfl))) rfl
theorem wd_1845 : (Cond.methodLink RX12 447 yX12_letter) ∈ BIG := big_t (tb_8 (List.mem_of_getElem? (i := 165) (by rfl))) rfl
theorem wd_1846 : (Cond.static yX12_letter) ∈ BIG := big_t (tb_8 (List.mem_of_getElem? (i := 166) (by rfl))) rfl
theorem wd_1847 : (Cond.code yX12_letter prog_14_method_37_code 6 (some .int)) ∈ BIG := big_t (tb_8 (List.mem_of_getElem? (i := 167) (by rfl))) rfl
theorem wd_1848 : (Cond.constantLong RX12 445 255) ∈ BIG := big_t (tb_8 (List.mem_of_getElem? (i := 168) (by rfl))) rfl
theorem wd_1849 : (Cond.methodLink RL 42 yX12_marked) ∈ BIG := big_t (tb_8 (List.mem_of_getElem? (i := 169) (by rfl))) rfl
theorem wd_1850 : (Cond.instanceMethod yX12_marked) ∈ BIG := big_t (tb_8 (List.mem_of_getElem? (i := 170) (by rfl))) rfl
theorem wd_1851 : (Cond.selects RX12 yX12_marked yX12_marked) ∈ BIG := big_t (tb_8 (List.mem_of_getElem? (i := 171) (by rfl))) rfl
theorem wd_1852 : (Cond.code yX12_marked prog_14_method_40_code 3 (some .int)) ∈ BIG := big_t (tb_8 (List.mem_of_getElem? (i := 172) (by rfl))) rfl
theorem wd_1853 : (Cond.methodLink RX12 450 yX12_isKind) ∈ BIG := big_t (tb_8 (List.mem_of_getElem? (i := 173) (by rfl))) rfl
theorem wn_1854 : (Cond.privateMethod yX12_isKind) ∈ tables_1 := tb_8 (List.mem_of_getElem? (i := 174) (by rfl))
theorem wd_1855 : (Cond.instanceMethod yX12_isKind) ∈ BIG := big_t (tb_8 (List.mem_of_getElem? (i := 175) (by rfl))) rfl
theorem wd_1856 : (Cond.code yX12_isKind prog_14_method_38_code 2 (some .boolean)) ∈ BIG := big_t (tb_8 (List.mem_of_getElem? (i := 176) (by rfl))) rfl
theorem wd_1857 : (Cond.methodLink RL 46 yX12_report) ∈ BIG := big_t (tb_8 (List.mem_of_getElem? (i := 177) (by rfl))) rfl
theorem wd_1858 : (Cond.instanceMethod yX12_report) ∈ BIG := big_t (tb_8 (List.mem_of_getElem? (i := 178) (by rfl))) rfl
theorem wd_1859 : (Cond.selects RX12 yX12_report yX12_report) ∈ BIG := big_t (tb_8 (List.mem_of_getElem? (i := 179) (by rfl))) rfl
theorem wd_1860 : (Cond.code yX12_report prog_14_method_42_code 10 (some .int)) ∈ BIG := big_t (tb_8 (List.mem_of_getElem? (i := 180) (by rfl))) rfl
theorem wd_1861 : (Cond.methodLink RX12 453 yX12_tells) ∈ BIG := big_t (tb_8 (List.mem_of_getElem? (i := 181) (by rfl))) rfl
theorem wn_1862 : (Cond.privateMethod yX12_tells) ∈ tables_1 := tb_8 (List.mem_of_getElem? (i := 182) (by rfl))
theorem wd_1863 : (Cond.instanceMethod yX12_tells) ∈ BIG := big_t (tb_8 (List.mem_of_getElem? (i := 183) (by rfl))) rfl
theorem wd_1864 : (Cond.code yX12_tells prog_14_method_41_code 7 (some .int)) ∈ BIG := big_t (tb_8 (List.mem_of_getElem? (i := 184) (by rfl))) rfl
theorem wd_1865 : (Cond.methodLink RL 51 yX12_gifts) ∈ BIG := big_t (tb_8 (List.mem_of_getElem? (i := 185) (by rfl))) rfl
theorem wd_1866 : (Cond.instanceMethod yX12_gifts) ∈ BIG := big_t (tb_8 (List.mem_of_getElem? (i := 186) (by rfl))) rfl
theorem wd_1867 : (Cond.selects RX12 yX12_gifts yX12_gifts) ∈ BIG := big_t (tb_8 (List.mem_of_getElem? (i := 187) (by rfl))) rfl
theorem wd_1868 : (Cond.code yX12_gifts prog_14_method_43_code 4 (some .int)) ∈ BIG := big_t (tb_8 (List.mem_of_getElem? (i := 188) (by rfl))) rfl
theorem wd_1869 : (Cond.methodLink RL 55 yX12_call) ∈ BIG := big_t (tb_8 (List.mem_of_getElem? (i := 189) (by rfl))) rfl
theorem wd_1870 : (Cond.instanceMethod yX12_call) ∈ BIG := big_t (tb_8 (List.mem_of_getElem? (i := 190) (by rfl))) rfl
theorem wd_1871 : (Cond.selects RX12 yX12_call yX12_call) ∈ BIG := big_t (tb_8 (List.mem_of_getElem? (i := 191) (by rfl))) rfl
theorem wd_1872 : (Cond.code yX12_call prog_14_method_44_code 3 (some .int)) ∈ BIG := big_t (tb_8 (List.mem_of_getElem? (i := 192) (by rfl))) rfl
theorem wd_1873 : (Cond.methodLink RL 59 yX12_annul) ∈ BIG := big_t (tb_8 (List.mem_of_getElem? (i := 193) (by rfl))) rfl
theorem wd_1874 : (Cond.instanceMethod yX12_annul) ∈ BIG := big_t (tb_8 (List.mem_of_getElem? (i := 194) (by rfl))) rfl
theorem wd_1875 : (Cond.selects RX12 yX12_annul yX12_annul) ∈ BIG := big_t (tb_8 (List.mem_of_getElem? (i := 195) (by rfl))) rfl
theorem wd_1876 : (Cond.code yX12_annul prog_14_method_45_code 3 (some .int)) ∈ BIG := big_t (tb_8 (List.mem_of_getElem? (i := 196) (by rfl))) rfl
theorem wd_1877 : (Cond.methodLink RL 63 yX12_as) ∈ BIG := big_t (tb_8 (List.mem_of_getElem? (i := 197) (by rfl))) rfl
theorem wd_1878 : (Cond.instanceMethod yX12_as) ∈ BIG := big_t (tb_8 (List.mem_of_getElem? (i := 198) (by rfl))) rfl
theorem wd_1879 : (Cond.selects RX12 yX12_as yX12_as) ∈ BIG := big_t (tb_8 (List.mem_of_getElem? (i := 199) (by rfl))) rfl
theorem wd_1880 : (Cond.code yX12_as prog_14_method_46_code 2 (some .boolean)) ∈ BIG := big_t (tb_8 (List.mem_of_getElem? (i := 200) (by rfl))) rfl
theorem wd_1881 : (Cond.methodLink RL 71 yX12_child) ∈ BIG := big_t (tb_8 (List.mem_of_getElem? (i := 201) (by rfl))) rfl
theorem wd_1882 : (Cond.instanceMethod yX12_child) ∈ BIG := big_t (tb_8 (List.mem_of_getElem? (i := 202) (by rfl))) rfl
theorem wd_1883 : (Cond.selects RX12 yX12_child yX12_child) ∈ BIG := big_t (tb_8 (List.mem_of_getElem? (i := 203) (by rfl))) rfl
theorem wd_1884 : (Cond.code yX12_child prog_14_method_54_code 2 (some .int)) ∈ BIG := big_t (tb_8 (List.mem_of_getElem? (i := 204) (by rfl))) rfl
theorem wd_1885 : (Cond.methodLink RX12 471 yX12_knows) ∈ BIG := big_t (tb_8 (List.mem_of_getElem? (i := 205) (by rfl))) rfl
theorem wn_1886 : (Cond.privateMethod yX12_knows) ∈ tables_1 := tb_8 (List.mem_of_getElem? (i := 206) (by rfl))
theorem wd_1887 : (Cond.instanceMethod yX12_knows) ∈ BIG := big_t (tb_8 (List.mem_of_getElem? (i := 207) (by rfl))) rfl
theorem wd_1888 : (Cond.code yX12_knows prog_14_method_49_code 4 none) ∈ BIG := big_t (tb_8 (List.mem_of_getElem? (i := 208) (by rfl))) rfl
theorem wd_1889 : (Cond.methodLink RX12 461 yX12_isSo) ∈ BIG := big_t (tb_8 (List.mem_of_getElem? (i := 209) (by rfl))) rfl
theorem wn_1890 : (Cond.privateMethod yX12_isSo) ∈ tables_1 := tb_8 (List.mem_of_getElem? (i := 210) (by rfl))
theorem wd_1891 : (Cond.instanceMethod yX12_isSo) ∈ BIG := big_t (tb_8 (List.mem_of_getElem? (i := 211) (by rfl))) rfl
theorem wd_1892 : (Cond.code yX12_isSo prog_14_method_48_code 2 (some .boolean)) ∈ BIG := big_t (tb_8 (List.mem_of_getElem? (i := 212) (by rfl))) rfl
theorem wd_1893 : (Cond.methodLink RX12 457 yX12_now) ∈ BIG := big_t (tb_8 (List.mem_of_getElem? (i := 213) (by rfl))) rfl
theorem wn_1894 : (Cond.privateMethod yX12_now) ∈ tables_1 := tb_8 (List.mem_of_getElem? (i := 214) (by rfl))
theorem wd_1895 : (Cond.instanceMethod yX12_now) ∈ BIG := big_t (tb_8 (List.mem_of_getElem? (i := 215) (by rfl))) rfl
theorem wd_1896 : (Cond.code yX12_now prog_14_method_47_code 1 (some .int)) ∈ BIG := big_t (tb_8 (List.mem_of_getElem? (i := 216) (by rfl))) rfl
theorem wd_1897 : (Cond.methodLink RX12 464 yX12_comes) ∈ BIG := big_t (tb_8 (List.mem_of_getElem? (i := 217) (by rfl))) rfl
theorem wn_1898 : (Cond.privateMethod yX12_comes) ∈ tables_1 := tb_8 (List.mem_of_getElem? (i := 218) (by rfl))
theorem wd_1899 : (Cond.instanceMethod yX12_comes) ∈ BIG := big_t (tb_8 (List.mem_of_getElem? (i := 219) (by rfl))) rfl
theorem wd_1900 : (Cond.code yX12_comes prog_14_method_50_code 7 none) ∈ BIG := big_t (tb_8 (List.mem_of_getElem? (i := 220) (by rfl))) rfl
theorem wd_1901 : (Cond.methodLink RX12 467 yX12_hasWish) ∈ BIG := big_t (tb_8 (List.mem_of_getElem? (i := 221) (by rfl))) rfl
theorem wn_1902 : (Cond.privateMethod yX12_hasWish) ∈ tables_1 := tb_8 (List.mem_of_getElem? (i := 222) (by rfl))
theorem wd_1903 : (Cond.instanceMethod yX12_hasWish) ∈ BIG := big_t (tb_8 (List.mem_of_getElem? (i := 223) (by rfl))) rfl
theorem wd_1904 : (Cond.code yX12_hasWish prog_14_method_51_code 5 (some .boolean)) ∈ BIG := big_t (tb_8 (List.mem_of_getElem? (i := 224) (by rfl))) rfl
theorem wd_1905 : (Cond.methodLink RL 67 yX12_all) ∈ BIG := big_t (tb_8 (List.mem_of_getElem? (i := 225) (by rfl))) rfl
theorem wd_1906 : (Cond.instanceMethod yX12_all) ∈ BIG := big_t (tb_8 (List.mem_of_getElem? (i := 226) (by rfl))) rfl
theorem wd_1907 : (Cond.selects RX12 yX12_all yX12_all) ∈ BIG := big_t (tb_8 (List.mem_of_getElem? (i := 227) (by rfl))) rfl
theorem wd_1908 : (Cond.code yX12_all prog_14_method_65_code 2 (some .int)) ∈ BIG := big_t (tb_8 (List.mem_of_getElem? (i := 228) (by rfl))) rfl
theorem wd_1909 : (Cond.methodLink RX12 509 yX12_doubt) ∈ BIG := big_t (tb_8 (List.mem_of_getElem? (i := 229) (by rfl))) rfl
theorem wn_1910 : (Cond.privateMethod yX12_doubt) ∈ tables_1 := tb_8 (List.mem_of_getElem? (i := 230) (by rfl))
theorem wd_1911 : (Cond.instanceMethod yX12_doubt) ∈ BIG := big_t (tb_8 (List.mem_of_getElem? (i := 231) (by rfl))) rfl
theorem wd_1912 : (Cond.code yX12_doubt prog_14_method_66_code 4 (some .int)) ∈ BIG := big_t (tb_8 (List.mem_of_getElem? (i := 232) (by rfl))) rfl
theorem wd_1913 : (Cond.methodLink RL 75 yX12_of) ∈ BIG := big_t (tb_8 (List.mem_of_getElem? (i := 233) (by rfl))) rfl
theorem wd_1914 : (Cond.instanceMethod yX12_of) ∈ BIG := big_t (tb_8 (List.mem_of_getElem? (i := 234) (by rfl))) rfl
theorem wd_1915 : (Cond.selects RX12 yX12_of yX12_of) ∈ BIG := big_t (tb_8 (List.mem_of_getElem? (i := 235) (by rfl))) rfl
theorem wd_1916 : (Cond.code yX12_of prog_14_method_67_code 3 (some .int)) ∈ BIG := big_t (tb_8 (List.mem_of_getElem? (i := 236) (by rfl))) rfl
theorem wd_1917 : (Cond.methodLink RX12 512 yX12_isChild) ∈ BIG := big_t (tb_8 (List.mem_of_getElem? (i := 237) (by rfl))) rfl
theorem wn_1918 : (Cond.privateMethod yX12_isChild) ∈ tables_1 := tb_8 (List.mem_of_getElem? (i := 238) (by rfl))
theorem wd_1919 : (Cond.instanceMethod yX12_isChild) ∈ BIG := big_t (tb_8 (List.mem_of_getElem? (i := 239) (by rfl))) rfl
theorem wd_1920 : (Cond.code yX12_isChild prog_14_method_53_code 2 (some .boolean)) ∈ BIG := big_t (tb_9 (List.mem_of_getElem? (i := 0) (by rfl))) rfl
theorem wd_1921 : (Cond.methodLink RX12 478 yX12_inHouse) ∈ BIG := big_t (tb_9 (List.mem_of_getElem? (i := 1) (by rfl))) rfl
theorem wn_1922 : (Cond.privateMethod yX12_inHouse) ∈ tables_1 := tb_9 (List.mem_of_getElem? (i := 2) (by rfl))
theorem wd_1923 : (Cond.instanceMethod yX12_inHouse) ∈ BIG := big_t (tb_9 (List.mem_of_getElem? (i := 3) (by rfl))) rfl
theorem wd_1924 : (Cond.code yX12_inHouse prog_14_method_52_code 4 (some .int)) ∈ BIG := big_t (tb_9 (List.mem_of_getElem? (i := 4) (by rfl))) rfl
theorem wd_1925 : (Cond.methodLink RX12 515 yX12_due) ∈ BIG := big_t (tb_9 (List.mem_of_getElem? (i := 5) (by rfl))) rfl
theorem wn_1926 : (Cond.privateMethod yX12_due) ∈ tables_1 := tb_9 (List.mem_of_getElem? (i := 6) (by rfl))
theorem wd_1927 : (Cond.instanceMethod yX12_due) ∈ BIG := big_t (tb_9 (List.mem_of_getElem? (i := 7) (by rfl))) rfl
theorem wd_1928 : (Cond.code yX12_due prog_14_method_62_code 5 (some .int)) ∈ BIG := big_t (tb_9 (List.mem_of_getElem? (i := 8) (by rfl))) rfl
theorem wd_1929 : (Cond.methodLink RX12 493 yX12_row) ∈ BIG := big_t (tb_9 (List.mem_of_getElem? (i := 9) (by rfl))) rfl
theorem wn_1930 : (Cond.privateMethod yX12_row) ∈ tables_1 := tb_9 (List.mem_of_getElem? (i := 10) (by rfl))
theorem wd_1931 : (Cond.instanceMethod yX12_row) ∈ BIG := big_t (tb_9 (List.mem_of_getElem? (i := 11) (by rfl))) rfl
theorem wd_1932 : (Cond.code yX12_row prog_14_method_59_code 2 (some .int)) ∈ BIG := big_t (tb_9 (List.mem_of_getElem? (i := 12) (by rfl))) rfl
theorem wd_1933 : (Cond.methodLink RX12 500 yX12_isFor) ∈ BIG := big_t (tb_9 (List.mem_of_getElem? (i := 13) (by rfl))) rfl
theorem wn_1934 : (Cond.privateMethod yX12_isFor) ∈ tables_1 := tb_9 (List.mem_of_getElem? (i := 14) (by rfl))
theorem wd_1935 : (Cond.instanceMethod yX12_isFor) ∈ BIG := big_t (tb_9 (List.mem_of_getElem? (i := 15) (by rfl))) rfl
theorem wd_1936 : (Cond.code yX12_isFor prog_14_method_60_code 3 (some .boolean)) ∈ BIG := big_t (tb_9 (List.mem_of_getElem? (i := 16) (by rfl))) rfl
theorem wd_1937 : (Cond.methodLink RX12 496 yX12_works) ∈ BIG := big_t (tb_9 (List.mem_of_getElem? (i := 17) (by rfl))) rfl
theorem wn_1938 : (Cond.privateMethod yX12_works) ∈ tables_1 := tb_9 (List.mem_of_getElem? (i := 18) (by rfl))
theorem wd_1939 : (Cond.instanceMethod yX12_works) ∈ BIG := big_t (tb_9 (List.mem_of_getElem? (i := 19) (by rfl))) rfl
theorem wd_1940 : (Cond.code yX12_works prog_14_method_58_code 8 (some .long)) ∈ BIG := big_t (tb_9 (List.mem_of_getElem? (i := 20) (by rfl))) rfl
theorem wd_1941 : (Cond.methodLink RX12 485 yX12_leaf) ∈ BIG := big_t (tb_9 (List.mem_of_getElem? (i := 21) (by rfl))) rfl
theorem wn_1942 : (Cond.privateMethod yX12_leaf) ∈ tables_1 := tb_9 (List.mem_of_getElem? (i := 22) (by rfl))
theorem wd_1943 : (Cond.instanceMethod yX12_leaf) ∈ BIG := big_t (tb_9 (List.mem_of_getElem? (i := 23) (by rfl))) rfl
theorem wd_1944 : (Cond.code yX12_leaf prog_14_method_56_code 6 (some .long)) ∈ BIG := big_t (tb_9 (List.mem_of_getElem? (i := 24) (by rfl))) rfl
theorem wd_1945 : (Cond.methodLink RX12 489 yX12_two) ∈ BIG := big_t (tb_9 (List.mem_of_getElem? (i := 25) (by rfl))) rfl
theorem wd_1946 : (Cond.static yX12_two) ∈ BIG := big_t (tb_9 (List.mem_of_getElem? (i := 26) (by rfl))) rfl
theorem wd_1947 : (Cond.code yX12_two prog_14_method_57_code 5 (some .long)) ∈ BIG := big_t (tb_9 (List.mem_of_getElem? (i := 27) (by rfl))) rfl
theorem wd_1948 : (Cond.methodLink RX12 481 yX12_held) ∈ BIG := big_t (tb_9 (List.mem_of_getElem? (i := 28) (by rfl))) rfl
theorem wd_1949 : (Cond.static yX12_held) ∈ BIG := big_t (tb_9 (List.mem_of_getElem? (i := 29) (by rfl))) rfl
theorem wd_1950 : (Cond.code yX12_held prog_14_method_55_code 2 (some .long)) ∈ BIG := big_t (tb_9 (List.mem_of_getElem? (i := 30) (by rfl))) rfl
theorem wd_1951 : (Cond.constantLong RX12 474 1000000) ∈ BIG := big_t (tb_9 (List.mem_of_getElem? (i := 31) (by rfl))) rfl
theorem wd_1952 : (Cond.constantLong RX12 476 (-1000000)) ∈ BIG := big_t (tb_9 (List.mem_of_getElem? (i := 32) (by rfl))) rfl
theorem wd_1953 : (Cond.constantLong RX12 504 3) ∈ BIG := big_t (tb_9 (List.mem_of_getElem? (i := 33) (by rfl))) rfl
theorem wd_1954 : (Cond.methodLink RL 79 yX12_wish) ∈ BIG := big_t (tb_9 (List.mem_of_getElem? (i := 34) (by rfl))) rfl
theorem wd_1955 : (Cond.instanceMethod yX12_wish) ∈ BIG := big_t (tb_9 (List.mem_of_getElem? (i := 35) (by rfl))) rfl
theorem wd_1956 : (Cond.selects RX12 yX12_wish yX12_wish) ∈ BIG := big_t (tb_9 (List.mem_of_getElem? (i := 36) (by rfl))) rfl
theorem wd_1957 : (Cond.code yX12_wish prog_14_method_68_code 4 (some .int)) ∈ BIG := big_t (tb_9 (List.mem_of_getElem? (i := 37) (by rfl))) rfl
theorem wd_1958 : (Cond.methodLink RL 83 yX12_may) ∈ BIG := big_t (tb_9 (List.mem_of_getElem? (i := 38) (by rfl))) rfl
theorem wd_1959 : (Cond.instanceMethod yX12_may) ∈ BIG := big_t (tb_9 (List.mem_of_getElem? (i := 39) (by rfl))) rfl
theorem wd_1960 : (Cond.selects RX12 yX12_may yX12_may) ∈ BIG := big_t (tb_9 (List.mem_of_getElem? (i := 40) (by rfl))) rfl
theorem wd_1961 : (Cond.code yX12_may prog_14_method_69_code 3 (some .int)) ∈ BIG := big_t (tb_9 (List.mem_of_getElem? (i := 41) (by rfl))) rfl
theorem wd_1962 : (Cond.methodLink RX12 518 yX12_mayGet) ∈ BIG := big_t (tb_9 (List.mem_of_getElem? (i := 42) (by rfl))) rfl
theorem wn_1963 : (Cond.privateMethod yX12_mayGet) ∈ tables_1 := tb_9 (List.mem_of_getElem? (i := 43) (by rfl))
theorem wd_1964 : (Cond.instanceMethod yX12_mayGet) ∈ BIG := big_t (tb_9 (List.mem_of_getElem? (i := 44) (by rfl))) rfl
theorem wd_1965 : (Cond.code yX12_mayGet prog_14_method_63_code 4 (some .boolean)) ∈ BIG := big_t (tb_9 (List.mem_of_getElem? (i := 45) (by rfl))) rfl
theorem wd_1966 : (Cond.methodLink RX12 506 yX12_isOf) ∈ BIG := big_t (tb_9 (List.mem_of_getElem? (i := 46) (by rfl))) rfl
theorem wn_1967 : (Cond.privateMethod yX12_isOf) ∈ tables_1 := tb_9 (List.mem_of_getElem? (i := 47) (by rfl))
theorem wd_1968 : (Cond.instanceMethod yX12_isOf) ∈ BIG := big_t (tb_9 (List.mem_of_getElem? (i := 48) (by rfl))) rfl
theorem wd_1969 : (Cond.code yX12_isOf prog_14_method_61_code 4 (some .boolean)) ∈ BIG := big_t (tb_9 (List.mem_of_getElem? (i := 49) (by rfl))) rfl
theorem wd_1970 : (Cond.methodLink RL 87 yX12_points) ∈ BIG := big_t (tb_9 (List.mem_of_getElem? (i := 50) (by rfl))) rfl
theorem wd_1971 : (Cond.instanceMethod yX12_points) ∈ BIG := big_t (tb_9 (List.mem_of_getElem? (i := 51) (by rfl))) rfl
theorem wd_1972 : (Cond.selects RX12 yX12_points yX12_points) ∈ BIG := big_t (tb_9 (List.mem_of_getElem? (i := 52) (by rfl))) rfl
theorem wd_1973 : (Cond.code yX12_points prog_14_method_70_code 3 (some .int)) ∈ BIG := big_t (tb_9 (List.mem_of_getElem? (i := 53) (by rfl))) rfl
theorem wd_1974 : (Cond.constant RX12 521 (-2000000000)) ∈ BIG := big_t (tb_9 (List.mem_of_getElem? (i := 54) (by rfl))) rfl
theorem wd_1975 : (Cond.methodLink RX12 522 yX12_pointsOf) ∈ BIG := big_t (tb_9 (List.mem_of_getElem? (i := 55) (by rfl))) rfl
theorem wn_1976 : (Cond.privateMethod yX12_pointsOf) ∈ tables_1 := tb_9 (List.mem_of_getElem? (i := 56) (by rfl))
theorem wd_1977 : (Cond.instanceMethod yX12_pointsOf) ∈ BIG := big_t (tb_9 (List.mem_of_getElem? (i := 57) (by rfl))) rfl
theorem wd_1978 : (Cond.code yX12_pointsOf prog_14_method_64_code 6 (some .int)) ∈ BIG := big_t (tb_9 (List.mem_of_getElem? (i := 58) (by rfl))) rfl
theorem wd_1979 : (Cond.methodLink RL 91 yX12_give) ∈ BIG := big_t (tb_9 (List.mem_of_getElem? (i := 59) (by rfl))) rfl
theorem wd_1980 : (Cond.instanceMethod yX12_give) ∈ BIG := big_t (tb_9 (List.mem_of_getElem? (i := 60) (by rfl))) rfl
theorem wd_1981 : (Cond.selects RX12 yX12_give yX12_give) ∈ BIG := big_t (tb_9 (List.mem_of_getElem? (i := 61) (by rfl))) rfl
theorem wd_1982 : (Cond.code yX12_give prog_14_method_76_code 3 (some .int)) ∈ BIG := big_t (tb_9 (List.mem_of_getElem? (i := 62) (by rfl))) rfl
theorem wd_1983 : (Cond.methodLink RX12 533 yX12_arrives) ∈ BIG := big_t (tb_9 (List.mem_of_getElem? (i := 63) (by rfl))) rfl
theorem wn_1984 : (Cond.privateMethod yX12_arrives) ∈ tables_1 := tb_9 (List.mem_of_getElem? (i := 64) (by rfl))
theorem wd_1985 : (Cond.instanceMethod yX12_arrives) ∈ BIG := big_t (tb_9 (List.mem_of_getElem? (i := 65) (by rfl))) rfl
theorem wd_1986 : (Cond.code yX12_arrives prog_14_method_75_code 2 none) ∈ BIG := big_t (tb_9 (List.mem_of_getElem? (i := 66) (by rfl))) rfl
theorem wd_1987 : (Cond.methodLink RX12 536 yX12_lane) ∈ BIG := big_t (tb_9 (List.mem_of_getElem? (i := 67) (by rfl))) rfl
theorem wn_1988 : (Cond.privateMethod yX12_lane) ∈ tables_1 := tb_9 (List.mem_of_getElem? (i := 68) (by rfl))
theorem wd_1989 : (Cond.instanceMethod yX12_lane) ∈ BIG := big_t (tb_9 (List.mem_of_getElem? (i := 69) (by rfl))) rfl
theorem wd_1990 : (Cond.code yX12_lane prog_14_method_71_code 6 (some .int)) ∈ BIG := big_t (tb_9 (List.mem_of_getElem? (i := 70) (by rfl))) rfl
theorem wd_1991 : (Cond.constant RX12 540 268435456) ∈ BIG := big_t (tb_9 (List.mem_of_getElem? (i := 71) (by rfl))) rfl
theorem wd_1992 : (Cond.methodLink RX12 541 yX12_settles) ∈ BIG := big_t (tb_9 (List.mem_of_getElem? (i := 72) (by rfl))) rfl
theorem wn_1993 : (Cond.privateMethod yX12_settles) ∈ tables_1 := tb_9 (List.mem_of_getElem? (i := 73) (by rfl))
theorem wd_1994 : (Cond.instanceMethod yX12_settles) ∈ BIG := big_t (tb_9 (List.mem_of_getElem? (i := 74) (by rfl))) rfl
theorem wd_1995 : (Cond.code yX12_settles prog_14_method_74_code 3 none) ∈ BIG := big_t (tb_9 (List.mem_of_getElem? (i := 75) (by rfl))) rfl
theorem wd_1996 : (Cond.methodLink RX12 527 yX12_finds) ∈ BIG := big_t (tb_9 (List.mem_of_getElem? (i := 76) (by rfl))) rfl
theorem wn_1997 : (Cond.privateMethod yX12_finds) ∈ tables_1 := tb_9 (List.mem_of_getElem? (i := 77) (by rfl))
theorem wd_1998 : (Cond.instanceMethod yX12_finds) ∈ BIG := big_t (tb_9 (List.mem_of_getElem? (i := 78) (by rfl))) rfl
theorem wd_1999 : (Cond.code yX12_finds prog_14_method_72_code 5 (some .boolean)) ∈ BIG := big_t (tb_9 (List.mem_of_getElem? (i := 79) (by rfl))) rfl
theorem wd_2000 : (Cond.constantLong RX12 525 1152921504606846976) ∈ BIG := big_t (tb_9 (List.mem_of_getElem? (i := 80) (by rfl))) rfl
theorem wd_2001 : (Cond.methodLink RX12 530 yX12_goes) ∈ BIG := big_t (tb_9 (List.mem_of_getElem? (i := 81) (by rfl))) rfl
theorem wn_2002 : (Cond.privateMethod yX12_goes) ∈ tables_1 := tb_9 (List.mem_of_getElem? (i := 82) (by rfl))
theorem wd_2003 : (Cond.instanceMethod yX12_goes) ∈ BIG := big_t (tb_9 (List.mem_of_getElem? (i := 83) (by rfl))) rfl
theorem wd_2004 : (Cond.code yX12_goes prog_14_method_73_code 4 none) ∈ BIG := big_t (tb_9 (List.mem_of_getElem? (i := 84) (by rfl))) rfl
theorem wd_2005 : (Cond.methodLink RL 95 yX12_given) ∈ BIG := big_t (tb_9 (List.mem_of_getElem? (i := 85) (by rfl))) rfl
theorem wd_2006 : (Cond.instanceMethod yX12_given) ∈ BIG := big_t (tb_9 (List.mem_of_getElem? (i := 86) (by rfl))) rfl
theorem wd_2007 : (Cond.selects RX12 yX12_given yX12_given) ∈ BIG := big_t (tb_9 (List.mem_of_getElem? (i := 87) (by rfl))) rfl
theorem wd_2008 : (Cond.code yX12_given prog_14_method_78_code 4 (some .int)) ∈ BIG := big_t (tb_9 (List.mem_of_getElem? (i := 88) (by rfl))) rfl
theorem wd_2009 : (Cond.methodLink RX12 544 yX12_bits) ∈ BIG := big_t (tb_9 (List.mem_of_getElem? (i := 89) (by rfl))) rfl
theorem wd_2010 : (Cond.static yX12_bits) ∈ BIG := big_t (tb_9 (List.mem_of_getElem? (i := 90) (by rfl))) rfl
theorem wd_2011 : (Cond.code yX12_bits prog_14_method_77_code 3 (some .int)) ∈ BIG := big_t (tb_9 (List.mem_of_getElem? (i := 91) (by rfl))) rfl
theorem wd_2012 : (Cond.methodLink RL 99 yX12_gets) ∈ BIG := big_t (tb_9 (List.mem_of_getElem? (i := 92) (by rfl))) rfl
theorem wd_2013 : (Cond.instanceMethod yX12_gets) ∈ BIG := big_t (tb_9 (List.mem_of_getElem? (i := 93) (by rfl))) rfl
theorem wd_2014 : (Cond.selects RX12 yX12_gets yX12_gets) ∈ BIG := big_t (tb_9 (List.mem_of_getElem? (i := 94) (by rfl))) rfl
theorem wd_2015 : (Cond.code yX12_gets prog_14_method_80_code 2 (some .int)) ∈ BIG := big_t (tb_9 (List.mem_of_getElem? (i := 95) (by rfl))) rfl
theorem wd_2016 : (Cond.methodLink RX12 547 yX12_was) ∈ BIG := big_t (tb_9 (List.mem_of_getElem? (i := 96) (by rfl))) rfl
theorem wn_2017 : (Cond.privateMethod yX12_was) ∈ tables_1 := tb_9 (List.mem_of_getElem? (i := 97) (by rfl))
theorem wd_2018 : (Cond.instanceMethod yX12_was) ∈ BIG := big_t (tb_9 (List.mem_of_getElem? (i := 98) (by rfl))) rfl
theorem wd_2019 : (Cond.code yX12_was prog_14_method_79_code 2 (some .boolean)) ∈ BIG := big_t (tb_9 (List.mem_of_getElem? (i := 99) (by rfl))) rfl
theorem wd_2020 : (Cond.methodLink RL 103 yX12_left) ∈ BIG := big_t (tb_9 (List.mem_of_getElem? (i := 100) (by rfl))) rfl
theorem wd_2021 : (Cond.instanceMethod yX12_left) ∈ BIG := big_t (tb_9 (List.mem_of_getElem? (i := 101) (by rfl))) rfl
theorem wd_2022 : (Cond.selects RX12 yX12_left yX12_left) ∈ BIG := big_t (tb_9 (List.mem_of_getElem? (i := 102) (by rfl))) rfl
theorem wd_2023 : (Cond.code yX12_left prog_14_method_81_code 2 (some .int)) ∈ BIG := big_t (tb_9 (List.mem_of_getElem? (i := 103) (by rfl))) rfl
theorem wd_2024 : (Cond.methodLink RL 107 yX12_blind) ∈ BIG := big_t (tb_9 (List.mem_of_getElem? (i := 104) (by rfl))) rfl
theorem wd_2025 : (Cond.instanceMethod yX12_blind) ∈ BIG := big_t (tb_9 (List.mem_of_getElem? (i := 105) (by rfl))) rfl
theorem wd_2026 : (Cond.selects RX12 yX12_blind yX12_blind) ∈ BIG := big_t (tb_9 (List.mem_of_getElem? (i := 106) (by rfl))) rfl
theorem wd_2027 : (Cond.code yX12_blind prog_14_method_82_code 3 (some .int)) ∈ BIG := big_t (tb_9 (List.mem_of_getElem? (i := 107) (by rfl))) rfl
theorem wd_2028 : (Cond.methodLink RX12 550 yX12_blindDay) ∈ BIG := big_t (tb_9 (List.mem_of_getElem? (i := 108) (by rfl))) rfl
theorem wn_2029 : (Cond.privateMethod yX12_blindDay) ∈ tables_1 := tb_9 (List.mem_of_getElem? (i := 109) (by rfl))
theorem wd_2030 : (Cond.instanceMethod yX12_blindDay) ∈ BIG := big_t (tb_9 (List.mem_of_getElem? (i := 110) (by rfl))) rfl
theorem wd_2031 : (Cond.code yX12_blindDay prog_14_method_83_code 6 (some .int)) ∈ BIG := big_t (tb_9 (List.mem_of_getElem? (i := 111) (by rfl))) rfl
theorem wd_2032 : (Cond.methodLink RL 111 yX12_lacks) ∈ BIG := big_t (tb_9 (List.mem_of_getElem? (i := 112) (by rfl))) rfl
theorem wd_2033 : (Cond.instanceMethod yX12_lacks) ∈ BIG := big_t (tb_9 (List.mem_of_getElem? (i := 113) (by rfl))) rfl
theorem wd_2034 : (Cond.selects RX12 yX12_lacks yX12_lacks) ∈ BIG := big_t (tb_9 (List.mem_of_getElem? (i := 114) (by rfl))) rfl
theorem wd_2035 : (Cond.code yX12_lacks prog_14_method_84_code 5 (some .int)) ∈ BIG := big_t (tb_9 (List.mem_of_getElem? (i := 115) (by rfl))) rfl
theorem wd_2036 : (Cond.methodLink RL 115 yX12_price) ∈ BIG := big_t (tb_9 (List.mem_of_getElem? (i := 116) (by rfl))) rfl
theorem wd_2037 : (Cond.instanceMethod yX12_price) ∈ BIG := big_t (tb_9 (List.mem_of_getElem? (i := 117) (by rfl))) rfl
theorem wd_2038 : (Cond.selects RX12 yX12_price yX12_price) ∈ BIG := big_t (tb_9 (List.mem_of_getElem? (i := 118) (by rfl))) rfl
theorem wd_2039 : (Cond.code yX12_price prog_14_method_90_code 2 (some .int)) ∈ BIG := big_t (tb_9 (List.mem_of_getElem? (i := 119) (by rfl))) rfl
theorem wd_2040 : (Cond.methodLink RX12 565 yX12_costs) ∈ BIG := big_t (tb_9 (List.mem_of_getElem? (i := 120) (by rfl))) rfl
theorem wn_2041 : (Cond.privateMethod yX12_costs) ∈ tables_1 := tb_9 (List.mem_of_getElem? (i := 121) (by rfl))
theorem wd_2042 : (Cond.instanceMethod yX12_costs) ∈ BIG := big_t (tb_9 (List.mem_of_getElem? (i := 122) (by rfl))) rfl
theorem wd_2043 : (Cond.code yX12_costs prog_14_method_89_code 10 (some .int)) ∈ BIG := big_t (tb_9 (List.mem_of_getElem? (i := 123) (by rfl))) rfl
theorem wd_2044 : (Cond.methodLink RX12 559 yX12_isRight) ∈ BIG := big_t (tb_9 (List.mem_of_getElem? (i := 124) (by rfl))) rfl
theorem wn_2045 : (Cond.privateMethod yX12_isRight) ∈ tables_1 := tb_9 (List.mem_of_getElem? (i := 125) (by rfl))
theorem wd_2046 : (Cond.instanceMethod yX12_isRight) ∈ BIG := big_t (tb_9 (List.mem_of_getElem? (i := 126) (by rfl))) rfl
theorem wd_2047 : (Cond.code yX12_isRight prog_14_method_87_code 2 (some .boolean)) ∈ BIG := big_t (tb_9 (List.mem_of_getElem? (i := 127) (by rfl))) rfl
theorem wd_2048 : (Cond.methodLink RX12 553 yX12_worth) ∈ BIG := big_t (tb_9 (List.mem_of_getElem? (i := 128) (by rfl))) rfl
theorem wn_2049 : (Cond.privateMethod yX12_worth) ∈ tables_1 := tb_9 (List.mem_of_getElem? (i := 129) (by rfl))
theorem wd_2050 : (Cond.instanceMethod yX12_worth) ∈ BIG := big_t (tb_9 (List.mem_of_getElem? (i := 130) (by rfl))) rfl
theorem wd_2051 : (Cond.code yX12_worth prog_14_method_85_code 4 (some .int)) ∈ BIG := big_t (tb_9 (List.mem_of_getElem? (i := 131) (by rfl))) rfl
theorem wd_2052 : (Cond.methodLink RX12 556 yX12_greatest) ∈ BIG := big_t (tb_9 (List.mem_of_getElem? (i := 132) (by rfl))) rfl
theorem wn_2053 : (Cond.privateMethod yX12_greatest) ∈ tables_1 := tb_9 (List.mem_of_getElem? (i := 133) (by rfl))
theorem wd_2054 : (Cond.instanceMethod yX12_greatest) ∈ BIG := big_t (tb_9 (List.mem_of_getElem? (i := 134) (by rfl))) rfl
theorem wd_2055 : (Cond.code yX12_greatest prog_14_method_86_code 5 (some .int)) ∈ BIG := big_t (tb_9 (List.mem_of_getElem? (i := 135) (by rfl))) rfl
theorem wd_2056 : (Cond.methodLink RX12 562 yX12_isAhead) ∈ BIG := big_t (tb_9 (List.mem_of_getElem? (i := 136) (by rfl))) rfl
theorem wd_2057 : (Cond.static yX12_isAhead) ∈ BIG := big_t (tb_9 (List.mem_of_getElem? (i := 137) (by rfl))) rfl
theorem wd_2058 : (Cond.code yX12_isAhead prog_14_method_88_code 3 (some .boolean)) ∈ BIG := big_t (tb_9 (List.mem_of_getElem? (i := 138) (by rfl))) rfl
theorem wd_2059 : (Cond.methodLink RL 119 yX12_spend) ∈ BIG := big_t (tb_9 (List.mem_of_getElem? (i := 139) (by rfl))) rfl
theorem wd_2060 : (Cond.instanceMethod yX12_spend) ∈ BIG := big_t (tb_9 (List.mem_of_getElem? (i := 140) (by rfl))) rfl
theorem wd_2061 : (Cond.selects RX12 yX12_spend yX12_spend) ∈ BIG := big_t (tb_9 (List.mem_of_getElem? (i := 141) (by rfl))) rfl
theorem wd_2062 : (Cond.code yX12_spend prog_14_method_91_code 6 (some .int)) ∈ BIG := big_t (tb_9 (List.mem_of_getElem? (i := 142) (by rfl))) rfl
theorem wd_2063 : (Cond.constant RX12 568 100000) ∈ BIG := big_t (tb_9 (List.mem_of_getElem? (i := 143) (by rfl))) rfl
theorem wd_2064 : (Cond.methodLink RL 123 yX12_spent) ∈ BIG := big_t (tb_9 (List.mem_of_getElem? (i := 144) (by rfl))) rfl
theorem wd_2065 : (Cond.instanceMethod yX12_spent) ∈ BIG := big_t (tb_9 (List.mem_of_getElem? (i := 145) (by rfl))) rfl
theorem wd_2066 : (Cond.selects RX12 yX12_spent yX12_spent) ∈ BIG := big_t (tb_9 (List.mem_of_getElem? (i := 146) (by rfl))) rfl
theorem wd_2067 : (Cond.code yX12_spent prog_14_method_92_code 1 (some .int)) ∈ BIG := big_t (tb_9 (List.mem_of_getElem? (i := 147) (by rfl))) rfl
theorem wd_2068 : (Cond.methodLink RL 127 yX12_right) ∈ BIG := big_t (tb_9 (List.mem_of_getElem? (i := 148) (by rfl))) rfl
theorem wd_2069 : (Cond.instanceMethod yX12_right) ∈ BIG := big_t (tb_9 (List.mem_of_getElem? (i := 149) (by rfl))) rfl
theorem wd_2070 : (Cond.selects RX12 yX12_right yX12_right) ∈ BIG := big_t (tb_9 (List.mem_of_getElem? (i := 150) (by rfl))) rfl
theorem wd_2071 : (Cond.code yX12_right prog_14_method_93_code 3 (some .int)) ∈ BIG := big_t (tb_9 (List.mem_of_getElem? (i := 151) (by rfl))) rfl
theorem wd_2072 : (Cond.methodLink RL 131 yX12_walks) ∈ BIG := big_t (tb_9 (List.mem_of_getElem? (i := 152) (by rfl))) rfl
theorem wd_2073 : (Cond.instanceMethod yX12_walks) ∈ BIG := big_t (tb_9 (List.mem_of_getElem? (i := 153) (by rfl))) rfl
theorem wd_2074 : (Cond.selects RX12 yX12_walks yX12_walks) ∈ BIG := big_t (tb_9 (List.mem_of_getElem? (i := 154) (by rfl))) rfl
theorem wd_2075 : (Cond.code yX12_walks prog_14_method_96_code 4 (some .int)) ∈ BIG := big_t (tb_9 (List.mem_of_getElem? (i := 155) (by rfl))) rfl
theorem wd_2076 : (Cond.methodLink RX12 572 yX12_packs) ∈ BIG := big_t (tb_9 (List.mem_of_getElem? (i := 156) (by rfl))) rfl
theorem wn_2077 : (Cond.privateMethod yX12_packs) ∈ tables_1 := tb_9 (List.mem_of_getElem? (i := 157) (by rfl))
theorem wd_2078 : (Cond.instanceMethod yX12_packs) ∈ BIG := big_t (tb_9 (List.mem_of_getElem? (i := 158) (by rfl))) rfl
theorem wd_2079 : (Cond.code yX12_packs prog_14_method_95_code 3 none) ∈ BIG := big_t (tb_9 (List.mem_of_getElem? (i := 159) (by rfl))) rfl
theorem wd_2080 : (Cond.methodLink RX12 569 yX12_farOf) ∈ BIG := big_t (tb_9 (List.mem_of_getElem? (i := 160) (by rfl))) rfl
theorem wn_2081 : (Cond.privateMethod yX12_farOf) ∈ tables_1 := tb_9 (List.mem_of_getElem? (i := 161) (by rfl))
theorem wd_2082 : (Cond.instanceMethod yX12_farOf) ∈ BIG := big_t (tb_9 (List.mem_of_getElem? (i := 162) (by rfl))) rfl
theorem wd_2083 : (Cond.code yX12_farOf prog_14_method_94_code 4 (some .int)) ∈ BIG := big_t (tb_9 (List.mem_of_getElem? (i := 163) (by rfl))) rfl
theorem wd_2084 : (Cond.methodLink RL 135 yX12_bag) ∈ BIG := big_t (tb_9 (List.mem_of_getElem? (i := 164) (by rfl))) rfl
theorem wd_2085 : (Cond.instanceMethod yX12_bag) ∈ BIG := big_t (tb_9 (List.mem_of_getElem? (i := 165) (by rfl))) rfl
theorem wd_2086 : (Cond.selects RX12 yX12_bag yX12_bag) ∈ BIG := big_t (tb_9 (List.mem_of_getElem? (i := 166) (by rfl))) rfl
theorem wd_2087 : (Cond.code yX12_bag prog_14_method_97_code 2 (some .int)) ∈ BIG := big_t (tb_9 (List.mem_of_getElem? (i := 167) (by rfl))) rfl
theorem wd_2088 : (Cond.methodLink RL 139 yX12_queue) ∈ BIG := big_t (tb_9 (List.mem_of_getElem? (i := 168) (by rfl))) rfl
theorem wd_2089 : (Cond.instanceMethod yX12_queue) ∈ BIG := big_t (tb_9 (List.mem_of_getElem? (i := 169) (by rfl))) rfl
theorem wd_2090 : (Cond.selects RX12 yX12_queue yX12_queue) ∈ BIG := big_t (tb_9 (List.mem_of_getElem? (i := 170) (by rfl))) rfl
theorem wd_2091 : (Cond.code yX12_queue prog_14_method_99_code 10 (some .int)) ∈ BIG := big_t (tb_9 (List.mem_of_getElem? (i := 171) (by rfl))) rfl
theorem wd_2092 : (Cond.methodLink RX12 575 yX12_bagsOf) ∈ BIG := big_t (tb_9 (List.mem_of_getElem? (i := 172) (by rfl))) rfl
theorem wn_2093 : (Cond.privateMethod yX12_bagsOf) ∈ tables_1 := tb_9 (List.mem_of_getElem? (i := 173) (by rfl))
theorem wd_2094 : (Cond.instanceMethod yX12_bagsOf) ∈ BIG := big_t (tb_9 (List.mem_of_getElem? (i := 174) (by rfl))) rfl
theorem wd_2095 : (Cond.code yX12_bagsOf prog_14_method_98_code 5 (some .int)) ∈ BIG := big_t (tb_9 (List.mem_of_getElem? (i := 175) (by rfl))) rfl
theorem wd_2096 : (Cond.methodLink RL 143 yX12_label) ∈ BIG := big_t (tb_9 (List.mem_of_getElem? (i := 176) (by rfl))) rfl
theorem wd_2097 : (Cond.instanceMethod yX12_label) ∈ BIG := big_t (tb_9 (List.mem_of_getElem? (i := 177) (by rfl))) rfl
theorem wd_2098 : (Cond.selects RX12 yX12_label yX12_label) ∈ BIG := big_t (tb_9 (List.mem_of_getElem? (i := 178) (by rfl))) rfl
theorem wd_2099 : (Cond.code yX12_label prog_14_method_101_code 6 (some .int)) ∈ BIG := big_t (tb_9 (List.mem_of_getElem? (i := 179) (by rfl))) rfl
theorem wd_2100 : (Cond.methodLink RX12 578 yX12_writes) ∈ BIG := big_t (tb_9 (List.mem_of_getElem? (i := 180) (by rfl))) rfl
theorem wn_2101 : (Cond.privateMethod yX12_writes) ∈ tables_1 := tb_9 (List.mem_of_getElem? (i := 181) (by rfl))
theorem wd_2102 : (Cond.instanceMethod yX12_writes) ∈ BIG := big_t (tb_9 (List.mem_of_getElem? (i := 182) (by rfl))) rfl
theorem wd_2103 : (Cond.code yX12_writes prog_14_method_100_code 2 none) ∈ BIG := big_t (tb_9 (List.mem_of_getElem? (i := 183) (by rfl))) rfl
theorem wd_2104 : (Cond.methodLink RL 147 yX12_at) ∈ BIG := big_t (tb_9 (List.mem_of_getElem? (i := 184) (by rfl))) rfl
theorem wd_2105 : (Cond.instanceMethod yX12_at) ∈ BIG := big_t (tb_9 (List.mem_of_getElem? (i := 185) (by rfl))) rfl
theorem wd_2106 : (Cond.selects RX12 yX12_at yX12_at) ∈ BIG := big_t (tb_9 (List.mem_of_getElem? (i := 186) (by rfl))) rfl
theorem wd_2107 : (Cond.code yX12_at prog_14_method_102_code 2 (some .int)) ∈ BIG := big_t (tb_9 (List.mem_of_getElem? (i := 187) (by rfl))) rfl
theorem wd_2108 : (Cond.fieldLink RJ0 9 "java/lang/String" "value" "[B") ∈ BIG := big_t (tb_9 (List.mem_of_getElem? (i := 188) (by rfl))) rfl
theorem wd_2109 : (Cond.fieldLink RJ0 15 "java/lang/String" "coder" "B") ∈ BIG := big_t (tb_9 (List.mem_of_getElem? (i := 189) (by rfl))) rfl
theorem pv_1 {q : MethodName × Nat} (h : q ∈ lw_privs_1) : q ∈ lw_privs := List.mem_append_left _ h
theorem ws_yX10_readWord : Cond.selects RX10 yX10_readWord yX10_readWord ∈ BIG := big_p (q := (yX10_readWord, 8)) (pv_1 (List.mem_of_getElem? (i := 0) (by rfl)))
theorem ws_yX10_readNumber : Cond.selects RX10 yX10_readNumber yX10_readNumber ∈ BIG := big_p (q := (yX10_readNumber, 8)) (pv_1 (List.mem_of_getElem? (i := 1) (by rfl)))
theorem ws_yX8_readsKind : Cond.selects RX8 yX8_readsKind yX8_readsKind ∈ BIG := big_p (q := (yX8_readsKind, 5)) (pv_1 (List.mem_of_getElem? (i := 2) (by rfl)))
theorem ws_yX8_fails : Cond.selects RX8 yX8_fails yX8_fails ∈ BIG := big_p (q := (yX8_fails, 5)) (pv_1 (List.mem_of_getElem? (i := 3) (by rfl)))
theorem ws_yX8_readsNumber : Cond.selects RX8 yX8_readsNumber yX8_readsNumber ∈ BIG := big_p (q := (yX8_readsNumber, 5)) (pv_1 (List.mem_of_getElem? (i := 4) (by rfl)))
theorem ws_yX8_passes : Cond.selects RX8 yX8_passes yX8_passes ∈ BIG := big_p (q := (yX8_passes, 5)) (pv_1 (List.mem_of_getElem? (i := 5) (by rfl)))
theorem ws_yX8_readsMarks : Cond.selects RX8 yX8_readsMarks yX8_readsMarks ∈ BIG := big_p (q := (yX8_readsMarks, 5)) (pv_1 (List.mem_of_getElem? (i := 6) (by rfl)))
theorem ws_yX8_readsMark : Cond.selects RX8 yX8_readsMark yX8_readsMark ∈ BIG := big_p (q := (yX8_readsMark, 5)) (pv_1 (List.mem_of_getElem? (i := 7) (by rfl)))
theorem ws_yX8_readsEven : Cond.selects RX8 yX8_readsEven yX8_readsEven ∈ BIG := big_p (q := (yX8_readsEven, 5)) (pv_1 (List.mem_of_getElem? (i := 8) (by rfl)))
theorem ws_yX8_readsClause : Cond.selects RX8 yX8_readsClause yX8_readsClause ∈ BIG := big_p (q := (yX8_readsClause, 5)) (pv_1 (List.mem_of_getElem? (i := 9) (by rfl)))
theorem ws_yX8_readsSum : Cond.selects RX8 yX8_readsSum yX8_readsSum ∈ BIG := big_p (q := (yX8_readsSum, 5)) (pv_1 (List.mem_of_getElem? (i := 10) (by rfl)))
theorem ws_yX8_readsPart : Cond.selects RX8 yX8_readsPart yX8_readsPart ∈ BIG := big_p (q := (yX8_readsPart, 5)) (pv_1 (List.mem_of_getElem? (i := 11) (by rfl)))
theorem ws_yX8_opens : Cond.selects RX8 yX8_opens yX8_opens ∈ BIG := big_p (q := (yX8_opens, 5)) (pv_1 (List.mem_of_getElem? (i := 12) (by rfl)))
theorem ws_yX8_readsEither : Cond.selects RX8 yX8_readsEither yX8_readsEither ∈ BIG := big_p (q := (yX8_readsEither, 5)) (pv_1 (List.mem_of_getElem? (i := 13) (by rfl)))
theorem ws_yX8_readsBoth : Cond.selects RX8 yX8_readsBoth yX8_readsBoth ∈ BIG := big_p (q := (yX8_readsBoth, 5)) (pv_1 (List.mem_of_getElem? (i := 14) (by rfl)))
theorem ws_yX8_readsSingle : Cond.selects RX8 yX8_readsSingle yX8_readsSingle ∈ BIG := big_p (q := (yX8_readsSingle, 5)) (pv_1 (List.mem_of_getElem? (i := 15) (by rfl)))
theorem pv_2 {q : MethodName × Nat} (h : q ∈ lw_privs_2) : q ∈ lw_privs := List.mem_append_right _ (List.mem_append_left _ h)
theorem ws_yX8_readsKinds : Cond.selects RX8 yX8_readsKinds yX8_readsKinds ∈ BIG := big_p (q := (yX8_readsKinds, 5)) (pv_2 (List.mem_of_getElem? (i := 0) (by rfl)))
theorem ws_yX8_readsFact : Cond.selects RX8 yX8_readsFact yX8_readsFact ∈ BIG := big_p (q := (yX8_readsFact, 5)) (pv_2 (List.mem_of_getElem? (i := 1) (by rfl)))
theorem ws_yX8_passesComparison : Cond.selects RX8 yX8_passesComparison yX8_passesComparison ∈ BIG := big_p (q := (yX8_passesComparison, 5)) (pv_2 (List.mem_of_getElem? (i := 2) (by rfl)))
theorem ws_yX5_value : Cond.selects RX5 yX5_value yX5_value ∈ BIG := big_p (q := (yX5_value, 7)) (pv_2 (List.mem_of_getElem? (i := 3) (by rfl)))
theorem ws_yX5_leaf : Cond.selects RX5 yX5_leaf yX5_leaf ∈ BIG := big_p (q := (yX5_leaf, 7)) (pv_2 (List.mem_of_getElem? (i := 4) (by rfl)))
theorem ws_yX11_isKind : Cond.selects RX11 yX11_isKind yX11_isKind ∈ BIG := big_p (q := (yX11_isKind, 14)) (pv_2 (List.mem_of_getElem? (i := 5) (by rfl)))
theorem ws_yX11_actNow : Cond.selects RX11 yX11_actNow yX11_actNow ∈ BIG := big_p (q := (yX11_actNow, 14)) (pv_2 (List.mem_of_getElem? (i := 6) (by rfl)))
theorem ws_yX11_look : Cond.selects RX11 yX11_look yX11_look ∈ BIG := big_p (q := (yX11_look, 14)) (pv_2 (List.mem_of_getElem? (i := 7) (by rfl)))
theorem ws_yX6_learn : Cond.selects RX6 yX6_learn yX6_learn ∈ BIG := big_p (q := (yX6_learn, 16)) (pv_2 (List.mem_of_getElem? (i := 8) (by rfl)))
theorem ws_yX6_learnReport : Cond.selects RX6 yX6_learnReport yX6_learnReport ∈ BIG := big_p (q := (yX6_learnReport, 16)) (pv_2 (List.mem_of_getElem? (i := 9) (by rfl)))
theorem ws_yX6_find : Cond.selects RX6 yX6_find yX6_find ∈ BIG := big_p (q := (yX6_find, 16)) (pv_2 (List.mem_of_getElem? (i := 10) (by rfl)))
theorem ws_yX6_learnWish : Cond.selects RX6 yX6_learnWish yX6_learnWish ∈ BIG := big_p (q := (yX6_learnWish, 16)) (pv_2 (List.mem_of_getElem? (i := 11) (by rfl)))
theorem ws_yX6_areAlike : Cond.selects RX6 yX6_areAlike yX6_areAlike ∈ BIG := big_p (q := (yX6_areAlike, 16)) (pv_2 (List.mem_of_getElem? (i := 12) (by rfl)))
theorem ws_yX11_isChild : Cond.selects RX11 yX11_isChild yX11_isChild ∈ BIG := big_p (q := (yX11_isChild, 14)) (pv_2 (List.mem_of_getElem? (i := 13) (by rfl)))
theorem ws_yX5_gatherFacts : Cond.selects RX5 yX5_gatherFacts yX5_gatherFacts ∈ BIG := big_p (q := (yX5_gatherFacts, 7)) (pv_2 (List.mem_of_getElem? (i := 14) (by rfl)))
theorem ws_yX5_obey : Cond.selects RX5 yX5_obey yX5_obey ∈ BIG := big_p (q := (yX5_obey, 7)) (pv_2 (List.mem_of_getElem? (i := 15) (by rfl)))
theorem pv_3 {q : MethodName × Nat} (h : q ∈ lw_privs_3) : q ∈ lw_privs := List.mem_append_right _ (List.mem_append_right _ (List.mem_append_left _ h))
theorem ws_yX11_weighAll : Cond.selects RX11 yX11_weighAll yX11_weighAll ∈ BIG := big_p (q := (yX11_weighAll, 14)) (pv_3 (List.mem_of_getElem? (i := 0) (by rfl)))
theorem ws_yX3_addRow : Cond.selects RX3 yX3_addRow yX3_addRow ∈ BIG := big_p (q := (yX3_addRow, 12)) (pv_3 (List.mem_of_getElem? (i := 1) (by rfl)))
theorem ws_yX2_serves : Cond.selects RX2 yX2_serves yX2_serves ∈ BIG := big_p (q := (yX2_serves, 11)) (pv_3 (List.mem_of_getElem? (i := 2) (by rfl)))
theorem ws_yX2_startQueue : Cond.selects RX2 yX2_startQueue yX2_startQueue ∈ BIG := big_p (q := (yX2_startQueue, 11)) (pv_3 (List.mem_of_getElem? (i := 3) (by rfl)))
theorem ws_yX2_enqueue : Cond.selects RX2 yX2_enqueue yX2_enqueue ∈ BIG := big_p (q := (yX2_enqueue, 11)) (pv_3 (List.mem_of_getElem? (i := 4) (by rfl)))
theorem ws_yX2_runQueue : Cond.selects RX2 yX2_runQueue yX2_runQueue ∈ BIG := big_p (q := (yX2_runQueue, 11)) (pv_3 (List.mem_of_getElem? (i := 5) (by rfl)))
theorem ws_yX2_want : Cond.selects RX2 yX2_want yX2_want ∈ BIG := big_p (q := (yX2_want, 11)) (pv_3 (List.mem_of_getElem? (i := 6) (by rfl)))
theorem ws_yX2_settle : Cond.selects RX2 yX2_settle yX2_settle ∈ BIG := big_p (q := (yX2_settle, 11)) (pv_3 (List.mem_of_getElem? (i := 7) (by rfl)))
theorem ws_yX2_cheapestLeft : Cond.selects RX2 yX2_cheapestLeft yX2_cheapestLeft ∈ BIG := big_p (q := (yX2_cheapestLeft, 11)) (pv_3 (List.mem_of_getElem? (i := 8) (by rfl)))
theorem ws_yX2_change : Cond.selects RX2 yX2_change yX2_change ∈ BIG := big_p (q := (yX2_change, 11)) (pv_3 (List.mem_of_getElem? (i := 9) (by rfl)))
theorem ws_yX2_cheapestLoser : Cond.selects RX2 yX2_cheapestLoser yX2_cheapestLoser ∈ BIG := big_p (q := (yX2_cheapestLoser, 11)) (pv_3 (List.mem_of_getElem? (i := 10) (by rfl)))
theorem ws_yX2_levelDue : Cond.selects RX2 yX2_levelDue yX2_levelDue ∈ BIG := big_p (q := (yX2_levelDue, 11)) (pv_3 (List.mem_of_getElem? (i := 11) (by rfl)))
theorem ws_yX2_levelLeft : Cond.selects RX2 yX2_levelLeft yX2_levelLeft ∈ BIG := big_p (q := (yX2_levelLeft, 11)) (pv_3 (List.mem_of_getElem? (i := 12) (by rfl)))
theorem ws_yX9_rankRow : Cond.selects RX9 yX9_rankRow yX9_rankRow ∈ BIG := big_p (q := (yX9_rankRow, 16)) (pv_3 (List.mem_of_getElem? (i := 13) (by rfl)))
theorem ws_yX9_freshSearch : Cond.selects RX9 yX9_freshSearch yX9_freshSearch ∈ BIG := big_p (q := (yX9_freshSearch, 16)) (pv_3 (List.mem_of_getElem? (i := 14) (by rfl)))
theorem ws_yX9_canChange : Cond.selects RX9 yX9_canChange yX9_canChange ∈ BIG := big_p (q := (yX9_canChange, 16)) (pv_3 (List.mem_of_getElem? (i := 15) (by rfl)))
theorem pv_4 {q : MethodName × Nat} (h : q ∈ lw_privs_4) : q ∈ lw_privs := List.mem_append_right _ (List.mem_append_right _ (List.mem_append_right _ (List.mem_append_left _ h)))
theorem ws_yX9_mayTake : Cond.selects RX9 yX9_mayTake yX9_mayTake ∈ BIG := big_p (q := (yX9_mayTake, 16)) (pv_4 (List.mem_of_getElem? (i := 0) (by rfl)))
theorem ws_yX9_finds : Cond.selects RX9 yX9_finds yX9_finds ∈ BIG := big_p (q := (yX9_finds, 16)) (pv_4 (List.mem_of_getElem? (i := 1) (by rfl)))
theorem ws_yX9_spread : Cond.selects RX9 yX9_spread yX9_spread ∈ BIG := big_p (q := (yX9_spread, 16)) (pv_4 (List.mem_of_getElem? (i := 2) (by rfl)))
theorem ws_yX9_isFree : Cond.selects RX9 yX9_isFree yX9_isFree ∈ BIG := big_p (q := (yX9_isFree, 16)) (pv_4 (List.mem_of_getElem? (i := 3) (by rfl)))
theorem ws_yX9_see : Cond.selects RX9 yX9_see yX9_see ∈ BIG := big_p (q := (yX9_see, 16)) (pv_4 (List.mem_of_getElem? (i := 4) (by rfl)))
theorem ws_yX9_seeRow : Cond.selects RX9 yX9_seeRow yX9_seeRow ∈ BIG := big_p (q := (yX9_seeRow, 16)) (pv_4 (List.mem_of_getElem? (i := 5) (by rfl)))
theorem ws_yX9_widen : Cond.selects RX9 yX9_widen yX9_widen ∈ BIG := big_p (q := (yX9_widen, 16)) (pv_4 (List.mem_of_getElem? (i := 6) (by rfl)))
theorem ws_yX9_spreadDue : Cond.selects RX9 yX9_spreadDue yX9_spreadDue ∈ BIG := big_p (q := (yX9_spreadDue, 16)) (pv_4 (List.mem_of_getElem? (i := 7) (by rfl)))
theorem ws_yX9_spreadLeft : Cond.selects RX9 yX9_spreadLeft yX9_spreadLeft ∈ BIG := big_p (q := (yX9_spreadLeft, 16)) (pv_4 (List.mem_of_getElem? (i := 8) (by rfl)))
theorem ws_yX9_turn : Cond.selects RX9 yX9_turn yX9_turn ∈ BIG := big_p (q := (yX9_turn, 16)) (pv_4 (List.mem_of_getElem? (i := 9) (by rfl)))
theorem ws_yX4_tally : Cond.selects RX4 yX4_tally yX4_tally ∈ BIG := big_p (q := (yX4_tally, 17)) (pv_4 (List.mem_of_getElem? (i := 10) (by rfl)))
theorem ws_yX4_isRight : Cond.selects RX4 yX4_isRight yX4_isRight ∈ BIG := big_p (q := (yX4_isRight, 17)) (pv_4 (List.mem_of_getElem? (i := 11) (by rfl)))
theorem ws_yX4_worthOf : Cond.selects RX4 yX4_worthOf yX4_worthOf ∈ BIG := big_p (q := (yX4_worthOf, 17)) (pv_4 (List.mem_of_getElem? (i := 12) (by rfl)))
theorem ws_yX4_greatest : Cond.selects RX4 yX4_greatest yX4_greatest ∈ BIG := big_p (q := (yX4_greatest, 17)) (pv_4 (List.mem_of_getElem? (i := 13) (by rfl)))
theorem ws_yX4_cheapest : Cond.selects RX4 yX4_cheapest yX4_cheapest ∈ BIG := big_p (q := (yX4_cheapest, 17)) (pv_4 (List.mem_of_getElem? (i := 14) (by rfl)))
theorem ws_yX4_listSets : Cond.selects RX4 yX4_listSets yX4_listSets ∈ BIG := big_p (q := (yX4_listSets, 17)) (pv_4 (List.mem_of_getElem? (i := 15) (by rfl)))
theorem pv_5 {q : MethodName × Nat} (h : q ∈ lw_privs_5) : q ∈ lw_privs := List.mem_append_right _ (List.mem_append_right _ (List.mem_append_right _ (List.mem_append_right _ (List.mem_append_left _ h))))
theorem ws_yX4_isBetter : Cond.selects RX4 yX4_isBetter yX4_isBetter ∈ BIG := big_p (q := (yX4_isBetter, 17)) (pv_5 (List.mem_of_getElem? (i := 0) (by rfl)))
theorem ws_yX4_cheapestOffer : Cond.selects RX4 yX4_cheapestOffer yX4_cheapestOffer ∈ BIG := big_p (q := (yX4_cheapestOffer, 17)) (pv_5 (List.mem_of_getElem? (i := 1) (by rfl)))
theorem ws_yX0_insert : Cond.selects RX0 yX0_insert yX0_insert ∈ BIG := big_p (q := (yX0_insert, 11)) (pv_5 (List.mem_of_getElem? (i := 2) (by rfl)))
theorem ws_yX0_addToHouse : Cond.selects RX0 yX0_addToHouse yX0_addToHouse ∈ BIG := big_p (q := (yX0_addToHouse, 11)) (pv_5 (List.mem_of_getElem? (i := 3) (by rfl)))
theorem ws_yX0_serve : Cond.selects RX0 yX0_serve yX0_serve ∈ BIG := big_p (q := (yX0_serve, 11)) (pv_5 (List.mem_of_getElem? (i := 4) (by rfl)))
theorem ws_yX0_put : Cond.selects RX0 yX0_put yX0_put ∈ BIG := big_p (q := (yX0_put, 11)) (pv_5 (List.mem_of_getElem? (i := 5) (by rfl)))
theorem ws_yX12_put : Cond.selects RX12 yX12_put yX12_put ∈ BIG := big_p (q := (yX12_put, 94)) (pv_5 (List.mem_of_getElem? (i := 6) (by rfl)))
theorem ws_yX12_starts : Cond.selects RX12 yX12_starts yX12_starts ∈ BIG := big_p (q := (yX12_starts, 94)) (pv_5 (List.mem_of_getElem? (i := 7) (by rfl)))
theorem ws_yX12_looks : Cond.selects RX12 yX12_looks yX12_looks ∈ BIG := big_p (q := (yX12_looks, 94)) (pv_5 (List.mem_of_getElem? (i := 8) (by rfl)))
theorem ws_yX12_blame : Cond.selects RX12 yX12_blame yX12_blame ∈ BIG := big_p (q := (yX12_blame, 94)) (pv_5 (List.mem_of_getElem? (i := 9) (by rfl)))
theorem ws_yX12_statement : Cond.selects RX12 yX12_statement yX12_statement ∈ BIG := big_p (q := (yX12_statement, 94)) (pv_5 (List.mem_of_getElem? (i := 10) (by rfl)))
theorem ws_yX12_isWord : Cond.selects RX12 yX12_isWord yX12_isWord ∈ BIG := big_p (q := (yX12_isWord, 94)) (pv_5 (List.mem_of_getElem? (i := 11) (by rfl)))
theorem ws_yX12_kind : Cond.selects RX12 yX12_kind yX12_kind ∈ BIG := big_p (q := (yX12_kind, 94)) (pv_5 (List.mem_of_getElem? (i := 12) (by rfl)))
theorem ws_yX12_isOwn : Cond.selects RX12 yX12_isOwn yX12_isOwn ∈ BIG := big_p (q := (yX12_isOwn, 94)) (pv_5 (List.mem_of_getElem? (i := 13) (by rfl)))
theorem ws_yX12_findKind : Cond.selects RX12 yX12_findKind yX12_findKind ∈ BIG := big_p (q := (yX12_findKind, 94)) (pv_5 (List.mem_of_getElem? (i := 14) (by rfl)))
theorem ws_yX12_findMark : Cond.selects RX12 yX12_findMark yX12_findMark ∈ BIG := big_p (q := (yX12_findMark, 94)) (pv_5 (List.mem_of_getElem? (i := 15) (by rfl)))
theorem pv_6 {q : MethodName × Nat} (h : q ∈ lw_privs_6) : q ∈ lw_privs := List.mem_append_right _ (List.mem_append_right _ (List.mem_append_right _ (List.mem_append_right _ (List.mem_append_right _ (List.mem_append_left _ h)))))
theorem ws_yX12_mustWord : Cond.selects RX12 yX12_mustWord yX12_mustWord ∈ BIG := big_p (q := (yX12_mustWord, 94)) (pv_6 (List.mem_of_getElem? (i := 0) (by rfl)))
theorem ws_yX12_number : Cond.selects RX12 yX12_number yX12_number ∈ BIG := big_p (q := (yX12_number, 94)) (pv_6 (List.mem_of_getElem? (i := 1) (by rfl)))
theorem ws_yX12_mark : Cond.selects RX12 yX12_mark yX12_mark ∈ BIG := big_p (q := (yX12_mark, 94)) (pv_6 (List.mem_of_getElem? (i := 2) (by rfl)))
theorem ws_yX12_isSign : Cond.selects RX12 yX12_isSign yX12_isSign ∈ BIG := big_p (q := (yX12_isSign, 94)) (pv_6 (List.mem_of_getElem? (i := 3) (by rfl)))
theorem ws_yX12_rule : Cond.selects RX12 yX12_rule yX12_rule ∈ BIG := big_p (q := (yX12_rule, 94)) (pv_6 (List.mem_of_getElem? (i := 4) (by rfl)))
theorem ws_yX12_reads : Cond.selects RX12 yX12_reads yX12_reads ∈ BIG := big_p (q := (yX12_reads, 94)) (pv_6 (List.mem_of_getElem? (i := 5) (by rfl)))
theorem ws_yX12_pushes : Cond.selects RX12 yX12_pushes yX12_pushes ∈ BIG := big_p (q := (yX12_pushes, 94)) (pv_6 (List.mem_of_getElem? (i := 6) (by rfl)))
theorem ws_yX12_part : Cond.selects RX12 yX12_part yX12_part ∈ BIG := big_p (q := (yX12_part, 94)) (pv_6 (List.mem_of_getElem? (i := 7) (by rfl)))
theorem ws_yX12_waits : Cond.selects RX12 yX12_waits yX12_waits ∈ BIG := big_p (q := (yX12_waits, 94)) (pv_6 (List.mem_of_getElem? (i := 8) (by rfl)))
theorem ws_yX12_opens : Cond.selects RX12 yX12_opens yX12_opens ∈ BIG := big_p (q := (yX12_opens, 94)) (pv_6 (List.mem_of_getElem? (i := 9) (by rfl)))
theorem ws_yX12_atom : Cond.selects RX12 yX12_atom yX12_atom ∈ BIG := big_p (q := (yX12_atom, 94)) (pv_6 (List.mem_of_getElem? (i := 10) (by rfl)))
theorem ws_yX12_add : Cond.selects RX12 yX12_add yX12_add ∈ BIG := big_p (q := (yX12_add, 94)) (pv_6 (List.mem_of_getElem? (i := 11) (by rfl)))
theorem ws_yX12_goesOn : Cond.selects RX12 yX12_goesOn yX12_goesOn ∈ BIG := big_p (q := (yX12_goesOn, 94)) (pv_6 (List.mem_of_getElem? (i := 12) (by rfl)))
theorem ws_yX12_joins : Cond.selects RX12 yX12_joins yX12_joins ∈ BIG := big_p (q := (yX12_joins, 94)) (pv_6 (List.mem_of_getElem? (i := 13) (by rfl)))
theorem ws_yX12_must : Cond.selects RX12 yX12_must yX12_must ∈ BIG := big_p (q := (yX12_must, 94)) (pv_6 (List.mem_of_getElem? (i := 14) (by rfl)))
theorem ws_yX12_isKind : Cond.selects RX12 yX12_isKind yX12_isKind ∈ BIG := big_p (q := (yX12_isKind, 94)) (pv_6 (List.mem_of_getElem? (i := 15) (by rfl)))
theorem pv_7 {q : MethodName × Nat} (h : q ∈ lw_privs_7) : q ∈ lw_privs := List.mem_append_right _ (List.mem_append_right _ (List.mem_append_right _ (List.mem_append_right _ (List.mem_append_right _ (List.mem_append_right _ (List.mem_append_left _ h))))))
theorem ws_yX12_tells : Cond.selects RX12 yX12_tells yX12_tells ∈ BIG := big_p (q := (yX12_tells, 94)) (pv_7 (List.mem_of_getElem? (i := 0) (by rfl)))
theorem ws_yX12_knows : Cond.selects RX12 yX12_knows yX12_knows ∈ BIG := big_p (q := (yX12_knows, 94)) (pv_7 (List.mem_of_getElem? (i := 1) (by rfl)))
theorem ws_yX12_isSo : Cond.selects RX12 yX12_isSo yX12_isSo ∈ BIG := big_p (q := (yX12_isSo, 94)) (pv_7 (List.mem_of_getElem? (i := 2) (by rfl)))
theorem ws_yX12_now : Cond.selects RX12 yX12_now yX12_now ∈ BIG := big_p (q := (yX12_now, 94)) (pv_7 (List.mem_of_getElem? (i := 3) (by rfl)))
theorem ws_yX12_comes : Cond.selects RX12 yX12_comes yX12_comes ∈ BIG := big_p (q := (yX12_comes, 94)) (pv_7 (List.mem_of_getElem? (i := 4) (by rfl)))
theorem ws_yX12_hasWish : Cond.selects RX12 yX12_hasWish yX12_hasWish ∈ BIG := big_p (q := (yX12_hasWish, 94)) (pv_7 (List.mem_of_getElem? (i := 5) (by rfl)))
theorem ws_yX12_doubt : Cond.selects RX12 yX12_doubt yX12_doubt ∈ BIG := big_p (q := (yX12_doubt, 94)) (pv_7 (List.mem_of_getElem? (i := 6) (by rfl)))
theorem ws_yX12_isChild : Cond.selects RX12 yX12_isChild yX12_isChild ∈ BIG := big_p (q := (yX12_isChild, 94)) (pv_7 (List.mem_of_getElem? (i := 7) (by rfl)))
theorem ws_yX12_inHouse : Cond.selects RX12 yX12_inHouse yX12_inHouse ∈ BIG := big_p (q := (yX12_inHouse, 94)) (pv_7 (List.mem_of_getElem? (i := 8) (by rfl)))
theorem ws_yX12_due : Cond.selects RX12 yX12_due yX12_due ∈ BIG := big_p (q := (yX12_due, 94)) (pv_7 (List.mem_of_getElem? (i := 9) (by rfl)))
theorem ws_yX12_row : Cond.selects RX12 yX12_row yX12_row ∈ BIG := big_p (q := (yX12_row, 94)) (pv_7 (List.mem_of_getElem? (i := 10) (by rfl)))
theorem ws_yX12_isFor : Cond.selects RX12 yX12_isFor yX12_isFor ∈ BIG := big_p (q := (yX12_isFor, 94)) (pv_7 (List.mem_of_getElem? (i := 11) (by rfl)))
theorem ws_yX12_works : Cond.selects RX12 yX12_works yX12_works ∈ BIG := big_p (q := (yX12_works, 94)) (pv_7 (List.mem_of_getElem? (i := 12) (by rfl)))
theorem ws_yX12_leaf : Cond.selects RX12 yX12_leaf yX12_leaf ∈ BIG := big_p (q := (yX12_leaf, 94)) (pv_7 (List.mem_of_getElem? (i := 13) (by rfl)))
theorem ws_yX12_mayGet : Cond.selects RX12 yX12_mayGet yX12_mayGet ∈ BIG := big_p (q := (yX12_mayGet, 94)) (pv_7 (List.mem_of_getElem? (i := 14) (by rfl)))
theorem ws_yX12_isOf : Cond.selects RX12 yX12_isOf yX12_isOf ∈ BIG := big_p (q := (yX12_isOf, 94)) (pv_7 (List.mem_of_getElem? (i := 15) (by rfl)))
theorem pv_8 {q : MethodName × Nat} (h : q ∈ lw_privs_8) : q ∈ lw_privs := List.mem_append_right _ (List.mem_append_right _ (List.mem_append_right _ (List.mem_append_right _ (List.mem_append_right _ (List.mem_append_right _ (List.mem_append_right _ (h)))))))
theorem ws_yX12_pointsOf : Cond.selects RX12 yX12_pointsOf yX12_pointsOf ∈ BIG := big_p (q := (yX12_pointsOf, 94)) (pv_8 (List.mem_of_getElem? (i := 0) (by rfl)))
theorem ws_yX12_arrives : Cond.selects RX12 yX12_arrives yX12_arrives ∈ BIG := big_p (q := (yX12_arrives, 94)) (pv_8 (List.mem_of_getElem? (i := 1) (by rfl)))
theorem ws_yX12_lane : Cond.selects RX12 yX12_lane yX12_lane ∈ BIG := big_p (q := (yX12_lane, 94)) (pv_8 (List.mem_of_getElem? (i := 2) (by rfl)))
theorem ws_yX12_settles : Cond.selects RX12 yX12_settles yX12_settles ∈ BIG := big_p (q := (yX12_settles, 94)) (pv_8 (List.mem_of_getElem? (i := 3) (by rfl)))
theorem ws_yX12_finds : Cond.selects RX12 yX12_finds yX12_finds ∈ BIG := big_p (q := (yX12_finds, 94)) (pv_8 (List.mem_of_getElem? (i := 4) (by rfl)))
theorem ws_yX12_goes : Cond.selects RX12 yX12_goes yX12_goes ∈ BIG := big_p (q := (yX12_goes, 94)) (pv_8 (List.mem_of_getElem? (i := 5) (by rfl)))
theorem ws_yX12_was : Cond.selects RX12 yX12_was yX12_was ∈ BIG := big_p (q := (yX12_was, 94)) (pv_8 (List.mem_of_getElem? (i := 6) (by rfl)))
theorem ws_yX12_blindDay : Cond.selects RX12 yX12_blindDay yX12_blindDay ∈ BIG := big_p (q := (yX12_blindDay, 94)) (pv_8 (List.mem_of_getElem? (i := 7) (by rfl)))
theorem ws_yX12_costs : Cond.selects RX12 yX12_costs yX12_costs ∈ BIG := big_p (q := (yX12_costs, 94)) (pv_8 (List.mem_of_getElem? (i := 8) (by rfl)))
theorem ws_yX12_isRight : Cond.selects RX12 yX12_isRight yX12_isRight ∈ BIG := big_p (q := (yX12_isRight, 94)) (pv_8 (List.mem_of_getElem? (i := 9) (by rfl)))
theorem ws_yX12_worth : Cond.selects RX12 yX12_worth yX12_worth ∈ BIG := big_p (q := (yX12_worth, 94)) (pv_8 (List.mem_of_getElem? (i := 10) (by rfl)))
theorem ws_yX12_greatest : Cond.selects RX12 yX12_greatest yX12_greatest ∈ BIG := big_p (q := (yX12_greatest, 94)) (pv_8 (List.mem_of_getElem? (i := 11) (by rfl)))
theorem ws_yX12_packs : Cond.selects RX12 yX12_packs yX12_packs ∈ BIG := big_p (q := (yX12_packs, 94)) (pv_8 (List.mem_of_getElem? (i := 12) (by rfl)))
theorem ws_yX12_farOf : Cond.selects RX12 yX12_farOf yX12_farOf ∈ BIG := big_p (q := (yX12_farOf, 94)) (pv_8 (List.mem_of_getElem? (i := 13) (by rfl)))
theorem ws_yX12_bagsOf : Cond.selects RX12 yX12_bagsOf yX12_bagsOf ∈ BIG := big_p (q := (yX12_bagsOf, 94)) (pv_8 (List.mem_of_getElem? (i := 14) (by rfl)))
theorem ws_yX12_writes : Cond.selects RX12 yX12_writes yX12_writes ∈ BIG := big_p (q := (yX12_writes, 94)) (pv_8 (List.mem_of_getElem? (i := 15) (by rfl)))
