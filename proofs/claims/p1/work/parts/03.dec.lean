theorem dX11_init_0 : decode cX11_init 0 = .ok (.aload_n 0, 1) := by decide +kernel
theorem dX11_init_1 : decode cX11_init 1 = .ok (.invokespecial 3, 3) := by decide +kernel
theorem dX11_init_4 : decode cX11_init 4 = .ok (.aload_n 0, 1) := by decide +kernel
theorem dX11_init_5 : decode cX11_init 5 = .ok (.new 9, 3) := by decide +kernel
theorem dX11_init_8 : decode cX11_init 8 = .ok (.dup, 1) := by decide +kernel
theorem dX11_init_9 : decode cX11_init 9 = .ok (.invokespecial 11, 3) := by decide +kernel
theorem dX11_init_12 : decode cX11_init 12 = .ok (.putfield 12, 3) := by decide +kernel
theorem dX11_init_15 : decode cX11_init 15 = .ok (.aload_n 0, 1) := by decide +kernel
theorem dX11_init_16 : decode cX11_init 16 = .ok (.new 9, 3) := by decide +kernel
theorem dX11_init_19 : decode cX11_init 19 = .ok (.dup, 1) := by decide +kernel
theorem dX11_init_20 : decode cX11_init 20 = .ok (.invokespecial 11, 3) := by decide +kernel
theorem dX11_init_23 : decode cX11_init 23 = .ok (.putfield 16, 3) := by decide +kernel
theorem dX11_init_26 : decode cX11_init 26 = .ok (.aload_n 0, 1) := by decide +kernel
theorem dX11_init_27 : decode cX11_init 27 = .ok (.new 19, 3) := by decide +kernel
theorem dX11_init_30 : decode cX11_init 30 = .ok (.dup, 1) := by decide +kernel
theorem dX11_init_31 : decode cX11_init 31 = .ok (.invokespecial 21, 3) := by decide +kernel
theorem dX11_init_34 : decode cX11_init 34 = .ok (.putfield 22, 3) := by decide +kernel
theorem dX11_init_37 : decode cX11_init 37 = .ok (.aload_n 0, 1) := by decide +kernel
theorem dX11_init_38 : decode cX11_init 38 = .ok (.new 26, 3) := by decide +kernel
theorem dX11_init_41 : decode cX11_init 41 = .ok (.dup, 1) := by decide +kernel
theorem dX11_init_42 : decode cX11_init 42 = .ok (.aload_n 0, 1) := by decide +kernel
theorem dX11_init_43 : decode cX11_init 43 = .ok (.getfield 22, 3) := by decide +kernel
theorem dX11_init_46 : decode cX11_init 46 = .ok (.aload_n 0, 1) := by decide +kernel
theorem dX11_init_47 : decode cX11_init 47 = .ok (.getfield 16, 3) := by decide +kernel
theorem dX11_init_50 : decode cX11_init 50 = .ok (.invokespecial 28, 3) := by decide +kernel
theorem dX11_init_53 : decode cX11_init 53 = .ok (.putfield 31, 3) := by decide +kernel
theorem dX11_init_56 : decode cX11_init 56 = .ok (.aload_n 0, 1) := by decide +kernel
theorem dX11_init_57 : decode cX11_init 57 = .ok (.new 35, 3) := by decide +kernel
theorem dX11_init_60 : decode cX11_init 60 = .ok (.dup, 1) := by decide +kernel
theorem dX11_init_61 : decode cX11_init 61 = .ok (.invokespecial 37, 3) := by decide +kernel
theorem dX11_init_64 : decode cX11_init 64 = .ok (.putfield 38, 3) := by decide +kernel
theorem dX11_init_67 : decode cX11_init 67 = .ok (.aload_n 0, 1) := by decide +kernel
theorem dX11_init_68 : decode cX11_init 68 = .ok (.new 42, 3) := by decide +kernel
theorem dX11_init_71 : decode cX11_init 71 = .ok (.dup, 1) := by decide +kernel
theorem dX11_init_72 : decode cX11_init 72 = .ok (.invokespecial 44, 3) := by decide +kernel
theorem dX11_init_75 : decode cX11_init 75 = .ok (.putfield 45, 3) := by decide +kernel
theorem dX11_init_78 : decode cX11_init 78 = .ok (.aload_n 0, 1) := by decide +kernel
theorem dX11_init_79 : decode cX11_init 79 = .ok (.new 49, 3) := by decide +kernel
theorem dX11_init_82 : decode cX11_init 82 = .ok (.dup, 1) := by decide +kernel
theorem dX11_init_83 : decode cX11_init 83 = .ok (.invokespecial 51, 3) := by decide +kernel
theorem dX11_init_86 : decode cX11_init 86 = .ok (.putfield 52, 3) := by decide +kernel
theorem dX11_init_89 : decode cX11_init 89 = .ok (.aload_n 0, 1) := by decide +kernel
theorem dX11_init_90 : decode cX11_init 90 = .ok (.new 56, 3) := by decide +kernel
theorem dX11_init_93 : decode cX11_init 93 = .ok (.dup, 1) := by decide +kernel
theorem dX11_init_94 : decode cX11_init 94 = .ok (.invokespecial 58, 3) := by decide +kernel
theorem dX11_init_97 : decode cX11_init 97 = .ok (.putfield 59, 3) := by decide +kernel
theorem dX11_init_100 : decode cX11_init 100 = .ok (.aload_n 0, 1) := by decide +kernel
theorem dX11_init_101 : decode cX11_init 101 = .ok (.new 63, 3) := by decide +kernel
theorem dX11_init_104 : decode cX11_init 104 = .ok (.dup, 1) := by decide +kernel
theorem dX11_init_105 : decode cX11_init 105 = .ok (.aload_n 0, 1) := by decide +kernel
theorem dX11_init_106 : decode cX11_init 106 = .ok (.getfield 59, 3) := by decide +kernel
theorem dX11_init_109 : decode cX11_init 109 = .ok (.invokespecial 65, 3) := by decide +kernel
theorem dX11_init_112 : decode cX11_init 112 = .ok (.putfield 68, 3) := by decide +kernel
theorem dX11_init_115 : decode cX11_init 115 = .ok (.aload_n 0, 1) := by decide +kernel
theorem dX11_init_116 : decode cX11_init 116 = .ok (.new 72, 3) := by decide +kernel
theorem dX11_init_119 : decode cX11_init 119 = .ok (.dup, 1) := by decide +kernel
theorem dX11_init_120 : decode cX11_init 120 = .ok (.aload_n 0, 1) := by decide +kernel
theorem dX11_init_121 : decode cX11_init 121 = .ok (.getfield 59, 3) := by decide +kernel
theorem dX11_init_124 : decode cX11_init 124 = .ok (.aload_n 0, 1) := by decide +kernel
theorem dX11_init_125 : decode cX11_init 125 = .ok (.getfield 68, 3) := by decide +kernel
theorem dX11_init_128 : decode cX11_init 128 = .ok (.invokespecial 74, 3) := by decide +kernel
theorem dX11_init_131 : decode cX11_init 131 = .ok (.putfield 77, 3) := by decide +kernel
theorem dX11_init_134 : decode cX11_init 134 = .ok (.aload_n 0, 1) := by decide +kernel
theorem dX11_init_135 : decode cX11_init 135 = .ok (.new 81, 3) := by decide +kernel
theorem dX11_init_138 : decode cX11_init 138 = .ok (.dup, 1) := by decide +kernel
theorem dX11_init_139 : decode cX11_init 139 = .ok (.invokespecial 83, 3) := by decide +kernel
theorem dX11_init_142 : decode cX11_init 142 = .ok (.putfield 84, 3) := by decide +kernel
theorem dX11_init_145 : decode cX11_init 145 = .ok (.aload_n 0, 1) := by decide +kernel
theorem dX11_init_146 : decode cX11_init 146 = .ok (.new 88, 3) := by decide +kernel
theorem dX11_init_149 : decode cX11_init 149 = .ok (.dup, 1) := by decide +kernel
theorem dX11_init_150 : decode cX11_init 150 = .ok (.invokespecial 90, 3) := by decide +kernel
theorem dX11_init_153 : decode cX11_init 153 = .ok (.putfield 91, 3) := by decide +kernel
theorem dX11_init_156 : decode cX11_init 156 = .ok (.aload_n 0, 1) := by decide +kernel
theorem dX11_init_157 : decode cX11_init 157 = .ok (.iconst (-1), 1) := by decide +kernel
theorem dX11_init_158 : decode cX11_init 158 = .ok (.putfield 95, 3) := by decide +kernel
theorem dX11_init_161 : decode cX11_init 161 = .ok (.aload_n 0, 1) := by decide +kernel
theorem dX11_init_162 : decode cX11_init 162 = .ok (.bipush 10, 2) := by decide +kernel
theorem dX11_init_164 : decode cX11_init 164 = .ok (.newarray .int, 2) := by decide +kernel
theorem dX11_init_166 : decode cX11_init 166 = .ok (.putfield 99, 3) := by decide +kernel
theorem dX11_init_169 : decode cX11_init 169 = .ok (.return_, 1) := by decide +kernel
theorem dX11_feed_0 : decode cX11_feed 0 = .ok (.aload_n 0, 1) := by decide +kernel
theorem dX11_feed_1 : decode cX11_feed 1 = .ok (.getfield 22, 3) := by decide +kernel
theorem dX11_feed_4 : decode cX11_feed 4 = .ok (.getfield 103, 3) := by decide +kernel
theorem dX11_feed_7 : decode cX11_feed 7 = .ok (.bipush 20, 2) := by decide +kernel
theorem dX11_feed_9 : decode cX11_feed 9 = .ok (.iadd, 1) := by decide +kernel
theorem dX11_feed_10 : decode cX11_feed 10 = .ok (.sipush 1000, 3) := by decide +kernel
theorem dX11_feed_13 : decode cX11_feed 13 = .ok (.if_icmp .le 5, 3) := by decide +kernel
theorem dX11_feed_16 : decode cX11_feed 16 = .ok (.iconst (-1), 1) := by decide +kernel
theorem dX11_feed_17 : decode cX11_feed 17 = .ok (.ireturn, 1) := by decide +kernel
theorem dX11_feed_18 : decode cX11_feed 18 = .ok (.aload_n 0, 1) := by decide +kernel
theorem dX11_feed_19 : decode cX11_feed 19 = .ok (.getfield 22, 3) := by decide +kernel
theorem dX11_feed_22 : decode cX11_feed 22 = .ok (.iload_n 1, 1) := by decide +kernel
theorem dX11_feed_23 : decode cX11_feed 23 = .ok (.invokevirtual 106, 3) := by decide +kernel
theorem dX11_feed_26 : decode cX11_feed 26 = .ok (.aload_n 0, 1) := by decide +kernel
theorem dX11_feed_27 : decode cX11_feed 27 = .ok (.getfield 22, 3) := by decide +kernel
theorem dX11_feed_30 : decode cX11_feed 30 = .ok (.iload_n 2, 1) := by decide +kernel
theorem dX11_feed_31 : decode cX11_feed 31 = .ok (.invokevirtual 106, 3) := by decide +kernel
theorem dX11_feed_34 : decode cX11_feed 34 = .ok (.aload_n 0, 1) := by decide +kernel
theorem dX11_feed_35 : decode cX11_feed 35 = .ok (.getfield 22, 3) := by decide +kernel
theorem dX11_feed_38 : decode cX11_feed 38 = .ok (.iload_n 3, 1) := by decide +kernel
theorem dX11_feed_39 : decode cX11_feed 39 = .ok (.invokevirtual 106, 3) := by decide +kernel
theorem dX11_feed_42 : decode cX11_feed 42 = .ok (.aload_n 0, 1) := by decide +kernel
theorem dX11_feed_43 : decode cX11_feed 43 = .ok (.getfield 22, 3) := by decide +kernel
theorem dX11_feed_46 : decode cX11_feed 46 = .ok (.iload 4, 2) := by decide +kernel
theorem dX11_feed_48 : decode cX11_feed 48 = .ok (.invokevirtual 106, 3) := by decide +kernel
theorem dX11_feed_51 : decode cX11_feed 51 = .ok (.aload_n 0, 1) := by decide +kernel
theorem dX11_feed_52 : decode cX11_feed 52 = .ok (.getfield 22, 3) := by decide +kernel
theorem dX11_feed_55 : decode cX11_feed 55 = .ok (.iload 5, 2) := by decide +kernel
theorem dX11_feed_57 : decode cX11_feed 57 = .ok (.invokevirtual 106, 3) := by decide +kernel
theorem dX11_feed_60 : decode cX11_feed 60 = .ok (.aload_n 0, 1) := by decide +kernel
theorem dX11_feed_61 : decode cX11_feed 61 = .ok (.getfield 22, 3) := by decide +kernel
theorem dX11_feed_64 : decode cX11_feed 64 = .ok (.getfield 103, 3) := by decide +kernel
theorem dX11_feed_67 : decode cX11_feed 67 = .ok (.ireturn, 1) := by decide +kernel
theorem dX11_end_0 : decode cX11_end 0 = .ok (.iload_n 1, 1) := by decide +kernel
theorem dX11_end_1 : decode cX11_end 1 = .ok (.ifCond .lt 14, 3) := by decide +kernel
theorem dX11_end_4 : decode cX11_end 4 = .ok (.iload_n 1, 1) := by decide +kernel
theorem dX11_end_5 : decode cX11_end 5 = .ok (.aload_n 0, 1) := by decide +kernel
theorem dX11_end_6 : decode cX11_end 6 = .ok (.getfield 22, 3) := by decide +kernel
theorem dX11_end_9 : decode cX11_end 9 = .ok (.getfield 103, 3) := by decide +kernel
theorem dX11_end_12 : decode cX11_end 12 = .ok (.if_icmp .le 5, 3) := by decide +kernel
theorem dX11_end_15 : decode cX11_end 15 = .ok (.iconst 0, 1) := by decide +kernel
theorem dX11_end_16 : decode cX11_end 16 = .ok (.ireturn, 1) := by decide +kernel
theorem dX11_end_17 : decode cX11_end 17 = .ok (.aload_n 0, 1) := by decide +kernel
theorem dX11_end_18 : decode cX11_end 18 = .ok (.getfield 22, 3) := by decide +kernel
theorem dX11_end_21 : decode cX11_end 21 = .ok (.iload_n 1, 1) := by decide +kernel
theorem dX11_end_22 : decode cX11_end 22 = .ok (.putfield 103, 3) := by decide +kernel
theorem dX11_end_25 : decode cX11_end 25 = .ok (.iconst 1, 1) := by decide +kernel
theorem dX11_end_26 : decode cX11_end 26 = .ok (.ireturn, 1) := by decide +kernel
theorem dX11_rules_0 : decode cX11_rules 0 = .ok (.aload_n 0, 1) := by decide +kernel
theorem dX11_rules_1 : decode cX11_rules 1 = .ok (.getfield 31, 3) := by decide +kernel
theorem dX11_rules_4 : decode cX11_rules 4 = .ok (.aload_n 0, 1) := by decide +kernel
theorem dX11_rules_5 : decode cX11_rules 5 = .ok (.getfield 16, 3) := by decide +kernel
theorem dX11_rules_8 : decode cX11_rules 8 = .ok (.invokevirtual 110, 3) := by decide +kernel
theorem dX11_rules_11 : decode cX11_rules 11 = .ok (.istore_n 1, 1) := by decide +kernel
theorem dX11_rules_12 : decode cX11_rules 12 = .ok (.aload_n 0, 1) := by decide +kernel
theorem dX11_rules_13 : decode cX11_rules 13 = .ok (.getfield 22, 3) := by decide +kernel
theorem dX11_rules_16 : decode cX11_rules 16 = .ok (.iconst 0, 1) := by decide +kernel
theorem dX11_rules_17 : decode cX11_rules 17 = .ok (.putfield 103, 3) := by decide +kernel
theorem dX11_rules_20 : decode cX11_rules 20 = .ok (.iload_n 1, 1) := by decide +kernel
theorem dX11_rules_21 : decode cX11_rules 21 = .ok (.ifCond .ne 5, 3) := by decide +kernel
theorem dX11_rules_24 : decode cX11_rules 24 = .ok (.iconst (-1), 1) := by decide +kernel
theorem dX11_rules_25 : decode cX11_rules 25 = .ok (.ireturn, 1) := by decide +kernel
theorem dX11_rules_26 : decode cX11_rules 26 = .ok (.aload_n 0, 1) := by decide +kernel
theorem dX11_rules_27 : decode cX11_rules 27 = .ok (.getfield 12, 3) := by decide +kernel
theorem dX11_rules_30 : decode cX11_rules 30 = .ok (.astore_n 2, 1) := by decide +kernel
theorem dX11_rules_31 : decode cX11_rules 31 = .ok (.aload_n 0, 1) := by decide +kernel
theorem dX11_rules_32 : decode cX11_rules 32 = .ok (.aload_n 0, 1) := by decide +kernel
theorem dX11_rules_33 : decode cX11_rules 33 = .ok (.getfield 16, 3) := by decide +kernel
theorem dX11_rules_36 : decode cX11_rules 36 = .ok (.putfield 12, 3) := by decide +kernel
theorem dX11_rules_39 : decode cX11_rules 39 = .ok (.aload_n 0, 1) := by decide +kernel
theorem dX11_rules_40 : decode cX11_rules 40 = .ok (.aload_n 2, 1) := by decide +kernel
theorem dX11_rules_41 : decode cX11_rules 41 = .ok (.putfield 16, 3) := by decide +kernel
theorem dX11_rules_44 : decode cX11_rules 44 = .ok (.aload_n 0, 1) := by decide +kernel
theorem dX11_rules_45 : decode cX11_rules 45 = .ok (.getfield 52, 3) := by decide +kernel
theorem dX11_rules_48 : decode cX11_rules 48 = .ok (.aload_n 0, 1) := by decide +kernel
theorem dX11_rules_49 : decode cX11_rules 49 = .ok (.getfield 12, 3) := by decide +kernel
theorem dX11_rules_52 : decode cX11_rules 52 = .ok (.invokevirtual 114, 3) := by decide +kernel
theorem dX11_rules_55 : decode cX11_rules 55 = .ok (.aload_n 0, 1) := by decide +kernel
theorem dX11_rules_56 : decode cX11_rules 56 = .ok (.getfield 38, 3) := by decide +kernel
theorem dX11_rules_59 : decode cX11_rules 59 = .ok (.invokevirtual 118, 3) := by decide +kernel
theorem dX11_rules_62 : decode cX11_rules 62 = .ok (.aload_n 0, 1) := by decide +kernel
theorem dX11_rules_63 : decode cX11_rules 63 = .ok (.iconst (-1), 1) := by decide +kernel
theorem dX11_rules_64 : decode cX11_rules 64 = .ok (.putfield 95, 3) := by decide +kernel
theorem dX11_rules_67 : decode cX11_rules 67 = .ok (.aload_n 0, 1) := by decide +kernel
theorem dX11_rules_68 : decode cX11_rules 68 = .ok (.getfield 45, 3) := by decide +kernel
theorem dX11_rules_71 : decode cX11_rules 71 = .ok (.invokevirtual 121, 3) := by decide +kernel
theorem dX11_rules_74 : decode cX11_rules 74 = .ok (.aload_n 0, 1) := by decide +kernel
theorem dX11_rules_75 : decode cX11_rules 75 = .ok (.getfield 84, 3) := by decide +kernel
theorem dX11_rules_78 : decode cX11_rules 78 = .ok (.iconst 0, 1) := by decide +kernel
theorem dX11_rules_79 : decode cX11_rules 79 = .ok (.putfield 124, 3) := by decide +kernel
theorem dX11_rules_82 : decode cX11_rules 82 = .ok (.aload_n 0, 1) := by decide +kernel
theorem dX11_rules_83 : decode cX11_rules 83 = .ok (.getfield 12, 3) := by decide +kernel
theorem dX11_rules_86 : decode cX11_rules 86 = .ok (.getfield 128, 3) := by decide +kernel
theorem dX11_rules_89 : decode cX11_rules 89 = .ok (.aload_n 0, 1) := by decide +kernel
theorem dX11_rules_90 : decode cX11_rules 90 = .ok (.getfield 12, 3) := by decide +kernel
theorem dX11_rules_93 : decode cX11_rules 93 = .ok (.getfield 131, 3) := by decide +kernel
theorem dX11_rules_96 : decode cX11_rules 96 = .ok (.iadd, 1) := by decide +kernel
theorem dX11_rules_97 : decode cX11_rules 97 = .ok (.ireturn, 1) := by decide +kernel
theorem dX11_fault_0 : decode cX11_fault 0 = .ok (.iload_n 1, 1) := by decide +kernel
theorem dX11_fault_1 : decode cX11_fault 1 = .ok (.ifCond .ne 11, 3) := by decide +kernel
theorem dX11_fault_4 : decode cX11_fault 4 = .ok (.aload_n 0, 1) := by decide +kernel
theorem dX11_fault_5 : decode cX11_fault 5 = .ok (.getfield 31, 3) := by decide +kernel
theorem dX11_fault_8 : decode cX11_fault 8 = .ok (.getfield 134, 3) := by decide +kernel
theorem dX11_fault_11 : decode cX11_fault 11 = .ok (.ireturn, 1) := by decide +kernel
theorem dX11_fault_12 : decode cX11_fault 12 = .ok (.iload_n 1, 1) := by decide +kernel
theorem dX11_fault_13 : decode cX11_fault 13 = .ok (.iconst 1, 1) := by decide +kernel
theorem dX11_fault_14 : decode cX11_fault 14 = .ok (.if_icmp .ne 13, 3) := by decide +kernel
theorem dX11_fault_17 : decode cX11_fault 17 = .ok (.aload_n 0, 1) := by decide +kernel
theorem dX11_fault_18 : decode cX11_fault 18 = .ok (.getfield 31, 3) := by decide +kernel
theorem dX11_fault_21 : decode cX11_fault 21 = .ok (.getfield 137, 3) := by decide +kernel
theorem dX11_fault_24 : decode cX11_fault 24 = .ok (.goto 4, 3) := by decide +kernel
theorem dX11_fault_27 : decode cX11_fault 27 = .ok (.iconst (-1), 1) := by decide +kernel
theorem dX11_fault_28 : decode cX11_fault 28 = .ok (.ireturn, 1) := by decide +kernel
theorem dX11_name_0 : decode cX11_name 0 = .ok (.iload_n 2, 1) := by decide +kernel
theorem dX11_name_1 : decode cX11_name 1 = .ok (.ifCond .lt 28, 3) := by decide +kernel
theorem dX11_name_4 : decode cX11_name 4 = .ok (.iload_n 2, 1) := by decide +kernel
theorem dX11_name_5 : decode cX11_name 5 = .ok (.iload_n 1, 1) := by decide +kernel
theorem dX11_name_6 : decode cX11_name 6 = .ok (.ifCond .eq 13, 3) := by decide +kernel
theorem dX11_name_9 : decode cX11_name 9 = .ok (.aload_n 0, 1) := by decide +kernel
theorem dX11_name_10 : decode cX11_name 10 = .ok (.getfield 12, 3) := by decide +kernel
theorem dX11_name_13 : decode cX11_name 13 = .ok (.getfield 140, 3) := by decide +kernel
theorem dX11_name_16 : decode cX11_name 16 = .ok (.goto 10, 3) := by decide +kernel
theorem dX11_name_19 : decode cX11_name 19 = .ok (.aload_n 0, 1) := by decide +kernel
theorem dX11_name_20 : decode cX11_name 20 = .ok (.getfield 12, 3) := by decide +kernel
theorem dX11_name_23 : decode cX11_name 23 = .ok (.getfield 128, 3) := by decide +kernel
theorem dX11_name_26 : decode cX11_name 26 = .ok (.if_icmp .lt 5, 3) := by decide +kernel
theorem dX11_name_29 : decode cX11_name 29 = .ok (.iconst (-1), 1) := by decide +kernel
theorem dX11_name_30 : decode cX11_name 30 = .ok (.ireturn, 1) := by decide +kernel
theorem dX11_name_31 : decode cX11_name 31 = .ok (.iload_n 1, 1) := by decide +kernel
theorem dX11_name_32 : decode cX11_name 32 = .ok (.ifCond .eq 15, 3) := by decide +kernel
theorem dX11_name_35 : decode cX11_name 35 = .ok (.aload_n 0, 1) := by decide +kernel
theorem dX11_name_36 : decode cX11_name 36 = .ok (.getfield 12, 3) := by decide +kernel
theorem dX11_name_39 : decode cX11_name 39 = .ok (.getfield 143, 3) := by decide +kernel
theorem dX11_name_42 : decode cX11_name 42 = .ok (.iload_n 2, 1) := by decide +kernel
theorem dX11_name_43 : decode cX11_name 43 = .ok (.laload, 1) := by decide +kernel
theorem dX11_name_44 : decode cX11_name 44 = .ok (.goto 12, 3) := by decide +kernel
theorem dX11_name_47 : decode cX11_name 47 = .ok (.aload_n 0, 1) := by decide +kernel
theorem dX11_name_48 : decode cX11_name 48 = .ok (.getfield 12, 3) := by decide +kernel
theorem dX11_name_51 : decode cX11_name 51 = .ok (.getfield 147, 3) := by decide +kernel
theorem dX11_name_54 : decode cX11_name 54 = .ok (.iload_n 2, 1) := by decide +kernel
theorem dX11_name_55 : decode cX11_name 55 = .ok (.laload, 1) := by decide +kernel
theorem dX11_name_56 : decode cX11_name 56 = .ok (.iload_n 3, 1) := by decide +kernel
theorem dX11_name_57 : decode cX11_name 57 = .ok (.invokestatic 150, 3) := by decide +kernel
theorem dX11_name_60 : decode cX11_name 60 = .ok (.ireturn, 1) := by decide +kernel
theorem dX11_marked_0 : decode cX11_marked 0 = .ok (.aload_n 0, 1) := by decide +kernel
theorem dX11_marked_1 : decode cX11_marked 1 = .ok (.iload_n 1, 1) := by decide +kernel
theorem dX11_marked_2 : decode cX11_marked 2 = .ok (.invokevirtual 154, 3) := by decide +kernel
theorem dX11_marked_5 : decode cX11_marked 5 = .ok (.ifCond .eq 18, 3) := by decide +kernel
theorem dX11_marked_8 : decode cX11_marked 8 = .ok (.iload_n 2, 1) := by decide +kernel
theorem dX11_marked_9 : decode cX11_marked 9 = .ok (.ifCond .lt 14, 3) := by decide +kernel
theorem dX11_marked_12 : decode cX11_marked 12 = .ok (.iload_n 2, 1) := by decide +kernel
theorem dX11_marked_13 : decode cX11_marked 13 = .ok (.aload_n 0, 1) := by decide +kernel
theorem dX11_marked_14 : decode cX11_marked 14 = .ok (.getfield 12, 3) := by decide +kernel
theorem dX11_marked_17 : decode cX11_marked 17 = .ok (.getfield 140, 3) := by decide +kernel
theorem dX11_marked_20 : decode cX11_marked 20 = .ok (.if_icmp .lt 5, 3) := by decide +kernel
theorem dX11_marked_23 : decode cX11_marked 23 = .ok (.iconst (-1), 1) := by decide +kernel
theorem dX11_marked_24 : decode cX11_marked 24 = .ok (.ireturn, 1) := by decide +kernel
theorem dX11_marked_25 : decode cX11_marked 25 = .ok (.aload_n 0, 1) := by decide +kernel
theorem dX11_marked_26 : decode cX11_marked 26 = .ok (.getfield 12, 3) := by decide +kernel
theorem dX11_marked_29 : decode cX11_marked 29 = .ok (.getfield 158, 3) := by decide +kernel
theorem dX11_marked_32 : decode cX11_marked 32 = .ok (.iload_n 2, 1) := by decide +kernel
theorem dX11_marked_33 : decode cX11_marked 33 = .ok (.iaload, 1) := by decide +kernel
theorem dX11_marked_34 : decode cX11_marked 34 = .ok (.iload_n 1, 1) := by decide +kernel
theorem dX11_marked_35 : decode cX11_marked 35 = .ok (.ishr, 1) := by decide +kernel
theorem dX11_marked_36 : decode cX11_marked 36 = .ok (.iconst 1, 1) := by decide +kernel
theorem dX11_marked_37 : decode cX11_marked 37 = .ok (.iand, 1) := by decide +kernel
theorem dX11_marked_38 : decode cX11_marked 38 = .ok (.ireturn, 1) := by decide +kernel
theorem dX11_report_0 : decode cX11_report 0 = .ok (.aload_n 0, 1) := by decide +kernel
theorem dX11_report_1 : decode cX11_report 1 = .ok (.getfield 22, 3) := by decide +kernel
theorem dX11_report_4 : decode cX11_report 4 = .ok (.aload_n 0, 1) := by decide +kernel
theorem dX11_report_5 : decode cX11_report 5 = .ok (.getfield 38, 3) := by decide +kernel
theorem dX11_report_8 : decode cX11_report 8 = .ok (.getfield 161, 3) := by decide +kernel
theorem dX11_report_11 : decode cX11_report 11 = .ok (.invokevirtual 164, 3) := by decide +kernel
theorem dX11_report_14 : decode cX11_report 14 = .ok (.istore 6, 2) := by decide +kernel
theorem dX11_report_16 : decode cX11_report 16 = .ok (.aload_n 0, 1) := by decide +kernel
theorem dX11_report_17 : decode cX11_report 17 = .ok (.getfield 22, 3) := by decide +kernel
theorem dX11_report_20 : decode cX11_report 20 = .ok (.iconst 0, 1) := by decide +kernel
theorem dX11_report_21 : decode cX11_report 21 = .ok (.putfield 103, 3) := by decide +kernel
theorem dX11_report_24 : decode cX11_report 24 = .ok (.iload 6, 2) := by decide +kernel
theorem dX11_report_26 : decode cX11_report 26 = .ok (.iconst (-1), 1) := by decide +kernel
theorem dX11_report_27 : decode cX11_report 27 = .ok (.if_icmp .eq 58, 3) := by decide +kernel
theorem dX11_report_30 : decode cX11_report 30 = .ok (.iload_n 1, 1) := by decide +kernel
theorem dX11_report_31 : decode cX11_report 31 = .ok (.iconst 0, 1) := by decide +kernel
theorem dX11_report_32 : decode cX11_report 32 = .ok (.sipush 9999, 3) := by decide +kernel
theorem dX11_report_35 : decode cX11_report 35 = .ok (.invokestatic 168, 3) := by decide +kernel
theorem dX11_report_38 : decode cX11_report 38 = .ok (.ifCond .eq 47, 3) := by decide +kernel
theorem dX11_report_41 : decode cX11_report 41 = .ok (.iload_n 2, 1) := by decide +kernel
theorem dX11_report_42 : decode cX11_report 42 = .ok (.iconst 0, 1) := by decide +kernel
theorem dX11_report_43 : decode cX11_report 43 = .ok (.bipush 17, 2) := by decide +kernel
theorem dX11_report_45 : decode cX11_report 45 = .ok (.invokestatic 168, 3) := by decide +kernel
theorem dX11_report_48 : decode cX11_report 48 = .ok (.ifCond .eq 37, 3) := by decide +kernel
theorem dX11_report_51 : decode cX11_report 51 = .ok (.iload_n 3, 1) := by decide +kernel
theorem dX11_report_52 : decode cX11_report 52 = .ok (.iconst 0, 1) := by decide +kernel
theorem dX11_report_53 : decode cX11_report 53 = .ok (.bipush 99, 2) := by decide +kernel
theorem dX11_report_55 : decode cX11_report 55 = .ok (.invokestatic 168, 3) := by decide +kernel
theorem dX11_report_58 : decode cX11_report 58 = .ok (.ifCond .eq 27, 3) := by decide +kernel
theorem dX11_report_61 : decode cX11_report 61 = .ok (.iload 4, 2) := by decide +kernel
theorem dX11_report_63 : decode cX11_report 63 = .ok (.iconst 0, 1) := by decide +kernel
theorem dX11_report_64 : decode cX11_report 64 = .ok (.sipush 999, 3) := by decide +kernel
theorem dX11_report_67 : decode cX11_report 67 = .ok (.invokestatic 168, 3) := by decide +kernel
theorem dX11_report_70 : decode cX11_report 70 = .ok (.ifCond .eq 15, 3) := by decide +kernel
theorem dX11_report_73 : decode cX11_report 73 = .ok (.iload 5, 2) := by decide +kernel
theorem dX11_report_75 : decode cX11_report 75 = .ok (.invokestatic 172, 3) := by decide +kernel
theorem dX11_report_78 : decode cX11_report 78 = .ok (.ifCond .eq 7, 3) := by decide +kernel
theorem dX11_report_81 : decode cX11_report 81 = .ok (.iconst 1, 1) := by decide +kernel
theorem dX11_report_82 : decode cX11_report 82 = .ok (.goto 4, 3) := by decide +kernel
theorem dX11_report_85 : decode cX11_report 85 = .ok (.iconst 0, 1) := by decide +kernel
theorem dX11_report_86 : decode cX11_report 86 = .ok (.istore 7, 2) := by decide +kernel
theorem dX11_report_88 : decode cX11_report 88 = .ok (.iload 7, 2) := by decide +kernel
theorem dX11_report_90 : decode cX11_report 90 = .ok (.ifCond .eq 25, 3) := by decide +kernel
theorem dX11_report_93 : decode cX11_report 93 = .ok (.aload_n 0, 1) := by decide +kernel
theorem dX11_report_94 : decode cX11_report 94 = .ok (.getfield 38, 3) := by decide +kernel
theorem dX11_report_97 : decode cX11_report 97 = .ok (.getfield 175, 3) := by decide +kernel
theorem dX11_report_100 : decode cX11_report 100 = .ok (.bipush 80, 2) := by decide +kernel
theorem dX11_report_102 : decode cX11_report 102 = .ok (.if_icmp .ge 13, 3) := by decide +kernel
theorem dX11_report_105 : decode cX11_report 105 = .ok (.aload_n 0, 1) := by decide +kernel
theorem dX11_report_106 : decode cX11_report 106 = .ok (.getfield 38, 3) := by decide +kernel
theorem dX11_report_109 : decode cX11_report 109 = .ok (.invokevirtual 178, 3) := by decide +kernel
theorem dX11_report_112 : decode cX11_report 112 = .ok (.ifCond .eq 5, 3) := by decide +kernel
theorem dX11_report_115 : decode cX11_report 115 = .ok (.iconst (-1), 1) := by decide +kernel
theorem dX11_report_116 : decode cX11_report 116 = .ok (.ireturn, 1) := by decide +kernel
theorem dX11_report_117 : decode cX11_report 117 = .ok (.aload_n 0, 1) := by decide +kernel
theorem dX11_report_118 : decode cX11_report 118 = .ok (.getfield 38, 3) := by decide +kernel
theorem dX11_report_121 : decode cX11_report 121 = .ok (.iload_n 1, 1) := by decide +kernel
theorem dX11_report_122 : decode cX11_report 122 = .ok (.iload_n 2, 1) := by decide +kernel
theorem dX11_report_123 : decode cX11_report 123 = .ok (.iload_n 3, 1) := by decide +kernel
theorem dX11_report_124 : decode cX11_report 124 = .ok (.iload 4, 2) := by decide +kernel
theorem dX11_report_126 : decode cX11_report 126 = .ok (.iload 5, 2) := by decide +kernel
theorem dX11_report_128 : decode cX11_report 128 = .ok (.iload 6, 2) := by decide +kernel
theorem dX11_report_130 : decode cX11_report 130 = .ok (.invokevirtual 182, 3) := by decide +kernel
theorem dX11_report_133 : decode cX11_report 133 = .ok (.ireturn, 1) := by decide +kernel
theorem dX11_gifts_0 : decode cX11_gifts 0 = .ok (.aload_n 0, 1) := by decide +kernel
theorem dX11_gifts_1 : decode cX11_gifts 1 = .ok (.iload_n 1, 1) := by decide +kernel
theorem dX11_gifts_2 : decode cX11_gifts 2 = .ok (.invokevirtual 154, 3) := by decide +kernel
theorem dX11_gifts_5 : decode cX11_gifts 5 = .ok (.ifCond .eq 30, 3) := by decide +kernel
theorem dX11_gifts_8 : decode cX11_gifts 8 = .ok (.iload_n 2, 1) := by decide +kernel
theorem dX11_gifts_9 : decode cX11_gifts 9 = .ok (.invokestatic 172, 3) := by decide +kernel
theorem dX11_gifts_12 : decode cX11_gifts 12 = .ok (.ifCond .eq 23, 3) := by decide +kernel
theorem dX11_gifts_15 : decode cX11_gifts 15 = .ok (.iload_n 3, 1) := by decide +kernel
theorem dX11_gifts_16 : decode cX11_gifts 16 = .ok (.iconst 1, 1) := by decide +kernel
theorem dX11_gifts_17 : decode cX11_gifts 17 = .ok (.bipush 99, 2) := by decide +kernel
theorem dX11_gifts_19 : decode cX11_gifts 19 = .ok (.invokestatic 168, 3) := by decide +kernel
theorem dX11_gifts_22 : decode cX11_gifts 22 = .ok (.ifCond .eq 13, 3) := by decide +kernel
theorem dX11_gifts_25 : decode cX11_gifts 25 = .ok (.aload_n 0, 1) := by decide +kernel
theorem dX11_gifts_26 : decode cX11_gifts 26 = .ok (.getfield 38, 3) := by decide +kernel
theorem dX11_gifts_29 : decode cX11_gifts 29 = .ok (.invokevirtual 178, 3) := by decide +kernel
theorem dX11_gifts_32 : decode cX11_gifts 32 = .ok (.ifCond .eq 5, 3) := by decide +kernel
theorem dX11_gifts_35 : decode cX11_gifts 35 = .ok (.iconst (-1), 1) := by decide +kernel
theorem dX11_gifts_36 : decode cX11_gifts 36 = .ok (.ireturn, 1) := by decide +kernel
theorem dX11_gifts_37 : decode cX11_gifts 37 = .ok (.aload_n 0, 1) := by decide +kernel
theorem dX11_gifts_38 : decode cX11_gifts 38 = .ok (.getfield 38, 3) := by decide +kernel
theorem dX11_gifts_41 : decode cX11_gifts 41 = .ok (.iconst 2, 1) := by decide +kernel
theorem dX11_gifts_42 : decode cX11_gifts 42 = .ok (.iload_n 1, 1) := by decide +kernel
theorem dX11_gifts_43 : decode cX11_gifts 43 = .ok (.iload_n 2, 1) := by decide +kernel
theorem dX11_gifts_44 : decode cX11_gifts 44 = .ok (.iload_n 3, 1) := by decide +kernel
theorem dX11_gifts_45 : decode cX11_gifts 45 = .ok (.invokevirtual 186, 3) := by decide +kernel
theorem dX11_gifts_48 : decode cX11_gifts 48 = .ok (.ireturn, 1) := by decide +kernel
theorem dX11_call_0 : decode cX11_call 0 = .ok (.aload_n 0, 1) := by decide +kernel
theorem dX11_call_1 : decode cX11_call 1 = .ok (.iload_n 1, 1) := by decide +kernel
theorem dX11_call_2 : decode cX11_call 2 = .ok (.invokevirtual 154, 3) := by decide +kernel
theorem dX11_call_5 : decode cX11_call 5 = .ok (.ifCond .eq 20, 3) := by decide +kernel
theorem dX11_call_8 : decode cX11_call 8 = .ok (.iload_n 2, 1) := by decide +kernel
theorem dX11_call_9 : decode cX11_call 9 = .ok (.invokestatic 172, 3) := by decide +kernel
theorem dX11_call_12 : decode cX11_call 12 = .ok (.ifCond .eq 13, 3) := by decide +kernel
theorem dX11_call_15 : decode cX11_call 15 = .ok (.aload_n 0, 1) := by decide +kernel
theorem dX11_call_16 : decode cX11_call 16 = .ok (.getfield 38, 3) := by decide +kernel
theorem dX11_call_19 : decode cX11_call 19 = .ok (.invokevirtual 178, 3) := by decide +kernel
theorem dX11_call_22 : decode cX11_call 22 = .ok (.ifCond .eq 5, 3) := by decide +kernel
theorem dX11_call_25 : decode cX11_call 25 = .ok (.iconst (-1), 1) := by decide +kernel
theorem dX11_call_26 : decode cX11_call 26 = .ok (.ireturn, 1) := by decide +kernel
theorem dX11_call_27 : decode cX11_call 27 = .ok (.aload_n 0, 1) := by decide +kernel
theorem dX11_call_28 : decode cX11_call 28 = .ok (.getfield 38, 3) := by decide +kernel
theorem dX11_call_31 : decode cX11_call 31 = .ok (.iconst 3, 1) := by decide +kernel
theorem dX11_call_32 : decode cX11_call 32 = .ok (.iload_n 1, 1) := by decide +kernel
theorem dX11_call_33 : decode cX11_call 33 = .ok (.iload_n 2, 1) := by decide +kernel
theorem dX11_call_34 : decode cX11_call 34 = .ok (.iconst 0, 1) := by decide +kernel
theorem dX11_call_35 : decode cX11_call 35 = .ok (.invokevirtual 186, 3) := by decide +kernel
theorem dX11_call_38 : decode cX11_call 38 = .ok (.ireturn, 1) := by decide +kernel
theorem dX11_annul_0 : decode cX11_annul 0 = .ok (.iload_n 1, 1) := by decide +kernel
theorem dX11_annul_1 : decode cX11_annul 1 = .ok (.iconst 1, 1) := by decide +kernel
theorem dX11_annul_2 : decode cX11_annul 2 = .ok (.if_icmp .lt 24, 3) := by decide +kernel
theorem dX11_annul_5 : decode cX11_annul 5 = .ok (.iload_n 1, 1) := by decide +kernel
theorem dX11_annul_6 : decode cX11_annul 6 = .ok (.aload_n 0, 1) := by decide +kernel
theorem dX11_annul_7 : decode cX11_annul 7 = .ok (.getfield 38, 3) := by decide +kernel
theorem dX11_annul_10 : decode cX11_annul 10 = .ok (.getfield 190, 3) := by decide +kernel
theorem dX11_annul_13 : decode cX11_annul 13 = .ok (.if_icmp .gt 13, 3) := by decide +kernel
theorem dX11_annul_16 : decode cX11_annul 16 = .ok (.aload_n 0, 1) := by decide +kernel
theorem dX11_annul_17 : decode cX11_annul 17 = .ok (.getfield 38, 3) := by decide +kernel
theorem dX11_annul_20 : decode cX11_annul 20 = .ok (.invokevirtual 178, 3) := by decide +kernel
theorem dX11_annul_23 : decode cX11_annul 23 = .ok (.ifCond .eq 5, 3) := by decide +kernel
theorem dX11_annul_26 : decode cX11_annul 26 = .ok (.iconst (-1), 1) := by decide +kernel
theorem dX11_annul_27 : decode cX11_annul 27 = .ok (.ireturn, 1) := by decide +kernel
theorem dX11_annul_28 : decode cX11_annul 28 = .ok (.aload_n 0, 1) := by decide +kernel
theorem dX11_annul_29 : decode cX11_annul 29 = .ok (.getfield 38, 3) := by decide +kernel
theorem dX11_annul_32 : decode cX11_annul 32 = .ok (.getfield 193, 3) := by decide +kernel
theorem dX11_annul_35 : decode cX11_annul 35 = .ok (.iload_n 1, 1) := by decide +kernel
theorem dX11_annul_36 : decode cX11_annul 36 = .ok (.iaload, 1) := by decide +kernel
theorem dX11_annul_37 : decode cX11_annul 37 = .ok (.iconst 4, 1) := by decide +kernel
theorem dX11_annul_38 : decode cX11_annul 38 = .ok (.if_icmp .eq 15, 3) := by decide +kernel
theorem dX11_annul_41 : decode cX11_annul 41 = .ok (.aload_n 0, 1) := by decide +kernel
theorem dX11_annul_42 : decode cX11_annul 42 = .ok (.getfield 38, 3) := by decide +kernel
theorem dX11_annul_45 : decode cX11_annul 45 = .ok (.getfield 196, 3) := by decide +kernel
theorem dX11_annul_48 : decode cX11_annul 48 = .ok (.iload_n 1, 1) := by decide +kernel
theorem dX11_annul_49 : decode cX11_annul 49 = .ok (.iaload, 1) := by decide +kernel
theorem dX11_annul_50 : decode cX11_annul 50 = .ok (.ifCond .eq 5, 3) := by decide +kernel
theorem dX11_annul_53 : decode cX11_annul 53 = .ok (.iconst (-1), 1) := by decide +kernel
theorem dX11_annul_54 : decode cX11_annul 54 = .ok (.ireturn, 1) := by decide +kernel
theorem dX11_annul_55 : decode cX11_annul 55 = .ok (.aload_n 0, 1) := by decide +kernel
theorem dX11_annul_56 : decode cX11_annul 56 = .ok (.getfield 38, 3) := by decide +kernel
theorem dX11_annul_59 : decode cX11_annul 59 = .ok (.iload_n 1, 1) := by decide +kernel
theorem dX11_annul_60 : decode cX11_annul 60 = .ok (.invokevirtual 199, 3) := by decide +kernel
theorem dX11_annul_63 : decode cX11_annul 63 = .ok (.ireturn, 1) := by decide +kernel
theorem dX11_as_0 : decode cX11_as 0 = .ok (.iload_n 1, 1) := by decide +kernel
theorem dX11_as_1 : decode cX11_as 1 = .ok (.iconst (-1), 1) := by decide +kernel
theorem dX11_as_2 : decode cX11_as 2 = .ok (.if_icmp .lt 14, 3) := by decide +kernel
theorem dX11_as_5 : decode cX11_as 5 = .ok (.iload_n 1, 1) := by decide +kernel
theorem dX11_as_6 : decode cX11_as 6 = .ok (.aload_n 0, 1) := by decide +kernel
theorem dX11_as_7 : decode cX11_as 7 = .ok (.getfield 38, 3) := by decide +kernel
theorem dX11_as_10 : decode cX11_as 10 = .ok (.getfield 190, 3) := by decide +kernel
theorem dX11_as_13 : decode cX11_as 13 = .ok (.if_icmp .le 5, 3) := by decide +kernel
theorem dX11_as_16 : decode cX11_as 16 = .ok (.iconst 0, 1) := by decide +kernel
theorem dX11_as_17 : decode cX11_as 17 = .ok (.ireturn, 1) := by decide +kernel
theorem dX11_as_18 : decode cX11_as 18 = .ok (.aload_n 0, 1) := by decide +kernel
theorem dX11_as_19 : decode cX11_as 19 = .ok (.iload_n 1, 1) := by decide +kernel
theorem dX11_as_20 : decode cX11_as 20 = .ok (.putfield 95, 3) := by decide +kernel
theorem dX11_as_23 : decode cX11_as 23 = .ok (.iconst 1, 1) := by decide +kernel
theorem dX11_as_24 : decode cX11_as 24 = .ok (.ireturn, 1) := by decide +kernel
theorem dX11_all_0 : decode cX11_all 0 = .ok (.iload_n 1, 1) := by decide +kernel
theorem dX11_all_1 : decode cX11_all 1 = .ok (.tableswitch 116 0 7 #[47, 55, 63, 71, 79, 84, 96, 108], 47) := by decide +kernel
theorem dX11_all_48 : decode cX11_all 48 = .ok (.aload_n 0, 1) := by decide +kernel
theorem dX11_all_49 : decode cX11_all 49 = .ok (.getfield 12, 3) := by decide +kernel
theorem dX11_all_52 : decode cX11_all 52 = .ok (.getfield 128, 3) := by decide +kernel
theorem dX11_all_55 : decode cX11_all 55 = .ok (.ireturn, 1) := by decide +kernel
theorem dX11_all_56 : decode cX11_all 56 = .ok (.aload_n 0, 1) := by decide +kernel
theorem dX11_all_57 : decode cX11_all 57 = .ok (.getfield 12, 3) := by decide +kernel
theorem dX11_all_60 : decode cX11_all 60 = .ok (.getfield 140, 3) := by decide +kernel
theorem dX11_all_63 : decode cX11_all 63 = .ok (.ireturn, 1) := by decide +kernel
theorem dX11_all_64 : decode cX11_all 64 = .ok (.aload_n 0, 1) := by decide +kernel
theorem dX11_all_65 : decode cX11_all 65 = .ok (.getfield 12, 3) := by decide +kernel
theorem dX11_all_68 : decode cX11_all 68 = .ok (.getfield 131, 3) := by decide +kernel
theorem dX11_all_71 : decode cX11_all 71 = .ok (.ireturn, 1) := by decide +kernel
theorem dX11_all_72 : decode cX11_all 72 = .ok (.aload_n 0, 1) := by decide +kernel
theorem dX11_all_73 : decode cX11_all 73 = .ok (.getfield 38, 3) := by decide +kernel
theorem dX11_all_76 : decode cX11_all 76 = .ok (.getfield 190, 3) := by decide +kernel
theorem dX11_all_79 : decode cX11_all 79 = .ok (.ireturn, 1) := by decide +kernel
theorem dX11_all_80 : decode cX11_all 80 = .ok (.aload_n 0, 1) := by decide +kernel
theorem dX11_all_81 : decode cX11_all 81 = .ok (.invokevirtual 203, 3) := by decide +kernel
theorem dX11_all_84 : decode cX11_all 84 = .ok (.ireturn, 1) := by decide +kernel
theorem dX11_all_85 : decode cX11_all 85 = .ok (.aload_n 0, 1) := by decide +kernel
theorem dX11_all_86 : decode cX11_all 86 = .ok (.invokevirtual 207, 3) := by decide +kernel
theorem dX11_all_89 : decode cX11_all 89 = .ok (.aload_n 0, 1) := by decide +kernel
theorem dX11_all_90 : decode cX11_all 90 = .ok (.getfield 45, 3) := by decide +kernel
theorem dX11_all_93 : decode cX11_all 93 = .ok (.getfield 210, 3) := by decide +kernel
theorem dX11_all_96 : decode cX11_all 96 = .ok (.ireturn, 1) := by decide +kernel
theorem dX11_all_97 : decode cX11_all 97 = .ok (.aload_n 0, 1) := by decide +kernel
theorem dX11_all_98 : decode cX11_all 98 = .ok (.invokevirtual 207, 3) := by decide +kernel
theorem dX11_all_101 : decode cX11_all 101 = .ok (.aload_n 0, 1) := by decide +kernel
theorem dX11_all_102 : decode cX11_all 102 = .ok (.getfield 45, 3) := by decide +kernel
theorem dX11_all_105 : decode cX11_all 105 = .ok (.invokevirtual 213, 3) := by decide +kernel
theorem dX11_all_108 : decode cX11_all 108 = .ok (.ireturn, 1) := by decide +kernel
theorem dX11_all_109 : decode cX11_all 109 = .ok (.aload_n 0, 1) := by decide +kernel
theorem dX11_all_110 : decode cX11_all 110 = .ok (.getfield 12, 3) := by decide +kernel
theorem dX11_all_113 : decode cX11_all 113 = .ok (.getfield 216, 3) := by decide +kernel
theorem dX11_all_116 : decode cX11_all 116 = .ok (.ireturn, 1) := by decide +kernel
theorem dX11_all_117 : decode cX11_all 117 = .ok (.iconst (-1), 1) := by decide +kernel
theorem dX11_all_118 : decode cX11_all 118 = .ok (.ireturn, 1) := by decide +kernel
theorem dX11_child_0 : decode cX11_child 0 = .ok (.iload_n 1, 1) := by decide +kernel
theorem dX11_child_1 : decode cX11_child 1 = .ok (.iconst 1, 1) := by decide +kernel
theorem dX11_child_2 : decode cX11_child 2 = .ok (.if_icmp .lt 11, 3) := by decide +kernel
theorem dX11_child_5 : decode cX11_child 5 = .ok (.iload_n 1, 1) := by decide +kernel
theorem dX11_child_6 : decode cX11_child 6 = .ok (.aload_n 0, 1) := by decide +kernel
theorem dX11_child_7 : decode cX11_child 7 = .ok (.invokevirtual 203, 3) := by decide +kernel
theorem dX11_child_10 : decode cX11_child 10 = .ok (.if_icmp .le 5, 3) := by decide +kernel
theorem dX11_child_13 : decode cX11_child 13 = .ok (.iconst (-1), 1) := by decide +kernel
theorem dX11_child_14 : decode cX11_child 14 = .ok (.ireturn, 1) := by decide +kernel
theorem dX11_child_15 : decode cX11_child 15 = .ok (.aload_n 0, 1) := by decide +kernel
theorem dX11_child_16 : decode cX11_child 16 = .ok (.invokevirtual 207, 3) := by decide +kernel
theorem dX11_child_19 : decode cX11_child 19 = .ok (.aload_n 0, 1) := by decide +kernel
theorem dX11_child_20 : decode cX11_child 20 = .ok (.getfield 45, 3) := by decide +kernel
theorem dX11_child_23 : decode cX11_child 23 = .ok (.getfield 219, 3) := by decide +kernel
theorem dX11_child_26 : decode cX11_child 26 = .ok (.iload_n 1, 1) := by decide +kernel
theorem dX11_child_27 : decode cX11_child 27 = .ok (.iaload, 1) := by decide +kernel
theorem dX11_child_28 : decode cX11_child 28 = .ok (.ireturn, 1) := by decide +kernel
theorem dX11_of_0 : decode cX11_of 0 = .ok (.aload_n 0, 1) := by decide +kernel
theorem dX11_of_1 : decode cX11_of 1 = .ok (.iload_n 1, 1) := by decide +kernel
theorem dX11_of_2 : decode cX11_of 2 = .ok (.invokevirtual 222, 3) := by decide +kernel
theorem dX11_of_5 : decode cX11_of 5 = .ok (.ifCond .ne 5, 3) := by decide +kernel
theorem dX11_of_8 : decode cX11_of 8 = .ok (.iconst (-1), 1) := by decide +kernel
theorem dX11_of_9 : decode cX11_of 9 = .ok (.ireturn, 1) := by decide +kernel
theorem dX11_of_10 : decode cX11_of 10 = .ok (.iload_n 2, 1) := by decide +kernel
theorem dX11_of_11 : decode cX11_of 11 = .ok (.bipush 9, 2) := by decide +kernel
theorem dX11_of_13 : decode cX11_of 13 = .ok (.if_icmp .ne 29, 3) := by decide +kernel
theorem dX11_of_16 : decode cX11_of 16 = .ok (.aload_n 0, 1) := by decide +kernel
theorem dX11_of_17 : decode cX11_of 17 = .ok (.getfield 52, 3) := by decide +kernel
theorem dX11_of_20 : decode cX11_of 20 = .ok (.aload_n 0, 1) := by decide +kernel
theorem dX11_of_21 : decode cX11_of 21 = .ok (.getfield 12, 3) := by decide +kernel
theorem dX11_of_24 : decode cX11_of 24 = .ok (.aload_n 0, 1) := by decide +kernel
theorem dX11_of_25 : decode cX11_of 25 = .ok (.getfield 45, 3) := by decide +kernel
theorem dX11_of_28 : decode cX11_of 28 = .ok (.iload_n 1, 1) := by decide +kernel
theorem dX11_of_29 : decode cX11_of 29 = .ok (.invokevirtual 225, 3) := by decide +kernel
theorem dX11_of_32 : decode cX11_of 32 = .ok (.aload_n 0, 1) := by decide +kernel
theorem dX11_of_33 : decode cX11_of 33 = .ok (.getfield 52, 3) := by decide +kernel
theorem dX11_of_36 : decode cX11_of 36 = .ok (.getfield 229, 3) := by decide +kernel
theorem dX11_of_39 : decode cX11_of 39 = .ok (.iload_n 1, 1) := by decide +kernel
theorem dX11_of_40 : decode cX11_of 40 = .ok (.iaload, 1) := by decide +kernel
theorem dX11_of_41 : decode cX11_of 41 = .ok (.ireturn, 1) := by decide +kernel
theorem dX11_of_42 : decode cX11_of 42 = .ok (.aload_n 0, 1) := by decide +kernel
theorem dX11_of_43 : decode cX11_of 43 = .ok (.getfield 45, 3) := by decide +kernel
theorem dX11_of_46 : decode cX11_of 46 = .ok (.iload_n 1, 1) := by decide +kernel
theorem dX11_of_47 : decode cX11_of 47 = .ok (.iload_n 2, 1) := by decide +kernel
theorem dX11_of_48 : decode cX11_of 48 = .ok (.invokevirtual 232, 3) := by decide +kernel
theorem dX11_of_51 : decode cX11_of 51 = .ok (.ireturn, 1) := by decide +kernel
theorem dX11_wish_0 : decode cX11_wish 0 = .ok (.aload_n 0, 1) := by decide +kernel
theorem dX11_wish_1 : decode cX11_wish 1 = .ok (.iload_n 1, 1) := by decide +kernel
theorem dX11_wish_2 : decode cX11_wish 2 = .ok (.invokevirtual 222, 3) := by decide +kernel
theorem dX11_wish_5 : decode cX11_wish 5 = .ok (.ifCond .eq 20, 3) := by decide +kernel
theorem dX11_wish_8 : decode cX11_wish 8 = .ok (.iload_n 2, 1) := by decide +kernel
theorem dX11_wish_9 : decode cX11_wish 9 = .ok (.ifCond .lt 16, 3) := by decide +kernel
theorem dX11_wish_12 : decode cX11_wish 12 = .ok (.iload_n 2, 1) := by decide +kernel
theorem dX11_wish_13 : decode cX11_wish 13 = .ok (.aload_n 0, 1) := by decide +kernel
theorem dX11_wish_14 : decode cX11_wish 14 = .ok (.getfield 45, 3) := by decide +kernel
theorem dX11_wish_17 : decode cX11_wish 17 = .ok (.getfield 236, 3) := by decide +kernel
theorem dX11_wish_20 : decode cX11_wish 20 = .ok (.iload_n 1, 1) := by decide +kernel
theorem dX11_wish_21 : decode cX11_wish 21 = .ok (.iaload, 1) := by decide +kernel
theorem dX11_wish_22 : decode cX11_wish 22 = .ok (.if_icmp .lt 5, 3) := by decide +kernel
theorem dX11_wish_25 : decode cX11_wish 25 = .ok (.iconst (-1), 1) := by decide +kernel
theorem dX11_wish_26 : decode cX11_wish 26 = .ok (.ireturn, 1) := by decide +kernel
theorem dX11_wish_27 : decode cX11_wish 27 = .ok (.aload_n 0, 1) := by decide +kernel
theorem dX11_wish_28 : decode cX11_wish 28 = .ok (.getfield 45, 3) := by decide +kernel
theorem dX11_wish_31 : decode cX11_wish 31 = .ok (.getfield 239, 3) := by decide +kernel
theorem dX11_wish_34 : decode cX11_wish 34 = .ok (.iload_n 1, 1) := by decide +kernel
theorem dX11_wish_35 : decode cX11_wish 35 = .ok (.iconst 4, 1) := by decide +kernel
theorem dX11_wish_36 : decode cX11_wish 36 = .ok (.imul, 1) := by decide +kernel
theorem dX11_wish_37 : decode cX11_wish 37 = .ok (.iload_n 2, 1) := by decide +kernel
theorem dX11_wish_38 : decode cX11_wish 38 = .ok (.iadd, 1) := by decide +kernel
theorem dX11_wish_39 : decode cX11_wish 39 = .ok (.laload, 1) := by decide +kernel
theorem dX11_wish_40 : decode cX11_wish 40 = .ok (.iload_n 3, 1) := by decide +kernel
theorem dX11_wish_41 : decode cX11_wish 41 = .ok (.invokestatic 150, 3) := by decide +kernel
theorem dX11_wish_44 : decode cX11_wish 44 = .ok (.ireturn, 1) := by decide +kernel
theorem dX11_may_0 : decode cX11_may 0 = .ok (.aload_n 0, 1) := by decide +kernel
theorem dX11_may_1 : decode cX11_may 1 = .ok (.iload_n 1, 1) := by decide +kernel
theorem dX11_may_2 : decode cX11_may 2 = .ok (.invokevirtual 222, 3) := by decide +kernel
theorem dX11_may_5 : decode cX11_may 5 = .ok (.ifCond .eq 11, 3) := by decide +kernel
theorem dX11_may_8 : decode cX11_may 8 = .ok (.aload_n 0, 1) := by decide +kernel
theorem dX11_may_9 : decode cX11_may 9 = .ok (.iload_n 2, 1) := by decide +kernel
theorem dX11_may_10 : decode cX11_may 10 = .ok (.invokevirtual 154, 3) := by decide +kernel
theorem dX11_may_13 : decode cX11_may 13 = .ok (.ifCond .ne 5, 3) := by decide +kernel
theorem dX11_may_16 : decode cX11_may 16 = .ok (.iconst (-1), 1) := by decide +kernel
theorem dX11_may_17 : decode cX11_may 17 = .ok (.ireturn, 1) := by decide +kernel
theorem dX11_may_18 : decode cX11_may 18 = .ok (.aload_n 0, 1) := by decide +kernel
theorem dX11_may_19 : decode cX11_may 19 = .ok (.getfield 52, 3) := by decide +kernel
theorem dX11_may_22 : decode cX11_may 22 = .ok (.aload_n 0, 1) := by decide +kernel
theorem dX11_may_23 : decode cX11_may 23 = .ok (.getfield 12, 3) := by decide +kernel
theorem dX11_may_26 : decode cX11_may 26 = .ok (.aload_n 0, 1) := by decide +kernel
theorem dX11_may_27 : decode cX11_may 27 = .ok (.getfield 45, 3) := by decide +kernel
theorem dX11_may_30 : decode cX11_may 30 = .ok (.iload_n 1, 1) := by decide +kernel
theorem dX11_may_31 : decode cX11_may 31 = .ok (.invokevirtual 225, 3) := by decide +kernel
theorem dX11_may_34 : decode cX11_may 34 = .ok (.aload_n 0, 1) := by decide +kernel
theorem dX11_may_35 : decode cX11_may 35 = .ok (.getfield 52, 3) := by decide +kernel
theorem dX11_may_38 : decode cX11_may 38 = .ok (.getfield 242, 3) := by decide +kernel
theorem dX11_may_41 : decode cX11_may 41 = .ok (.iload_n 1, 1) := by decide +kernel
theorem dX11_may_42 : decode cX11_may 42 = .ok (.iaload, 1) := by decide +kernel
theorem dX11_may_43 : decode cX11_may 43 = .ok (.iload_n 2, 1) := by decide +kernel
theorem dX11_may_44 : decode cX11_may 44 = .ok (.ishr, 1) := by decide +kernel
theorem dX11_may_45 : decode cX11_may 45 = .ok (.iconst 1, 1) := by decide +kernel
theorem dX11_may_46 : decode cX11_may 46 = .ok (.iand, 1) := by decide +kernel
theorem dX11_may_47 : decode cX11_may 47 = .ok (.ireturn, 1) := by decide +kernel
theorem dX11_points_0 : decode cX11_points 0 = .ok (.aload_n 0, 1) := by decide +kernel
theorem dX11_points_1 : decode cX11_points 1 = .ok (.iload_n 1, 1) := by decide +kernel
theorem dX11_points_2 : decode cX11_points 2 = .ok (.invokevirtual 222, 3) := by decide +kernel
theorem dX11_points_5 : decode cX11_points 5 = .ok (.ifCond .eq 11, 3) := by decide +kernel
theorem dX11_points_8 : decode cX11_points 8 = .ok (.aload_n 0, 1) := by decide +kernel
theorem dX11_points_9 : decode cX11_points 9 = .ok (.iload_n 2, 1) := by decide +kernel
theorem dX11_points_10 : decode cX11_points 10 = .ok (.invokevirtual 154, 3) := by decide +kernel
theorem dX11_points_13 : decode cX11_points 13 = .ok (.ifCond .ne 6, 3) := by decide +kernel
theorem dX11_points_16 : decode cX11_points 16 = .ok (.ldc 245, 2) := by decide +kernel
theorem dX11_points_18 : decode cX11_points 18 = .ok (.ireturn, 1) := by decide +kernel
theorem dX11_points_19 : decode cX11_points 19 = .ok (.aload_n 0, 1) := by decide +kernel
theorem dX11_points_20 : decode cX11_points 20 = .ok (.getfield 52, 3) := by decide +kernel
theorem dX11_points_23 : decode cX11_points 23 = .ok (.aload_n 0, 1) := by decide +kernel
theorem dX11_points_24 : decode cX11_points 24 = .ok (.getfield 12, 3) := by decide +kernel
theorem dX11_points_27 : decode cX11_points 27 = .ok (.aload_n 0, 1) := by decide +kernel
theorem dX11_points_28 : decode cX11_points 28 = .ok (.getfield 45, 3) := by decide +kernel
theorem dX11_points_31 : decode cX11_points 31 = .ok (.iload_n 1, 1) := by decide +kernel
theorem dX11_points_32 : decode cX11_points 32 = .ok (.invokevirtual 225, 3) := by decide +kernel
theorem dX11_points_35 : decode cX11_points 35 = .ok (.aload_n 0, 1) := by decide +kernel
theorem dX11_points_36 : decode cX11_points 36 = .ok (.getfield 52, 3) := by decide +kernel
theorem dX11_points_39 : decode cX11_points 39 = .ok (.getfield 246, 3) := by decide +kernel
theorem dX11_points_42 : decode cX11_points 42 = .ok (.iload_n 1, 1) := by decide +kernel
theorem dX11_points_43 : decode cX11_points 43 = .ok (.bipush 10, 2) := by decide +kernel
theorem dX11_points_45 : decode cX11_points 45 = .ok (.imul, 1) := by decide +kernel
theorem dX11_points_46 : decode cX11_points 46 = .ok (.iload_n 2, 1) := by decide +kernel
theorem dX11_points_47 : decode cX11_points 47 = .ok (.iadd, 1) := by decide +kernel
theorem dX11_points_48 : decode cX11_points 48 = .ok (.iaload, 1) := by decide +kernel
theorem dX11_points_49 : decode cX11_points 49 = .ok (.ireturn, 1) := by decide +kernel
theorem dX11_give_0 : decode cX11_give 0 = .ok (.aload_n 0, 1) := by decide +kernel
theorem dX11_give_1 : decode cX11_give 1 = .ok (.invokevirtual 249, 3) := by decide +kernel
theorem dX11_give_4 : decode cX11_give 4 = .ok (.aload_n 0, 1) := by decide +kernel
theorem dX11_give_5 : decode cX11_give 5 = .ok (.getfield 59, 3) := by decide +kernel
theorem dX11_give_8 : decode cX11_give 8 = .ok (.aload_n 0, 1) := by decide +kernel
theorem dX11_give_9 : decode cX11_give 9 = .ok (.getfield 12, 3) := by decide +kernel
theorem dX11_give_12 : decode cX11_give 12 = .ok (.getfield 128, 3) := by decide +kernel
theorem dX11_give_15 : decode cX11_give 15 = .ok (.invokevirtual 252, 3) := by decide +kernel
theorem dX11_give_18 : decode cX11_give 18 = .ok (.aload_n 0, 1) := by decide +kernel
theorem dX11_give_19 : decode cX11_give 19 = .ok (.getfield 99, 3) := by decide +kernel
theorem dX11_give_22 : decode cX11_give 22 = .ok (.iconst 0, 1) := by decide +kernel
theorem dX11_give_23 : decode cX11_give 23 = .ok (.invokestatic 255, 3) := by decide +kernel
theorem dX11_give_26 : decode cX11_give 26 = .ok (.iconst 1, 1) := by decide +kernel
theorem dX11_give_27 : decode cX11_give 27 = .ok (.istore_n 1, 1) := by decide +kernel
theorem dX11_give_28 : decode cX11_give 28 = .ok (.iload_n 1, 1) := by decide +kernel
theorem dX11_give_29 : decode cX11_give 29 = .ok (.bipush 24, 2) := by decide +kernel
theorem dX11_give_31 : decode cX11_give 31 = .ok (.if_icmp .gt 48, 3) := by decide +kernel
theorem dX11_give_34 : decode cX11_give 34 = .ok (.aload_n 0, 1) := by decide +kernel
theorem dX11_give_35 : decode cX11_give 35 = .ok (.getfield 45, 3) := by decide +kernel
theorem dX11_give_38 : decode cX11_give 38 = .ok (.aload_n 0, 1) := by decide +kernel
theorem dX11_give_39 : decode cX11_give 39 = .ok (.getfield 99, 3) := by decide +kernel
theorem dX11_give_42 : decode cX11_give 42 = .ok (.iload_n 1, 1) := by decide +kernel
theorem dX11_give_43 : decode cX11_give 43 = .ok (.aload_n 0, 1) := by decide +kernel
theorem dX11_give_44 : decode cX11_give 44 = .ok (.getfield 12, 3) := by decide +kernel
theorem dX11_give_47 : decode cX11_give 47 = .ok (.getfield 128, 3) := by decide +kernel
theorem dX11_give_50 : decode cX11_give 50 = .ok (.invokevirtual 261, 3) := by decide +kernel
theorem dX11_give_53 : decode cX11_give 53 = .ok (.aload_n 0, 1) := by decide +kernel
theorem dX11_give_54 : decode cX11_give 54 = .ok (.getfield 59, 3) := by decide +kernel
theorem dX11_give_57 : decode cX11_give 57 = .ok (.aload_n 0, 1) := by decide +kernel
theorem dX11_give_58 : decode cX11_give 58 = .ok (.getfield 45, 3) := by decide +kernel
theorem dX11_give_61 : decode cX11_give 61 = .ok (.aload_n 0, 1) := by decide +kernel
theorem dX11_give_62 : decode cX11_give 62 = .ok (.getfield 52, 3) := by decide +kernel
theorem dX11_give_65 : decode cX11_give 65 = .ok (.iload_n 1, 1) := by decide +kernel
theorem dX11_give_66 : decode cX11_give 66 = .ok (.aload_n 0, 1) := by decide +kernel
theorem dX11_give_67 : decode cX11_give 67 = .ok (.getfield 99, 3) := by decide +kernel
theorem dX11_give_70 : decode cX11_give 70 = .ok (.invokevirtual 265, 3) := by decide +kernel
theorem dX11_give_73 : decode cX11_give 73 = .ok (.iinc 1 1, 3) := by decide +kernel
theorem dX11_give_76 : decode cX11_give 76 = .ok (.goto (-48), 3) := by decide +kernel
theorem dX11_give_79 : decode cX11_give 79 = .ok (.aload_n 0, 1) := by decide +kernel
theorem dX11_give_80 : decode cX11_give 80 = .ok (.getfield 77, 3) := by decide +kernel
theorem dX11_give_83 : decode cX11_give 83 = .ok (.invokevirtual 269, 3) := by decide +kernel
theorem dX11_give_86 : decode cX11_give 86 = .ok (.aload_n 0, 1) := by decide +kernel
theorem dX11_give_87 : decode cX11_give 87 = .ok (.getfield 84, 3) := by decide +kernel
theorem dX11_give_90 : decode cX11_give 90 = .ok (.aload_n 0, 1) := by decide +kernel
theorem dX11_give_91 : decode cX11_give 91 = .ok (.getfield 12, 3) := by decide +kernel
theorem dX11_give_94 : decode cX11_give 94 = .ok (.aload_n 0, 1) := by decide +kernel
theorem dX11_give_95 : decode cX11_give 95 = .ok (.getfield 45, 3) := by decide +kernel
theorem dX11_give_98 : decode cX11_give 98 = .ok (.aload_n 0, 1) := by decide +kernel
theorem dX11_give_99 : decode cX11_give 99 = .ok (.getfield 52, 3) := by decide +kernel
theorem dX11_give_102 : decode cX11_give 102 = .ok (.aload_n 0, 1) := by decide +kernel
theorem dX11_give_103 : decode cX11_give 103 = .ok (.getfield 59, 3) := by decide +kernel
theorem dX11_give_106 : decode cX11_give 106 = .ok (.aload_n 0, 1) := by decide +kernel
theorem dX11_give_107 : decode cX11_give 107 = .ok (.getfield 99, 3) := by decide +kernel
theorem dX11_give_110 : decode cX11_give 110 = .ok (.invokevirtual 272, 3) := by decide +kernel
theorem dX11_give_113 : decode cX11_give 113 = .ok (.ireturn, 1) := by decide +kernel
theorem dX11_given_0 : decode cX11_given 0 = .ok (.aload_n 0, 1) := by decide +kernel
theorem dX11_given_1 : decode cX11_given 1 = .ok (.getfield 84, 3) := by decide +kernel
theorem dX11_given_4 : decode cX11_given 4 = .ok (.getfield 124, 3) := by decide +kernel
theorem dX11_given_7 : decode cX11_given 7 = .ok (.ifCond .eq 14, 3) := by decide +kernel
theorem dX11_given_10 : decode cX11_given 10 = .ok (.aload_n 0, 1) := by decide +kernel
theorem dX11_given_11 : decode cX11_given 11 = .ok (.getfield 84, 3) := by decide +kernel
theorem dX11_given_14 : decode cX11_given 14 = .ok (.iload_n 1, 1) := by decide +kernel
theorem dX11_given_15 : decode cX11_given 15 = .ok (.invokevirtual 276, 3) := by decide +kernel
theorem dX11_given_18 : decode cX11_given 18 = .ok (.goto 4, 3) := by decide +kernel
theorem dX11_given_21 : decode cX11_given 21 = .ok (.iconst (-1), 1) := by decide +kernel
theorem dX11_given_22 : decode cX11_given 22 = .ok (.ireturn, 1) := by decide +kernel
theorem dX11_gets_0 : decode cX11_gets 0 = .ok (.aload_n 0, 1) := by decide +kernel
theorem dX11_gets_1 : decode cX11_gets 1 = .ok (.getfield 84, 3) := by decide +kernel
theorem dX11_gets_4 : decode cX11_gets 4 = .ok (.iload_n 1, 1) := by decide +kernel
theorem dX11_gets_5 : decode cX11_gets 5 = .ok (.invokevirtual 279, 3) := by decide +kernel
theorem dX11_gets_8 : decode cX11_gets 8 = .ok (.ifCond .eq 15, 3) := by decide +kernel
theorem dX11_gets_11 : decode cX11_gets 11 = .ok (.aload_n 0, 1) := by decide +kernel
theorem dX11_gets_12 : decode cX11_gets 12 = .ok (.getfield 84, 3) := by decide +kernel
theorem dX11_gets_15 : decode cX11_gets 15 = .ok (.getfield 280, 3) := by decide +kernel
theorem dX11_gets_18 : decode cX11_gets 18 = .ok (.iload_n 1, 1) := by decide +kernel
theorem dX11_gets_19 : decode cX11_gets 19 = .ok (.iaload, 1) := by decide +kernel
theorem dX11_gets_20 : decode cX11_gets 20 = .ok (.goto 4, 3) := by decide +kernel
theorem dX11_gets_23 : decode cX11_gets 23 = .ok (.iconst (-1), 1) := by decide +kernel
theorem dX11_gets_24 : decode cX11_gets 24 = .ok (.ireturn, 1) := by decide +kernel
theorem dX11_left_0 : decode cX11_left 0 = .ok (.aload_n 0, 1) := by decide +kernel
theorem dX11_left_1 : decode cX11_left 1 = .ok (.getfield 84, 3) := by decide +kernel
theorem dX11_left_4 : decode cX11_left 4 = .ok (.getfield 124, 3) := by decide +kernel
theorem dX11_left_7 : decode cX11_left 7 = .ok (.ifCond .eq 23, 3) := by decide +kernel
theorem dX11_left_10 : decode cX11_left 10 = .ok (.aload_n 0, 1) := by decide +kernel
theorem dX11_left_11 : decode cX11_left 11 = .ok (.iload_n 1, 1) := by decide +kernel
theorem dX11_left_12 : decode cX11_left 12 = .ok (.invokevirtual 154, 3) := by decide +kernel
theorem dX11_left_15 : decode cX11_left 15 = .ok (.ifCond .eq 15, 3) := by decide +kernel
theorem dX11_left_18 : decode cX11_left 18 = .ok (.aload_n 0, 1) := by decide +kernel
theorem dX11_left_19 : decode cX11_left 19 = .ok (.getfield 84, 3) := by decide +kernel
theorem dX11_left_22 : decode cX11_left 22 = .ok (.getfield 283, 3) := by decide +kernel
theorem dX11_left_25 : decode cX11_left 25 = .ok (.iload_n 1, 1) := by decide +kernel
theorem dX11_left_26 : decode cX11_left 26 = .ok (.iaload, 1) := by decide +kernel
theorem dX11_left_27 : decode cX11_left 27 = .ok (.goto 4, 3) := by decide +kernel
theorem dX11_left_30 : decode cX11_left 30 = .ok (.iconst (-1), 1) := by decide +kernel
theorem dX11_left_31 : decode cX11_left 31 = .ok (.ireturn, 1) := by decide +kernel
theorem dX11_blind_0 : decode cX11_blind 0 = .ok (.aload_n 0, 1) := by decide +kernel
theorem dX11_blind_1 : decode cX11_blind 1 = .ok (.invokevirtual 249, 3) := by decide +kernel
theorem dX11_blind_4 : decode cX11_blind 4 = .ok (.aload_n 0, 1) := by decide +kernel
theorem dX11_blind_5 : decode cX11_blind 5 = .ok (.getfield 99, 3) := by decide +kernel
theorem dX11_blind_8 : decode cX11_blind 8 = .ok (.iconst 0, 1) := by decide +kernel
theorem dX11_blind_9 : decode cX11_blind 9 = .ok (.invokestatic 255, 3) := by decide +kernel
theorem dX11_blind_12 : decode cX11_blind 12 = .ok (.iconst 0, 1) := by decide +kernel
theorem dX11_blind_13 : decode cX11_blind 13 = .ok (.istore_n 1, 1) := by decide +kernel
theorem dX11_blind_14 : decode cX11_blind 14 = .ok (.iconst 1, 1) := by decide +kernel
theorem dX11_blind_15 : decode cX11_blind 15 = .ok (.istore_n 2, 1) := by decide +kernel
theorem dX11_blind_16 : decode cX11_blind 16 = .ok (.iload_n 2, 1) := by decide +kernel
theorem dX11_blind_17 : decode cX11_blind 17 = .ok (.bipush 24, 2) := by decide +kernel
theorem dX11_blind_19 : decode cX11_blind 19 = .ok (.if_icmp .gt 93, 3) := by decide +kernel
theorem dX11_blind_22 : decode cX11_blind 22 = .ok (.aload_n 0, 1) := by decide +kernel
theorem dX11_blind_23 : decode cX11_blind 23 = .ok (.getfield 45, 3) := by decide +kernel
theorem dX11_blind_26 : decode cX11_blind 26 = .ok (.aload_n 0, 1) := by decide +kernel
theorem dX11_blind_27 : decode cX11_blind 27 = .ok (.getfield 99, 3) := by decide +kernel
theorem dX11_blind_30 : decode cX11_blind 30 = .ok (.iload_n 2, 1) := by decide +kernel
theorem dX11_blind_31 : decode cX11_blind 31 = .ok (.aload_n 0, 1) := by decide +kernel
theorem dX11_blind_32 : decode cX11_blind 32 = .ok (.getfield 12, 3) := by decide +kernel
theorem dX11_blind_35 : decode cX11_blind 35 = .ok (.getfield 128, 3) := by decide +kernel
theorem dX11_blind_38 : decode cX11_blind 38 = .ok (.invokevirtual 261, 3) := by decide +kernel
theorem dX11_blind_41 : decode cX11_blind 41 = .ok (.aload_n 0, 1) := by decide +kernel
theorem dX11_blind_42 : decode cX11_blind 42 = .ok (.getfield 59, 3) := by decide +kernel
theorem dX11_blind_45 : decode cX11_blind 45 = .ok (.aload_n 0, 1) := by decide +kernel
theorem dX11_blind_46 : decode cX11_blind 46 = .ok (.getfield 12, 3) := by decide +kernel
theorem dX11_blind_49 : decode cX11_blind 49 = .ok (.getfield 128, 3) := by decide +kernel
theorem dX11_blind_52 : decode cX11_blind 52 = .ok (.invokevirtual 252, 3) := by decide +kernel
theorem dX11_blind_55 : decode cX11_blind 55 = .ok (.aload_n 0, 1) := by decide +kernel
theorem dX11_blind_56 : decode cX11_blind 56 = .ok (.getfield 59, 3) := by decide +kernel
theorem dX11_blind_59 : decode cX11_blind 59 = .ok (.aload_n 0, 1) := by decide +kernel
theorem dX11_blind_60 : decode cX11_blind 60 = .ok (.getfield 45, 3) := by decide +kernel
theorem dX11_blind_63 : decode cX11_blind 63 = .ok (.aload_n 0, 1) := by decide +kernel
theorem dX11_blind_64 : decode cX11_blind 64 = .ok (.getfield 52, 3) := by decide +kernel
theorem dX11_blind_67 : decode cX11_blind 67 = .ok (.iload_n 2, 1) := by decide +kernel
theorem dX11_blind_68 : decode cX11_blind 68 = .ok (.aload_n 0, 1) := by decide +kernel
theorem dX11_blind_69 : decode cX11_blind 69 = .ok (.getfield 99, 3) := by decide +kernel
theorem dX11_blind_72 : decode cX11_blind 72 = .ok (.invokevirtual 265, 3) := by decide +kernel
theorem dX11_blind_75 : decode cX11_blind 75 = .ok (.aload_n 0, 1) := by decide +kernel
theorem dX11_blind_76 : decode cX11_blind 76 = .ok (.getfield 59, 3) := by decide +kernel
theorem dX11_blind_79 : decode cX11_blind 79 = .ok (.getfield 286, 3) := by decide +kernel
theorem dX11_blind_82 : decode cX11_blind 82 = .ok (.ifCond .le 24, 3) := by decide +kernel
theorem dX11_blind_85 : decode cX11_blind 85 = .ok (.aload_n 0, 1) := by decide +kernel
theorem dX11_blind_86 : decode cX11_blind 86 = .ok (.getfield 77, 3) := by decide +kernel
theorem dX11_blind_89 : decode cX11_blind 89 = .ok (.invokevirtual 269, 3) := by decide +kernel
theorem dX11_blind_92 : decode cX11_blind 92 = .ok (.iload_n 1, 1) := by decide +kernel
theorem dX11_blind_93 : decode cX11_blind 93 = .ok (.aload_n 0, 1) := by decide +kernel
theorem dX11_blind_94 : decode cX11_blind 94 = .ok (.getfield 59, 3) := by decide +kernel
theorem dX11_blind_97 : decode cX11_blind 97 = .ok (.aload_n 0, 1) := by decide +kernel
theorem dX11_blind_98 : decode cX11_blind 98 = .ok (.getfield 99, 3) := by decide +kernel
theorem dX11_blind_101 : decode cX11_blind 101 = .ok (.invokevirtual 289, 3) := by decide +kernel
theorem dX11_blind_104 : decode cX11_blind 104 = .ok (.iadd, 1) := by decide +kernel
theorem dX11_blind_105 : decode cX11_blind 105 = .ok (.istore_n 1, 1) := by decide +kernel
theorem dX11_blind_106 : decode cX11_blind 106 = .ok (.iinc 2 1, 3) := by decide +kernel
theorem dX11_blind_109 : decode cX11_blind 109 = .ok (.goto (-93), 3) := by decide +kernel
theorem dX11_blind_112 : decode cX11_blind 112 = .ok (.iload_n 1, 1) := by decide +kernel
theorem dX11_blind_113 : decode cX11_blind 113 = .ok (.ireturn, 1) := by decide +kernel
theorem dX11_lacks_0 : decode cX11_lacks 0 = .ok (.aload_n 0, 1) := by decide +kernel
theorem dX11_lacks_1 : decode cX11_lacks 1 = .ok (.getfield 84, 3) := by decide +kernel
theorem dX11_lacks_4 : decode cX11_lacks 4 = .ok (.getfield 124, 3) := by decide +kernel
theorem dX11_lacks_7 : decode cX11_lacks 7 = .ok (.ifCond .eq 15, 3) := by decide +kernel
theorem dX11_lacks_10 : decode cX11_lacks 10 = .ok (.aload_n 0, 1) := by decide +kernel
theorem dX11_lacks_11 : decode cX11_lacks 11 = .ok (.getfield 84, 3) := by decide +kernel
theorem dX11_lacks_14 : decode cX11_lacks 14 = .ok (.iload_n 1, 1) := by decide +kernel
theorem dX11_lacks_15 : decode cX11_lacks 15 = .ok (.iload_n 2, 1) := by decide +kernel
theorem dX11_lacks_16 : decode cX11_lacks 16 = .ok (.invokevirtual 293, 3) := by decide +kernel
theorem dX11_lacks_19 : decode cX11_lacks 19 = .ok (.goto 4, 3) := by decide +kernel
theorem dX11_lacks_22 : decode cX11_lacks 22 = .ok (.iconst (-1), 1) := by decide +kernel
theorem dX11_lacks_23 : decode cX11_lacks 23 = .ok (.ireturn, 1) := by decide +kernel
theorem dX11_price_0 : decode cX11_price 0 = .ok (.aload_n 0, 1) := by decide +kernel
theorem dX11_price_1 : decode cX11_price 1 = .ok (.getfield 84, 3) := by decide +kernel
theorem dX11_price_4 : decode cX11_price 4 = .ok (.iload_n 1, 1) := by decide +kernel
theorem dX11_price_5 : decode cX11_price 5 = .ok (.invokevirtual 279, 3) := by decide +kernel
theorem dX11_price_8 : decode cX11_price 8 = .ok (.ifCond .eq 18, 3) := by decide +kernel
theorem dX11_price_11 : decode cX11_price 11 = .ok (.aload_n 0, 1) := by decide +kernel
theorem dX11_price_12 : decode cX11_price 12 = .ok (.getfield 84, 3) := by decide +kernel
theorem dX11_price_15 : decode cX11_price 15 = .ok (.iload_n 1, 1) := by decide +kernel
theorem dX11_price_16 : decode cX11_price 16 = .ok (.aload_n 0, 1) := by decide +kernel
theorem dX11_price_17 : decode cX11_price 17 = .ok (.getfield 12, 3) := by decide +kernel
theorem dX11_price_20 : decode cX11_price 20 = .ok (.invokevirtual 296, 3) := by decide +kernel
theorem dX11_price_23 : decode cX11_price 23 = .ok (.goto 4, 3) := by decide +kernel
theorem dX11_price_26 : decode cX11_price 26 = .ok (.iconst (-1), 1) := by decide +kernel
theorem dX11_price_27 : decode cX11_price 27 = .ok (.ireturn, 1) := by decide +kernel
theorem dX11_spend_0 : decode cX11_spend 0 = .ok (.aload_n 0, 1) := by decide +kernel
theorem dX11_spend_1 : decode cX11_spend 1 = .ok (.getfield 84, 3) := by decide +kernel
theorem dX11_spend_4 : decode cX11_spend 4 = .ok (.getfield 124, 3) := by decide +kernel
theorem dX11_spend_7 : decode cX11_spend 7 = .ok (.ifCond .eq 25, 3) := by decide +kernel
theorem dX11_spend_10 : decode cX11_spend 10 = .ok (.aload_n 0, 1) := by decide +kernel
theorem dX11_spend_11 : decode cX11_spend 11 = .ok (.getfield 84, 3) := by decide +kernel
theorem dX11_spend_14 : decode cX11_spend 14 = .ok (.getfield 300, 3) := by decide +kernel
theorem dX11_spend_17 : decode cX11_spend 17 = .ok (.iconst (-1), 1) := by decide +kernel
theorem dX11_spend_18 : decode cX11_spend 18 = .ok (.if_icmp .ne 14, 3) := by decide +kernel
theorem dX11_spend_21 : decode cX11_spend 21 = .ok (.iload_n 1, 1) := by decide +kernel
theorem dX11_spend_22 : decode cX11_spend 22 = .ok (.iconst 0, 1) := by decide +kernel
theorem dX11_spend_23 : decode cX11_spend 23 = .ok (.ldc_w 303, 3) := by decide +kernel
theorem dX11_spend_26 : decode cX11_spend 26 = .ok (.invokestatic 168, 3) := by decide +kernel
theorem dX11_spend_29 : decode cX11_spend 29 = .ok (.ifCond .ne 5, 3) := by decide +kernel
theorem dX11_spend_32 : decode cX11_spend 32 = .ok (.iconst (-1), 1) := by decide +kernel
theorem dX11_spend_33 : decode cX11_spend 33 = .ok (.ireturn, 1) := by decide +kernel
theorem dX11_spend_34 : decode cX11_spend 34 = .ok (.aload_n 0, 1) := by decide +kernel
theorem dX11_spend_35 : decode cX11_spend 35 = .ok (.getfield 84, 3) := by decide +kernel
theorem dX11_spend_38 : decode cX11_spend 38 = .ok (.iload_n 1, 1) := by decide +kernel
theorem dX11_spend_39 : decode cX11_spend 39 = .ok (.aload_n 0, 1) := by decide +kernel
theorem dX11_spend_40 : decode cX11_spend 40 = .ok (.getfield 12, 3) := by decide +kernel
theorem dX11_spend_43 : decode cX11_spend 43 = .ok (.invokevirtual 304, 3) := by decide +kernel
theorem dX11_spend_46 : decode cX11_spend 46 = .ok (.ireturn, 1) := by decide +kernel
theorem dX11_spent_0 : decode cX11_spent 0 = .ok (.aload_n 0, 1) := by decide +kernel
theorem dX11_spent_1 : decode cX11_spent 1 = .ok (.getfield 84, 3) := by decide +kernel
theorem dX11_spent_4 : decode cX11_spent 4 = .ok (.getfield 124, 3) := by decide +kernel
theorem dX11_spent_7 : decode cX11_spent 7 = .ok (.ifCond .eq 13, 3) := by decide +kernel
theorem dX11_spent_10 : decode cX11_spent 10 = .ok (.aload_n 0, 1) := by decide +kernel
theorem dX11_spent_11 : decode cX11_spent 11 = .ok (.getfield 84, 3) := by decide +kernel
theorem dX11_spent_14 : decode cX11_spent 14 = .ok (.getfield 300, 3) := by decide +kernel
theorem dX11_spent_17 : decode cX11_spent 17 = .ok (.goto 4, 3) := by decide +kernel
theorem dX11_spent_20 : decode cX11_spent 20 = .ok (.iconst (-1), 1) := by decide +kernel
theorem dX11_spent_21 : decode cX11_spent 21 = .ok (.ireturn, 1) := by decide +kernel
theorem dX11_right_0 : decode cX11_right 0 = .ok (.aload_n 0, 1) := by decide +kernel
theorem dX11_right_1 : decode cX11_right 1 = .ok (.getfield 84, 3) := by decide +kernel
theorem dX11_right_4 : decode cX11_right 4 = .ok (.getfield 124, 3) := by decide +kernel
theorem dX11_right_7 : decode cX11_right 7 = .ok (.ifCond .eq 17, 3) := by decide +kernel
theorem dX11_right_10 : decode cX11_right 10 = .ok (.aload_n 0, 1) := by decide +kernel
theorem dX11_right_11 : decode cX11_right 11 = .ok (.getfield 84, 3) := by decide +kernel
theorem dX11_right_14 : decode cX11_right 14 = .ok (.aload_n 0, 1) := by decide +kernel
theorem dX11_right_15 : decode cX11_right 15 = .ok (.getfield 12, 3) := by decide +kernel
theorem dX11_right_18 : decode cX11_right 18 = .ok (.invokevirtual 307, 3) := by decide +kernel
theorem dX11_right_21 : decode cX11_right 21 = .ok (.goto 4, 3) := by decide +kernel
theorem dX11_right_24 : decode cX11_right 24 = .ok (.iconst (-1), 1) := by decide +kernel
theorem dX11_right_25 : decode cX11_right 25 = .ok (.ireturn, 1) := by decide +kernel
theorem dX11_walks_0 : decode cX11_walks 0 = .ok (.aload_n 0, 1) := by decide +kernel
theorem dX11_walks_1 : decode cX11_walks 1 = .ok (.getfield 84, 3) := by decide +kernel
theorem dX11_walks_4 : decode cX11_walks 4 = .ok (.getfield 124, 3) := by decide +kernel
theorem dX11_walks_7 : decode cX11_walks 7 = .ok (.ifCond .eq 13, 3) := by decide +kernel
theorem dX11_walks_10 : decode cX11_walks 10 = .ok (.iload_n 1, 1) := by decide +kernel
theorem dX11_walks_11 : decode cX11_walks 11 = .ok (.iconst 1, 1) := by decide +kernel
theorem dX11_walks_12 : decode cX11_walks 12 = .ok (.bipush 40, 2) := by decide +kernel
theorem dX11_walks_14 : decode cX11_walks 14 = .ok (.invokestatic 168, 3) := by decide +kernel
theorem dX11_walks_17 : decode cX11_walks 17 = .ok (.ifCond .ne 5, 3) := by decide +kernel
theorem dX11_walks_20 : decode cX11_walks 20 = .ok (.iconst (-1), 1) := by decide +kernel
theorem dX11_walks_21 : decode cX11_walks 21 = .ok (.ireturn, 1) := by decide +kernel
theorem dX11_walks_22 : decode cX11_walks 22 = .ok (.aload_n 0, 1) := by decide +kernel
theorem dX11_walks_23 : decode cX11_walks 23 = .ok (.getfield 91, 3) := by decide +kernel
theorem dX11_walks_26 : decode cX11_walks 26 = .ok (.aload_n 0, 1) := by decide +kernel
theorem dX11_walks_27 : decode cX11_walks 27 = .ok (.getfield 84, 3) := by decide +kernel
theorem dX11_walks_30 : decode cX11_walks 30 = .ok (.aload_n 0, 1) := by decide +kernel
theorem dX11_walks_31 : decode cX11_walks 31 = .ok (.getfield 12, 3) := by decide +kernel
theorem dX11_walks_34 : decode cX11_walks 34 = .ok (.invokevirtual 311, 3) := by decide +kernel
theorem dX11_walks_37 : decode cX11_walks 37 = .ok (.aload_n 0, 1) := by decide +kernel
theorem dX11_walks_38 : decode cX11_walks 38 = .ok (.getfield 91, 3) := by decide +kernel
theorem dX11_walks_41 : decode cX11_walks 41 = .ok (.iload_n 1, 1) := by decide +kernel
theorem dX11_walks_42 : decode cX11_walks 42 = .ok (.invokevirtual 315, 3) := by decide +kernel
theorem dX11_walks_45 : decode cX11_walks 45 = .ok (.ireturn, 1) := by decide +kernel
theorem dX11_bag_0 : decode cX11_bag 0 = .ok (.aload_n 0, 1) := by decide +kernel
theorem dX11_bag_1 : decode cX11_bag 1 = .ok (.getfield 84, 3) := by decide +kernel
theorem dX11_bag_4 : decode cX11_bag 4 = .ok (.getfield 124, 3) := by decide +kernel
theorem dX11_bag_7 : decode cX11_bag 7 = .ok (.ifCond .eq 7, 3) := by decide +kernel
theorem dX11_bag_10 : decode cX11_bag 10 = .ok (.iload_n 1, 1) := by decide +kernel
theorem dX11_bag_11 : decode cX11_bag 11 = .ok (.ifCond .ge 5, 3) := by decide +kernel
theorem dX11_bag_14 : decode cX11_bag 14 = .ok (.iconst (-1), 1) := by decide +kernel
theorem dX11_bag_15 : decode cX11_bag 15 = .ok (.ireturn, 1) := by decide +kernel
theorem dX11_bag_16 : decode cX11_bag 16 = .ok (.aload_n 0, 1) := by decide +kernel
theorem dX11_bag_17 : decode cX11_bag 17 = .ok (.getfield 91, 3) := by decide +kernel
theorem dX11_bag_20 : decode cX11_bag 20 = .ok (.aload_n 0, 1) := by decide +kernel
theorem dX11_bag_21 : decode cX11_bag 21 = .ok (.getfield 84, 3) := by decide +kernel
theorem dX11_bag_24 : decode cX11_bag 24 = .ok (.aload_n 0, 1) := by decide +kernel
theorem dX11_bag_25 : decode cX11_bag 25 = .ok (.getfield 12, 3) := by decide +kernel
theorem dX11_bag_28 : decode cX11_bag 28 = .ok (.invokevirtual 311, 3) := by decide +kernel
theorem dX11_bag_31 : decode cX11_bag 31 = .ok (.iload_n 1, 1) := by decide +kernel
theorem dX11_bag_32 : decode cX11_bag 32 = .ok (.aload_n 0, 1) := by decide +kernel
theorem dX11_bag_33 : decode cX11_bag 33 = .ok (.getfield 91, 3) := by decide +kernel
theorem dX11_bag_36 : decode cX11_bag 36 = .ok (.getfield 318, 3) := by decide +kernel
theorem dX11_bag_39 : decode cX11_bag 39 = .ok (.if_icmp .ge 15, 3) := by decide +kernel
theorem dX11_bag_42 : decode cX11_bag 42 = .ok (.aload_n 0, 1) := by decide +kernel
theorem dX11_bag_43 : decode cX11_bag 43 = .ok (.getfield 91, 3) := by decide +kernel
theorem dX11_bag_46 : decode cX11_bag 46 = .ok (.getfield 319, 3) := by decide +kernel
theorem dX11_bag_49 : decode cX11_bag 49 = .ok (.iload_n 1, 1) := by decide +kernel
theorem dX11_bag_50 : decode cX11_bag 50 = .ok (.iaload, 1) := by decide +kernel
theorem dX11_bag_51 : decode cX11_bag 51 = .ok (.goto 4, 3) := by decide +kernel
theorem dX11_bag_54 : decode cX11_bag 54 = .ok (.iconst (-1), 1) := by decide +kernel
theorem dX11_bag_55 : decode cX11_bag 55 = .ok (.ireturn, 1) := by decide +kernel
theorem dX11_queue_0 : decode cX11_queue 0 = .ok (.aload_n 0, 1) := by decide +kernel
theorem dX11_queue_1 : decode cX11_queue 1 = .ok (.getfield 84, 3) := by decide +kernel
theorem dX11_queue_4 : decode cX11_queue 4 = .ok (.getfield 124, 3) := by decide +kernel
theorem dX11_queue_7 : decode cX11_queue 7 = .ok (.ifCond .eq 29, 3) := by decide +kernel
theorem dX11_queue_10 : decode cX11_queue 10 = .ok (.iload_n 1, 1) := by decide +kernel
theorem dX11_queue_11 : decode cX11_queue 11 = .ok (.invokestatic 172, 3) := by decide +kernel
theorem dX11_queue_14 : decode cX11_queue 14 = .ok (.ifCond .eq 22, 3) := by decide +kernel
theorem dX11_queue_17 : decode cX11_queue 17 = .ok (.iload_n 2, 1) := by decide +kernel
theorem dX11_queue_18 : decode cX11_queue 18 = .ok (.iconst 1, 1) := by decide +kernel
theorem dX11_queue_19 : decode cX11_queue 19 = .ok (.bipush 9, 2) := by decide +kernel
theorem dX11_queue_21 : decode cX11_queue 21 = .ok (.invokestatic 168, 3) := by decide +kernel
theorem dX11_queue_24 : decode cX11_queue 24 = .ok (.ifCond .eq 12, 3) := by decide +kernel
theorem dX11_queue_27 : decode cX11_queue 27 = .ok (.iload_n 3, 1) := by decide +kernel
theorem dX11_queue_28 : decode cX11_queue 28 = .ok (.iconst 0, 1) := by decide +kernel
theorem dX11_queue_29 : decode cX11_queue 29 = .ok (.iconst 2, 1) := by decide +kernel
theorem dX11_queue_30 : decode cX11_queue 30 = .ok (.invokestatic 168, 3) := by decide +kernel
theorem dX11_queue_33 : decode cX11_queue 33 = .ok (.ifCond .ne 5, 3) := by decide +kernel
theorem dX11_queue_36 : decode cX11_queue 36 = .ok (.iconst (-1), 1) := by decide +kernel
theorem dX11_queue_37 : decode cX11_queue 37 = .ok (.ireturn, 1) := by decide +kernel
theorem dX11_queue_38 : decode cX11_queue 38 = .ok (.aload_n 0, 1) := by decide +kernel
theorem dX11_queue_39 : decode cX11_queue 39 = .ok (.getfield 91, 3) := by decide +kernel
theorem dX11_queue_42 : decode cX11_queue 42 = .ok (.aload_n 0, 1) := by decide +kernel
theorem dX11_queue_43 : decode cX11_queue 43 = .ok (.getfield 84, 3) := by decide +kernel
theorem dX11_queue_46 : decode cX11_queue 46 = .ok (.iload_n 1, 1) := by decide +kernel
theorem dX11_queue_47 : decode cX11_queue 47 = .ok (.invokevirtual 322, 3) := by decide +kernel
theorem dX11_queue_50 : decode cX11_queue 50 = .ok (.iload_n 3, 1) := by decide +kernel
theorem dX11_queue_51 : decode cX11_queue 51 = .ok (.ifCond .ne 11, 3) := by decide +kernel
theorem dX11_queue_54 : decode cX11_queue 54 = .ok (.aload_n 0, 1) := by decide +kernel
theorem dX11_queue_55 : decode cX11_queue 55 = .ok (.getfield 91, 3) := by decide +kernel
theorem dX11_queue_58 : decode cX11_queue 58 = .ok (.getfield 326, 3) := by decide +kernel
theorem dX11_queue_61 : decode cX11_queue 61 = .ok (.ireturn, 1) := by decide +kernel
theorem dX11_queue_62 : decode cX11_queue 62 = .ok (.aload_n 0, 1) := by decide +kernel
theorem dX11_queue_63 : decode cX11_queue 63 = .ok (.getfield 91, 3) := by decide +kernel
theorem dX11_queue_66 : decode cX11_queue 66 = .ok (.iload_n 2, 1) := by decide +kernel
theorem dX11_queue_67 : decode cX11_queue 67 = .ok (.invokevirtual 329, 3) := by decide +kernel
theorem dX11_queue_70 : decode cX11_queue 70 = .ok (.iload_n 3, 1) := by decide +kernel
theorem dX11_queue_71 : decode cX11_queue 71 = .ok (.iconst 1, 1) := by decide +kernel
theorem dX11_queue_72 : decode cX11_queue 72 = .ok (.if_icmp .ne 13, 3) := by decide +kernel
theorem dX11_queue_75 : decode cX11_queue 75 = .ok (.aload_n 0, 1) := by decide +kernel
theorem dX11_queue_76 : decode cX11_queue 76 = .ok (.getfield 91, 3) := by decide +kernel
theorem dX11_queue_79 : decode cX11_queue 79 = .ok (.getfield 332, 3) := by decide +kernel
theorem dX11_queue_82 : decode cX11_queue 82 = .ok (.goto 10, 3) := by decide +kernel
theorem dX11_queue_85 : decode cX11_queue 85 = .ok (.aload_n 0, 1) := by decide +kernel
theorem dX11_queue_86 : decode cX11_queue 86 = .ok (.getfield 91, 3) := by decide +kernel
theorem dX11_queue_89 : decode cX11_queue 89 = .ok (.getfield 335, 3) := by decide +kernel
theorem dX11_queue_92 : decode cX11_queue 92 = .ok (.ireturn, 1) := by decide +kernel
theorem dX11_label_0 : decode cX11_label 0 = .ok (.aload_n 0, 1) := by decide +kernel
theorem dX11_label_1 : decode cX11_label 1 = .ok (.getfield 84, 3) := by decide +kernel
theorem dX11_label_4 : decode cX11_label 4 = .ok (.iload_n 1, 1) := by decide +kernel
theorem dX11_label_5 : decode cX11_label 5 = .ok (.invokevirtual 279, 3) := by decide +kernel
theorem dX11_label_8 : decode cX11_label 8 = .ok (.ifCond .eq 15, 3) := by decide +kernel
theorem dX11_label_11 : decode cX11_label 11 = .ok (.aload_n 0, 1) := by decide +kernel
theorem dX11_label_12 : decode cX11_label 12 = .ok (.getfield 84, 3) := by decide +kernel
theorem dX11_label_15 : decode cX11_label 15 = .ok (.getfield 280, 3) := by decide +kernel
theorem dX11_label_18 : decode cX11_label 18 = .ok (.iload_n 1, 1) := by decide +kernel
theorem dX11_label_19 : decode cX11_label 19 = .ok (.iaload, 1) := by decide +kernel
theorem dX11_label_20 : decode cX11_label 20 = .ok (.ifCond .ne 5, 3) := by decide +kernel
theorem dX11_label_23 : decode cX11_label 23 = .ok (.iconst (-1), 1) := by decide +kernel
theorem dX11_label_24 : decode cX11_label 24 = .ok (.ireturn, 1) := by decide +kernel
theorem dX11_label_25 : decode cX11_label 25 = .ok (.aload_n 0, 1) := by decide +kernel
theorem dX11_label_26 : decode cX11_label 26 = .ok (.getfield 91, 3) := by decide +kernel
theorem dX11_label_29 : decode cX11_label 29 = .ok (.aload_n 0, 1) := by decide +kernel
theorem dX11_label_30 : decode cX11_label 30 = .ok (.getfield 84, 3) := by decide +kernel
theorem dX11_label_33 : decode cX11_label 33 = .ok (.getfield 280, 3) := by decide +kernel
theorem dX11_label_36 : decode cX11_label 36 = .ok (.iload_n 1, 1) := by decide +kernel
theorem dX11_label_37 : decode cX11_label 37 = .ok (.iaload, 1) := by decide +kernel
theorem dX11_label_38 : decode cX11_label 38 = .ok (.aload_n 0, 1) := by decide +kernel
theorem dX11_label_39 : decode cX11_label 39 = .ok (.getfield 12, 3) := by decide +kernel
theorem dX11_label_42 : decode cX11_label 42 = .ok (.invokevirtual 338, 3) := by decide +kernel
theorem dX11_label_45 : decode cX11_label 45 = .ok (.ireturn, 1) := by decide +kernel
theorem dX11_at_0 : decode cX11_at 0 = .ok (.iload_n 1, 1) := by decide +kernel
theorem dX11_at_1 : decode cX11_at 1 = .ok (.ifCond .lt 26, 3) := by decide +kernel
theorem dX11_at_4 : decode cX11_at 4 = .ok (.iload_n 1, 1) := by decide +kernel
theorem dX11_at_5 : decode cX11_at 5 = .ok (.aload_n 0, 1) := by decide +kernel
theorem dX11_at_6 : decode cX11_at 6 = .ok (.getfield 91, 3) := by decide +kernel
theorem dX11_at_9 : decode cX11_at 9 = .ok (.getfield 341, 3) := by decide +kernel
theorem dX11_at_12 : decode cX11_at 12 = .ok (.if_icmp .ge 15, 3) := by decide +kernel
theorem dX11_at_15 : decode cX11_at 15 = .ok (.aload_n 0, 1) := by decide +kernel
theorem dX11_at_16 : decode cX11_at 16 = .ok (.getfield 91, 3) := by decide +kernel
theorem dX11_at_19 : decode cX11_at 19 = .ok (.getfield 344, 3) := by decide +kernel
theorem dX11_at_22 : decode cX11_at 22 = .ok (.iload_n 1, 1) := by decide +kernel
theorem dX11_at_23 : decode cX11_at 23 = .ok (.iaload, 1) := by decide +kernel
theorem dX11_at_24 : decode cX11_at 24 = .ok (.goto 4, 3) := by decide +kernel
theorem dX11_at_27 : decode cX11_at 27 = .ok (.iconst (-1), 1) := by decide +kernel
theorem dX11_at_28 : decode cX11_at 28 = .ok (.ireturn, 1) := by decide +kernel
theorem dX11_within_0 : decode cX11_within 0 = .ok (.iload_n 0, 1) := by decide +kernel
theorem dX11_within_1 : decode cX11_within 1 = .ok (.iload_n 1, 1) := by decide +kernel
theorem dX11_within_2 : decode cX11_within 2 = .ok (.if_icmp .lt 12, 3) := by decide +kernel
theorem dX11_within_5 : decode cX11_within 5 = .ok (.iload_n 0, 1) := by decide +kernel
theorem dX11_within_6 : decode cX11_within 6 = .ok (.iload_n 2, 1) := by decide +kernel
theorem dX11_within_7 : decode cX11_within 7 = .ok (.if_icmp .gt 7, 3) := by decide +kernel
theorem dX11_within_10 : decode cX11_within 10 = .ok (.iconst 1, 1) := by decide +kernel
theorem dX11_within_11 : decode cX11_within 11 = .ok (.goto 4, 3) := by decide +kernel
theorem dX11_within_14 : decode cX11_within 14 = .ok (.iconst 0, 1) := by decide +kernel
theorem dX11_within_15 : decode cX11_within 15 = .ok (.ireturn, 1) := by decide +kernel
theorem dX11_isDay_0 : decode cX11_isDay 0 = .ok (.iload_n 0, 1) := by decide +kernel
theorem dX11_isDay_1 : decode cX11_isDay 1 = .ok (.iconst 1, 1) := by decide +kernel
theorem dX11_isDay_2 : decode cX11_isDay 2 = .ok (.bipush 24, 2) := by decide +kernel
theorem dX11_isDay_4 : decode cX11_isDay 4 = .ok (.invokestatic 168, 3) := by decide +kernel
theorem dX11_isDay_7 : decode cX11_isDay 7 = .ok (.ireturn, 1) := by decide +kernel
theorem dX11_isKind_0 : decode cX11_isKind 0 = .ok (.iload_n 1, 1) := by decide +kernel
theorem dX11_isKind_1 : decode cX11_isKind 1 = .ok (.ifCond .lt 18, 3) := by decide +kernel
theorem dX11_isKind_4 : decode cX11_isKind 4 = .ok (.iload_n 1, 1) := by decide +kernel
theorem dX11_isKind_5 : decode cX11_isKind 5 = .ok (.aload_n 0, 1) := by decide +kernel
theorem dX11_isKind_6 : decode cX11_isKind 6 = .ok (.getfield 12, 3) := by decide +kernel
theorem dX11_isKind_9 : decode cX11_isKind 9 = .ok (.getfield 128, 3) := by decide +kernel
theorem dX11_isKind_12 : decode cX11_isKind 12 = .ok (.if_icmp .ge 7, 3) := by decide +kernel
theorem dX11_isKind_15 : decode cX11_isKind 15 = .ok (.iconst 1, 1) := by decide +kernel
theorem dX11_isKind_16 : decode cX11_isKind 16 = .ok (.goto 4, 3) := by decide +kernel
theorem dX11_isKind_19 : decode cX11_isKind 19 = .ok (.iconst 0, 1) := by decide +kernel
theorem dX11_isKind_20 : decode cX11_isKind 20 = .ok (.ireturn, 1) := by decide +kernel
theorem dX11_isChild_0 : decode cX11_isChild 0 = .ok (.aload_n 0, 1) := by decide +kernel
theorem dX11_isChild_1 : decode cX11_isChild 1 = .ok (.invokevirtual 207, 3) := by decide +kernel
theorem dX11_isChild_4 : decode cX11_isChild 4 = .ok (.iload_n 1, 1) := by decide +kernel
theorem dX11_isChild_5 : decode cX11_isChild 5 = .ok (.ifCond .lt 18, 3) := by decide +kernel
theorem dX11_isChild_8 : decode cX11_isChild 8 = .ok (.iload_n 1, 1) := by decide +kernel
theorem dX11_isChild_9 : decode cX11_isChild 9 = .ok (.aload_n 0, 1) := by decide +kernel
theorem dX11_isChild_10 : decode cX11_isChild 10 = .ok (.getfield 45, 3) := by decide +kernel
theorem dX11_isChild_13 : decode cX11_isChild 13 = .ok (.getfield 210, 3) := by decide +kernel
theorem dX11_isChild_16 : decode cX11_isChild 16 = .ok (.if_icmp .ge 7, 3) := by decide +kernel
theorem dX11_isChild_19 : decode cX11_isChild 19 = .ok (.iconst 1, 1) := by decide +kernel
theorem dX11_isChild_20 : decode cX11_isChild 20 = .ok (.goto 4, 3) := by decide +kernel
theorem dX11_isChild_23 : decode cX11_isChild 23 = .ok (.iconst 0, 1) := by decide +kernel
theorem dX11_isChild_24 : decode cX11_isChild 24 = .ok (.ireturn, 1) := by decide +kernel
theorem dX11_actNow_0 : decode cX11_actNow 0 = .ok (.aload_n 0, 1) := by decide +kernel
theorem dX11_actNow_1 : decode cX11_actNow 1 = .ok (.getfield 95, 3) := by decide +kernel
theorem dX11_actNow_4 : decode cX11_actNow 4 = .ok (.iconst (-1), 1) := by decide +kernel
theorem dX11_actNow_5 : decode cX11_actNow 5 = .ok (.if_icmp .ne 13, 3) := by decide +kernel
theorem dX11_actNow_8 : decode cX11_actNow 8 = .ok (.aload_n 0, 1) := by decide +kernel
theorem dX11_actNow_9 : decode cX11_actNow 9 = .ok (.getfield 38, 3) := by decide +kernel
theorem dX11_actNow_12 : decode cX11_actNow 12 = .ok (.getfield 190, 3) := by decide +kernel
theorem dX11_actNow_15 : decode cX11_actNow 15 = .ok (.goto 7, 3) := by decide +kernel
theorem dX11_actNow_18 : decode cX11_actNow 18 = .ok (.aload_n 0, 1) := by decide +kernel
theorem dX11_actNow_19 : decode cX11_actNow 19 = .ok (.getfield 95, 3) := by decide +kernel
theorem dX11_actNow_22 : decode cX11_actNow 22 = .ok (.ireturn, 1) := by decide +kernel
theorem dX11_look_0 : decode cX11_look 0 = .ok (.aload_n 0, 1) := by decide +kernel
theorem dX11_look_1 : decode cX11_look 1 = .ok (.getfield 45, 3) := by decide +kernel
theorem dX11_look_4 : decode cX11_look 4 = .ok (.aload_n 0, 1) := by decide +kernel
theorem dX11_look_5 : decode cX11_look 5 = .ok (.getfield 38, 3) := by decide +kernel
theorem dX11_look_8 : decode cX11_look 8 = .ok (.aload_n 0, 1) := by decide +kernel
theorem dX11_look_9 : decode cX11_look 9 = .ok (.invokevirtual 203, 3) := by decide +kernel
theorem dX11_look_12 : decode cX11_look 12 = .ok (.invokevirtual 347, 3) := by decide +kernel
theorem dX11_look_15 : decode cX11_look 15 = .ok (.return_, 1) := by decide +kernel
theorem dX11_weighAll_0 : decode cX11_weighAll 0 = .ok (.aload_n 0, 1) := by decide +kernel
theorem dX11_weighAll_1 : decode cX11_weighAll 1 = .ok (.invokevirtual 207, 3) := by decide +kernel
theorem dX11_weighAll_4 : decode cX11_weighAll 4 = .ok (.iconst 0, 1) := by decide +kernel
theorem dX11_weighAll_5 : decode cX11_weighAll 5 = .ok (.istore_n 1, 1) := by decide +kernel
theorem dX11_weighAll_6 : decode cX11_weighAll 6 = .ok (.iload_n 1, 1) := by decide +kernel
theorem dX11_weighAll_7 : decode cX11_weighAll 7 = .ok (.aload_n 0, 1) := by decide +kernel
theorem dX11_weighAll_8 : decode cX11_weighAll 8 = .ok (.getfield 45, 3) := by decide +kernel
theorem dX11_weighAll_11 : decode cX11_weighAll 11 = .ok (.getfield 210, 3) := by decide +kernel
theorem dX11_weighAll_14 : decode cX11_weighAll 14 = .ok (.if_icmp .ge 25, 3) := by decide +kernel
theorem dX11_weighAll_17 : decode cX11_weighAll 17 = .ok (.aload_n 0, 1) := by decide +kernel
theorem dX11_weighAll_18 : decode cX11_weighAll 18 = .ok (.getfield 52, 3) := by decide +kernel
theorem dX11_weighAll_21 : decode cX11_weighAll 21 = .ok (.aload_n 0, 1) := by decide +kernel
theorem dX11_weighAll_22 : decode cX11_weighAll 22 = .ok (.getfield 12, 3) := by decide +kernel
theorem dX11_weighAll_25 : decode cX11_weighAll 25 = .ok (.aload_n 0, 1) := by decide +kernel
theorem dX11_weighAll_26 : decode cX11_weighAll 26 = .ok (.getfield 45, 3) := by decide +kernel
theorem dX11_weighAll_29 : decode cX11_weighAll 29 = .ok (.iload_n 1, 1) := by decide +kernel
theorem dX11_weighAll_30 : decode cX11_weighAll 30 = .ok (.invokevirtual 225, 3) := by decide +kernel
theorem dX11_weighAll_33 : decode cX11_weighAll 33 = .ok (.iinc 1 1, 3) := by decide +kernel
theorem dX11_weighAll_36 : decode cX11_weighAll 36 = .ok (.goto (-30), 3) := by decide +kernel
theorem dX11_weighAll_39 : decode cX11_weighAll 39 = .ok (.return_, 1) := by decide +kernel
theorem dX10_init_0 : decode cX10_init 0 = .ok (.aload_n 0, 1) := by decide +kernel
theorem dX10_init_1 : decode cX10_init 1 = .ok (.invokespecial 3, 3) := by decide +kernel
theorem dX10_init_4 : decode cX10_init 4 = .ok (.aload_n 0, 1) := by decide +kernel
theorem dX10_init_5 : decode cX10_init 5 = .ok (.sipush 1000, 3) := by decide +kernel
theorem dX10_init_8 : decode cX10_init 8 = .ok (.newarray .int, 2) := by decide +kernel
theorem dX10_init_10 : decode cX10_init 10 = .ok (.putfield 9, 3) := by decide +kernel
theorem dX10_init_13 : decode cX10_init 13 = .ok (.aload_n 0, 1) := by decide +kernel
theorem dX10_init_14 : decode cX10_init 14 = .ok (.bipush 22, 2) := by decide +kernel
theorem dX10_init_16 : decode cX10_init 16 = .ok (.newarray .long, 2) := by decide +kernel
theorem dX10_init_18 : decode cX10_init 18 = .ok (.putfield 15, 3) := by decide +kernel
theorem dX10_init_21 : decode cX10_init 21 = .ok (.iconst 0, 1) := by decide +kernel
theorem dX10_init_22 : decode cX10_init 22 = .ok (.istore_n 1, 1) := by decide +kernel
theorem dX10_init_23 : decode cX10_init 23 = .ok (.iconst 0, 1) := by decide +kernel
theorem dX10_init_24 : decode cX10_init 24 = .ok (.istore_n 2, 1) := by decide +kernel
theorem dX10_init_25 : decode cX10_init 25 = .ok (.iconst 0, 1) := by decide +kernel
theorem dX10_init_26 : decode cX10_init 26 = .ok (.istore_n 3, 1) := by decide +kernel
theorem dX10_init_27 : decode cX10_init 27 = .ok (.iload_n 3, 1) := by decide +kernel
theorem dX10_init_28 : decode cX10_init 28 = .ok (.ldc 19, 2) := by decide +kernel
theorem dX10_init_30 : decode cX10_init 30 = .ok (.invokevirtual 21, 3) := by decide +kernel
theorem dX10_init_33 : decode cX10_init 33 = .ok (.if_icmp .ge 63, 3) := by decide +kernel
theorem dX10_init_36 : decode cX10_init 36 = .ok (.iload_n 1, 1) := by decide +kernel
theorem dX10_init_37 : decode cX10_init 37 = .ok (.bipush 22, 2) := by decide +kernel
theorem dX10_init_39 : decode cX10_init 39 = .ok (.if_icmp .ge 57, 3) := by decide +kernel
theorem dX10_init_42 : decode cX10_init 42 = .ok (.ldc 19, 2) := by decide +kernel
theorem dX10_init_44 : decode cX10_init 44 = .ok (.iload_n 3, 1) := by decide +kernel
theorem dX10_init_45 : decode cX10_init 45 = .ok (.invokevirtual 27, 3) := by decide +kernel
theorem dX10_init_48 : decode cX10_init 48 = .ok (.istore 4, 2) := by decide +kernel
theorem dX10_init_50 : decode cX10_init 50 = .ok (.iload 4, 2) := by decide +kernel
theorem dX10_init_52 : decode cX10_init 52 = .ok (.bipush 32, 2) := by decide +kernel
theorem dX10_init_54 : decode cX10_init 54 = .ok (.if_icmp .ne 11, 3) := by decide +kernel
theorem dX10_init_57 : decode cX10_init 57 = .ok (.iinc 1 1, 3) := by decide +kernel
theorem dX10_init_60 : decode cX10_init 60 = .ok (.iconst 0, 1) := by decide +kernel
theorem dX10_init_61 : decode cX10_init 61 = .ok (.istore_n 2, 1) := by decide +kernel
theorem dX10_init_62 : decode cX10_init 62 = .ok (.goto 28, 3) := by decide +kernel
theorem dX10_init_65 : decode cX10_init 65 = .ok (.aload_n 0, 1) := by decide +kernel
theorem dX10_init_66 : decode cX10_init 66 = .ok (.getfield 15, 3) := by decide +kernel
theorem dX10_init_69 : decode cX10_init 69 = .ok (.iload_n 1, 1) := by decide +kernel
theorem dX10_init_70 : decode cX10_init 70 = .ok (.dup2, 1) := by decide +kernel
theorem dX10_init_71 : decode cX10_init 71 = .ok (.laload, 1) := by decide +kernel
theorem dX10_init_72 : decode cX10_init 72 = .ok (.iload 4, 2) := by decide +kernel
theorem dX10_init_74 : decode cX10_init 74 = .ok (.bipush 96, 2) := by decide +kernel
theorem dX10_init_76 : decode cX10_init 76 = .ok (.isub, 1) := by decide +kernel
theorem dX10_init_77 : decode cX10_init 77 = .ok (.i2l, 1) := by decide +kernel
theorem dX10_init_78 : decode cX10_init 78 = .ok (.bipush 35, 2) := by decide +kernel
theorem dX10_init_80 : decode cX10_init 80 = .ok (.iconst 5, 1) := by decide +kernel
theorem dX10_init_81 : decode cX10_init 81 = .ok (.iload_n 2, 1) := by decide +kernel
theorem dX10_init_82 : decode cX10_init 82 = .ok (.imul, 1) := by decide +kernel
theorem dX10_init_83 : decode cX10_init 83 = .ok (.isub, 1) := by decide +kernel
theorem dX10_init_84 : decode cX10_init 84 = .ok (.lshl, 1) := by decide +kernel
theorem dX10_init_85 : decode cX10_init 85 = .ok (.lor, 1) := by decide +kernel
theorem dX10_init_86 : decode cX10_init 86 = .ok (.lastore, 1) := by decide +kernel
theorem dX10_init_87 : decode cX10_init 87 = .ok (.iinc 2 1, 3) := by decide +kernel
theorem dX10_init_90 : decode cX10_init 90 = .ok (.iinc 3 1, 3) := by decide +kernel
theorem dX10_init_93 : decode cX10_init 93 = .ok (.goto (-66), 3) := by decide +kernel
theorem dX10_init_96 : decode cX10_init 96 = .ok (.return_, 1) := by decide +kernel
theorem dX10_put_0 : decode cX10_put 0 = .ok (.bipush 24, 2) := by decide +kernel
theorem dX10_put_2 : decode cX10_put 2 = .ok (.istore_n 2, 1) := by decide +kernel
theorem dX10_put_3 : decode cX10_put 3 = .ok (.iload_n 2, 1) := by decide +kernel
theorem dX10_put_4 : decode cX10_put 4 = .ok (.ifCond .lt 45, 3) := by decide +kernel
theorem dX10_put_7 : decode cX10_put 7 = .ok (.aload_n 0, 1) := by decide +kernel
theorem dX10_put_8 : decode cX10_put 8 = .ok (.getfield 31, 3) := by decide +kernel
theorem dX10_put_11 : decode cX10_put 11 = .ok (.sipush 1000, 3) := by decide +kernel
theorem dX10_put_14 : decode cX10_put 14 = .ok (.if_icmp .ge 29, 3) := by decide +kernel
theorem dX10_put_17 : decode cX10_put 17 = .ok (.aload_n 0, 1) := by decide +kernel
theorem dX10_put_18 : decode cX10_put 18 = .ok (.getfield 9, 3) := by decide +kernel
theorem dX10_put_21 : decode cX10_put 21 = .ok (.aload_n 0, 1) := by decide +kernel
theorem dX10_put_22 : decode cX10_put 22 = .ok (.getfield 31, 3) := by decide +kernel
theorem dX10_put_25 : decode cX10_put 25 = .ok (.iload_n 1, 1) := by decide +kernel
theorem dX10_put_26 : decode cX10_put 26 = .ok (.iload_n 2, 1) := by decide +kernel
theorem dX10_put_27 : decode cX10_put 27 = .ok (.iushr, 1) := by decide +kernel
theorem dX10_put_28 : decode cX10_put 28 = .ok (.sipush 255, 3) := by decide +kernel
theorem dX10_put_31 : decode cX10_put 31 = .ok (.iand, 1) := by decide +kernel
theorem dX10_put_32 : decode cX10_put 32 = .ok (.iastore, 1) := by decide +kernel
theorem dX10_put_33 : decode cX10_put 33 = .ok (.aload_n 0, 1) := by decide +kernel
theorem dX10_put_34 : decode cX10_put 34 = .ok (.dup, 1) := by decide +kernel
theorem dX10_put_35 : decode cX10_put 35 = .ok (.getfield 31, 3) := by decide +kernel
theorem dX10_put_38 : decode cX10_put 38 = .ok (.iconst 1, 1) := by decide +kernel
theorem dX10_put_39 : decode cX10_put 39 = .ok (.iadd, 1) := by decide +kernel
theorem dX10_put_40 : decode cX10_put 40 = .ok (.putfield 31, 3) := by decide +kernel
theorem dX10_put_43 : decode cX10_put 43 = .ok (.iinc 2 (-8), 3) := by decide +kernel
theorem dX10_put_46 : decode cX10_put 46 = .ok (.goto (-43), 3) := by decide +kernel
theorem dX10_put_49 : decode cX10_put 49 = .ok (.return_, 1) := by decide +kernel
theorem dX10_rewind_0 : decode cX10_rewind 0 = .ok (.aload_n 0, 1) := by decide +kernel
theorem dX10_rewind_1 : decode cX10_rewind 1 = .ok (.iconst 0, 1) := by decide +kernel
theorem dX10_rewind_2 : decode cX10_rewind 2 = .ok (.putfield 34, 3) := by decide +kernel
theorem dX10_rewind_5 : decode cX10_rewind 5 = .ok (.aload_n 0, 1) := by decide +kernel
theorem dX10_rewind_6 : decode cX10_rewind 6 = .ok (.sipush 256, 3) := by decide +kernel
theorem dX10_rewind_9 : decode cX10_rewind 9 = .ok (.putfield 37, 3) := by decide +kernel
theorem dX10_rewind_12 : decode cX10_rewind 12 = .ok (.aload_n 0, 1) := by decide +kernel
theorem dX10_rewind_13 : decode cX10_rewind 13 = .ok (.invokevirtual 40, 3) := by decide +kernel
theorem dX10_rewind_16 : decode cX10_rewind 16 = .ok (.return_, 1) := by decide +kernel
theorem dX10_step_0 : decode cX10_step 0 = .ok (.aload_n 0, 1) := by decide +kernel
theorem dX10_step_1 : decode cX10_step 1 = .ok (.getfield 37, 3) := by decide +kernel
theorem dX10_step_4 : decode cX10_step 4 = .ok (.sipush 258, 3) := by decide +kernel
theorem dX10_step_7 : decode cX10_step 7 = .ok (.if_icmp .lt 7, 3) := by decide +kernel
theorem dX10_step_10 : decode cX10_step 10 = .ok (.iconst 1, 1) := by decide +kernel
theorem dX10_step_11 : decode cX10_step 11 = .ok (.goto 4, 3) := by decide +kernel
theorem dX10_step_14 : decode cX10_step 14 = .ok (.iconst 0, 1) := by decide +kernel
theorem dX10_step_15 : decode cX10_step 15 = .ok (.istore_n 1, 1) := by decide +kernel
theorem dX10_step_16 : decode cX10_step 16 = .ok (.aload_n 0, 1) := by decide +kernel
theorem dX10_step_17 : decode cX10_step 17 = .ok (.getfield 34, 3) := by decide +kernel
theorem dX10_step_20 : decode cX10_step 20 = .ok (.istore_n 2, 1) := by decide +kernel
theorem dX10_step_21 : decode cX10_step 21 = .ok (.aload_n 0, 1) := by decide +kernel
theorem dX10_step_22 : decode cX10_step 22 = .ok (.getfield 34, 3) := by decide +kernel
theorem dX10_step_25 : decode cX10_step 25 = .ok (.aload_n 0, 1) := by decide +kernel
theorem dX10_step_26 : decode cX10_step 26 = .ok (.getfield 31, 3) := by decide +kernel
theorem dX10_step_29 : decode cX10_step 29 = .ok (.if_icmp .ge 44, 3) := by decide +kernel
theorem dX10_step_32 : decode cX10_step 32 = .ok (.aload_n 0, 1) := by decide +kernel
theorem dX10_step_33 : decode cX10_step 33 = .ok (.getfield 9, 3) := by decide +kernel
theorem dX10_step_36 : decode cX10_step 36 = .ok (.aload_n 0, 1) := by decide +kernel
theorem dX10_step_37 : decode cX10_step 37 = .ok (.getfield 34, 3) := by decide +kernel
theorem dX10_step_40 : decode cX10_step 40 = .ok (.iaload, 1) := by decide +kernel
theorem dX10_step_41 : decode cX10_step 41 = .ok (.bipush 10, 2) := by decide +kernel
theorem dX10_step_43 : decode cX10_step 43 = .ok (.if_icmp .eq 17, 3) := by decide +kernel
theorem dX10_step_46 : decode cX10_step 46 = .ok (.aload_n 0, 1) := by decide +kernel
theorem dX10_step_47 : decode cX10_step 47 = .ok (.getfield 9, 3) := by decide +kernel
theorem dX10_step_50 : decode cX10_step 50 = .ok (.aload_n 0, 1) := by decide +kernel
theorem dX10_step_51 : decode cX10_step 51 = .ok (.getfield 34, 3) := by decide +kernel
theorem dX10_step_54 : decode cX10_step 54 = .ok (.iaload, 1) := by decide +kernel
theorem dX10_step_55 : decode cX10_step 55 = .ok (.bipush 32, 2) := by decide +kernel
theorem dX10_step_57 : decode cX10_step 57 = .ok (.if_icmp .ne 16, 3) := by decide +kernel
theorem dX10_step_60 : decode cX10_step 60 = .ok (.aload_n 0, 1) := by decide +kernel
theorem dX10_step_61 : decode cX10_step 61 = .ok (.dup, 1) := by decide +kernel
theorem dX10_step_62 : decode cX10_step 62 = .ok (.getfield 34, 3) := by decide +kernel
theorem dX10_step_65 : decode cX10_step 65 = .ok (.iconst 1, 1) := by decide +kernel
theorem dX10_step_66 : decode cX10_step 66 = .ok (.iadd, 1) := by decide +kernel
theorem dX10_step_67 : decode cX10_step 67 = .ok (.putfield 34, 3) := by decide +kernel
theorem dX10_step_70 : decode cX10_step 70 = .ok (.goto (-49), 3) := by decide +kernel
theorem dX10_step_73 : decode cX10_step 73 = .ok (.aload_n 0, 1) := by decide +kernel
theorem dX10_step_74 : decode cX10_step 74 = .ok (.aload_n 0, 1) := by decide +kernel
theorem dX10_step_75 : decode cX10_step 75 = .ok (.getfield 34, 3) := by decide +kernel
theorem dX10_step_78 : decode cX10_step 78 = .ok (.putfield 43, 3) := by decide +kernel
theorem dX10_step_81 : decode cX10_step 81 = .ok (.aload_n 0, 1) := by decide +kernel
theorem dX10_step_82 : decode cX10_step 82 = .ok (.aload_n 0, 1) := by decide +kernel
theorem dX10_step_83 : decode cX10_step 83 = .ok (.getfield 34, 3) := by decide +kernel
theorem dX10_step_86 : decode cX10_step 86 = .ok (.aload_n 0, 1) := by decide +kernel
theorem dX10_step_87 : decode cX10_step 87 = .ok (.getfield 31, 3) := by decide +kernel
theorem dX10_step_90 : decode cX10_step 90 = .ok (.if_icmp .ge 15, 3) := by decide +kernel
theorem dX10_step_93 : decode cX10_step 93 = .ok (.aload_n 0, 1) := by decide +kernel
theorem dX10_step_94 : decode cX10_step 94 = .ok (.getfield 9, 3) := by decide +kernel
theorem dX10_step_97 : decode cX10_step 97 = .ok (.aload_n 0, 1) := by decide +kernel
theorem dX10_step_98 : decode cX10_step 98 = .ok (.getfield 34, 3) := by decide +kernel
theorem dX10_step_101 : decode cX10_step 101 = .ok (.iaload, 1) := by decide +kernel
theorem dX10_step_102 : decode cX10_step 102 = .ok (.goto 6, 3) := by decide +kernel
theorem dX10_step_105 : decode cX10_step 105 = .ok (.sipush 256, 3) := by decide +kernel
theorem dX10_step_108 : decode cX10_step 108 = .ok (.putfield 37, 3) := by decide +kernel
theorem dX10_step_111 : decode cX10_step 111 = .ok (.aload_n 0, 1) := by decide +kernel
theorem dX10_step_112 : decode cX10_step 112 = .ok (.getfield 37, 3) := by decide +kernel
theorem dX10_step_115 : decode cX10_step 115 = .ok (.bipush 97, 2) := by decide +kernel
theorem dX10_step_117 : decode cX10_step 117 = .ok (.if_icmp .lt 16, 3) := by decide +kernel
theorem dX10_step_120 : decode cX10_step 120 = .ok (.aload_n 0, 1) := by decide +kernel
theorem dX10_step_121 : decode cX10_step 121 = .ok (.getfield 37, 3) := by decide +kernel
theorem dX10_step_124 : decode cX10_step 124 = .ok (.bipush 122, 2) := by decide +kernel
theorem dX10_step_126 : decode cX10_step 126 = .ok (.if_icmp .gt 7, 3) := by decide +kernel
theorem dX10_step_129 : decode cX10_step 129 = .ok (.iconst 1, 1) := by decide +kernel
theorem dX10_step_130 : decode cX10_step 130 = .ok (.goto 4, 3) := by decide +kernel
theorem dX10_step_133 : decode cX10_step 133 = .ok (.iconst 0, 1) := by decide +kernel
theorem dX10_step_134 : decode cX10_step 134 = .ok (.istore_n 3, 1) := by decide +kernel
theorem dX10_step_135 : decode cX10_step 135 = .ok (.aload_n 0, 1) := by decide +kernel
theorem dX10_step_136 : decode cX10_step 136 = .ok (.getfield 37, 3) := by decide +kernel
theorem dX10_step_139 : decode cX10_step 139 = .ok (.bipush 48, 2) := by decide +kernel
theorem dX10_step_141 : decode cX10_step 141 = .ok (.if_icmp .lt 16, 3) := by decide +kernel
theorem dX10_step_144 : decode cX10_step 144 = .ok (.aload_n 0, 1) := by decide +kernel
theorem dX10_step_145 : decode cX10_step 145 = .ok (.getfield 37, 3) := by decide +kernel
theorem dX10_step_148 : decode cX10_step 148 = .ok (.bipush 57, 2) := by decide +kernel
theorem dX10_step_150 : decode cX10_step 150 = .ok (.if_icmp .gt 7, 3) := by decide +kernel
theorem dX10_step_153 : decode cX10_step 153 = .ok (.iconst 1, 1) := by decide +kernel
theorem dX10_step_154 : decode cX10_step 154 = .ok (.goto 4, 3) := by decide +kernel
theorem dX10_step_157 : decode cX10_step 157 = .ok (.iconst 0, 1) := by decide +kernel
theorem dX10_step_158 : decode cX10_step 158 = .ok (.istore 4, 2) := by decide +kernel
theorem dX10_step_160 : decode cX10_step 160 = .ok (.iload_n 3, 1) := by decide +kernel
theorem dX10_step_161 : decode cX10_step 161 = .ok (.ifCond .eq 10, 3) := by decide +kernel
theorem dX10_step_164 : decode cX10_step 164 = .ok (.aload_n 0, 1) := by decide +kernel
theorem dX10_step_165 : decode cX10_step 165 = .ok (.invokevirtual 46, 3) := by decide +kernel
theorem dX10_step_168 : decode cX10_step 168 = .ok (.goto 32, 3) := by decide +kernel
theorem dX10_step_171 : decode cX10_step 171 = .ok (.iload 4, 2) := by decide +kernel
theorem dX10_step_173 : decode cX10_step 173 = .ok (.ifCond .eq 10, 3) := by decide +kernel
theorem dX10_step_176 : decode cX10_step 176 = .ok (.aload_n 0, 1) := by decide +kernel
theorem dX10_step_177 : decode cX10_step 177 = .ok (.invokevirtual 49, 3) := by decide +kernel
theorem dX10_step_180 : decode cX10_step 180 = .ok (.goto 20, 3) := by decide +kernel
theorem dX10_step_183 : decode cX10_step 183 = .ok (.aload_n 0, 1) := by decide +kernel
theorem dX10_step_184 : decode cX10_step 184 = .ok (.aload_n 0, 1) := by decide +kernel
theorem dX10_step_185 : decode cX10_step 185 = .ok (.getfield 34, 3) := by decide +kernel
theorem dX10_step_188 : decode cX10_step 188 = .ok (.iconst 1, 1) := by decide +kernel
theorem dX10_step_189 : decode cX10_step 189 = .ok (.iadd, 1) := by decide +kernel
theorem dX10_step_190 : decode cX10_step 190 = .ok (.aload_n 0, 1) := by decide +kernel
theorem dX10_step_191 : decode cX10_step 191 = .ok (.getfield 31, 3) := by decide +kernel
theorem dX10_step_194 : decode cX10_step 194 = .ok (.invokestatic 52, 3) := by decide +kernel
theorem dX10_step_197 : decode cX10_step 197 = .ok (.putfield 34, 3) := by decide +kernel
theorem dX10_step_200 : decode cX10_step 200 = .ok (.iload_n 1, 1) := by decide +kernel
theorem dX10_step_201 : decode cX10_step 201 = .ok (.ifCond .eq 27, 3) := by decide +kernel
theorem dX10_step_204 : decode cX10_step 204 = .ok (.iload_n 3, 1) := by decide +kernel
theorem dX10_step_205 : decode cX10_step 205 = .ok (.ifCond .ne 8, 3) := by decide +kernel
theorem dX10_step_208 : decode cX10_step 208 = .ok (.iload 4, 2) := by decide +kernel
theorem dX10_step_210 : decode cX10_step 210 = .ok (.ifCond .eq 18, 3) := by decide +kernel
theorem dX10_step_213 : decode cX10_step 213 = .ok (.aload_n 0, 1) := by decide +kernel
theorem dX10_step_214 : decode cX10_step 214 = .ok (.getfield 43, 3) := by decide +kernel
theorem dX10_step_217 : decode cX10_step 217 = .ok (.iload_n 2, 1) := by decide +kernel
theorem dX10_step_218 : decode cX10_step 218 = .ok (.if_icmp .ne 10, 3) := by decide +kernel
theorem dX10_step_221 : decode cX10_step 221 = .ok (.aload_n 0, 1) := by decide +kernel
theorem dX10_step_222 : decode cX10_step 222 = .ok (.sipush 257, 3) := by decide +kernel
theorem dX10_step_225 : decode cX10_step 225 = .ok (.putfield 37, 3) := by decide +kernel
theorem dX10_step_228 : decode cX10_step 228 = .ok (.return_, 1) := by decide +kernel
theorem dX10_readWishes_0 : decode cX10_readWishes 0 = .ok (.aload_n 0, 1) := by decide +kernel
theorem dX10_readWishes_1 : decode cX10_readWishes 1 = .ok (.invokevirtual 65, 3) := by decide +kernel
theorem dX10_readWishes_4 : decode cX10_readWishes 4 = .ok (.iconst 0, 1) := by decide +kernel
theorem dX10_readWishes_5 : decode cX10_readWishes 5 = .ok (.istore_n 2, 1) := by decide +kernel
theorem dX10_readWishes_6 : decode cX10_readWishes 6 = .ok (.iload_n 2, 1) := by decide +kernel
theorem dX10_readWishes_7 : decode cX10_readWishes 7 = .ok (.iconst 3, 1) := by decide +kernel
theorem dX10_readWishes_8 : decode cX10_readWishes 8 = .ok (.if_icmp .ge 46, 3) := by decide +kernel
theorem dX10_readWishes_11 : decode cX10_readWishes 11 = .ok (.aload_n 0, 1) := by decide +kernel
theorem dX10_readWishes_12 : decode cX10_readWishes 12 = .ok (.getfield 37, 3) := by decide +kernel
theorem dX10_readWishes_15 : decode cX10_readWishes 15 = .ok (.sipush 258, 3) := by decide +kernel
theorem dX10_readWishes_18 : decode cX10_readWishes 18 = .ok (.if_icmp .eq 19, 3) := by decide +kernel
theorem dX10_readWishes_21 : decode cX10_readWishes 21 = .ok (.aload_n 0, 1) := by decide +kernel
theorem dX10_readWishes_22 : decode cX10_readWishes 22 = .ok (.getfield 37, 3) := by decide +kernel
theorem dX10_readWishes_25 : decode cX10_readWishes 25 = .ok (.sipush 256, 3) := by decide +kernel
theorem dX10_readWishes_28 : decode cX10_readWishes 28 = .ok (.if_icmp .ne 7, 3) := by decide +kernel
theorem dX10_readWishes_31 : decode cX10_readWishes 31 = .ok (.iload_n 2, 1) := by decide +kernel
theorem dX10_readWishes_32 : decode cX10_readWishes 32 = .ok (.goto 4, 3) := by decide +kernel
theorem dX10_readWishes_35 : decode cX10_readWishes 35 = .ok (.iconst (-1), 1) := by decide +kernel
theorem dX10_readWishes_36 : decode cX10_readWishes 36 = .ok (.ireturn, 1) := by decide +kernel
theorem dX10_readWishes_37 : decode cX10_readWishes 37 = .ok (.aload_n 1, 1) := by decide +kernel
theorem dX10_readWishes_38 : decode cX10_readWishes 38 = .ok (.iload_n 2, 1) := by decide +kernel
theorem dX10_readWishes_39 : decode cX10_readWishes 39 = .ok (.aload_n 0, 1) := by decide +kernel
theorem dX10_readWishes_40 : decode cX10_readWishes 40 = .ok (.getfield 58, 3) := by decide +kernel
theorem dX10_readWishes_43 : decode cX10_readWishes 43 = .ok (.lastore, 1) := by decide +kernel
theorem dX10_readWishes_44 : decode cX10_readWishes 44 = .ok (.aload_n 0, 1) := by decide +kernel
theorem dX10_readWishes_45 : decode cX10_readWishes 45 = .ok (.invokevirtual 40, 3) := by decide +kernel
theorem dX10_readWishes_48 : decode cX10_readWishes 48 = .ok (.iinc 2 1, 3) := by decide +kernel
theorem dX10_readWishes_51 : decode cX10_readWishes 51 = .ok (.goto (-45), 3) := by decide +kernel
theorem dX10_readWishes_54 : decode cX10_readWishes 54 = .ok (.aload_n 0, 1) := by decide +kernel
theorem dX10_readWishes_55 : decode cX10_readWishes 55 = .ok (.getfield 37, 3) := by decide +kernel
theorem dX10_readWishes_58 : decode cX10_readWishes 58 = .ok (.sipush 256, 3) := by decide +kernel
theorem dX10_readWishes_61 : decode cX10_readWishes 61 = .ok (.if_icmp .ne 7, 3) := by decide +kernel
theorem dX10_readWishes_64 : decode cX10_readWishes 64 = .ok (.iconst 3, 1) := by decide +kernel
theorem dX10_readWishes_65 : decode cX10_readWishes 65 = .ok (.goto 4, 3) := by decide +kernel
theorem dX10_readWishes_68 : decode cX10_readWishes 68 = .ok (.iconst (-1), 1) := by decide +kernel
theorem dX10_readWishes_69 : decode cX10_readWishes 69 = .ok (.ireturn, 1) := by decide +kernel
theorem dX1_init_0 : decode cX1_init 0 = .ok (.aload_n 0, 1) := by decide +kernel
theorem dX1_init_1 : decode cX1_init 1 = .ok (.invokespecial 3, 3) := by decide +kernel
theorem dX1_init_4 : decode cX1_init 4 = .ok (.aload_n 0, 1) := by decide +kernel
theorem dX1_init_5 : decode cX1_init 5 = .ok (.bipush 10, 2) := by decide +kernel
theorem dX1_init_7 : decode cX1_init 7 = .ok (.newarray .long, 2) := by decide +kernel
theorem dX1_init_9 : decode cX1_init 9 = .ok (.putfield 9, 3) := by decide +kernel
theorem dX1_init_12 : decode cX1_init 12 = .ok (.aload_n 0, 1) := by decide +kernel
theorem dX1_init_13 : decode cX1_init 13 = .ok (.bipush 10, 2) := by decide +kernel
theorem dX1_init_15 : decode cX1_init 15 = .ok (.newarray .int, 2) := by decide +kernel
theorem dX1_init_17 : decode cX1_init 17 = .ok (.putfield 15, 3) := by decide +kernel
theorem dX1_init_20 : decode cX1_init 20 = .ok (.aload_n 0, 1) := by decide +kernel
theorem dX1_init_21 : decode cX1_init 21 = .ok (.bipush 10, 2) := by decide +kernel
theorem dX1_init_23 : decode cX1_init 23 = .ok (.newarray .int, 2) := by decide +kernel
theorem dX1_init_25 : decode cX1_init 25 = .ok (.putfield 19, 3) := by decide +kernel
theorem dX1_init_28 : decode cX1_init 28 = .ok (.aload_n 0, 1) := by decide +kernel
theorem dX1_init_29 : decode cX1_init 29 = .ok (.bipush 10, 2) := by decide +kernel
theorem dX1_init_31 : decode cX1_init 31 = .ok (.newarray .int, 2) := by decide +kernel
theorem dX1_init_33 : decode cX1_init 33 = .ok (.putfield 22, 3) := by decide +kernel
theorem dX1_init_36 : decode cX1_init 36 = .ok (.aload_n 0, 1) := by decide +kernel
theorem dX1_init_37 : decode cX1_init 37 = .ok (.bipush 8, 2) := by decide +kernel
theorem dX1_init_39 : decode cX1_init 39 = .ok (.newarray .long, 2) := by decide +kernel
theorem dX1_init_41 : decode cX1_init 41 = .ok (.putfield 25, 3) := by decide +kernel
theorem dX1_init_44 : decode cX1_init 44 = .ok (.aload_n 0, 1) := by decide +kernel
theorem dX1_init_45 : decode cX1_init 45 = .ok (.bipush 8, 2) := by decide +kernel
theorem dX1_init_47 : decode cX1_init 47 = .ok (.newarray .int, 2) := by decide +kernel
theorem dX1_init_49 : decode cX1_init 49 = .ok (.putfield 28, 3) := by decide +kernel
theorem dX1_init_52 : decode cX1_init 52 = .ok (.aload_n 0, 1) := by decide +kernel
theorem dX1_init_53 : decode cX1_init 53 = .ok (.sipush 1000, 3) := by decide +kernel
theorem dX1_init_56 : decode cX1_init 56 = .ok (.putfield 31, 3) := by decide +kernel
theorem dX1_init_59 : decode cX1_init 59 = .ok (.aload_n 0, 1) := by decide +kernel
theorem dX1_init_60 : decode cX1_init 60 = .ok (.bipush 24, 2) := by decide +kernel
theorem dX1_init_62 : decode cX1_init 62 = .ok (.newarray .int, 2) := by decide +kernel
theorem dX1_init_64 : decode cX1_init 64 = .ok (.putfield 35, 3) := by decide +kernel
theorem dX1_init_67 : decode cX1_init 67 = .ok (.aload_n 0, 1) := by decide +kernel
theorem dX1_init_68 : decode cX1_init 68 = .ok (.bipush 24, 2) := by decide +kernel
theorem dX1_init_70 : decode cX1_init 70 = .ok (.newarray .int, 2) := by decide +kernel
theorem dX1_init_72 : decode cX1_init 72 = .ok (.putfield 38, 3) := by decide +kernel
theorem dX1_init_75 : decode cX1_init 75 = .ok (.aload_n 0, 1) := by decide +kernel
theorem dX1_init_76 : decode cX1_init 76 = .ok (.bipush 24, 2) := by decide +kernel
theorem dX1_init_78 : decode cX1_init 78 = .ok (.newarray .int, 2) := by decide +kernel
theorem dX1_init_80 : decode cX1_init 80 = .ok (.putfield 41, 3) := by decide +kernel
theorem dX1_init_83 : decode cX1_init 83 = .ok (.aload_n 0, 1) := by decide +kernel
theorem dX1_init_84 : decode cX1_init 84 = .ok (.bipush 24, 2) := by decide +kernel
theorem dX1_init_86 : decode cX1_init 86 = .ok (.newarray .int, 2) := by decide +kernel
theorem dX1_init_88 : decode cX1_init 88 = .ok (.putfield 44, 3) := by decide +kernel
theorem dX1_init_91 : decode cX1_init 91 = .ok (.aload_n 0, 1) := by decide +kernel
theorem dX1_init_92 : decode cX1_init 92 = .ok (.bipush 24, 2) := by decide +kernel
theorem dX1_init_94 : decode cX1_init 94 = .ok (.newarray .int, 2) := by decide +kernel
theorem dX1_init_96 : decode cX1_init 96 = .ok (.putfield 47, 3) := by decide +kernel
theorem dX1_init_99 : decode cX1_init 99 = .ok (.aload_n 0, 1) := by decide +kernel
theorem dX1_init_100 : decode cX1_init 100 = .ok (.bipush 24, 2) := by decide +kernel
theorem dX1_init_102 : decode cX1_init 102 = .ok (.newarray .int, 2) := by decide +kernel
theorem dX1_init_104 : decode cX1_init 104 = .ok (.putfield 50, 3) := by decide +kernel
theorem dX1_init_107 : decode cX1_init 107 = .ok (.aload_n 0, 1) := by decide +kernel
theorem dX1_init_108 : decode cX1_init 108 = .ok (.sipush 1000, 3) := by decide +kernel
theorem dX1_init_111 : decode cX1_init 111 = .ok (.newarray .int, 2) := by decide +kernel
theorem dX1_init_113 : decode cX1_init 113 = .ok (.putfield 53, 3) := by decide +kernel
theorem dX1_init_116 : decode cX1_init 116 = .ok (.aload_n 0, 1) := by decide +kernel
theorem dX1_init_117 : decode cX1_init 117 = .ok (.sipush 200, 3) := by decide +kernel
theorem dX1_init_120 : decode cX1_init 120 = .ok (.newarray .long, 2) := by decide +kernel
theorem dX1_init_122 : decode cX1_init 122 = .ok (.putfield 56, 3) := by decide +kernel
theorem dX1_init_125 : decode cX1_init 125 = .ok (.return_, 1) := by decide +kernel
theorem dX1_empty_0 : decode cX1_empty 0 = .ok (.aload_n 0, 1) := by decide +kernel
theorem dX1_empty_1 : decode cX1_empty 1 = .ok (.iconst 0, 1) := by decide +kernel
theorem dX1_empty_2 : decode cX1_empty 2 = .ok (.putfield 59, 3) := by decide +kernel
theorem dX1_empty_5 : decode cX1_empty 5 = .ok (.aload_n 0, 1) := by decide +kernel
theorem dX1_empty_6 : decode cX1_empty 6 = .ok (.iconst 0, 1) := by decide +kernel
theorem dX1_empty_7 : decode cX1_empty 7 = .ok (.putfield 62, 3) := by decide +kernel
theorem dX1_empty_10 : decode cX1_empty 10 = .ok (.aload_n 0, 1) := by decide +kernel
theorem dX1_empty_11 : decode cX1_empty 11 = .ok (.iconst 0, 1) := by decide +kernel
theorem dX1_empty_12 : decode cX1_empty 12 = .ok (.putfield 65, 3) := by decide +kernel
theorem dX1_empty_15 : decode cX1_empty 15 = .ok (.aload_n 0, 1) := by decide +kernel
theorem dX1_empty_16 : decode cX1_empty 16 = .ok (.sipush 1000, 3) := by decide +kernel
theorem dX1_empty_19 : decode cX1_empty 19 = .ok (.putfield 31, 3) := by decide +kernel
theorem dX1_empty_22 : decode cX1_empty 22 = .ok (.aload_n 0, 1) := by decide +kernel
theorem dX1_empty_23 : decode cX1_empty 23 = .ok (.iconst 0, 1) := by decide +kernel
theorem dX1_empty_24 : decode cX1_empty 24 = .ok (.putfield 68, 3) := by decide +kernel
theorem dX1_empty_27 : decode cX1_empty 27 = .ok (.aload_n 0, 1) := by decide +kernel
theorem dX1_empty_28 : decode cX1_empty 28 = .ok (.iconst 0, 1) := by decide +kernel
theorem dX1_empty_29 : decode cX1_empty 29 = .ok (.putfield 71, 3) := by decide +kernel
theorem dX1_empty_32 : decode cX1_empty 32 = .ok (.return_, 1) := by decide +kernel
theorem dX8_init_0 : decode cX8_init 0 = .ok (.aload_n 0, 1) := by decide +kernel
theorem dX8_init_1 : decode cX8_init 1 = .ok (.invokespecial 3, 3) := by decide +kernel
theorem dX8_init_4 : decode cX8_init 4 = .ok (.aload_n 0, 1) := by decide +kernel
theorem dX8_init_5 : decode cX8_init 5 = .ok (.iconst (-1), 1) := by decide +kernel
theorem dX8_init_6 : decode cX8_init 6 = .ok (.putfield 9, 3) := by decide +kernel
theorem dX8_init_9 : decode cX8_init 9 = .ok (.aload_n 0, 1) := by decide +kernel
theorem dX8_init_10 : decode cX8_init 10 = .ok (.aload_n 1, 1) := by decide +kernel
theorem dX8_init_11 : decode cX8_init 11 = .ok (.putfield 15, 3) := by decide +kernel
theorem dX8_init_14 : decode cX8_init 14 = .ok (.aload_n 0, 1) := by decide +kernel
theorem dX8_init_15 : decode cX8_init 15 = .ok (.aload_n 2, 1) := by decide +kernel
theorem dX8_init_16 : decode cX8_init 16 = .ok (.putfield 19, 3) := by decide +kernel
theorem dX8_init_19 : decode cX8_init 19 = .ok (.return_, 1) := by decide +kernel
theorem dX8_readsAll_0 : decode cX8_readsAll 0 = .ok (.aload_n 0, 1) := by decide +kernel
theorem dX8_readsAll_1 : decode cX8_readsAll 1 = .ok (.aload_n 1, 1) := by decide +kernel
theorem dX8_readsAll_2 : decode cX8_readsAll 2 = .ok (.putfield 19, 3) := by decide +kernel
theorem dX8_readsAll_5 : decode cX8_readsAll 5 = .ok (.aload_n 0, 1) := by decide +kernel
theorem dX8_readsAll_6 : decode cX8_readsAll 6 = .ok (.iconst 0, 1) := by decide +kernel
theorem dX8_readsAll_7 : decode cX8_readsAll 7 = .ok (.putfield 23, 3) := by decide +kernel
theorem dX8_readsAll_10 : decode cX8_readsAll 10 = .ok (.aload_n 0, 1) := by decide +kernel
theorem dX8_readsAll_11 : decode cX8_readsAll 11 = .ok (.iconst (-1), 1) := by decide +kernel
theorem dX8_readsAll_12 : decode cX8_readsAll 12 = .ok (.putfield 9, 3) := by decide +kernel
theorem dX8_readsAll_15 : decode cX8_readsAll 15 = .ok (.aload_n 0, 1) := by decide +kernel
theorem dX8_readsAll_16 : decode cX8_readsAll 16 = .ok (.iconst 0, 1) := by decide +kernel
theorem dX8_readsAll_17 : decode cX8_readsAll 17 = .ok (.putfield 26, 3) := by decide +kernel
theorem dX8_readsAll_20 : decode cX8_readsAll 20 = .ok (.aload_n 0, 1) := by decide +kernel
theorem dX8_readsAll_21 : decode cX8_readsAll 21 = .ok (.getfield 19, 3) := by decide +kernel
theorem dX8_readsAll_24 : decode cX8_readsAll 24 = .ok (.invokevirtual 29, 3) := by decide +kernel
theorem dX8_readsAll_27 : decode cX8_readsAll 27 = .ok (.aload_n 0, 1) := by decide +kernel
theorem dX8_readsAll_28 : decode cX8_readsAll 28 = .ok (.getfield 15, 3) := by decide +kernel
theorem dX8_readsAll_31 : decode cX8_readsAll 31 = .ok (.invokevirtual 34, 3) := by decide +kernel
theorem dX8_readsAll_34 : decode cX8_readsAll 34 = .ok (.iconst 0, 1) := by decide +kernel
theorem dX8_readsAll_35 : decode cX8_readsAll 35 = .ok (.istore_n 2, 1) := by decide +kernel
theorem dX8_readsAll_36 : decode cX8_readsAll 36 = .ok (.iload_n 2, 1) := by decide +kernel
theorem dX8_readsAll_37 : decode cX8_readsAll 37 = .ok (.sipush 1000, 3) := by decide +kernel
theorem dX8_readsAll_40 : decode cX8_readsAll 40 = .ok (.if_icmp .gt 86, 3) := by decide +kernel
theorem dX8_readsAll_43 : decode cX8_readsAll 43 = .ok (.aload_n 0, 1) := by decide +kernel
theorem dX8_readsAll_44 : decode cX8_readsAll 44 = .ok (.getfield 15, 3) := by decide +kernel
theorem dX8_readsAll_47 : decode cX8_readsAll 47 = .ok (.getfield 39, 3) := by decide +kernel
theorem dX8_readsAll_50 : decode cX8_readsAll 50 = .ok (.sipush 256, 3) := by decide +kernel
theorem dX8_readsAll_53 : decode cX8_readsAll 53 = .ok (.if_icmp .eq 73, 3) := by decide +kernel
theorem dX8_readsAll_56 : decode cX8_readsAll 56 = .ok (.aload_n 0, 1) := by decide +kernel
theorem dX8_readsAll_57 : decode cX8_readsAll 57 = .ok (.getfield 15, 3) := by decide +kernel
theorem dX8_readsAll_60 : decode cX8_readsAll 60 = .ok (.getfield 39, 3) := by decide +kernel
theorem dX8_readsAll_63 : decode cX8_readsAll 63 = .ok (.sipush 261, 3) := by decide +kernel
theorem dX8_readsAll_66 : decode cX8_readsAll 66 = .ok (.if_icmp .ne 11, 3) := by decide +kernel
theorem dX8_readsAll_69 : decode cX8_readsAll 69 = .ok (.aload_n 0, 1) := by decide +kernel
theorem dX8_readsAll_70 : decode cX8_readsAll 70 = .ok (.invokevirtual 42, 3) := by decide +kernel
theorem dX8_readsAll_73 : decode cX8_readsAll 73 = .ok (.istore_n 3, 1) := by decide +kernel
theorem dX8_readsAll_74 : decode cX8_readsAll 74 = .ok (.goto 40, 3) := by decide +kernel
theorem dX8_readsAll_77 : decode cX8_readsAll 77 = .ok (.aload_n 0, 1) := by decide +kernel
theorem dX8_readsAll_78 : decode cX8_readsAll 78 = .ok (.getfield 15, 3) := by decide +kernel
theorem dX8_readsAll_81 : decode cX8_readsAll 81 = .ok (.getfield 39, 3) := by decide +kernel
theorem dX8_readsAll_84 : decode cX8_readsAll 84 = .ok (.sipush 271, 3) := by decide +kernel
theorem dX8_readsAll_87 : decode cX8_readsAll 87 = .ok (.if_icmp .ne 11, 3) := by decide +kernel
theorem dX8_readsAll_90 : decode cX8_readsAll 90 = .ok (.aload_n 0, 1) := by decide +kernel
theorem dX8_readsAll_91 : decode cX8_readsAll 91 = .ok (.invokevirtual 46, 3) := by decide +kernel
theorem dX8_readsAll_94 : decode cX8_readsAll 94 = .ok (.istore_n 3, 1) := by decide +kernel
theorem dX8_readsAll_95 : decode cX8_readsAll 95 = .ok (.goto 19, 3) := by decide +kernel
theorem dX8_readsAll_98 : decode cX8_readsAll 98 = .ok (.aload_n 0, 1) := by decide +kernel
theorem dX8_readsAll_99 : decode cX8_readsAll 99 = .ok (.aload_n 0, 1) := by decide +kernel
theorem dX8_readsAll_100 : decode cX8_readsAll 100 = .ok (.getfield 15, 3) := by decide +kernel
theorem dX8_readsAll_103 : decode cX8_readsAll 103 = .ok (.getfield 39, 3) := by decide +kernel
theorem dX8_readsAll_106 : decode cX8_readsAll 106 = .ok (.sipush 260, 3) := by decide +kernel
theorem dX8_readsAll_109 : decode cX8_readsAll 109 = .ok (.isub, 1) := by decide +kernel
theorem dX8_readsAll_110 : decode cX8_readsAll 110 = .ok (.invokevirtual 49, 3) := by decide +kernel
theorem dX8_readsAll_113 : decode cX8_readsAll 113 = .ok (.istore_n 3, 1) := by decide +kernel
theorem dX8_readsAll_114 : decode cX8_readsAll 114 = .ok (.iload_n 3, 1) := by decide +kernel
theorem dX8_readsAll_115 : decode cX8_readsAll 115 = .ok (.ifCond .ne 5, 3) := by decide +kernel
theorem dX8_readsAll_118 : decode cX8_readsAll 118 = .ok (.iconst 0, 1) := by decide +kernel
theorem dX8_readsAll_119 : decode cX8_readsAll 119 = .ok (.ireturn, 1) := by decide +kernel
theorem dX8_readsAll_120 : decode cX8_readsAll 120 = .ok (.iinc 2 1, 3) := by decide +kernel
theorem dX8_readsAll_123 : decode cX8_readsAll 123 = .ok (.goto (-87), 3) := by decide +kernel
theorem dX8_readsAll_126 : decode cX8_readsAll 126 = .ok (.iconst 1, 1) := by decide +kernel
theorem dX8_readsAll_127 : decode cX8_readsAll 127 = .ok (.ireturn, 1) := by decide +kernel
theorem dX7_init_0 : decode cX7_init 0 = .ok (.aload_n 0, 1) := by decide +kernel
theorem dX7_init_1 : decode cX7_init 1 = .ok (.invokespecial 3, 3) := by decide +kernel
theorem dX7_init_4 : decode cX7_init 4 = .ok (.aload_n 0, 1) := by decide +kernel
theorem dX7_init_5 : decode cX7_init 5 = .ok (.sipush 201, 3) := by decide +kernel
theorem dX7_init_8 : decode cX7_init 8 = .ok (.newarray .int, 2) := by decide +kernel
theorem dX7_init_10 : decode cX7_init 10 = .ok (.putfield 9, 3) := by decide +kernel
theorem dX7_init_13 : decode cX7_init 13 = .ok (.aload_n 0, 1) := by decide +kernel
theorem dX7_init_14 : decode cX7_init 14 = .ok (.sipush 1005, 3) := by decide +kernel
theorem dX7_init_17 : decode cX7_init 17 = .ok (.newarray .int, 2) := by decide +kernel
theorem dX7_init_19 : decode cX7_init 19 = .ok (.putfield 15, 3) := by decide +kernel
theorem dX7_init_22 : decode cX7_init 22 = .ok (.aload_n 0, 1) := by decide +kernel
theorem dX7_init_23 : decode cX7_init 23 = .ok (.sipush 603, 3) := by decide +kernel
theorem dX7_init_26 : decode cX7_init 26 = .ok (.newarray .long, 2) := by decide +kernel
theorem dX7_init_28 : decode cX7_init 28 = .ok (.putfield 18, 3) := by decide +kernel
theorem dX7_init_31 : decode cX7_init 31 = .ok (.aload_n 0, 1) := by decide +kernel
theorem dX7_init_32 : decode cX7_init 32 = .ok (.sipush 201, 3) := by decide +kernel
theorem dX7_init_35 : decode cX7_init 35 = .ok (.newarray .int, 2) := by decide +kernel
theorem dX7_init_37 : decode cX7_init 37 = .ok (.putfield 22, 3) := by decide +kernel
theorem dX7_init_40 : decode cX7_init 40 = .ok (.aload_n 0, 1) := by decide +kernel
theorem dX7_init_41 : decode cX7_init 41 = .ok (.sipush 201, 3) := by decide +kernel
theorem dX7_init_44 : decode cX7_init 44 = .ok (.newarray .int, 2) := by decide +kernel
theorem dX7_init_46 : decode cX7_init 46 = .ok (.putfield 25, 3) := by decide +kernel
theorem dX7_init_49 : decode cX7_init 49 = .ok (.aload_n 0, 1) := by decide +kernel
theorem dX7_init_50 : decode cX7_init 50 = .ok (.iconst 3, 1) := by decide +kernel
theorem dX7_init_51 : decode cX7_init 51 = .ok (.newarray .long, 2) := by decide +kernel
theorem dX7_init_53 : decode cX7_init 53 = .ok (.putfield 28, 3) := by decide +kernel
theorem dX7_init_56 : decode cX7_init 56 = .ok (.return_, 1) := by decide +kernel
theorem dX7_empty_0 : decode cX7_empty 0 = .ok (.aload_n 0, 1) := by decide +kernel
theorem dX7_empty_1 : decode cX7_empty 1 = .ok (.iconst 0, 1) := by decide +kernel
theorem dX7_empty_2 : decode cX7_empty 2 = .ok (.putfield 31, 3) := by decide +kernel
theorem dX7_empty_5 : decode cX7_empty 5 = .ok (.aload_n 0, 1) := by decide +kernel
theorem dX7_empty_6 : decode cX7_empty 6 = .ok (.iconst 0, 1) := by decide +kernel
theorem dX7_empty_7 : decode cX7_empty 7 = .ok (.putfield 35, 3) := by decide +kernel
theorem dX7_empty_10 : decode cX7_empty 10 = .ok (.return_, 1) := by decide +kernel
theorem dX7_isFull_0 : decode cX7_isFull 0 = .ok (.aload_n 0, 1) := by decide +kernel
theorem dX7_isFull_1 : decode cX7_isFull 1 = .ok (.getfield 31, 3) := by decide +kernel
theorem dX7_isFull_4 : decode cX7_isFull 4 = .ok (.sipush 200, 3) := by decide +kernel
theorem dX7_isFull_7 : decode cX7_isFull 7 = .ok (.if_icmp .lt 7, 3) := by decide +kernel
theorem dX7_isFull_10 : decode cX7_isFull 10 = .ok (.iconst 1, 1) := by decide +kernel
theorem dX7_isFull_11 : decode cX7_isFull 11 = .ok (.goto 4, 3) := by decide +kernel
theorem dX7_isFull_14 : decode cX7_isFull 14 = .ok (.iconst 0, 1) := by decide +kernel
theorem dX7_isFull_15 : decode cX7_isFull 15 = .ok (.ireturn, 1) := by decide +kernel
theorem dX7_add_0 : decode cX7_add 0 = .ok (.aload_n 0, 1) := by decide +kernel
theorem dX7_add_1 : decode cX7_add 1 = .ok (.dup, 1) := by decide +kernel
theorem dX7_add_2 : decode cX7_add 2 = .ok (.getfield 31, 3) := by decide +kernel
theorem dX7_add_5 : decode cX7_add 5 = .ok (.iconst 1, 1) := by decide +kernel
theorem dX7_add_6 : decode cX7_add 6 = .ok (.iadd, 1) := by decide +kernel
theorem dX7_add_7 : decode cX7_add 7 = .ok (.putfield 31, 3) := by decide +kernel
theorem dX7_add_10 : decode cX7_add 10 = .ok (.aload_n 0, 1) := by decide +kernel
theorem dX7_add_11 : decode cX7_add 11 = .ok (.getfield 9, 3) := by decide +kernel
theorem dX7_add_14 : decode cX7_add 14 = .ok (.aload_n 0, 1) := by decide +kernel
theorem dX7_add_15 : decode cX7_add 15 = .ok (.getfield 31, 3) := by decide +kernel
theorem dX7_add_18 : decode cX7_add 18 = .ok (.iload_n 1, 1) := by decide +kernel
theorem dX7_add_19 : decode cX7_add 19 = .ok (.iastore, 1) := by decide +kernel
theorem dX7_add_20 : decode cX7_add 20 = .ok (.aload_n 0, 1) := by decide +kernel
theorem dX7_add_21 : decode cX7_add 21 = .ok (.getfield 25, 3) := by decide +kernel
theorem dX7_add_24 : decode cX7_add 24 = .ok (.aload_n 0, 1) := by decide +kernel
theorem dX7_add_25 : decode cX7_add 25 = .ok (.getfield 31, 3) := by decide +kernel
theorem dX7_add_28 : decode cX7_add 28 = .ok (.iconst 0, 1) := by decide +kernel
theorem dX7_add_29 : decode cX7_add 29 = .ok (.iastore, 1) := by decide +kernel
theorem dX7_add_30 : decode cX7_add 30 = .ok (.aload_n 0, 1) := by decide +kernel
theorem dX7_add_31 : decode cX7_add 31 = .ok (.getfield 22, 3) := by decide +kernel
theorem dX7_add_34 : decode cX7_add 34 = .ok (.aload_n 0, 1) := by decide +kernel
theorem dX7_add_35 : decode cX7_add 35 = .ok (.getfield 31, 3) := by decide +kernel
theorem dX7_add_38 : decode cX7_add 38 = .ok (.iconst 0, 1) := by decide +kernel
theorem dX7_add_39 : decode cX7_add 39 = .ok (.iastore, 1) := by decide +kernel
theorem dX7_add_40 : decode cX7_add 40 = .ok (.aload_n 0, 1) := by decide +kernel
theorem dX7_add_41 : decode cX7_add 41 = .ok (.getfield 15, 3) := by decide +kernel
theorem dX7_add_44 : decode cX7_add 44 = .ok (.aload_n 0, 1) := by decide +kernel
theorem dX7_add_45 : decode cX7_add 45 = .ok (.getfield 31, 3) := by decide +kernel
theorem dX7_add_48 : decode cX7_add 48 = .ok (.iconst 5, 1) := by decide +kernel
theorem dX7_add_49 : decode cX7_add 49 = .ok (.imul, 1) := by decide +kernel
theorem dX7_add_50 : decode cX7_add 50 = .ok (.iload_n 2, 1) := by decide +kernel
theorem dX7_add_51 : decode cX7_add 51 = .ok (.iastore, 1) := by decide +kernel
theorem dX7_add_52 : decode cX7_add 52 = .ok (.aload_n 0, 1) := by decide +kernel
theorem dX7_add_53 : decode cX7_add 53 = .ok (.getfield 15, 3) := by decide +kernel
theorem dX7_add_56 : decode cX7_add 56 = .ok (.aload_n 0, 1) := by decide +kernel
theorem dX7_add_57 : decode cX7_add 57 = .ok (.getfield 31, 3) := by decide +kernel
theorem dX7_add_60 : decode cX7_add 60 = .ok (.iconst 5, 1) := by decide +kernel
theorem dX7_add_61 : decode cX7_add 61 = .ok (.imul, 1) := by decide +kernel
theorem dX7_add_62 : decode cX7_add 62 = .ok (.iconst 1, 1) := by decide +kernel
theorem dX7_add_63 : decode cX7_add 63 = .ok (.iadd, 1) := by decide +kernel
theorem dX7_add_64 : decode cX7_add 64 = .ok (.iload_n 3, 1) := by decide +kernel
theorem dX7_add_65 : decode cX7_add 65 = .ok (.iastore, 1) := by decide +kernel
theorem dX7_add_66 : decode cX7_add 66 = .ok (.aload_n 0, 1) := by decide +kernel
theorem dX7_add_67 : decode cX7_add 67 = .ok (.getfield 15, 3) := by decide +kernel
theorem dX7_add_70 : decode cX7_add 70 = .ok (.aload_n 0, 1) := by decide +kernel
theorem dX7_add_71 : decode cX7_add 71 = .ok (.getfield 31, 3) := by decide +kernel
theorem dX7_add_74 : decode cX7_add 74 = .ok (.iconst 5, 1) := by decide +kernel
theorem dX7_add_75 : decode cX7_add 75 = .ok (.imul, 1) := by decide +kernel
theorem dX7_add_76 : decode cX7_add 76 = .ok (.iconst 2, 1) := by decide +kernel
theorem dX7_add_77 : decode cX7_add 77 = .ok (.iadd, 1) := by decide +kernel
theorem dX7_add_78 : decode cX7_add 78 = .ok (.iload 4, 2) := by decide +kernel
theorem dX7_add_80 : decode cX7_add 80 = .ok (.iastore, 1) := by decide +kernel
theorem dX7_add_81 : decode cX7_add 81 = .ok (.aload_n 0, 1) := by decide +kernel
theorem dX7_add_82 : decode cX7_add 82 = .ok (.getfield 31, 3) := by decide +kernel
theorem dX7_add_85 : decode cX7_add 85 = .ok (.ireturn, 1) := by decide +kernel
theorem dX7_addReport_0 : decode cX7_addReport 0 = .ok (.aload_n 0, 1) := by decide +kernel
theorem dX7_addReport_1 : decode cX7_addReport 1 = .ok (.iconst 1, 1) := by decide +kernel
theorem dX7_addReport_2 : decode cX7_addReport 2 = .ok (.iload_n 1, 1) := by decide +kernel
theorem dX7_addReport_3 : decode cX7_addReport 3 = .ok (.iload_n 2, 1) := by decide +kernel
theorem dX7_addReport_4 : decode cX7_addReport 4 = .ok (.iload_n 3, 1) := by decide +kernel
theorem dX7_addReport_5 : decode cX7_addReport 5 = .ok (.invokevirtual 38, 3) := by decide +kernel
theorem dX7_addReport_8 : decode cX7_addReport 8 = .ok (.istore 7, 2) := by decide +kernel
theorem dX7_addReport_10 : decode cX7_addReport 10 = .ok (.aload_n 0, 1) := by decide +kernel
theorem dX7_addReport_11 : decode cX7_addReport 11 = .ok (.getfield 15, 3) := by decide +kernel
theorem dX7_addReport_14 : decode cX7_addReport 14 = .ok (.iload 7, 2) := by decide +kernel
theorem dX7_addReport_16 : decode cX7_addReport 16 = .ok (.iconst 5, 1) := by decide +kernel
theorem dX7_addReport_17 : decode cX7_addReport 17 = .ok (.imul, 1) := by decide +kernel
theorem dX7_addReport_18 : decode cX7_addReport 18 = .ok (.iconst 3, 1) := by decide +kernel
theorem dX7_addReport_19 : decode cX7_addReport 19 = .ok (.iadd, 1) := by decide +kernel
theorem dX7_addReport_20 : decode cX7_addReport 20 = .ok (.iload 4, 2) := by decide +kernel
theorem dX7_addReport_22 : decode cX7_addReport 22 = .ok (.iastore, 1) := by decide +kernel
theorem dX7_addReport_23 : decode cX7_addReport 23 = .ok (.aload_n 0, 1) := by decide +kernel
theorem dX7_addReport_24 : decode cX7_addReport 24 = .ok (.getfield 15, 3) := by decide +kernel
theorem dX7_addReport_27 : decode cX7_addReport 27 = .ok (.iload 7, 2) := by decide +kernel
theorem dX7_addReport_29 : decode cX7_addReport 29 = .ok (.iconst 5, 1) := by decide +kernel
theorem dX7_addReport_30 : decode cX7_addReport 30 = .ok (.imul, 1) := by decide +kernel
theorem dX7_addReport_31 : decode cX7_addReport 31 = .ok (.iconst 4, 1) := by decide +kernel
theorem dX7_addReport_32 : decode cX7_addReport 32 = .ok (.iadd, 1) := by decide +kernel
theorem dX7_addReport_33 : decode cX7_addReport 33 = .ok (.iload 5, 2) := by decide +kernel
theorem dX7_addReport_35 : decode cX7_addReport 35 = .ok (.iastore, 1) := by decide +kernel
theorem dX7_addReport_36 : decode cX7_addReport 36 = .ok (.aload_n 0, 1) := by decide +kernel
theorem dX7_addReport_37 : decode cX7_addReport 37 = .ok (.getfield 22, 3) := by decide +kernel
theorem dX7_addReport_40 : decode cX7_addReport 40 = .ok (.iload 7, 2) := by decide +kernel
theorem dX7_addReport_42 : decode cX7_addReport 42 = .ok (.iload 6, 2) := by decide +kernel
theorem dX7_addReport_44 : decode cX7_addReport 44 = .ok (.iastore, 1) := by decide +kernel
theorem dX7_addReport_45 : decode cX7_addReport 45 = .ok (.iconst 0, 1) := by decide +kernel
theorem dX7_addReport_46 : decode cX7_addReport 46 = .ok (.istore 8, 2) := by decide +kernel
theorem dX7_addReport_48 : decode cX7_addReport 48 = .ok (.iload 8, 2) := by decide +kernel
theorem dX7_addReport_50 : decode cX7_addReport 50 = .ok (.iload 6, 2) := by decide +kernel
theorem dX7_addReport_52 : decode cX7_addReport 52 = .ok (.if_icmp .ge 34, 3) := by decide +kernel
theorem dX7_addReport_55 : decode cX7_addReport 55 = .ok (.iload 8, 2) := by decide +kernel
theorem dX7_addReport_57 : decode cX7_addReport 57 = .ok (.iconst 3, 1) := by decide +kernel
theorem dX7_addReport_58 : decode cX7_addReport 58 = .ok (.if_icmp .ge 28, 3) := by decide +kernel
theorem dX7_addReport_61 : decode cX7_addReport 61 = .ok (.aload_n 0, 1) := by decide +kernel
theorem dX7_addReport_62 : decode cX7_addReport 62 = .ok (.getfield 18, 3) := by decide +kernel
theorem dX7_addReport_65 : decode cX7_addReport 65 = .ok (.iload 7, 2) := by decide +kernel
theorem dX7_addReport_67 : decode cX7_addReport 67 = .ok (.iconst 3, 1) := by decide +kernel
theorem dX7_addReport_68 : decode cX7_addReport 68 = .ok (.imul, 1) := by decide +kernel
theorem dX7_addReport_69 : decode cX7_addReport 69 = .ok (.iload 8, 2) := by decide +kernel
theorem dX7_addReport_71 : decode cX7_addReport 71 = .ok (.iadd, 1) := by decide +kernel
theorem dX7_addReport_72 : decode cX7_addReport 72 = .ok (.aload_n 0, 1) := by decide +kernel
theorem dX7_addReport_73 : decode cX7_addReport 73 = .ok (.getfield 28, 3) := by decide +kernel
theorem dX7_addReport_76 : decode cX7_addReport 76 = .ok (.iload 8, 2) := by decide +kernel
theorem dX7_addReport_78 : decode cX7_addReport 78 = .ok (.laload, 1) := by decide +kernel
theorem dX7_addReport_79 : decode cX7_addReport 79 = .ok (.lastore, 1) := by decide +kernel
theorem dX7_addReport_80 : decode cX7_addReport 80 = .ok (.iinc 8 1, 3) := by decide +kernel
theorem dX7_addReport_83 : decode cX7_addReport 83 = .ok (.goto (-35), 3) := by decide +kernel
theorem dX7_addReport_86 : decode cX7_addReport 86 = .ok (.aload_n 0, 1) := by decide +kernel
theorem dX7_addReport_87 : decode cX7_addReport 87 = .ok (.dup, 1) := by decide +kernel
theorem dX7_addReport_88 : decode cX7_addReport 88 = .ok (.getfield 35, 3) := by decide +kernel
theorem dX7_addReport_91 : decode cX7_addReport 91 = .ok (.iconst 1, 1) := by decide +kernel
theorem dX7_addReport_92 : decode cX7_addReport 92 = .ok (.iadd, 1) := by decide +kernel
theorem dX7_addReport_93 : decode cX7_addReport 93 = .ok (.putfield 35, 3) := by decide +kernel
theorem dX7_addReport_96 : decode cX7_addReport 96 = .ok (.iload 7, 2) := by decide +kernel
theorem dX7_addReport_98 : decode cX7_addReport 98 = .ok (.ireturn, 1) := by decide +kernel
theorem dX6_init_0 : decode cX6_init 0 = .ok (.aload_n 0, 1) := by decide +kernel
theorem dX6_init_1 : decode cX6_init 1 = .ok (.invokespecial 3, 3) := by decide +kernel
theorem dX6_init_4 : decode cX6_init 4 = .ok (.aload_n 0, 1) := by decide +kernel
theorem dX6_init_5 : decode cX6_init 5 = .ok (.iconst (-1), 1) := by decide +kernel
theorem dX6_init_6 : decode cX6_init 6 = .ok (.putfield 9, 3) := by decide +kernel
theorem dX6_init_9 : decode cX6_init 9 = .ok (.aload_n 0, 1) := by decide +kernel
theorem dX6_init_10 : decode cX6_init 10 = .ok (.bipush 40, 2) := by decide +kernel
theorem dX6_init_12 : decode cX6_init 12 = .ok (.newarray .int, 2) := by decide +kernel
theorem dX6_init_14 : decode cX6_init 14 = .ok (.putfield 15, 3) := by decide +kernel
theorem dX6_init_17 : decode cX6_init 17 = .ok (.aload_n 0, 1) := by decide +kernel
theorem dX6_init_18 : decode cX6_init 18 = .ok (.bipush 40, 2) := by decide +kernel
theorem dX6_init_20 : decode cX6_init 20 = .ok (.newarray .int, 2) := by decide +kernel
theorem dX6_init_22 : decode cX6_init 22 = .ok (.putfield 19, 3) := by decide +kernel
theorem dX6_init_25 : decode cX6_init 25 = .ok (.aload_n 0, 1) := by decide +kernel
theorem dX6_init_26 : decode cX6_init 26 = .ok (.bipush 40, 2) := by decide +kernel
theorem dX6_init_28 : decode cX6_init 28 = .ok (.newarray .int, 2) := by decide +kernel
theorem dX6_init_30 : decode cX6_init 30 = .ok (.putfield 22, 3) := by decide +kernel
theorem dX6_init_33 : decode cX6_init 33 = .ok (.aload_n 0, 1) := by decide +kernel
theorem dX6_init_34 : decode cX6_init 34 = .ok (.bipush 40, 2) := by decide +kernel
theorem dX6_init_36 : decode cX6_init 36 = .ok (.newarray .int, 2) := by decide +kernel
theorem dX6_init_38 : decode cX6_init 38 = .ok (.putfield 25, 3) := by decide +kernel
theorem dX6_init_41 : decode cX6_init 41 = .ok (.aload_n 0, 1) := by decide +kernel
theorem dX6_init_42 : decode cX6_init 42 = .ok (.bipush 40, 2) := by decide +kernel
theorem dX6_init_44 : decode cX6_init 44 = .ok (.newarray .int, 2) := by decide +kernel
theorem dX6_init_46 : decode cX6_init 46 = .ok (.putfield 28, 3) := by decide +kernel
theorem dX6_init_49 : decode cX6_init 49 = .ok (.aload_n 0, 1) := by decide +kernel
theorem dX6_init_50 : decode cX6_init 50 = .ok (.bipush 40, 2) := by decide +kernel
theorem dX6_init_52 : decode cX6_init 52 = .ok (.newarray .int, 2) := by decide +kernel
theorem dX6_init_54 : decode cX6_init 54 = .ok (.putfield 31, 3) := by decide +kernel
theorem dX6_init_57 : decode cX6_init 57 = .ok (.aload_n 0, 1) := by decide +kernel
theorem dX6_init_58 : decode cX6_init 58 = .ok (.bipush 40, 2) := by decide +kernel
theorem dX6_init_60 : decode cX6_init 60 = .ok (.newarray .int, 2) := by decide +kernel
theorem dX6_init_62 : decode cX6_init 62 = .ok (.putfield 34, 3) := by decide +kernel
theorem dX6_init_65 : decode cX6_init 65 = .ok (.aload_n 0, 1) := by decide +kernel
theorem dX6_init_66 : decode cX6_init 66 = .ok (.bipush 40, 2) := by decide +kernel
theorem dX6_init_68 : decode cX6_init 68 = .ok (.newarray .int, 2) := by decide +kernel
theorem dX6_init_70 : decode cX6_init 70 = .ok (.putfield 37, 3) := by decide +kernel
theorem dX6_init_73 : decode cX6_init 73 = .ok (.aload_n 0, 1) := by decide +kernel
theorem dX6_init_74 : decode cX6_init 74 = .ok (.bipush 40, 2) := by decide +kernel
theorem dX6_init_76 : decode cX6_init 76 = .ok (.newarray .int, 2) := by decide +kernel
theorem dX6_init_78 : decode cX6_init 78 = .ok (.putfield 40, 3) := by decide +kernel
theorem dX6_init_81 : decode cX6_init 81 = .ok (.aload_n 0, 1) := by decide +kernel
theorem dX6_init_82 : decode cX6_init 82 = .ok (.sipush 160, 3) := by decide +kernel
theorem dX6_init_85 : decode cX6_init 85 = .ok (.newarray .long, 2) := by decide +kernel
theorem dX6_init_87 : decode cX6_init 87 = .ok (.putfield 43, 3) := by decide +kernel
theorem dX6_init_90 : decode cX6_init 90 = .ok (.aload_n 0, 1) := by decide +kernel
theorem dX6_init_91 : decode cX6_init 91 = .ok (.sipush 201, 3) := by decide +kernel
theorem dX6_init_94 : decode cX6_init 94 = .ok (.newarray .int, 2) := by decide +kernel
theorem dX6_init_96 : decode cX6_init 96 = .ok (.putfield 47, 3) := by decide +kernel
theorem dX6_init_99 : decode cX6_init 99 = .ok (.aload_n 0, 1) := by decide +kernel
theorem dX6_init_100 : decode cX6_init 100 = .ok (.sipush 250, 3) := by decide +kernel
theorem dX6_init_103 : decode cX6_init 103 = .ok (.newarray .int, 2) := by decide +kernel
theorem dX6_init_105 : decode cX6_init 105 = .ok (.putfield 50, 3) := by decide +kernel
theorem dX6_init_108 : decode cX6_init 108 = .ok (.aload_n 0, 1) := by decide +kernel
theorem dX6_init_109 : decode cX6_init 109 = .ok (.bipush 10, 2) := by decide +kernel
theorem dX6_init_111 : decode cX6_init 111 = .ok (.newarray .int, 2) := by decide +kernel
theorem dX6_init_113 : decode cX6_init 113 = .ok (.putfield 53, 3) := by decide +kernel
theorem dX6_init_116 : decode cX6_init 116 = .ok (.return_, 1) := by decide +kernel
theorem dX6_forget_0 : decode cX6_forget 0 = .ok (.aload_n 0, 1) := by decide +kernel
theorem dX6_forget_1 : decode cX6_forget 1 = .ok (.iconst (-1), 1) := by decide +kernel
theorem dX6_forget_2 : decode cX6_forget 2 = .ok (.putfield 9, 3) := by decide +kernel
theorem dX6_forget_5 : decode cX6_forget 5 = .ok (.return_, 1) := by decide +kernel
theorem dX6_look_0 : decode cX6_look 0 = .ok (.aload_n 0, 1) := by decide +kernel
theorem dX6_look_1 : decode cX6_look 1 = .ok (.getfield 9, 3) := by decide +kernel
theorem dX6_look_4 : decode cX6_look 4 = .ok (.iload_n 2, 1) := by decide +kernel
theorem dX6_look_5 : decode cX6_look 5 = .ok (.if_icmp .ne 4, 3) := by decide +kernel
theorem dX6_look_8 : decode cX6_look 8 = .ok (.return_, 1) := by decide +kernel
theorem dX6_look_9 : decode cX6_look 9 = .ok (.aload_n 0, 1) := by decide +kernel
theorem dX6_look_10 : decode cX6_look 10 = .ok (.iload_n 2, 1) := by decide +kernel
theorem dX6_look_11 : decode cX6_look 11 = .ok (.putfield 9, 3) := by decide +kernel
theorem dX6_look_14 : decode cX6_look 14 = .ok (.aload_n 0, 1) := by decide +kernel
theorem dX6_look_15 : decode cX6_look 15 = .ok (.dup, 1) := by decide +kernel
theorem dX6_look_16 : decode cX6_look 16 = .ok (.getfield 56, 3) := by decide +kernel
theorem dX6_look_19 : decode cX6_look 19 = .ok (.iconst 1, 1) := by decide +kernel
theorem dX6_look_20 : decode cX6_look 20 = .ok (.iadd, 1) := by decide +kernel
theorem dX6_look_21 : decode cX6_look 21 = .ok (.putfield 56, 3) := by decide +kernel
theorem dX6_look_24 : decode cX6_look 24 = .ok (.aload_n 0, 1) := by decide +kernel
theorem dX6_look_25 : decode cX6_look 25 = .ok (.iconst 0, 1) := by decide +kernel
theorem dX6_look_26 : decode cX6_look 26 = .ok (.putfield 59, 3) := by decide +kernel
theorem dX6_look_29 : decode cX6_look 29 = .ok (.aload_n 0, 1) := by decide +kernel
theorem dX6_look_30 : decode cX6_look 30 = .ok (.getfield 50, 3) := by decide +kernel
theorem dX6_look_33 : decode cX6_look 33 = .ok (.iconst 0, 1) := by decide +kernel
theorem dX6_look_34 : decode cX6_look 34 = .ok (.invokestatic 62, 3) := by decide +kernel
theorem dX6_look_37 : decode cX6_look 37 = .ok (.aload_n 0, 1) := by decide +kernel
theorem dX6_look_38 : decode cX6_look 38 = .ok (.getfield 53, 3) := by decide +kernel
theorem dX6_look_41 : decode cX6_look 41 = .ok (.bipush 25, 2) := by decide +kernel
theorem dX6_look_43 : decode cX6_look 43 = .ok (.invokestatic 62, 3) := by decide +kernel
theorem dX6_look_46 : decode cX6_look 46 = .ok (.iconst 1, 1) := by decide +kernel
theorem dX6_look_47 : decode cX6_look 47 = .ok (.istore_n 3, 1) := by decide +kernel
theorem dX6_look_48 : decode cX6_look 48 = .ok (.iload_n 3, 1) := by decide +kernel
theorem dX6_look_49 : decode cX6_look 49 = .ok (.iload_n 2, 1) := by decide +kernel
theorem dX6_look_50 : decode cX6_look 50 = .ok (.if_icmp .gt 31, 3) := by decide +kernel
theorem dX6_look_53 : decode cX6_look 53 = .ok (.aload_n 0, 1) := by decide +kernel
theorem dX6_look_54 : decode cX6_look 54 = .ok (.getfield 47, 3) := by decide +kernel
theorem dX6_look_57 : decode cX6_look 57 = .ok (.iload_n 3, 1) := by decide +kernel
theorem dX6_look_58 : decode cX6_look 58 = .ok (.iconst (-1), 1) := by decide +kernel
theorem dX6_look_59 : decode cX6_look 59 = .ok (.iastore, 1) := by decide +kernel
theorem dX6_look_60 : decode cX6_look 60 = .ok (.aload_n 1, 1) := by decide +kernel
theorem dX6_look_61 : decode cX6_look 61 = .ok (.iload_n 3, 1) := by decide +kernel
theorem dX6_look_62 : decode cX6_look 62 = .ok (.iload_n 2, 1) := by decide +kernel
theorem dX6_look_63 : decode cX6_look 63 = .ok (.invokevirtual 68, 3) := by decide +kernel
theorem dX6_look_66 : decode cX6_look 66 = .ok (.ifCond .eq 9, 3) := by decide +kernel
theorem dX6_look_69 : decode cX6_look 69 = .ok (.aload_n 0, 1) := by decide +kernel
theorem dX6_look_70 : decode cX6_look 70 = .ok (.aload_n 1, 1) := by decide +kernel
theorem dX6_look_71 : decode cX6_look 71 = .ok (.iload_n 3, 1) := by decide +kernel
theorem dX6_look_72 : decode cX6_look 72 = .ok (.invokevirtual 74, 3) := by decide +kernel
theorem dX6_look_75 : decode cX6_look 75 = .ok (.iinc 3 1, 3) := by decide +kernel
theorem dX6_look_78 : decode cX6_look 78 = .ok (.goto (-30), 3) := by decide +kernel
theorem dX6_look_81 : decode cX6_look 81 = .ok (.return_, 1) := by decide +kernel
theorem dX6_doubts_0 : decode cX6_doubts 0 = .ok (.iconst 0, 1) := by decide +kernel
theorem dX6_doubts_1 : decode cX6_doubts 1 = .ok (.istore_n 1, 1) := by decide +kernel
theorem dX6_doubts_2 : decode cX6_doubts 2 = .ok (.iconst 0, 1) := by decide +kernel
theorem dX6_doubts_3 : decode cX6_doubts 3 = .ok (.istore_n 2, 1) := by decide +kernel
theorem dX6_doubts_4 : decode cX6_doubts 4 = .ok (.iload_n 2, 1) := by decide +kernel
theorem dX6_doubts_5 : decode cX6_doubts 5 = .ok (.aload_n 0, 1) := by decide +kernel
theorem dX6_doubts_6 : decode cX6_doubts 6 = .ok (.getfield 59, 3) := by decide +kernel
theorem dX6_doubts_9 : decode cX6_doubts 9 = .ok (.if_icmp .ge 52, 3) := by decide +kernel
theorem dX6_doubts_12 : decode cX6_doubts 12 = .ok (.iconst 0, 1) := by decide +kernel
theorem dX6_doubts_13 : decode cX6_doubts 13 = .ok (.istore_n 3, 1) := by decide +kernel
theorem dX6_doubts_14 : decode cX6_doubts 14 = .ok (.iload_n 3, 1) := by decide +kernel
theorem dX6_doubts_15 : decode cX6_doubts 15 = .ok (.iload_n 2, 1) := by decide +kernel
theorem dX6_doubts_16 : decode cX6_doubts 16 = .ok (.if_icmp .ge 39, 3) := by decide +kernel
theorem dX6_doubts_19 : decode cX6_doubts 19 = .ok (.aload_n 0, 1) := by decide +kernel
theorem dX6_doubts_20 : decode cX6_doubts 20 = .ok (.getfield 15, 3) := by decide +kernel
theorem dX6_doubts_23 : decode cX6_doubts 23 = .ok (.iload_n 2, 1) := by decide +kernel
theorem dX6_doubts_24 : decode cX6_doubts 24 = .ok (.iaload, 1) := by decide +kernel
theorem dX6_doubts_25 : decode cX6_doubts 25 = .ok (.ifCond .eq 12, 3) := by decide +kernel
theorem dX6_doubts_28 : decode cX6_doubts 28 = .ok (.aload_n 0, 1) := by decide +kernel
theorem dX6_doubts_29 : decode cX6_doubts 29 = .ok (.getfield 15, 3) := by decide +kernel
theorem dX6_doubts_32 : decode cX6_doubts 32 = .ok (.iload_n 3, 1) := by decide +kernel
theorem dX6_doubts_33 : decode cX6_doubts 33 = .ok (.iaload, 1) := by decide +kernel
theorem dX6_doubts_34 : decode cX6_doubts 34 = .ok (.ifCond .ne 15, 3) := by decide +kernel
theorem dX6_doubts_37 : decode cX6_doubts 37 = .ok (.aload_n 0, 1) := by decide +kernel
theorem dX6_doubts_38 : decode cX6_doubts 38 = .ok (.iload_n 2, 1) := by decide +kernel
theorem dX6_doubts_39 : decode cX6_doubts 39 = .ok (.iload_n 3, 1) := by decide +kernel
theorem dX6_doubts_40 : decode cX6_doubts 40 = .ok (.invokevirtual 111, 3) := by decide +kernel
theorem dX6_doubts_43 : decode cX6_doubts 43 = .ok (.ifCond .eq 6, 3) := by decide +kernel
theorem dX6_doubts_46 : decode cX6_doubts 46 = .ok (.iinc 1 1, 3) := by decide +kernel
theorem dX6_doubts_49 : decode cX6_doubts 49 = .ok (.iinc 3 1, 3) := by decide +kernel
theorem dX6_doubts_52 : decode cX6_doubts 52 = .ok (.goto (-38), 3) := by decide +kernel
theorem dX6_doubts_55 : decode cX6_doubts 55 = .ok (.iinc 2 1, 3) := by decide +kernel
theorem dX6_doubts_58 : decode cX6_doubts 58 = .ok (.goto (-54), 3) := by decide +kernel
theorem dX6_doubts_61 : decode cX6_doubts 61 = .ok (.iload_n 1, 1) := by decide +kernel
theorem dX6_doubts_62 : decode cX6_doubts 62 = .ok (.ireturn, 1) := by decide +kernel
theorem dX6_addCome_0 : decode cX6_addCome 0 = .ok (.iconst 0, 1) := by decide +kernel
theorem dX6_addCome_1 : decode cX6_addCome 1 = .ok (.istore 4, 2) := by decide +kernel
theorem dX6_addCome_3 : decode cX6_addCome 3 = .ok (.iload 4, 2) := by decide +kernel
theorem dX6_addCome_5 : decode cX6_addCome 5 = .ok (.iload_n 3, 1) := by decide +kernel
theorem dX6_addCome_6 : decode cX6_addCome 6 = .ok (.if_icmp .ge 28, 3) := by decide +kernel
theorem dX6_addCome_9 : decode cX6_addCome 9 = .ok (.aload_n 1, 1) := by decide +kernel
theorem dX6_addCome_10 : decode cX6_addCome 10 = .ok (.iload 4, 2) := by decide +kernel
theorem dX6_addCome_12 : decode cX6_addCome 12 = .ok (.dup2, 1) := by decide +kernel
theorem dX6_addCome_13 : decode cX6_addCome 13 = .ok (.iaload, 1) := by decide +kernel
theorem dX6_addCome_14 : decode cX6_addCome 14 = .ok (.aload_n 0, 1) := by decide +kernel
theorem dX6_addCome_15 : decode cX6_addCome 15 = .ok (.getfield 50, 3) := by decide +kernel
theorem dX6_addCome_18 : decode cX6_addCome 18 = .ok (.iload 4, 2) := by decide +kernel
theorem dX6_addCome_20 : decode cX6_addCome 20 = .ok (.bipush 25, 2) := by decide +kernel
theorem dX6_addCome_22 : decode cX6_addCome 22 = .ok (.imul, 1) := by decide +kernel
theorem dX6_addCome_23 : decode cX6_addCome 23 = .ok (.iload_n 2, 1) := by decide +kernel
theorem dX6_addCome_24 : decode cX6_addCome 24 = .ok (.iadd, 1) := by decide +kernel
theorem dX6_addCome_25 : decode cX6_addCome 25 = .ok (.iaload, 1) := by decide +kernel
theorem dX6_addCome_26 : decode cX6_addCome 26 = .ok (.iadd, 1) := by decide +kernel
theorem dX6_addCome_27 : decode cX6_addCome 27 = .ok (.iastore, 1) := by decide +kernel
theorem dX6_addCome_28 : decode cX6_addCome 28 = .ok (.iinc 4 1, 3) := by decide +kernel
theorem dX6_addCome_31 : decode cX6_addCome 31 = .ok (.goto (-28), 3) := by decide +kernel
theorem dX6_addCome_34 : decode cX6_addCome 34 = .ok (.return_, 1) := by decide +kernel
theorem dX5_init_0 : decode cX5_init 0 = .ok (.aload_n 0, 1) := by decide +kernel
theorem dX5_init_1 : decode cX5_init 1 = .ok (.invokespecial 3, 3) := by decide +kernel
theorem dX5_init_4 : decode cX5_init 4 = .ok (.aload_n 0, 1) := by decide +kernel
theorem dX5_init_5 : decode cX5_init 5 = .ok (.bipush 40, 2) := by decide +kernel
theorem dX5_init_7 : decode cX5_init 7 = .ok (.newarray .int, 2) := by decide +kernel
theorem dX5_init_9 : decode cX5_init 9 = .ok (.putfield 9, 3) := by decide +kernel
theorem dX5_init_12 : decode cX5_init 12 = .ok (.aload_n 0, 1) := by decide +kernel
theorem dX5_init_13 : decode cX5_init 13 = .ok (.bipush 40, 2) := by decide +kernel
theorem dX5_init_15 : decode cX5_init 15 = .ok (.newarray .int, 2) := by decide +kernel
theorem dX5_init_17 : decode cX5_init 17 = .ok (.putfield 15, 3) := by decide +kernel
theorem dX5_init_20 : decode cX5_init 20 = .ok (.aload_n 0, 1) := by decide +kernel
theorem dX5_init_21 : decode cX5_init 21 = .ok (.sipush 400, 3) := by decide +kernel
theorem dX5_init_24 : decode cX5_init 24 = .ok (.newarray .int, 2) := by decide +kernel
theorem dX5_init_26 : decode cX5_init 26 = .ok (.putfield 18, 3) := by decide +kernel
theorem dX5_init_29 : decode cX5_init 29 = .ok (.aload_n 0, 1) := by decide +kernel
theorem dX5_init_30 : decode cX5_init 30 = .ok (.bipush 40, 2) := by decide +kernel
theorem dX5_init_32 : decode cX5_init 32 = .ok (.newarray .int, 2) := by decide +kernel
theorem dX5_init_34 : decode cX5_init 34 = .ok (.putfield 21, 3) := by decide +kernel
theorem dX5_init_37 : decode cX5_init 37 = .ok (.aload_n 0, 1) := by decide +kernel
theorem dX5_init_38 : decode cX5_init 38 = .ok (.iconst 5, 1) := by decide +kernel
theorem dX5_init_39 : decode cX5_init 39 = .ok (.newarray .int, 2) := by decide +kernel
theorem dX5_init_41 : decode cX5_init 41 = .ok (.putfield 24, 3) := by decide +kernel
theorem dX5_init_44 : decode cX5_init 44 = .ok (.aload_n 0, 1) := by decide +kernel
theorem dX5_init_45 : decode cX5_init 45 = .ok (.sipush 200, 3) := by decide +kernel
theorem dX5_init_48 : decode cX5_init 48 = .ok (.newarray .int, 2) := by decide +kernel
theorem dX5_init_50 : decode cX5_init 50 = .ok (.putfield 29, 3) := by decide +kernel
theorem dX5_init_53 : decode cX5_init 53 = .ok (.aload_n 0, 1) := by decide +kernel
theorem dX5_init_54 : decode cX5_init 54 = .ok (.bipush 64, 2) := by decide +kernel
theorem dX5_init_56 : decode cX5_init 56 = .ok (.newarray .int, 2) := by decide +kernel
theorem dX5_init_58 : decode cX5_init 58 = .ok (.putfield 32, 3) := by decide +kernel
theorem dX5_init_61 : decode cX5_init 61 = .ok (.return_, 1) := by decide +kernel
theorem dX5_chooseKinds_0 : decode cX5_chooseKinds 0 = .ok (.iconst 1, 1) := by decide +kernel
theorem dX5_chooseKinds_1 : decode cX5_chooseKinds 1 = .ok (.aload_n 1, 1) := by decide +kernel
theorem dX5_chooseKinds_2 : decode cX5_chooseKinds 2 = .ok (.getfield 35, 3) := by decide +kernel
theorem dX5_chooseKinds_5 : decode cX5_chooseKinds 5 = .ok (.ishl, 1) := by decide +kernel
theorem dX5_chooseKinds_6 : decode cX5_chooseKinds 6 = .ok (.iconst 1, 1) := by decide +kernel
theorem dX5_chooseKinds_7 : decode cX5_chooseKinds 7 = .ok (.isub, 1) := by decide +kernel
theorem dX5_chooseKinds_8 : decode cX5_chooseKinds 8 = .ok (.istore_n 2, 1) := by decide +kernel
theorem dX5_chooseKinds_9 : decode cX5_chooseKinds 9 = .ok (.iconst 0, 1) := by decide +kernel
theorem dX5_chooseKinds_10 : decode cX5_chooseKinds 10 = .ok (.istore_n 3, 1) := by decide +kernel
theorem dX5_chooseKinds_11 : decode cX5_chooseKinds 11 = .ok (.iload_n 3, 1) := by decide +kernel
theorem dX5_chooseKinds_12 : decode cX5_chooseKinds 12 = .ok (.aload_n 1, 1) := by decide +kernel
theorem dX5_chooseKinds_13 : decode cX5_chooseKinds 13 = .ok (.getfield 39, 3) := by decide +kernel
theorem dX5_chooseKinds_16 : decode cX5_chooseKinds 16 = .ok (.if_icmp .ge 33, 3) := by decide +kernel
theorem dX5_chooseKinds_19 : decode cX5_chooseKinds 19 = .ok (.aload_n 1, 1) := by decide +kernel
theorem dX5_chooseKinds_20 : decode cX5_chooseKinds 20 = .ok (.getfield 42, 3) := by decide +kernel
theorem dX5_chooseKinds_23 : decode cX5_chooseKinds 23 = .ok (.iload_n 3, 1) := by decide +kernel
theorem dX5_chooseKinds_24 : decode cX5_chooseKinds 24 = .ok (.aload_n 0, 1) := by decide +kernel
theorem dX5_chooseKinds_25 : decode cX5_chooseKinds 25 = .ok (.aload_n 1, 1) := by decide +kernel
theorem dX5_chooseKinds_26 : decode cX5_chooseKinds 26 = .ok (.aload_n 1, 1) := by decide +kernel
theorem dX5_chooseKinds_27 : decode cX5_chooseKinds 27 = .ok (.getfield 45, 3) := by decide +kernel
theorem dX5_chooseKinds_30 : decode cX5_chooseKinds 30 = .ok (.iload_n 3, 1) := by decide +kernel
theorem dX5_chooseKinds_31 : decode cX5_chooseKinds 31 = .ok (.iaload, 1) := by decide +kernel
theorem dX5_chooseKinds_32 : decode cX5_chooseKinds 32 = .ok (.aload_n 1, 1) := by decide +kernel
theorem dX5_chooseKinds_33 : decode cX5_chooseKinds 33 = .ok (.getfield 48, 3) := by decide +kernel
theorem dX5_chooseKinds_36 : decode cX5_chooseKinds 36 = .ok (.iload_n 3, 1) := by decide +kernel
theorem dX5_chooseKinds_37 : decode cX5_chooseKinds 37 = .ok (.iaload, 1) := by decide +kernel
theorem dX5_chooseKinds_38 : decode cX5_chooseKinds 38 = .ok (.iload_n 2, 1) := by decide +kernel
theorem dX5_chooseKinds_39 : decode cX5_chooseKinds 39 = .ok (.invokevirtual 51, 3) := by decide +kernel
theorem dX5_chooseKinds_42 : decode cX5_chooseKinds 42 = .ok (.iastore, 1) := by decide +kernel
theorem dX5_chooseKinds_43 : decode cX5_chooseKinds 43 = .ok (.iinc 3 1, 3) := by decide +kernel
theorem dX5_chooseKinds_46 : decode cX5_chooseKinds 46 = .ok (.goto (-35), 3) := by decide +kernel
theorem dX5_chooseKinds_49 : decode cX5_chooseKinds 49 = .ok (.return_, 1) := by decide +kernel
theorem dX3_init_0 : decode cX3_init 0 = .ok (.aload_n 0, 1) := by decide +kernel
theorem dX3_init_1 : decode cX3_init 1 = .ok (.invokespecial 3, 3) := by decide +kernel
theorem dX3_init_4 : decode cX3_init 4 = .ok (.aload_n 0, 1) := by decide +kernel
theorem dX3_init_5 : decode cX3_init 5 = .ok (.bipush 40, 2) := by decide +kernel
theorem dX3_init_7 : decode cX3_init 7 = .ok (.newarray .int, 2) := by decide +kernel
theorem dX3_init_9 : decode cX3_init 9 = .ok (.putfield 9, 3) := by decide +kernel
theorem dX3_init_12 : decode cX3_init 12 = .ok (.aload_n 0, 1) := by decide +kernel
theorem dX3_init_13 : decode cX3_init 13 = .ok (.bipush 25, 2) := by decide +kernel
theorem dX3_init_15 : decode cX3_init 15 = .ok (.newarray .int, 2) := by decide +kernel
theorem dX3_init_17 : decode cX3_init 17 = .ok (.putfield 15, 3) := by decide +kernel
theorem dX3_init_20 : decode cX3_init 20 = .ok (.aload_n 0, 1) := by decide +kernel
theorem dX3_init_21 : decode cX3_init 21 = .ok (.bipush 40, 2) := by decide +kernel
theorem dX3_init_23 : decode cX3_init 23 = .ok (.newarray .int, 2) := by decide +kernel
theorem dX3_init_25 : decode cX3_init 25 = .ok (.putfield 18, 3) := by decide +kernel
theorem dX3_init_28 : decode cX3_init 28 = .ok (.aload_n 0, 1) := by decide +kernel
theorem dX3_init_29 : decode cX3_init 29 = .ok (.bipush 40, 2) := by decide +kernel
theorem dX3_init_31 : decode cX3_init 31 = .ok (.newarray .int, 2) := by decide +kernel
theorem dX3_init_33 : decode cX3_init 33 = .ok (.putfield 21, 3) := by decide +kernel
theorem dX3_init_36 : decode cX3_init 36 = .ok (.aload_n 0, 1) := by decide +kernel
theorem dX3_init_37 : decode cX3_init 37 = .ok (.bipush 40, 2) := by decide +kernel
theorem dX3_init_39 : decode cX3_init 39 = .ok (.newarray .int, 2) := by decide +kernel
theorem dX3_init_41 : decode cX3_init 41 = .ok (.putfield 24, 3) := by decide +kernel
theorem dX3_init_44 : decode cX3_init 44 = .ok (.aload_n 0, 1) := by decide +kernel
theorem dX3_init_45 : decode cX3_init 45 = .ok (.bipush 40, 2) := by decide +kernel
theorem dX3_init_47 : decode cX3_init 47 = .ok (.newarray .int, 2) := by decide +kernel
theorem dX3_init_49 : decode cX3_init 49 = .ok (.putfield 27, 3) := by decide +kernel
theorem dX3_init_52 : decode cX3_init 52 = .ok (.aload_n 0, 1) := by decide +kernel
theorem dX3_init_53 : decode cX3_init 53 = .ok (.bipush 40, 2) := by decide +kernel
theorem dX3_init_55 : decode cX3_init 55 = .ok (.newarray .int, 2) := by decide +kernel
theorem dX3_init_57 : decode cX3_init 57 = .ok (.putfield 30, 3) := by decide +kernel
theorem dX3_init_60 : decode cX3_init 60 = .ok (.aload_n 0, 1) := by decide +kernel
theorem dX3_init_61 : decode cX3_init 61 = .ok (.sipush 400, 3) := by decide +kernel
theorem dX3_init_64 : decode cX3_init 64 = .ok (.newarray .int, 2) := by decide +kernel
theorem dX3_init_66 : decode cX3_init 66 = .ok (.putfield 33, 3) := by decide +kernel
theorem dX3_init_69 : decode cX3_init 69 = .ok (.aload_n 0, 1) := by decide +kernel
theorem dX3_init_70 : decode cX3_init 70 = .ok (.sipush 240, 3) := by decide +kernel
theorem dX3_init_73 : decode cX3_init 73 = .ok (.newarray .int, 2) := by decide +kernel
theorem dX3_init_75 : decode cX3_init 75 = .ok (.putfield 36, 3) := by decide +kernel
theorem dX3_init_78 : decode cX3_init 78 = .ok (.return_, 1) := by decide +kernel
theorem dX3_clear_0 : decode cX3_clear 0 = .ok (.aload_n 0, 1) := by decide +kernel
theorem dX3_clear_1 : decode cX3_clear 1 = .ok (.iload_n 1, 1) := by decide +kernel
theorem dX3_clear_2 : decode cX3_clear 2 = .ok (.putfield 39, 3) := by decide +kernel
theorem dX3_clear_5 : decode cX3_clear 5 = .ok (.aload_n 0, 1) := by decide +kernel
theorem dX3_clear_6 : decode cX3_clear 6 = .ok (.iconst 0, 1) := by decide +kernel
theorem dX3_clear_7 : decode cX3_clear 7 = .ok (.putfield 43, 3) := by decide +kernel
theorem dX3_clear_10 : decode cX3_clear 10 = .ok (.aload_n 0, 1) := by decide +kernel
theorem dX3_clear_11 : decode cX3_clear 11 = .ok (.iconst 0, 1) := by decide +kernel
theorem dX3_clear_12 : decode cX3_clear 12 = .ok (.putfield 46, 3) := by decide +kernel
theorem dX3_clear_15 : decode cX3_clear 15 = .ok (.aload_n 0, 1) := by decide +kernel
theorem dX3_clear_16 : decode cX3_clear 16 = .ok (.getfield 15, 3) := by decide +kernel
theorem dX3_clear_19 : decode cX3_clear 19 = .ok (.iconst 0, 1) := by decide +kernel
theorem dX3_clear_20 : decode cX3_clear 20 = .ok (.iconst 0, 1) := by decide +kernel
theorem dX3_clear_21 : decode cX3_clear 21 = .ok (.iastore, 1) := by decide +kernel
theorem dX3_clear_22 : decode cX3_clear 22 = .ok (.aload_n 0, 1) := by decide +kernel
theorem dX3_clear_23 : decode cX3_clear 23 = .ok (.getfield 18, 3) := by decide +kernel
theorem dX3_clear_26 : decode cX3_clear 26 = .ok (.iconst (-1), 1) := by decide +kernel
theorem dX3_clear_27 : decode cX3_clear 27 = .ok (.invokestatic 49, 3) := by decide +kernel
theorem dX3_clear_30 : decode cX3_clear 30 = .ok (.return_, 1) := by decide +kernel
theorem dX3_addDay_0 : decode cX3_addDay 0 = .ok (.aload_n 0, 1) := by decide +kernel
theorem dX3_addDay_1 : decode cX3_addDay 1 = .ok (.getfield 43, 3) := by decide +kernel
theorem dX3_addDay_4 : decode cX3_addDay 4 = .ok (.istore 5, 2) := by decide +kernel
theorem dX3_addDay_6 : decode cX3_addDay 6 = .ok (.iconst 0, 1) := by decide +kernel
theorem dX3_addDay_7 : decode cX3_addDay 7 = .ok (.istore 6, 2) := by decide +kernel
theorem dX3_addDay_9 : decode cX3_addDay 9 = .ok (.iload 6, 2) := by decide +kernel
theorem dX3_addDay_11 : decode cX3_addDay 11 = .ok (.aload_n 1, 1) := by decide +kernel
theorem dX3_addDay_12 : decode cX3_addDay 12 = .ok (.getfield 55, 3) := by decide +kernel
theorem dX3_addDay_15 : decode cX3_addDay 15 = .ok (.if_icmp .ge 37, 3) := by decide +kernel
theorem dX3_addDay_18 : decode cX3_addDay 18 = .ok (.aload_n 1, 1) := by decide +kernel
theorem dX3_addDay_19 : decode cX3_addDay 19 = .ok (.getfield 60, 3) := by decide +kernel
theorem dX3_addDay_22 : decode cX3_addDay 22 = .ok (.iload 6, 2) := by decide +kernel
theorem dX3_addDay_24 : decode cX3_addDay 24 = .ok (.iaload, 1) := by decide +kernel
theorem dX3_addDay_25 : decode cX3_addDay 25 = .ok (.iload_n 3, 1) := by decide +kernel
theorem dX3_addDay_26 : decode cX3_addDay 26 = .ok (.if_icmp .ne 20, 3) := by decide +kernel
theorem dX3_addDay_29 : decode cX3_addDay 29 = .ok (.aload_n 2, 1) := by decide +kernel
theorem dX3_addDay_30 : decode cX3_addDay 30 = .ok (.getfield 63, 3) := by decide +kernel
theorem dX3_addDay_33 : decode cX3_addDay 33 = .ok (.iload 6, 2) := by decide +kernel
theorem dX3_addDay_35 : decode cX3_addDay 35 = .ok (.iaload, 1) := by decide +kernel
theorem dX3_addDay_36 : decode cX3_addDay 36 = .ok (.ifCond .le 10, 3) := by decide +kernel
theorem dX3_addDay_39 : decode cX3_addDay 39 = .ok (.aload_n 0, 1) := by decide +kernel
theorem dX3_addDay_40 : decode cX3_addDay 40 = .ok (.aload_n 2, 1) := by decide +kernel
theorem dX3_addDay_41 : decode cX3_addDay 41 = .ok (.iload 6, 2) := by decide +kernel
theorem dX3_addDay_43 : decode cX3_addDay 43 = .ok (.invokevirtual 66, 3) := by decide +kernel
theorem dX3_addDay_46 : decode cX3_addDay 46 = .ok (.iinc 6 1, 3) := by decide +kernel
theorem dX3_addDay_49 : decode cX3_addDay 49 = .ok (.goto (-40), 3) := by decide +kernel
theorem dX3_addDay_52 : decode cX3_addDay 52 = .ok (.aload_n 0, 1) := by decide +kernel
theorem dX3_addDay_53 : decode cX3_addDay 53 = .ok (.getfield 43, 3) := by decide +kernel
theorem dX3_addDay_56 : decode cX3_addDay 56 = .ok (.iload 5, 2) := by decide +kernel
theorem dX3_addDay_58 : decode cX3_addDay 58 = .ok (.if_icmp .le 73, 3) := by decide +kernel
theorem dX3_addDay_61 : decode cX3_addDay 61 = .ok (.aload_n 0, 1) := by decide +kernel
theorem dX3_addDay_62 : decode cX3_addDay 62 = .ok (.getfield 46, 3) := by decide +kernel
theorem dX3_addDay_65 : decode cX3_addDay 65 = .ok (.bipush 24, 2) := by decide +kernel
theorem dX3_addDay_67 : decode cX3_addDay 67 = .ok (.if_icmp .ge 64, 3) := by decide +kernel
theorem dX3_addDay_70 : decode cX3_addDay 70 = .ok (.iconst 0, 1) := by decide +kernel
theorem dX3_addDay_71 : decode cX3_addDay 71 = .ok (.istore 6, 2) := by decide +kernel
theorem dX3_addDay_73 : decode cX3_addDay 73 = .ok (.iload 6, 2) := by decide +kernel
theorem dX3_addDay_75 : decode cX3_addDay 75 = .ok (.aload_n 0, 1) := by decide +kernel
theorem dX3_addDay_76 : decode cX3_addDay 76 = .ok (.getfield 39, 3) := by decide +kernel
theorem dX3_addDay_79 : decode cX3_addDay 79 = .ok (.if_icmp .ge 29, 3) := by decide +kernel
theorem dX3_addDay_82 : decode cX3_addDay 82 = .ok (.aload_n 0, 1) := by decide +kernel
theorem dX3_addDay_83 : decode cX3_addDay 83 = .ok (.getfield 36, 3) := by decide +kernel
theorem dX3_addDay_86 : decode cX3_addDay 86 = .ok (.iload 6, 2) := by decide +kernel
theorem dX3_addDay_88 : decode cX3_addDay 88 = .ok (.bipush 24, 2) := by decide +kernel
theorem dX3_addDay_90 : decode cX3_addDay 90 = .ok (.imul, 1) := by decide +kernel
theorem dX3_addDay_91 : decode cX3_addDay 91 = .ok (.aload_n 0, 1) := by decide +kernel
theorem dX3_addDay_92 : decode cX3_addDay 92 = .ok (.getfield 46, 3) := by decide +kernel
theorem dX3_addDay_95 : decode cX3_addDay 95 = .ok (.iadd, 1) := by decide +kernel
theorem dX3_addDay_96 : decode cX3_addDay 96 = .ok (.aload 4, 2) := by decide +kernel
theorem dX3_addDay_98 : decode cX3_addDay 98 = .ok (.iload 6, 2) := by decide +kernel
theorem dX3_addDay_100 : decode cX3_addDay 100 = .ok (.iaload, 1) := by decide +kernel
theorem dX3_addDay_101 : decode cX3_addDay 101 = .ok (.iastore, 1) := by decide +kernel
theorem dX3_addDay_102 : decode cX3_addDay 102 = .ok (.iinc 6 1, 3) := by decide +kernel
theorem dX3_addDay_105 : decode cX3_addDay 105 = .ok (.goto (-32), 3) := by decide +kernel
theorem dX3_addDay_108 : decode cX3_addDay 108 = .ok (.aload_n 0, 1) := by decide +kernel
theorem dX3_addDay_109 : decode cX3_addDay 109 = .ok (.dup, 1) := by decide +kernel
theorem dX3_addDay_110 : decode cX3_addDay 110 = .ok (.getfield 46, 3) := by decide +kernel
theorem dX3_addDay_113 : decode cX3_addDay 113 = .ok (.iconst 1, 1) := by decide +kernel
theorem dX3_addDay_114 : decode cX3_addDay 114 = .ok (.iadd, 1) := by decide +kernel
theorem dX3_addDay_115 : decode cX3_addDay 115 = .ok (.putfield 46, 3) := by decide +kernel
theorem dX3_addDay_118 : decode cX3_addDay 118 = .ok (.aload_n 0, 1) := by decide +kernel
theorem dX3_addDay_119 : decode cX3_addDay 119 = .ok (.getfield 15, 3) := by decide +kernel
theorem dX3_addDay_122 : decode cX3_addDay 122 = .ok (.aload_n 0, 1) := by decide +kernel
theorem dX3_addDay_123 : decode cX3_addDay 123 = .ok (.getfield 46, 3) := by decide +kernel
theorem dX3_addDay_126 : decode cX3_addDay 126 = .ok (.aload_n 0, 1) := by decide +kernel
theorem dX3_addDay_127 : decode cX3_addDay 127 = .ok (.getfield 43, 3) := by decide +kernel
theorem dX3_addDay_130 : decode cX3_addDay 130 = .ok (.iastore, 1) := by decide +kernel
theorem dX3_addDay_131 : decode cX3_addDay 131 = .ok (.return_, 1) := by decide +kernel
theorem dX2_init_0 : decode cX2_init 0 = .ok (.aload_n 0, 1) := by decide +kernel
theorem dX2_init_1 : decode cX2_init 1 = .ok (.invokespecial 3, 3) := by decide +kernel
theorem dX2_init_4 : decode cX2_init 4 = .ok (.aload_n 0, 1) := by decide +kernel
theorem dX2_init_5 : decode cX2_init 5 = .ok (.bipush 40, 2) := by decide +kernel
theorem dX2_init_7 : decode cX2_init 7 = .ok (.newarray .long, 2) := by decide +kernel
theorem dX2_init_9 : decode cX2_init 9 = .ok (.putfield 9, 3) := by decide +kernel
theorem dX2_init_12 : decode cX2_init 12 = .ok (.aload_n 0, 1) := by decide +kernel
theorem dX2_init_13 : decode cX2_init 13 = .ok (.bipush 40, 2) := by decide +kernel
theorem dX2_init_15 : decode cX2_init 15 = .ok (.newarray .int, 2) := by decide +kernel
theorem dX2_init_17 : decode cX2_init 17 = .ok (.putfield 15, 3) := by decide +kernel
theorem dX2_init_20 : decode cX2_init 20 = .ok (.aload_n 0, 1) := by decide +kernel
theorem dX2_init_21 : decode cX2_init 21 = .ok (.sipush 240, 3) := by decide +kernel
theorem dX2_init_24 : decode cX2_init 24 = .ok (.newarray .long, 2) := by decide +kernel
theorem dX2_init_26 : decode cX2_init 26 = .ok (.putfield 19, 3) := by decide +kernel
theorem dX2_init_29 : decode cX2_init 29 = .ok (.aload_n 0, 1) := by decide +kernel
theorem dX2_init_30 : decode cX2_init 30 = .ok (.sipush 240, 3) := by decide +kernel
theorem dX2_init_33 : decode cX2_init 33 = .ok (.newarray .int, 2) := by decide +kernel
theorem dX2_init_35 : decode cX2_init 35 = .ok (.putfield 22, 3) := by decide +kernel
theorem dX2_init_38 : decode cX2_init 38 = .ok (.aload_n 0, 1) := by decide +kernel
theorem dX2_init_39 : decode cX2_init 39 = .ok (.bipush 64, 2) := by decide +kernel
theorem dX2_init_41 : decode cX2_init 41 = .ok (.newarray .int, 2) := by decide +kernel
theorem dX2_init_43 : decode cX2_init 43 = .ok (.putfield 25, 3) := by decide +kernel
theorem dX2_init_46 : decode cX2_init 46 = .ok (.aload_n 0, 1) := by decide +kernel
theorem dX2_init_47 : decode cX2_init 47 = .ok (.bipush 40, 2) := by decide +kernel
theorem dX2_init_49 : decode cX2_init 49 = .ok (.newarray .int, 2) := by decide +kernel
theorem dX2_init_51 : decode cX2_init 51 = .ok (.putfield 28, 3) := by decide +kernel
theorem dX2_init_54 : decode cX2_init 54 = .ok (.aload_n 0, 1) := by decide +kernel
theorem dX2_init_55 : decode cX2_init 55 = .ok (.aload_n 1, 1) := by decide +kernel
theorem dX2_init_56 : decode cX2_init 56 = .ok (.putfield 31, 3) := by decide +kernel
theorem dX2_init_59 : decode cX2_init 59 = .ok (.return_, 1) := by decide +kernel
theorem dX9_init_0 : decode cX9_init 0 = .ok (.aload_n 0, 1) := by decide +kernel
theorem dX9_init_1 : decode cX9_init 1 = .ok (.invokespecial 3, 3) := by decide +kernel
theorem dX9_init_4 : decode cX9_init 4 = .ok (.aload_n 0, 1) := by decide +kernel
theorem dX9_init_5 : decode cX9_init 5 = .ok (.bipush 40, 2) := by decide +kernel
theorem dX9_init_7 : decode cX9_init 7 = .ok (.newarray .int, 2) := by decide +kernel
theorem dX9_init_9 : decode cX9_init 9 = .ok (.putfield 9, 3) := by decide +kernel
theorem dX9_init_12 : decode cX9_init 12 = .ok (.aload_n 0, 1) := by decide +kernel
theorem dX9_init_13 : decode cX9_init 13 = .ok (.bipush 40, 2) := by decide +kernel
theorem dX9_init_15 : decode cX9_init 15 = .ok (.newarray .int, 2) := by decide +kernel
theorem dX9_init_17 : decode cX9_init 17 = .ok (.putfield 15, 3) := by decide +kernel
theorem dX9_init_20 : decode cX9_init 20 = .ok (.aload_n 0, 1) := by decide +kernel
theorem dX9_init_21 : decode cX9_init 21 = .ok (.bipush 40, 2) := by decide +kernel
theorem dX9_init_23 : decode cX9_init 23 = .ok (.newarray .int, 2) := by decide +kernel
theorem dX9_init_25 : decode cX9_init 25 = .ok (.putfield 18, 3) := by decide +kernel
theorem dX9_init_28 : decode cX9_init 28 = .ok (.aload_n 0, 1) := by decide +kernel
theorem dX9_init_29 : decode cX9_init 29 = .ok (.sipush 240, 3) := by decide +kernel
theorem dX9_init_32 : decode cX9_init 32 = .ok (.newarray .int, 2) := by decide +kernel
theorem dX9_init_34 : decode cX9_init 34 = .ok (.putfield 21, 3) := by decide +kernel
theorem dX9_init_37 : decode cX9_init 37 = .ok (.aload_n 0, 1) := by decide +kernel
theorem dX9_init_38 : decode cX9_init 38 = .ok (.sipush 240, 3) := by decide +kernel
theorem dX9_init_41 : decode cX9_init 41 = .ok (.newarray .int, 2) := by decide +kernel
theorem dX9_init_43 : decode cX9_init 43 = .ok (.putfield 24, 3) := by decide +kernel
theorem dX9_init_46 : decode cX9_init 46 = .ok (.aload_n 0, 1) := by decide +kernel
theorem dX9_init_47 : decode cX9_init 47 = .ok (.bipush 40, 2) := by decide +kernel
theorem dX9_init_49 : decode cX9_init 49 = .ok (.newarray .int, 2) := by decide +kernel
theorem dX9_init_51 : decode cX9_init 51 = .ok (.putfield 27, 3) := by decide +kernel
theorem dX9_init_54 : decode cX9_init 54 = .ok (.aload_n 0, 1) := by decide +kernel
theorem dX9_init_55 : decode cX9_init 55 = .ok (.aload_n 1, 1) := by decide +kernel
theorem dX9_init_56 : decode cX9_init 56 = .ok (.putfield 30, 3) := by decide +kernel
theorem dX9_init_59 : decode cX9_init 59 = .ok (.aload_n 0, 1) := by decide +kernel
theorem dX9_init_60 : decode cX9_init 60 = .ok (.aload_n 2, 1) := by decide +kernel
theorem dX9_init_61 : decode cX9_init 61 = .ok (.putfield 34, 3) := by decide +kernel
theorem dX9_init_64 : decode cX9_init 64 = .ok (.return_, 1) := by decide +kernel
theorem dX9_deal_0 : decode cX9_deal 0 = .ok (.aload_n 0, 1) := by decide +kernel
theorem dX9_deal_1 : decode cX9_deal 1 = .ok (.getfield 30, 3) := by decide +kernel
theorem dX9_deal_4 : decode cX9_deal 4 = .ok (.getfield 38, 3) := by decide +kernel
theorem dX9_deal_7 : decode cX9_deal 7 = .ok (.ifCond .ne 4, 3) := by decide +kernel
theorem dX9_deal_10 : decode cX9_deal 10 = .ok (.return_, 1) := by decide +kernel
theorem dX9_deal_11 : decode cX9_deal 11 = .ok (.aload_n 0, 1) := by decide +kernel
theorem dX9_deal_12 : decode cX9_deal 12 = .ok (.getfield 34, 3) := by decide +kernel
theorem dX9_deal_15 : decode cX9_deal 15 = .ok (.invokevirtual 44, 3) := by decide +kernel
theorem dX9_deal_18 : decode cX9_deal 18 = .ok (.aload_n 0, 1) := by decide +kernel
theorem dX9_deal_19 : decode cX9_deal 19 = .ok (.getfield 34, 3) := by decide +kernel
theorem dX9_deal_22 : decode cX9_deal 22 = .ok (.invokevirtual 49, 3) := by decide +kernel
theorem dX9_deal_25 : decode cX9_deal 25 = .ok (.aload_n 0, 1) := by decide +kernel
theorem dX9_deal_26 : decode cX9_deal 26 = .ok (.getfield 9, 3) := by decide +kernel
theorem dX9_deal_29 : decode cX9_deal 29 = .ok (.iconst 0, 1) := by decide +kernel
theorem dX9_deal_30 : decode cX9_deal 30 = .ok (.invokestatic 52, 3) := by decide +kernel
theorem dX9_deal_33 : decode cX9_deal 33 = .ok (.iconst 0, 1) := by decide +kernel
theorem dX9_deal_34 : decode cX9_deal 34 = .ok (.istore_n 1, 1) := by decide +kernel
theorem dX9_deal_35 : decode cX9_deal 35 = .ok (.iload_n 1, 1) := by decide +kernel
theorem dX9_deal_36 : decode cX9_deal 36 = .ok (.bipush 40, 2) := by decide +kernel
theorem dX9_deal_38 : decode cX9_deal 38 = .ok (.if_icmp .ge 35, 3) := by decide +kernel
theorem dX9_deal_41 : decode cX9_deal 41 = .ok (.aload_n 0, 1) := by decide +kernel
theorem dX9_deal_42 : decode cX9_deal 42 = .ok (.getfield 30, 3) := by decide +kernel
theorem dX9_deal_45 : decode cX9_deal 45 = .ok (.getfield 57, 3) := by decide +kernel
theorem dX9_deal_48 : decode cX9_deal 48 = .ok (.iload_n 1, 1) := by decide +kernel
theorem dX9_deal_49 : decode cX9_deal 49 = .ok (.iaload, 1) := by decide +kernel
theorem dX9_deal_50 : decode cX9_deal 50 = .ok (.iconst (-1), 1) := by decide +kernel
theorem dX9_deal_51 : decode cX9_deal 51 = .ok (.if_icmp .eq 16, 3) := by decide +kernel
theorem dX9_deal_54 : decode cX9_deal 54 = .ok (.aload_n 0, 1) := by decide +kernel
theorem dX9_deal_55 : decode cX9_deal 55 = .ok (.aload_n 0, 1) := by decide +kernel
theorem dX9_deal_56 : decode cX9_deal 56 = .ok (.getfield 30, 3) := by decide +kernel
theorem dX9_deal_59 : decode cX9_deal 59 = .ok (.getfield 57, 3) := by decide +kernel
theorem dX9_deal_62 : decode cX9_deal 62 = .ok (.iload_n 1, 1) := by decide +kernel
theorem dX9_deal_63 : decode cX9_deal 63 = .ok (.iaload, 1) := by decide +kernel
theorem dX9_deal_64 : decode cX9_deal 64 = .ok (.invokevirtual 60, 3) := by decide +kernel
theorem dX9_deal_67 : decode cX9_deal 67 = .ok (.iinc 1 1, 3) := by decide +kernel
theorem dX9_deal_70 : decode cX9_deal 70 = .ok (.goto (-35), 3) := by decide +kernel
theorem dX9_deal_73 : decode cX9_deal 73 = .ok (.return_, 1) := by decide +kernel
theorem dX4_init_0 : decode cX4_init 0 = .ok (.aload_n 0, 1) := by decide +kernel
theorem dX4_init_1 : decode cX4_init 1 = .ok (.invokespecial 3, 3) := by decide +kernel
theorem dX4_init_4 : decode cX4_init 4 = .ok (.aload_n 0, 1) := by decide +kernel
theorem dX4_init_5 : decode cX4_init 5 = .ok (.bipush 40, 2) := by decide +kernel
theorem dX4_init_7 : decode cX4_init 7 = .ok (.newarray .int, 2) := by decide +kernel
theorem dX4_init_9 : decode cX4_init 9 = .ok (.putfield 9, 3) := by decide +kernel
theorem dX4_init_12 : decode cX4_init 12 = .ok (.aload_n 0, 1) := by decide +kernel
theorem dX4_init_13 : decode cX4_init 13 = .ok (.bipush 40, 2) := by decide +kernel
theorem dX4_init_15 : decode cX4_init 15 = .ok (.newarray .int, 2) := by decide +kernel
theorem dX4_init_17 : decode cX4_init 17 = .ok (.putfield 15, 3) := by decide +kernel
theorem dX4_init_20 : decode cX4_init 20 = .ok (.aload_n 0, 1) := by decide +kernel
theorem dX4_init_21 : decode cX4_init 21 = .ok (.bipush 40, 2) := by decide +kernel
theorem dX4_init_23 : decode cX4_init 23 = .ok (.newarray .int, 2) := by decide +kernel
theorem dX4_init_25 : decode cX4_init 25 = .ok (.putfield 18, 3) := by decide +kernel
theorem dX4_init_28 : decode cX4_init 28 = .ok (.aload_n 0, 1) := by decide +kernel
theorem dX4_init_29 : decode cX4_init 29 = .ok (.bipush 40, 2) := by decide +kernel
theorem dX4_init_31 : decode cX4_init 31 = .ok (.newarray .int, 2) := by decide +kernel
theorem dX4_init_33 : decode cX4_init 33 = .ok (.putfield 21, 3) := by decide +kernel
theorem dX4_init_36 : decode cX4_init 36 = .ok (.aload_n 0, 1) := by decide +kernel
theorem dX4_init_37 : decode cX4_init 37 = .ok (.bipush 40, 2) := by decide +kernel
theorem dX4_init_39 : decode cX4_init 39 = .ok (.newarray .int, 2) := by decide +kernel
theorem dX4_init_41 : decode cX4_init 41 = .ok (.putfield 24, 3) := by decide +kernel
theorem dX4_init_44 : decode cX4_init 44 = .ok (.aload_n 0, 1) := by decide +kernel
theorem dX4_init_45 : decode cX4_init 45 = .ok (.bipush 40, 2) := by decide +kernel
theorem dX4_init_47 : decode cX4_init 47 = .ok (.newarray .int, 2) := by decide +kernel
theorem dX4_init_49 : decode cX4_init 49 = .ok (.putfield 27, 3) := by decide +kernel
theorem dX4_init_52 : decode cX4_init 52 = .ok (.aload_n 0, 1) := by decide +kernel
theorem dX4_init_53 : decode cX4_init 53 = .ok (.bipush 40, 2) := by decide +kernel
theorem dX4_init_55 : decode cX4_init 55 = .ok (.newarray .int, 2) := by decide +kernel
theorem dX4_init_57 : decode cX4_init 57 = .ok (.putfield 30, 3) := by decide +kernel
theorem dX4_init_60 : decode cX4_init 60 = .ok (.aload_n 0, 1) := by decide +kernel
theorem dX4_init_61 : decode cX4_init 61 = .ok (.bipush 10, 2) := by decide +kernel
theorem dX4_init_63 : decode cX4_init 63 = .ok (.newarray .int, 2) := by decide +kernel
theorem dX4_init_65 : decode cX4_init 65 = .ok (.putfield 33, 3) := by decide +kernel
theorem dX4_init_68 : decode cX4_init 68 = .ok (.aload_n 0, 1) := by decide +kernel
theorem dX4_init_69 : decode cX4_init 69 = .ok (.bipush 40, 2) := by decide +kernel
theorem dX4_init_71 : decode cX4_init 71 = .ok (.newarray .int, 2) := by decide +kernel
theorem dX4_init_73 : decode cX4_init 73 = .ok (.putfield 36, 3) := by decide +kernel
theorem dX4_init_76 : decode cX4_init 76 = .ok (.aload_n 0, 1) := by decide +kernel
theorem dX4_init_77 : decode cX4_init 77 = .ok (.bipush 40, 2) := by decide +kernel
theorem dX4_init_79 : decode cX4_init 79 = .ok (.newarray .int, 2) := by decide +kernel
theorem dX4_init_81 : decode cX4_init 81 = .ok (.putfield 39, 3) := by decide +kernel
theorem dX4_init_84 : decode cX4_init 84 = .ok (.aload_n 0, 1) := by decide +kernel
theorem dX4_init_85 : decode cX4_init 85 = .ok (.sipush 1024, 3) := by decide +kernel
theorem dX4_init_88 : decode cX4_init 88 = .ok (.newarray .int, 2) := by decide +kernel
theorem dX4_init_90 : decode cX4_init 90 = .ok (.putfield 42, 3) := by decide +kernel
theorem dX4_init_93 : decode cX4_init 93 = .ok (.aload_n 0, 1) := by decide +kernel
theorem dX4_init_94 : decode cX4_init 94 = .ok (.sipush 1024, 3) := by decide +kernel
theorem dX4_init_97 : decode cX4_init 97 = .ok (.newarray .int, 2) := by decide +kernel
theorem dX4_init_99 : decode cX4_init 99 = .ok (.putfield 45, 3) := by decide +kernel
theorem dX4_init_102 : decode cX4_init 102 = .ok (.aload_n 0, 1) := by decide +kernel
theorem dX4_init_103 : decode cX4_init 103 = .ok (.sipush 1024, 3) := by decide +kernel
theorem dX4_init_106 : decode cX4_init 106 = .ok (.newarray .int, 2) := by decide +kernel
theorem dX4_init_108 : decode cX4_init 108 = .ok (.putfield 48, 3) := by decide +kernel
theorem dX4_init_111 : decode cX4_init 111 = .ok (.return_, 1) := by decide +kernel
theorem dX4_keep_0 : decode cX4_keep 0 = .ok (.aload_n 0, 1) := by decide +kernel
theorem dX4_keep_1 : decode cX4_keep 1 = .ok (.iconst 1, 1) := by decide +kernel
theorem dX4_keep_2 : decode cX4_keep 2 = .ok (.putfield 51, 3) := by decide +kernel
theorem dX4_keep_5 : decode cX4_keep 5 = .ok (.aload_n 0, 1) := by decide +kernel
theorem dX4_keep_6 : decode cX4_keep 6 = .ok (.iconst (-1), 1) := by decide +kernel
theorem dX4_keep_7 : decode cX4_keep 7 = .ok (.putfield 55, 3) := by decide +kernel
theorem dX4_keep_10 : decode cX4_keep 10 = .ok (.aload_n 0, 1) := by decide +kernel
theorem dX4_keep_11 : decode cX4_keep 11 = .ok (.aload_n 2, 1) := by decide +kernel
theorem dX4_keep_12 : decode cX4_keep 12 = .ok (.getfield 59, 3) := by decide +kernel
theorem dX4_keep_15 : decode cX4_keep 15 = .ok (.putfield 64, 3) := by decide +kernel
theorem dX4_keep_18 : decode cX4_keep 18 = .ok (.aload_n 0, 1) := by decide +kernel
theorem dX4_keep_19 : decode cX4_keep 19 = .ok (.iconst 0, 1) := by decide +kernel
theorem dX4_keep_20 : decode cX4_keep 20 = .ok (.putfield 65, 3) := by decide +kernel
theorem dX4_keep_23 : decode cX4_keep 23 = .ok (.iconst 0, 1) := by decide +kernel
theorem dX4_keep_24 : decode cX4_keep 24 = .ok (.istore 6, 2) := by decide +kernel
theorem dX4_keep_26 : decode cX4_keep 26 = .ok (.iload 6, 2) := by decide +kernel
theorem dX4_keep_28 : decode cX4_keep 28 = .ok (.bipush 10, 2) := by decide +kernel
theorem dX4_keep_30 : decode cX4_keep 30 = .ok (.if_icmp .ge 21, 3) := by decide +kernel
theorem dX4_keep_33 : decode cX4_keep 33 = .ok (.aload_n 0, 1) := by decide +kernel
theorem dX4_keep_34 : decode cX4_keep 34 = .ok (.getfield 33, 3) := by decide +kernel
theorem dX4_keep_37 : decode cX4_keep 37 = .ok (.iload 6, 2) := by decide +kernel
theorem dX4_keep_39 : decode cX4_keep 39 = .ok (.aload 5, 2) := by decide +kernel
theorem dX4_keep_41 : decode cX4_keep 41 = .ok (.iload 6, 2) := by decide +kernel
theorem dX4_keep_43 : decode cX4_keep 43 = .ok (.iaload, 1) := by decide +kernel
theorem dX4_keep_44 : decode cX4_keep 44 = .ok (.iastore, 1) := by decide +kernel
theorem dX4_keep_45 : decode cX4_keep 45 = .ok (.iinc 6 1, 3) := by decide +kernel
theorem dX4_keep_48 : decode cX4_keep 48 = .ok (.goto (-22), 3) := by decide +kernel
theorem dX4_keep_51 : decode cX4_keep 51 = .ok (.iconst 0, 1) := by decide +kernel
theorem dX4_keep_52 : decode cX4_keep 52 = .ok (.istore 6, 2) := by decide +kernel
theorem dX4_keep_54 : decode cX4_keep 54 = .ok (.iconst 0, 1) := by decide +kernel
theorem dX4_keep_55 : decode cX4_keep 55 = .ok (.istore 7, 2) := by decide +kernel
theorem dX4_keep_57 : decode cX4_keep 57 = .ok (.iload 7, 2) := by decide +kernel
theorem dX4_keep_59 : decode cX4_keep 59 = .ok (.aload_n 0, 1) := by decide +kernel
theorem dX4_keep_60 : decode cX4_keep 60 = .ok (.getfield 64, 3) := by decide +kernel
theorem dX4_keep_63 : decode cX4_keep 63 = .ok (.if_icmp .ge 151, 3) := by decide +kernel
theorem dX4_keep_66 : decode cX4_keep 66 = .ok (.aload_n 0, 1) := by decide +kernel
theorem dX4_keep_67 : decode cX4_keep 67 = .ok (.getfield 9, 3) := by decide +kernel
theorem dX4_keep_70 : decode cX4_keep 70 = .ok (.iload 7, 2) := by decide +kernel
theorem dX4_keep_72 : decode cX4_keep 72 = .ok (.aload_n 2, 1) := by decide +kernel
theorem dX4_keep_73 : decode cX4_keep 73 = .ok (.getfield 68, 3) := by decide +kernel
theorem dX4_keep_76 : decode cX4_keep 76 = .ok (.iload 7, 2) := by decide +kernel
theorem dX4_keep_78 : decode cX4_keep 78 = .ok (.iaload, 1) := by decide +kernel
theorem dX4_keep_79 : decode cX4_keep 79 = .ok (.iastore, 1) := by decide +kernel
theorem dX4_keep_80 : decode cX4_keep 80 = .ok (.aload_n 0, 1) := by decide +kernel
theorem dX4_keep_81 : decode cX4_keep 81 = .ok (.getfield 15, 3) := by decide +kernel
theorem dX4_keep_84 : decode cX4_keep 84 = .ok (.iload 7, 2) := by decide +kernel
theorem dX4_keep_86 : decode cX4_keep 86 = .ok (.aload_n 2, 1) := by decide +kernel
theorem dX4_keep_87 : decode cX4_keep 87 = .ok (.getfield 69, 3) := by decide +kernel
theorem dX4_keep_90 : decode cX4_keep 90 = .ok (.iload 7, 2) := by decide +kernel
theorem dX4_keep_92 : decode cX4_keep 92 = .ok (.iaload, 1) := by decide +kernel
theorem dX4_keep_93 : decode cX4_keep 93 = .ok (.iastore, 1) := by decide +kernel
theorem dX4_keep_94 : decode cX4_keep 94 = .ok (.aload_n 0, 1) := by decide +kernel
theorem dX4_keep_95 : decode cX4_keep 95 = .ok (.getfield 18, 3) := by decide +kernel
theorem dX4_keep_98 : decode cX4_keep 98 = .ok (.iload 7, 2) := by decide +kernel
theorem dX4_keep_100 : decode cX4_keep 100 = .ok (.aload_n 2, 1) := by decide +kernel
theorem dX4_keep_101 : decode cX4_keep 101 = .ok (.getfield 70, 3) := by decide +kernel
theorem dX4_keep_104 : decode cX4_keep 104 = .ok (.iload 7, 2) := by decide +kernel
theorem dX4_keep_106 : decode cX4_keep 106 = .ok (.iaload, 1) := by decide +kernel
theorem dX4_keep_107 : decode cX4_keep 107 = .ok (.iastore, 1) := by decide +kernel
theorem dX4_keep_108 : decode cX4_keep 108 = .ok (.aload_n 0, 1) := by decide +kernel
theorem dX4_keep_109 : decode cX4_keep 109 = .ok (.getfield 21, 3) := by decide +kernel
theorem dX4_keep_112 : decode cX4_keep 112 = .ok (.iload 7, 2) := by decide +kernel
theorem dX4_keep_114 : decode cX4_keep 114 = .ok (.aload_n 3, 1) := by decide +kernel
theorem dX4_keep_115 : decode cX4_keep 115 = .ok (.getfield 71, 3) := by decide +kernel
theorem dX4_keep_118 : decode cX4_keep 118 = .ok (.iload 7, 2) := by decide +kernel
theorem dX4_keep_120 : decode cX4_keep 120 = .ok (.iaload, 1) := by decide +kernel
theorem dX4_keep_121 : decode cX4_keep 121 = .ok (.iastore, 1) := by decide +kernel
theorem dX4_keep_122 : decode cX4_keep 122 = .ok (.aload_n 0, 1) := by decide +kernel
theorem dX4_keep_123 : decode cX4_keep 123 = .ok (.getfield 24, 3) := by decide +kernel
theorem dX4_keep_126 : decode cX4_keep 126 = .ok (.iload 7, 2) := by decide +kernel
theorem dX4_keep_128 : decode cX4_keep 128 = .ok (.aload_n 3, 1) := by decide +kernel
theorem dX4_keep_129 : decode cX4_keep 129 = .ok (.getfield 74, 3) := by decide +kernel
theorem dX4_keep_132 : decode cX4_keep 132 = .ok (.iload 7, 2) := by decide +kernel
theorem dX4_keep_134 : decode cX4_keep 134 = .ok (.iaload, 1) := by decide +kernel
theorem dX4_keep_135 : decode cX4_keep 135 = .ok (.iastore, 1) := by decide +kernel
theorem dX4_keep_136 : decode cX4_keep 136 = .ok (.aload 4, 2) := by decide +kernel
theorem dX4_keep_138 : decode cX4_keep 138 = .ok (.getfield 75, 3) := by decide +kernel
theorem dX4_keep_141 : decode cX4_keep 141 = .ok (.iload 7, 2) := by decide +kernel
theorem dX4_keep_143 : decode cX4_keep 143 = .ok (.iaload, 1) := by decide +kernel
theorem dX4_keep_144 : decode cX4_keep 144 = .ok (.istore 8, 2) := by decide +kernel
theorem dX4_keep_146 : decode cX4_keep 146 = .ok (.aload_n 0, 1) := by decide +kernel
theorem dX4_keep_147 : decode cX4_keep 147 = .ok (.getfield 30, 3) := by decide +kernel
theorem dX4_keep_150 : decode cX4_keep 150 = .ok (.iload 7, 2) := by decide +kernel
theorem dX4_keep_152 : decode cX4_keep 152 = .ok (.iload 8, 2) := by decide +kernel
theorem dX4_keep_154 : decode cX4_keep 154 = .ok (.iconst (-1), 1) := by decide +kernel
theorem dX4_keep_155 : decode cX4_keep 155 = .ok (.if_icmp .ne 7, 3) := by decide +kernel
theorem dX4_keep_158 : decode cX4_keep 158 = .ok (.iconst 0, 1) := by decide +kernel
theorem dX4_keep_159 : decode cX4_keep 159 = .ok (.goto 11, 3) := by decide +kernel
theorem dX4_keep_162 : decode cX4_keep 162 = .ok (.aload 4, 2) := by decide +kernel
theorem dX4_keep_164 : decode cX4_keep 164 = .ok (.getfield 80, 3) := by decide +kernel
theorem dX4_keep_167 : decode cX4_keep 167 = .ok (.iload 8, 2) := by decide +kernel
theorem dX4_keep_169 : decode cX4_keep 169 = .ok (.iaload, 1) := by decide +kernel
theorem dX4_keep_170 : decode cX4_keep 170 = .ok (.iastore, 1) := by decide +kernel
theorem dX4_keep_171 : decode cX4_keep 171 = .ok (.aload_n 0, 1) := by decide +kernel
theorem dX4_keep_172 : decode cX4_keep 172 = .ok (.getfield 27, 3) := by decide +kernel
theorem dX4_keep_175 : decode cX4_keep 175 = .ok (.iload 7, 2) := by decide +kernel
theorem dX4_keep_177 : decode cX4_keep 177 = .ok (.aload_n 0, 1) := by decide +kernel
theorem dX4_keep_178 : decode cX4_keep 178 = .ok (.getfield 30, 3) := by decide +kernel
theorem dX4_keep_181 : decode cX4_keep 181 = .ok (.iload 7, 2) := by decide +kernel
theorem dX4_keep_183 : decode cX4_keep 183 = .ok (.iaload, 1) := by decide +kernel
theorem dX4_keep_184 : decode cX4_keep 184 = .ok (.invokestatic 83, 3) := by decide +kernel
theorem dX4_keep_187 : decode cX4_keep 187 = .ok (.iastore, 1) := by decide +kernel
theorem dX4_keep_188 : decode cX4_keep 188 = .ok (.iload 6, 2) := by decide +kernel
theorem dX4_keep_190 : decode cX4_keep 190 = .ok (.aload_n 0, 1) := by decide +kernel
theorem dX4_keep_191 : decode cX4_keep 191 = .ok (.getfield 27, 3) := by decide +kernel
theorem dX4_keep_194 : decode cX4_keep 194 = .ok (.iload 7, 2) := by decide +kernel
theorem dX4_keep_196 : decode cX4_keep 196 = .ok (.iaload, 1) := by decide +kernel
theorem dX4_keep_197 : decode cX4_keep 197 = .ok (.iadd, 1) := by decide +kernel
theorem dX4_keep_198 : decode cX4_keep 198 = .ok (.istore 6, 2) := by decide +kernel
theorem dX4_keep_200 : decode cX4_keep 200 = .ok (.aload_n 0, 1) := by decide +kernel
theorem dX4_keep_201 : decode cX4_keep 201 = .ok (.aload_n 1, 1) := by decide +kernel
theorem dX4_keep_202 : decode cX4_keep 202 = .ok (.aload_n 3, 1) := by decide +kernel
theorem dX4_keep_203 : decode cX4_keep 203 = .ok (.iload 7, 2) := by decide +kernel
theorem dX4_keep_205 : decode cX4_keep 205 = .ok (.invokevirtual 89, 3) := by decide +kernel
theorem dX4_keep_208 : decode cX4_keep 208 = .ok (.iinc 7 1, 3) := by decide +kernel
theorem dX4_keep_211 : decode cX4_keep 211 = .ok (.goto (-154), 3) := by decide +kernel
theorem dX4_keep_214 : decode cX4_keep 214 = .ok (.iload 6, 2) := by decide +kernel
theorem dX4_keep_216 : decode cX4_keep 216 = .ok (.ireturn, 1) := by decide +kernel
theorem dX4_isChild_0 : decode cX4_isChild 0 = .ok (.aload_n 0, 1) := by decide +kernel
theorem dX4_isChild_1 : decode cX4_isChild 1 = .ok (.getfield 51, 3) := by decide +kernel
theorem dX4_isChild_4 : decode cX4_isChild 4 = .ok (.ifCond .eq 19, 3) := by decide +kernel
theorem dX4_isChild_7 : decode cX4_isChild 7 = .ok (.iload_n 1, 1) := by decide +kernel
theorem dX4_isChild_8 : decode cX4_isChild 8 = .ok (.ifCond .lt 15, 3) := by decide +kernel
theorem dX4_isChild_11 : decode cX4_isChild 11 = .ok (.iload_n 1, 1) := by decide +kernel
theorem dX4_isChild_12 : decode cX4_isChild 12 = .ok (.aload_n 0, 1) := by decide +kernel
theorem dX4_isChild_13 : decode cX4_isChild 13 = .ok (.getfield 64, 3) := by decide +kernel
theorem dX4_isChild_16 : decode cX4_isChild 16 = .ok (.if_icmp .ge 7, 3) := by decide +kernel
theorem dX4_isChild_19 : decode cX4_isChild 19 = .ok (.iconst 1, 1) := by decide +kernel
theorem dX4_isChild_20 : decode cX4_isChild 20 = .ok (.goto 4, 3) := by decide +kernel
theorem dX4_isChild_23 : decode cX4_isChild 23 = .ok (.iconst 0, 1) := by decide +kernel
theorem dX4_isChild_24 : decode cX4_isChild 24 = .ok (.ireturn, 1) := by decide +kernel
theorem dX0_init_0 : decode cX0_init 0 = .ok (.aload_n 0, 1) := by decide +kernel
theorem dX0_init_1 : decode cX0_init 1 = .ok (.invokespecial 3, 3) := by decide +kernel
theorem dX0_init_4 : decode cX0_init 4 = .ok (.aload_n 0, 1) := by decide +kernel
theorem dX0_init_5 : decode cX0_init 5 = .ok (.bipush 40, 2) := by decide +kernel
theorem dX0_init_7 : decode cX0_init 7 = .ok (.newarray .int, 2) := by decide +kernel
theorem dX0_init_9 : decode cX0_init 9 = .ok (.putfield 9, 3) := by decide +kernel
theorem dX0_init_12 : decode cX0_init 12 = .ok (.aload_n 0, 1) := by decide +kernel
theorem dX0_init_13 : decode cX0_init 13 = .ok (.bipush 40, 2) := by decide +kernel
theorem dX0_init_15 : decode cX0_init 15 = .ok (.newarray .int, 2) := by decide +kernel
theorem dX0_init_17 : decode cX0_init 17 = .ok (.putfield 15, 3) := by decide +kernel
theorem dX0_init_20 : decode cX0_init 20 = .ok (.aload_n 0, 1) := by decide +kernel
theorem dX0_init_21 : decode cX0_init 21 = .ok (.bipush 40, 2) := by decide +kernel
theorem dX0_init_23 : decode cX0_init 23 = .ok (.newarray .int, 2) := by decide +kernel
theorem dX0_init_25 : decode cX0_init 25 = .ok (.putfield 18, 3) := by decide +kernel
theorem dX0_init_28 : decode cX0_init 28 = .ok (.aload_n 0, 1) := by decide +kernel
theorem dX0_init_29 : decode cX0_init 29 = .ok (.bipush 40, 2) := by decide +kernel
theorem dX0_init_31 : decode cX0_init 31 = .ok (.newarray .int, 2) := by decide +kernel
theorem dX0_init_33 : decode cX0_init 33 = .ok (.putfield 21, 3) := by decide +kernel
theorem dX0_init_36 : decode cX0_init 36 = .ok (.aload_n 0, 1) := by decide +kernel
theorem dX0_init_37 : decode cX0_init 37 = .ok (.bipush 9, 2) := by decide +kernel
theorem dX0_init_39 : decode cX0_init 39 = .ok (.newarray .int, 2) := by decide +kernel
theorem dX0_init_41 : decode cX0_init 41 = .ok (.putfield 24, 3) := by decide +kernel
theorem dX0_init_44 : decode cX0_init 44 = .ok (.aload_n 0, 1) := by decide +kernel
theorem dX0_init_45 : decode cX0_init 45 = .ok (.bipush 100, 2) := by decide +kernel
theorem dX0_init_47 : decode cX0_init 47 = .ok (.newarray .int, 2) := by decide +kernel
theorem dX0_init_49 : decode cX0_init 49 = .ok (.putfield 27, 3) := by decide +kernel
theorem dX0_init_52 : decode cX0_init 52 = .ok (.return_, 1) := by decide +kernel
theorem dX12_init_0 : decode cX12_init 0 = .ok (.aload_n 0, 1) := by decide +kernel
theorem dX12_init_1 : decode cX12_init 1 = .ok (.invokespecial 1, 3) := by decide +kernel
theorem dX12_init_4 : decode cX12_init 4 = .ok (.aload_n 0, 1) := by decide +kernel
theorem dX12_init_5 : decode cX12_init 5 = .ok (.sipush 1000, 3) := by decide +kernel
theorem dX12_init_8 : decode cX12_init 8 = .ok (.newarray .int, 2) := by decide +kernel
theorem dX12_init_10 : decode cX12_init 10 = .ok (.putfield 7, 3) := by decide +kernel
theorem dX12_init_13 : decode cX12_init 13 = .ok (.aload_n 0, 1) := by decide +kernel
theorem dX12_init_14 : decode cX12_init 14 = .ok (.iconst 0, 1) := by decide +kernel
theorem dX12_init_15 : decode cX12_init 15 = .ok (.putfield 13, 3) := by decide +kernel
theorem dX12_init_18 : decode cX12_init 18 = .ok (.aload_n 0, 1) := by decide +kernel
theorem dX12_init_19 : decode cX12_init 19 = .ok (.iconst 0, 1) := by decide +kernel
theorem dX12_init_20 : decode cX12_init 20 = .ok (.putfield 17, 3) := by decide +kernel
theorem dX12_init_23 : decode cX12_init 23 = .ok (.aload_n 0, 1) := by decide +kernel
theorem dX12_init_24 : decode cX12_init 24 = .ok (.iconst 0, 1) := by decide +kernel
theorem dX12_init_25 : decode cX12_init 25 = .ok (.putfield 20, 3) := by decide +kernel
theorem dX12_init_28 : decode cX12_init 28 = .ok (.aload_n 0, 1) := by decide +kernel
theorem dX12_init_29 : decode cX12_init 29 = .ok (.iconst 0, 1) := by decide +kernel
theorem dX12_init_30 : decode cX12_init 30 = .ok (.putfield 23, 3) := by decide +kernel
theorem dX12_init_33 : decode cX12_init 33 = .ok (.aload_n 0, 1) := by decide +kernel
theorem dX12_init_34 : decode cX12_init 34 = .ok (.iconst 0, 1) := by decide +kernel
theorem dX12_init_35 : decode cX12_init 35 = .ok (.putfield 26, 3) := by decide +kernel
theorem dX12_init_38 : decode cX12_init 38 = .ok (.aload_n 0, 1) := by decide +kernel
theorem dX12_init_39 : decode cX12_init 39 = .ok (.iconst 0, 1) := by decide +kernel
theorem dX12_init_40 : decode cX12_init 40 = .ok (.putfield 29, 3) := by decide +kernel
theorem dX12_init_43 : decode cX12_init 43 = .ok (.aload_n 0, 1) := by decide +kernel
theorem dX12_init_44 : decode cX12_init 44 = .ok (.lconst 0, 1) := by decide +kernel
theorem dX12_init_45 : decode cX12_init 45 = .ok (.putfield 32, 3) := by decide +kernel
theorem dX12_init_48 : decode cX12_init 48 = .ok (.aload_n 0, 1) := by decide +kernel
theorem dX12_init_49 : decode cX12_init 49 = .ok (.iconst 0, 1) := by decide +kernel
theorem dX12_init_50 : decode cX12_init 50 = .ok (.putfield 36, 3) := by decide +kernel
theorem dX12_init_53 : decode cX12_init 53 = .ok (.aload_n 0, 1) := by decide +kernel
theorem dX12_init_54 : decode cX12_init 54 = .ok (.iconst (-1), 1) := by decide +kernel
theorem dX12_init_55 : decode cX12_init 55 = .ok (.putfield 39, 3) := by decide +kernel
theorem dX12_init_58 : decode cX12_init 58 = .ok (.aload_n 0, 1) := by decide +kernel
theorem dX12_init_59 : decode cX12_init 59 = .ok (.iconst 0, 1) := by decide +kernel
theorem dX12_init_60 : decode cX12_init 60 = .ok (.putfield 42, 3) := by decide +kernel
theorem dX12_init_63 : decode cX12_init 63 = .ok (.aload_n 0, 1) := by decide +kernel
theorem dX12_init_64 : decode cX12_init 64 = .ok (.iconst (-1), 1) := by decide +kernel
theorem dX12_init_65 : decode cX12_init 65 = .ok (.putfield 45, 3) := by decide +kernel
theorem dX12_init_68 : decode cX12_init 68 = .ok (.aload_n 0, 1) := by decide +kernel
theorem dX12_init_69 : decode cX12_init 69 = .ok (.iconst 0, 1) := by decide +kernel
theorem dX12_init_70 : decode cX12_init 70 = .ok (.putfield 48, 3) := by decide +kernel
theorem dX12_init_73 : decode cX12_init 73 = .ok (.aload_n 0, 1) := by decide +kernel
theorem dX12_init_74 : decode cX12_init 74 = .ok (.iconst 0, 1) := by decide +kernel
theorem dX12_init_75 : decode cX12_init 75 = .ok (.putfield 51, 3) := by decide +kernel
theorem dX12_init_78 : decode cX12_init 78 = .ok (.aload_n 0, 1) := by decide +kernel
theorem dX12_init_79 : decode cX12_init 79 = .ok (.iconst 2, 1) := by decide +kernel
theorem dX12_init_80 : decode cX12_init 80 = .ok (.newarray .int, 2) := by decide +kernel
theorem dX12_init_82 : decode cX12_init 82 = .ok (.putfield 54, 3) := by decide +kernel
theorem dX12_init_85 : decode cX12_init 85 = .ok (.aload_n 0, 1) := by decide +kernel
theorem dX12_init_86 : decode cX12_init 86 = .ok (.iconst 2, 1) := by decide +kernel
theorem dX12_init_87 : decode cX12_init 87 = .ok (.newarray .int, 2) := by decide +kernel
theorem dX12_init_89 : decode cX12_init 89 = .ok (.putfield 57, 3) := by decide +kernel
theorem dX12_init_92 : decode cX12_init 92 = .ok (.aload_n 0, 1) := by decide +kernel
theorem dX12_init_93 : decode cX12_init 93 = .ok (.iconst 2, 1) := by decide +kernel
theorem dX12_init_94 : decode cX12_init 94 = .ok (.newarray .int, 2) := by decide +kernel
theorem dX12_init_96 : decode cX12_init 96 = .ok (.putfield 60, 3) := by decide +kernel
theorem dX12_init_99 : decode cX12_init 99 = .ok (.aload_n 0, 1) := by decide +kernel
theorem dX12_init_100 : decode cX12_init 100 = .ok (.iconst 2, 1) := by decide +kernel
theorem dX12_init_101 : decode cX12_init 101 = .ok (.newarray .int, 2) := by decide +kernel
theorem dX12_init_103 : decode cX12_init 103 = .ok (.dup, 1) := by decide +kernel
theorem dX12_init_104 : decode cX12_init 104 = .ok (.iconst 0, 1) := by decide +kernel
theorem dX12_init_105 : decode cX12_init 105 = .ok (.sipush 1000, 3) := by decide +kernel
theorem dX12_init_108 : decode cX12_init 108 = .ok (.iastore, 1) := by decide +kernel
theorem dX12_init_109 : decode cX12_init 109 = .ok (.dup, 1) := by decide +kernel
theorem dX12_init_110 : decode cX12_init 110 = .ok (.iconst 1, 1) := by decide +kernel
theorem dX12_init_111 : decode cX12_init 111 = .ok (.sipush 1000, 3) := by decide +kernel
theorem dX12_init_114 : decode cX12_init 114 = .ok (.iastore, 1) := by decide +kernel
theorem dX12_init_115 : decode cX12_init 115 = .ok (.putfield 63, 3) := by decide +kernel
theorem dX12_init_118 : decode cX12_init 118 = .ok (.aload_n 0, 1) := by decide +kernel
theorem dX12_init_119 : decode cX12_init 119 = .ok (.bipush 20, 2) := by decide +kernel
theorem dX12_init_121 : decode cX12_init 121 = .ok (.newarray .long, 2) := by decide +kernel
theorem dX12_init_123 : decode cX12_init 123 = .ok (.putfield 66, 3) := by decide +kernel
theorem dX12_init_126 : decode cX12_init 126 = .ok (.aload_n 0, 1) := by decide +kernel
theorem dX12_init_127 : decode cX12_init 127 = .ok (.bipush 16, 2) := by decide +kernel
theorem dX12_init_129 : decode cX12_init 129 = .ok (.newarray .long, 2) := by decide +kernel
theorem dX12_init_131 : decode cX12_init 131 = .ok (.putfield 70, 3) := by decide +kernel
theorem dX12_init_134 : decode cX12_init 134 = .ok (.aload_n 0, 1) := by decide +kernel
theorem dX12_init_135 : decode cX12_init 135 = .ok (.bipush 20, 2) := by decide +kernel
theorem dX12_init_137 : decode cX12_init 137 = .ok (.newarray .int, 2) := by decide +kernel
theorem dX12_init_139 : decode cX12_init 139 = .ok (.putfield 73, 3) := by decide +kernel
theorem dX12_init_142 : decode cX12_init 142 = .ok (.aload_n 0, 1) := by decide +kernel
theorem dX12_init_143 : decode cX12_init 143 = .ok (.bipush 20, 2) := by decide +kernel
theorem dX12_init_145 : decode cX12_init 145 = .ok (.newarray .int, 2) := by decide +kernel
theorem dX12_init_147 : decode cX12_init 147 = .ok (.putfield 76, 3) := by decide +kernel
theorem dX12_init_150 : decode cX12_init 150 = .ok (.aload_n 0, 1) := by decide +kernel
theorem dX12_init_151 : decode cX12_init 151 = .ok (.bipush 20, 2) := by decide +kernel
theorem dX12_init_153 : decode cX12_init 153 = .ok (.newarray .int, 2) := by decide +kernel
theorem dX12_init_155 : decode cX12_init 155 = .ok (.putfield 79, 3) := by decide +kernel
theorem dX12_init_158 : decode cX12_init 158 = .ok (.aload_n 0, 1) := by decide +kernel
theorem dX12_init_159 : decode cX12_init 159 = .ok (.bipush 20, 2) := by decide +kernel
theorem dX12_init_161 : decode cX12_init 161 = .ok (.newarray .int, 2) := by decide +kernel
theorem dX12_init_163 : decode cX12_init 163 = .ok (.putfield 82, 3) := by decide +kernel
theorem dX12_init_166 : decode cX12_init 166 = .ok (.aload_n 0, 1) := by decide +kernel
theorem dX12_init_167 : decode cX12_init 167 = .ok (.sipush 336, 3) := by decide +kernel
theorem dX12_init_170 : decode cX12_init 170 = .ok (.newarray .int, 2) := by decide +kernel
theorem dX12_init_172 : decode cX12_init 172 = .ok (.putfield 85, 3) := by decide +kernel
theorem dX12_init_175 : decode cX12_init 175 = .ok (.aload_n 0, 1) := by decide +kernel
theorem dX12_init_176 : decode cX12_init 176 = .ok (.sipush 4400, 3) := by decide +kernel
theorem dX12_init_179 : decode cX12_init 179 = .ok (.newarray .int, 2) := by decide +kernel
theorem dX12_init_181 : decode cX12_init 181 = .ok (.putfield 88, 3) := by decide +kernel
theorem dX12_init_184 : decode cX12_init 184 = .ok (.aload_n 0, 1) := by decide +kernel
theorem dX12_init_185 : decode cX12_init 185 = .ok (.iconst 2, 1) := by decide +kernel
theorem dX12_init_186 : decode cX12_init 186 = .ok (.newarray .int, 2) := by decide +kernel
theorem dX12_init_188 : decode cX12_init 188 = .ok (.putfield 91, 3) := by decide +kernel
theorem dX12_init_191 : decode cX12_init 191 = .ok (.aload_n 0, 1) := by decide +kernel
theorem dX12_init_192 : decode cX12_init 192 = .ok (.sipush 2200, 3) := by decide +kernel
theorem dX12_init_195 : decode cX12_init 195 = .ok (.newarray .long, 2) := by decide +kernel
theorem dX12_init_197 : decode cX12_init 197 = .ok (.putfield 94, 3) := by decide +kernel
theorem dX12_init_200 : decode cX12_init 200 = .ok (.aload_n 0, 1) := by decide +kernel
theorem dX12_init_201 : decode cX12_init 201 = .ok (.bipush 20, 2) := by decide +kernel
theorem dX12_init_203 : decode cX12_init 203 = .ok (.newarray .int, 2) := by decide +kernel
theorem dX12_init_205 : decode cX12_init 205 = .ok (.putfield 97, 3) := by decide +kernel
theorem dX12_init_208 : decode cX12_init 208 = .ok (.aload_n 0, 1) := by decide +kernel
theorem dX12_init_209 : decode cX12_init 209 = .ok (.bipush 20, 2) := by decide +kernel
theorem dX12_init_211 : decode cX12_init 211 = .ok (.newarray .int, 2) := by decide +kernel
theorem dX12_init_213 : decode cX12_init 213 = .ok (.putfield 100, 3) := by decide +kernel
theorem dX12_init_216 : decode cX12_init 216 = .ok (.aload_n 0, 1) := by decide +kernel
theorem dX12_init_217 : decode cX12_init 217 = .ok (.bipush 20, 2) := by decide +kernel
theorem dX12_init_219 : decode cX12_init 219 = .ok (.newarray .boolean, 2) := by decide +kernel
theorem dX12_init_221 : decode cX12_init 221 = .ok (.putfield 103, 3) := by decide +kernel
theorem dX12_init_224 : decode cX12_init 224 = .ok (.aload_n 0, 1) := by decide +kernel
theorem dX12_init_225 : decode cX12_init 225 = .ok (.bipush 20, 2) := by decide +kernel
theorem dX12_init_227 : decode cX12_init 227 = .ok (.newarray .int, 2) := by decide +kernel
theorem dX12_init_229 : decode cX12_init 229 = .ok (.putfield 107, 3) := by decide +kernel
theorem dX12_init_232 : decode cX12_init 232 = .ok (.aload_n 0, 1) := by decide +kernel
theorem dX12_init_233 : decode cX12_init 233 = .ok (.iconst 0, 1) := by decide +kernel
theorem dX12_init_234 : decode cX12_init 234 = .ok (.putfield 110, 3) := by decide +kernel
theorem dX12_init_237 : decode cX12_init 237 = .ok (.aload_n 0, 1) := by decide +kernel
theorem dX12_init_238 : decode cX12_init 238 = .ok (.iconst 0, 1) := by decide +kernel
theorem dX12_init_239 : decode cX12_init 239 = .ok (.putfield 113, 3) := by decide +kernel
theorem dX12_init_242 : decode cX12_init 242 = .ok (.aload_n 0, 1) := by decide +kernel
theorem dX12_init_243 : decode cX12_init 243 = .ok (.sipush 400, 3) := by decide +kernel
theorem dX12_init_246 : decode cX12_init 246 = .ok (.newarray .int, 2) := by decide +kernel
theorem dX12_init_248 : decode cX12_init 248 = .ok (.putfield 116, 3) := by decide +kernel
theorem dX12_init_251 : decode cX12_init 251 = .ok (.aload_n 0, 1) := by decide +kernel
theorem dX12_init_252 : decode cX12_init 252 = .ok (.iconst 0, 1) := by decide +kernel
theorem dX12_init_253 : decode cX12_init 253 = .ok (.putfield 119, 3) := by decide +kernel
theorem dX12_init_256 : decode cX12_init 256 = .ok (.aload_n 0, 1) := by decide +kernel
theorem dX12_init_257 : decode cX12_init 257 = .ok (.iconst 0, 1) := by decide +kernel
theorem dX12_init_258 : decode cX12_init 258 = .ok (.putfield 122, 3) := by decide +kernel
theorem dX12_init_261 : decode cX12_init 261 = .ok (.aload_n 0, 1) := by decide +kernel
theorem dX12_init_262 : decode cX12_init 262 = .ok (.iconst 0, 1) := by decide +kernel
theorem dX12_init_263 : decode cX12_init 263 = .ok (.putfield 126, 3) := by decide +kernel
theorem dX12_init_266 : decode cX12_init 266 = .ok (.aload_n 0, 1) := by decide +kernel
theorem dX12_init_267 : decode cX12_init 267 = .ok (.iconst 0, 1) := by decide +kernel
theorem dX12_init_268 : decode cX12_init 268 = .ok (.putfield 129, 3) := by decide +kernel
theorem dX12_init_271 : decode cX12_init 271 = .ok (.aload_n 0, 1) := by decide +kernel
theorem dX12_init_272 : decode cX12_init 272 = .ok (.iconst (-1), 1) := by decide +kernel
theorem dX12_init_273 : decode cX12_init 273 = .ok (.putfield 132, 3) := by decide +kernel
theorem dX12_init_276 : decode cX12_init 276 = .ok (.aload_n 0, 1) := by decide +kernel
theorem dX12_init_277 : decode cX12_init 277 = .ok (.sipush 201, 3) := by decide +kernel
theorem dX12_init_280 : decode cX12_init 280 = .ok (.newarray .int, 2) := by decide +kernel
theorem dX12_init_282 : decode cX12_init 282 = .ok (.putfield 135, 3) := by decide +kernel
theorem dX12_init_285 : decode cX12_init 285 = .ok (.aload_n 0, 1) := by decide +kernel
theorem dX12_init_286 : decode cX12_init 286 = .ok (.sipush 1005, 3) := by decide +kernel
theorem dX12_init_289 : decode cX12_init 289 = .ok (.newarray .int, 2) := by decide +kernel
theorem dX12_init_291 : decode cX12_init 291 = .ok (.putfield 138, 3) := by decide +kernel
theorem dX12_init_294 : decode cX12_init 294 = .ok (.aload_n 0, 1) := by decide +kernel
theorem dX12_init_295 : decode cX12_init 295 = .ok (.sipush 201, 3) := by decide +kernel
theorem dX12_init_298 : decode cX12_init 298 = .ok (.newarray .int, 2) := by decide +kernel
theorem dX12_init_300 : decode cX12_init 300 = .ok (.putfield 141, 3) := by decide +kernel
theorem dX12_init_303 : decode cX12_init 303 = .ok (.aload_n 0, 1) := by decide +kernel
theorem dX12_init_304 : decode cX12_init 304 = .ok (.sipush 603, 3) := by decide +kernel
theorem dX12_init_307 : decode cX12_init 307 = .ok (.newarray .long, 2) := by decide +kernel
theorem dX12_init_309 : decode cX12_init 309 = .ok (.putfield 144, 3) := by decide +kernel
theorem dX12_init_312 : decode cX12_init 312 = .ok (.aload_n 0, 1) := by decide +kernel
theorem dX12_init_313 : decode cX12_init 313 = .ok (.iconst 3, 1) := by decide +kernel
theorem dX12_init_314 : decode cX12_init 314 = .ok (.newarray .long, 2) := by decide +kernel
theorem dX12_init_316 : decode cX12_init 316 = .ok (.putfield 147, 3) := by decide +kernel
theorem dX12_init_319 : decode cX12_init 319 = .ok (.aload_n 0, 1) := by decide +kernel
theorem dX12_init_320 : decode cX12_init 320 = .ok (.iconst 0, 1) := by decide +kernel
theorem dX12_init_321 : decode cX12_init 321 = .ok (.putfield 150, 3) := by decide +kernel
theorem dX12_init_324 : decode cX12_init 324 = .ok (.aload_n 0, 1) := by decide +kernel
theorem dX12_init_325 : decode cX12_init 325 = .ok (.bipush 40, 2) := by decide +kernel
theorem dX12_init_327 : decode cX12_init 327 = .ok (.newarray .int, 2) := by decide +kernel
theorem dX12_init_329 : decode cX12_init 329 = .ok (.putfield 153, 3) := by decide +kernel
theorem dX12_init_332 : decode cX12_init 332 = .ok (.aload_n 0, 1) := by decide +kernel
theorem dX12_init_333 : decode cX12_init 333 = .ok (.bipush 40, 2) := by decide +kernel
theorem dX12_init_335 : decode cX12_init 335 = .ok (.newarray .int, 2) := by decide +kernel
theorem dX12_init_337 : decode cX12_init 337 = .ok (.putfield 156, 3) := by decide +kernel
theorem dX12_init_340 : decode cX12_init 340 = .ok (.aload_n 0, 1) := by decide +kernel
theorem dX12_init_341 : decode cX12_init 341 = .ok (.bipush 40, 2) := by decide +kernel
theorem dX12_init_343 : decode cX12_init 343 = .ok (.newarray .int, 2) := by decide +kernel
theorem dX12_init_345 : decode cX12_init 345 = .ok (.putfield 159, 3) := by decide +kernel
theorem dX12_init_348 : decode cX12_init 348 = .ok (.aload_n 0, 1) := by decide +kernel
theorem dX12_init_349 : decode cX12_init 349 = .ok (.bipush 40, 2) := by decide +kernel
theorem dX12_init_351 : decode cX12_init 351 = .ok (.newarray .int, 2) := by decide +kernel
theorem dX12_init_353 : decode cX12_init 353 = .ok (.putfield 162, 3) := by decide +kernel
theorem dX12_init_356 : decode cX12_init 356 = .ok (.aload_n 0, 1) := by decide +kernel
theorem dX12_init_357 : decode cX12_init 357 = .ok (.bipush 40, 2) := by decide +kernel
theorem dX12_init_359 : decode cX12_init 359 = .ok (.newarray .int, 2) := by decide +kernel
theorem dX12_init_361 : decode cX12_init 361 = .ok (.putfield 165, 3) := by decide +kernel
theorem dX12_init_364 : decode cX12_init 364 = .ok (.aload_n 0, 1) := by decide +kernel
theorem dX12_init_365 : decode cX12_init 365 = .ok (.bipush 40, 2) := by decide +kernel
theorem dX12_init_367 : decode cX12_init 367 = .ok (.newarray .int, 2) := by decide +kernel
theorem dX12_init_369 : decode cX12_init 369 = .ok (.putfield 168, 3) := by decide +kernel
theorem dX12_init_372 : decode cX12_init 372 = .ok (.aload_n 0, 1) := by decide +kernel
theorem dX12_init_373 : decode cX12_init 373 = .ok (.bipush 40, 2) := by decide +kernel
theorem dX12_init_375 : decode cX12_init 375 = .ok (.newarray .int, 2) := by decide +kernel
theorem dX12_init_377 : decode cX12_init 377 = .ok (.putfield 171, 3) := by decide +kernel
theorem dX12_init_380 : decode cX12_init 380 = .ok (.aload_n 0, 1) := by decide +kernel
theorem dX12_init_381 : decode cX12_init 381 = .ok (.bipush 40, 2) := by decide +kernel
theorem dX12_init_383 : decode cX12_init 383 = .ok (.newarray .int, 2) := by decide +kernel
theorem dX12_init_385 : decode cX12_init 385 = .ok (.putfield 174, 3) := by decide +kernel
theorem dX12_init_388 : decode cX12_init 388 = .ok (.aload_n 0, 1) := by decide +kernel
theorem dX12_init_389 : decode cX12_init 389 = .ok (.sipush 160, 3) := by decide +kernel
theorem dX12_init_392 : decode cX12_init 392 = .ok (.newarray .long, 2) := by decide +kernel
theorem dX12_init_394 : decode cX12_init 394 = .ok (.putfield 177, 3) := by decide +kernel
theorem dX12_init_397 : decode cX12_init 397 = .ok (.aload_n 0, 1) := by decide +kernel
theorem dX12_init_398 : decode cX12_init 398 = .ok (.bipush 40, 2) := by decide +kernel
theorem dX12_init_400 : decode cX12_init 400 = .ok (.newarray .int, 2) := by decide +kernel
theorem dX12_init_402 : decode cX12_init 402 = .ok (.putfield 180, 3) := by decide +kernel
theorem dX12_init_405 : decode cX12_init 405 = .ok (.aload_n 0, 1) := by decide +kernel
theorem dX12_init_406 : decode cX12_init 406 = .ok (.sipush 201, 3) := by decide +kernel
theorem dX12_init_409 : decode cX12_init 409 = .ok (.newarray .int, 2) := by decide +kernel
theorem dX12_init_411 : decode cX12_init 411 = .ok (.putfield 183, 3) := by decide +kernel
theorem dX12_init_414 : decode cX12_init 414 = .ok (.aload_n 0, 1) := by decide +kernel
theorem dX12_init_415 : decode cX12_init 415 = .ok (.sipush 1200, 3) := by decide +kernel
theorem dX12_init_418 : decode cX12_init 418 = .ok (.newarray .long, 2) := by decide +kernel
theorem dX12_init_420 : decode cX12_init 420 = .ok (.putfield 186, 3) := by decide +kernel
theorem dX12_init_423 : decode cX12_init 423 = .ok (.aload_n 0, 1) := by decide +kernel
theorem dX12_init_424 : decode cX12_init 424 = .ok (.sipush 2200, 3) := by decide +kernel
theorem dX12_init_427 : decode cX12_init 427 = .ok (.newarray .int, 2) := by decide +kernel
theorem dX12_init_429 : decode cX12_init 429 = .ok (.putfield 189, 3) := by decide +kernel
theorem dX12_init_432 : decode cX12_init 432 = .ok (.aload_n 0, 1) := by decide +kernel
theorem dX12_init_433 : decode cX12_init 433 = .ok (.sipush 2200, 3) := by decide +kernel
theorem dX12_init_436 : decode cX12_init 436 = .ok (.newarray .int, 2) := by decide +kernel
theorem dX12_init_438 : decode cX12_init 438 = .ok (.putfield 192, 3) := by decide +kernel
theorem dX12_init_441 : decode cX12_init 441 = .ok (.aload_n 0, 1) := by decide +kernel
theorem dX12_init_442 : decode cX12_init 442 = .ok (.sipush 2200, 3) := by decide +kernel
theorem dX12_init_445 : decode cX12_init 445 = .ok (.newarray .int, 2) := by decide +kernel
theorem dX12_init_447 : decode cX12_init 447 = .ok (.putfield 195, 3) := by decide +kernel
theorem dX12_init_450 : decode cX12_init 450 = .ok (.aload_n 0, 1) := by decide +kernel
theorem dX12_init_451 : decode cX12_init 451 = .ok (.sipush 2200, 3) := by decide +kernel
theorem dX12_init_454 : decode cX12_init 454 = .ok (.newarray .long, 2) := by decide +kernel
theorem dX12_init_456 : decode cX12_init 456 = .ok (.putfield 198, 3) := by decide +kernel
theorem dX12_init_459 : decode cX12_init 459 = .ok (.aload_n 0, 1) := by decide +kernel
theorem dX12_init_460 : decode cX12_init 460 = .ok (.iconst 0, 1) := by decide +kernel
theorem dX12_init_461 : decode cX12_init 461 = .ok (.putfield 201, 3) := by decide +kernel
theorem dX12_init_464 : decode cX12_init 464 = .ok (.aload_n 0, 1) := by decide +kernel
theorem dX12_init_465 : decode cX12_init 465 = .ok (.sipush 290, 3) := by decide +kernel
theorem dX12_init_468 : decode cX12_init 468 = .ok (.newarray .long, 2) := by decide +kernel
theorem dX12_init_470 : decode cX12_init 470 = .ok (.putfield 204, 3) := by decide +kernel
theorem dX12_init_473 : decode cX12_init 473 = .ok (.aload_n 0, 1) := by decide +kernel
theorem dX12_init_474 : decode cX12_init 474 = .ok (.sipush 290, 3) := by decide +kernel
theorem dX12_init_477 : decode cX12_init 477 = .ok (.newarray .int, 2) := by decide +kernel
theorem dX12_init_479 : decode cX12_init 479 = .ok (.putfield 207, 3) := by decide +kernel
theorem dX12_init_482 : decode cX12_init 482 = .ok (.aload_n 0, 1) := by decide +kernel
theorem dX12_init_483 : decode cX12_init 483 = .ok (.sipush 400, 3) := by decide +kernel
theorem dX12_init_486 : decode cX12_init 486 = .ok (.newarray .int, 2) := by decide +kernel
theorem dX12_init_488 : decode cX12_init 488 = .ok (.putfield 210, 3) := by decide +kernel
theorem dX12_init_491 : decode cX12_init 491 = .ok (.aload_n 0, 1) := by decide +kernel
theorem dX12_init_492 : decode cX12_init 492 = .ok (.sipush 400, 3) := by decide +kernel
theorem dX12_init_495 : decode cX12_init 495 = .ok (.newarray .boolean, 2) := by decide +kernel
theorem dX12_init_497 : decode cX12_init 497 = .ok (.putfield 213, 3) := by decide +kernel
theorem dX12_init_500 : decode cX12_init 500 = .ok (.aload_n 0, 1) := by decide +kernel
theorem dX12_init_501 : decode cX12_init 501 = .ok (.sipush 250, 3) := by decide +kernel
theorem dX12_init_504 : decode cX12_init 504 = .ok (.newarray .int, 2) := by decide +kernel
theorem dX12_init_506 : decode cX12_init 506 = .ok (.putfield 216, 3) := by decide +kernel
theorem dX12_init_509 : decode cX12_init 509 = .ok (.aload_n 0, 1) := by decide +kernel
theorem dX12_init_510 : decode cX12_init 510 = .ok (.iconst 0, 1) := by decide +kernel
theorem dX12_init_511 : decode cX12_init 511 = .ok (.putfield 219, 3) := by decide +kernel
theorem dX12_init_514 : decode cX12_init 514 = .ok (.aload_n 0, 1) := by decide +kernel
theorem dX12_init_515 : decode cX12_init 515 = .ok (.iconst 0, 1) := by decide +kernel
theorem dX12_init_516 : decode cX12_init 516 = .ok (.putfield 222, 3) := by decide +kernel
theorem dX12_init_519 : decode cX12_init 519 = .ok (.aload_n 0, 1) := by decide +kernel
theorem dX12_init_520 : decode cX12_init 520 = .ok (.bipush 40, 2) := by decide +kernel
theorem dX12_init_522 : decode cX12_init 522 = .ok (.newarray .int, 2) := by decide +kernel
theorem dX12_init_524 : decode cX12_init 524 = .ok (.putfield 225, 3) := by decide +kernel
theorem dX12_init_527 : decode cX12_init 527 = .ok (.aload_n 0, 1) := by decide +kernel
theorem dX12_init_528 : decode cX12_init 528 = .ok (.bipush 40, 2) := by decide +kernel
theorem dX12_init_530 : decode cX12_init 530 = .ok (.newarray .int, 2) := by decide +kernel
theorem dX12_init_532 : decode cX12_init 532 = .ok (.putfield 228, 3) := by decide +kernel
theorem dX12_init_535 : decode cX12_init 535 = .ok (.aload_n 0, 1) := by decide +kernel
theorem dX12_init_536 : decode cX12_init 536 = .ok (.bipush 40, 2) := by decide +kernel
theorem dX12_init_538 : decode cX12_init 538 = .ok (.newarray .int, 2) := by decide +kernel
theorem dX12_init_540 : decode cX12_init 540 = .ok (.putfield 231, 3) := by decide +kernel
theorem dX12_init_543 : decode cX12_init 543 = .ok (.aload_n 0, 1) := by decide +kernel
theorem dX12_init_544 : decode cX12_init 544 = .ok (.bipush 40, 2) := by decide +kernel
theorem dX12_init_546 : decode cX12_init 546 = .ok (.newarray .int, 2) := by decide +kernel
theorem dX12_init_548 : decode cX12_init 548 = .ok (.putfield 234, 3) := by decide +kernel
theorem dX12_init_551 : decode cX12_init 551 = .ok (.aload_n 0, 1) := by decide +kernel
theorem dX12_init_552 : decode cX12_init 552 = .ok (.sipush 400, 3) := by decide +kernel
theorem dX12_init_555 : decode cX12_init 555 = .ok (.newarray .boolean, 2) := by decide +kernel
theorem dX12_init_557 : decode cX12_init 557 = .ok (.putfield 237, 3) := by decide +kernel
theorem dX12_init_560 : decode cX12_init 560 = .ok (.aload_n 0, 1) := by decide +kernel
theorem dX12_init_561 : decode cX12_init 561 = .ok (.bipush 40, 2) := by decide +kernel
theorem dX12_init_563 : decode cX12_init 563 = .ok (.newarray .int, 2) := by decide +kernel
theorem dX12_init_565 : decode cX12_init 565 = .ok (.putfield 240, 3) := by decide +kernel
theorem dX12_init_568 : decode cX12_init 568 = .ok (.aload_n 0, 1) := by decide +kernel
theorem dX12_init_569 : decode cX12_init 569 = .ok (.bipush 40, 2) := by decide +kernel
theorem dX12_init_571 : decode cX12_init 571 = .ok (.newarray .int, 2) := by decide +kernel
theorem dX12_init_573 : decode cX12_init 573 = .ok (.putfield 243, 3) := by decide +kernel
theorem dX12_init_576 : decode cX12_init 576 = .ok (.aload_n 0, 1) := by decide +kernel
theorem dX12_init_577 : decode cX12_init 577 = .ok (.bipush 10, 2) := by decide +kernel
theorem dX12_init_579 : decode cX12_init 579 = .ok (.newarray .int, 2) := by decide +kernel
theorem dX12_init_581 : decode cX12_init 581 = .ok (.putfield 246, 3) := by decide +kernel
theorem dX12_init_584 : decode cX12_init 584 = .ok (.aload_n 0, 1) := by decide +kernel
theorem dX12_init_585 : decode cX12_init 585 = .ok (.iconst 0, 1) := by decide +kernel
theorem dX12_init_586 : decode cX12_init 586 = .ok (.putfield 249, 3) := by decide +kernel
theorem dX12_init_589 : decode cX12_init 589 = .ok (.aload_n 0, 1) := by decide +kernel
theorem dX12_init_590 : decode cX12_init 590 = .ok (.iconst 0, 1) := by decide +kernel
theorem dX12_init_591 : decode cX12_init 591 = .ok (.putfield 252, 3) := by decide +kernel
theorem dX12_init_594 : decode cX12_init 594 = .ok (.aload_n 0, 1) := by decide +kernel
theorem dX12_init_595 : decode cX12_init 595 = .ok (.iconst 0, 1) := by decide +kernel
theorem dX12_init_596 : decode cX12_init 596 = .ok (.putfield 255, 3) := by decide +kernel
theorem dX12_init_599 : decode cX12_init 599 = .ok (.aload_n 0, 1) := by decide +kernel
theorem dX12_init_600 : decode cX12_init 600 = .ok (.iconst 0, 1) := by decide +kernel
theorem dX12_init_601 : decode cX12_init 601 = .ok (.putfield 258, 3) := by decide +kernel
theorem dX12_init_604 : decode cX12_init 604 = .ok (.aload_n 0, 1) := by decide +kernel
theorem dX12_init_605 : decode cX12_init 605 = .ok (.bipush 10, 2) := by decide +kernel
theorem dX12_init_607 : decode cX12_init 607 = .ok (.newarray .int, 2) := by decide +kernel
theorem dX12_init_609 : decode cX12_init 609 = .ok (.putfield 261, 3) := by decide +kernel
theorem dX12_init_612 : decode cX12_init 612 = .ok (.aload_n 0, 1) := by decide +kernel
theorem dX12_init_613 : decode cX12_init 613 = .ok (.iconst 0, 1) := by decide +kernel
theorem dX12_init_614 : decode cX12_init 614 = .ok (.putfield 264, 3) := by decide +kernel
theorem dX12_init_617 : decode cX12_init 617 = .ok (.aload_n 0, 1) := by decide +kernel
theorem dX12_init_618 : decode cX12_init 618 = .ok (.bipush 40, 2) := by decide +kernel
theorem dX12_init_620 : decode cX12_init 620 = .ok (.newarray .int, 2) := by decide +kernel
theorem dX12_init_622 : decode cX12_init 622 = .ok (.putfield 267, 3) := by decide +kernel
theorem dX12_init_625 : decode cX12_init 625 = .ok (.aload_n 0, 1) := by decide +kernel
theorem dX12_init_626 : decode cX12_init 626 = .ok (.bipush 40, 2) := by decide +kernel
theorem dX12_init_628 : decode cX12_init 628 = .ok (.newarray .int, 2) := by decide +kernel
theorem dX12_init_630 : decode cX12_init 630 = .ok (.putfield 270, 3) := by decide +kernel
theorem dX12_init_633 : decode cX12_init 633 = .ok (.aload_n 0, 1) := by decide +kernel
theorem dX12_init_634 : decode cX12_init 634 = .ok (.bipush 40, 2) := by decide +kernel
theorem dX12_init_636 : decode cX12_init 636 = .ok (.newarray .boolean, 2) := by decide +kernel
theorem dX12_init_638 : decode cX12_init 638 = .ok (.putfield 273, 3) := by decide +kernel
theorem dX12_init_641 : decode cX12_init 641 = .ok (.aload_n 0, 1) := by decide +kernel
theorem dX12_init_642 : decode cX12_init 642 = .ok (.bipush 40, 2) := by decide +kernel
theorem dX12_init_644 : decode cX12_init 644 = .ok (.newarray .int, 2) := by decide +kernel
theorem dX12_init_646 : decode cX12_init 646 = .ok (.putfield 276, 3) := by decide +kernel
theorem dX12_init_649 : decode cX12_init 649 = .ok (.aload_n 0, 1) := by decide +kernel
theorem dX12_init_650 : decode cX12_init 650 = .ok (.iconst 0, 1) := by decide +kernel
theorem dX12_init_651 : decode cX12_init 651 = .ok (.putfield 279, 3) := by decide +kernel
theorem dX12_init_654 : decode cX12_init 654 = .ok (.aload_n 0, 1) := by decide +kernel
theorem dX12_init_655 : decode cX12_init 655 = .ok (.bipush 40, 2) := by decide +kernel
theorem dX12_init_657 : decode cX12_init 657 = .ok (.newarray .int, 2) := by decide +kernel
theorem dX12_init_659 : decode cX12_init 659 = .ok (.putfield 282, 3) := by decide +kernel
theorem dX12_init_662 : decode cX12_init 662 = .ok (.aload_n 0, 1) := by decide +kernel
theorem dX12_init_663 : decode cX12_init 663 = .ok (.bipush 40, 2) := by decide +kernel
theorem dX12_init_665 : decode cX12_init 665 = .ok (.newarray .int, 2) := by decide +kernel
theorem dX12_init_667 : decode cX12_init 667 = .ok (.putfield 285, 3) := by decide +kernel
theorem dX12_init_670 : decode cX12_init 670 = .ok (.aload_n 0, 1) := by decide +kernel
theorem dX12_init_671 : decode cX12_init 671 = .ok (.bipush 9, 2) := by decide +kernel
theorem dX12_init_673 : decode cX12_init 673 = .ok (.newarray .int, 2) := by decide +kernel
theorem dX12_init_675 : decode cX12_init 675 = .ok (.putfield 288, 3) := by decide +kernel
theorem dX12_init_678 : decode cX12_init 678 = .ok (.aload_n 0, 1) := by decide +kernel
theorem dX12_init_679 : decode cX12_init 679 = .ok (.sipush 200, 3) := by decide +kernel
theorem dX12_init_682 : decode cX12_init 682 = .ok (.newarray .int, 2) := by decide +kernel
theorem dX12_init_684 : decode cX12_init 684 = .ok (.putfield 291, 3) := by decide +kernel
theorem dX12_init_687 : decode cX12_init 687 = .ok (.aload_n 0, 1) := by decide +kernel
theorem dX12_init_688 : decode cX12_init 688 = .ok (.iconst 0, 1) := by decide +kernel
theorem dX12_init_689 : decode cX12_init 689 = .ok (.putfield 294, 3) := by decide +kernel
theorem dX12_init_692 : decode cX12_init 692 = .ok (.return_, 1) := by decide +kernel
theorem dX12_is_0 : decode cX12_is 0 = .ok (.iload_n 0, 1) := by decide +kernel
theorem dX12_is_1 : decode cX12_is 1 = .ok (.iload_n 1, 1) := by decide +kernel
theorem dX12_is_2 : decode cX12_is 2 = .ok (.if_icmp .lt 12, 3) := by decide +kernel
theorem dX12_is_5 : decode cX12_is 5 = .ok (.iload_n 0, 1) := by decide +kernel
theorem dX12_is_6 : decode cX12_is 6 = .ok (.iload_n 2, 1) := by decide +kernel
theorem dX12_is_7 : decode cX12_is 7 = .ok (.if_icmp .gt 7, 3) := by decide +kernel
theorem dX12_is_10 : decode cX12_is 10 = .ok (.iconst 1, 1) := by decide +kernel
theorem dX12_is_11 : decode cX12_is 11 = .ok (.goto 4, 3) := by decide +kernel
theorem dX12_is_14 : decode cX12_is 14 = .ok (.iconst 0, 1) := by decide +kernel
theorem dX12_is_15 : decode cX12_is 15 = .ok (.ireturn, 1) := by decide +kernel
theorem dX12_put_0 : decode cX12_put 0 = .ok (.bipush 24, 2) := by decide +kernel
theorem dX12_put_2 : decode cX12_put 2 = .ok (.istore_n 2, 1) := by decide +kernel
theorem dX12_put_3 : decode cX12_put 3 = .ok (.iload_n 2, 1) := by decide +kernel
theorem dX12_put_4 : decode cX12_put 4 = .ok (.ifCond .lt 35, 3) := by decide +kernel
theorem dX12_put_7 : decode cX12_put 7 = .ok (.aload_n 0, 1) := by decide +kernel
theorem dX12_put_8 : decode cX12_put 8 = .ok (.getfield 7, 3) := by decide +kernel
theorem dX12_put_11 : decode cX12_put 11 = .ok (.aload_n 0, 1) := by decide +kernel
theorem dX12_put_12 : decode cX12_put 12 = .ok (.getfield 13, 3) := by decide +kernel
theorem dX12_put_15 : decode cX12_put 15 = .ok (.iload_n 1, 1) := by decide +kernel
theorem dX12_put_16 : decode cX12_put 16 = .ok (.iload_n 2, 1) := by decide +kernel
theorem dX12_put_17 : decode cX12_put 17 = .ok (.ishr, 1) := by decide +kernel
theorem dX12_put_18 : decode cX12_put 18 = .ok (.sipush 255, 3) := by decide +kernel
theorem dX12_put_21 : decode cX12_put 21 = .ok (.iand, 1) := by decide +kernel
theorem dX12_put_22 : decode cX12_put 22 = .ok (.iastore, 1) := by decide +kernel
theorem dX12_put_23 : decode cX12_put 23 = .ok (.aload_n 0, 1) := by decide +kernel
theorem dX12_put_24 : decode cX12_put 24 = .ok (.dup, 1) := by decide +kernel
theorem dX12_put_25 : decode cX12_put 25 = .ok (.getfield 13, 3) := by decide +kernel
theorem dX12_put_28 : decode cX12_put 28 = .ok (.iconst 1, 1) := by decide +kernel
theorem dX12_put_29 : decode cX12_put 29 = .ok (.iadd, 1) := by decide +kernel
theorem dX12_put_30 : decode cX12_put 30 = .ok (.putfield 13, 3) := by decide +kernel
theorem dX12_put_33 : decode cX12_put 33 = .ok (.iinc 2 (-8), 3) := by decide +kernel
theorem dX12_put_36 : decode cX12_put 36 = .ok (.goto (-33), 3) := by decide +kernel
theorem dX12_put_39 : decode cX12_put 39 = .ok (.return_, 1) := by decide +kernel
theorem dX12_feed_0 : decode cX12_feed 0 = .ok (.aload_n 0, 1) := by decide +kernel
theorem dX12_feed_1 : decode cX12_feed 1 = .ok (.getfield 13, 3) := by decide +kernel
theorem dX12_feed_4 : decode cX12_feed 4 = .ok (.bipush 20, 2) := by decide +kernel
theorem dX12_feed_6 : decode cX12_feed 6 = .ok (.iadd, 1) := by decide +kernel
theorem dX12_feed_7 : decode cX12_feed 7 = .ok (.sipush 1000, 3) := by decide +kernel
theorem dX12_feed_10 : decode cX12_feed 10 = .ok (.if_icmp .le 5, 3) := by decide +kernel
theorem dX12_feed_13 : decode cX12_feed 13 = .ok (.iconst (-1), 1) := by decide +kernel
theorem dX12_feed_14 : decode cX12_feed 14 = .ok (.ireturn, 1) := by decide +kernel
theorem dX12_feed_15 : decode cX12_feed 15 = .ok (.aload_n 0, 1) := by decide +kernel
theorem dX12_feed_16 : decode cX12_feed 16 = .ok (.iload_n 1, 1) := by decide +kernel
theorem dX12_feed_17 : decode cX12_feed 17 = .ok (.invokevirtual 297, 3) := by decide +kernel
theorem dX12_feed_20 : decode cX12_feed 20 = .ok (.aload_n 0, 1) := by decide +kernel
theorem dX12_feed_21 : decode cX12_feed 21 = .ok (.iload_n 2, 1) := by decide +kernel
theorem dX12_feed_22 : decode cX12_feed 22 = .ok (.invokevirtual 297, 3) := by decide +kernel
theorem dX12_feed_25 : decode cX12_feed 25 = .ok (.aload_n 0, 1) := by decide +kernel
theorem dX12_feed_26 : decode cX12_feed 26 = .ok (.iload_n 3, 1) := by decide +kernel
theorem dX12_feed_27 : decode cX12_feed 27 = .ok (.invokevirtual 297, 3) := by decide +kernel
theorem dX12_feed_30 : decode cX12_feed 30 = .ok (.aload_n 0, 1) := by decide +kernel
theorem dX12_feed_31 : decode cX12_feed 31 = .ok (.iload 4, 2) := by decide +kernel
theorem dX12_feed_33 : decode cX12_feed 33 = .ok (.invokevirtual 297, 3) := by decide +kernel
theorem dX12_feed_36 : decode cX12_feed 36 = .ok (.aload_n 0, 1) := by decide +kernel
theorem dX12_feed_37 : decode cX12_feed 37 = .ok (.iload 5, 2) := by decide +kernel
theorem dX12_feed_39 : decode cX12_feed 39 = .ok (.invokevirtual 297, 3) := by decide +kernel
theorem dX12_feed_42 : decode cX12_feed 42 = .ok (.aload_n 0, 1) := by decide +kernel
theorem dX12_feed_43 : decode cX12_feed 43 = .ok (.getfield 13, 3) := by decide +kernel
theorem dX12_feed_46 : decode cX12_feed 46 = .ok (.ireturn, 1) := by decide +kernel
theorem dX12_end_0 : decode cX12_end 0 = .ok (.iload_n 1, 1) := by decide +kernel
theorem dX12_end_1 : decode cX12_end 1 = .ok (.ifCond .lt 11, 3) := by decide +kernel
theorem dX12_end_4 : decode cX12_end 4 = .ok (.iload_n 1, 1) := by decide +kernel
theorem dX12_end_5 : decode cX12_end 5 = .ok (.aload_n 0, 1) := by decide +kernel
theorem dX12_end_6 : decode cX12_end 6 = .ok (.getfield 13, 3) := by decide +kernel
theorem dX12_end_9 : decode cX12_end 9 = .ok (.if_icmp .le 5, 3) := by decide +kernel
theorem dX12_end_12 : decode cX12_end 12 = .ok (.iconst 0, 1) := by decide +kernel
theorem dX12_end_13 : decode cX12_end 13 = .ok (.ireturn, 1) := by decide +kernel
theorem dX12_end_14 : decode cX12_end 14 = .ok (.aload_n 0, 1) := by decide +kernel
theorem dX12_end_15 : decode cX12_end 15 = .ok (.iload_n 1, 1) := by decide +kernel
theorem dX12_end_16 : decode cX12_end 16 = .ok (.putfield 13, 3) := by decide +kernel
theorem dX12_end_19 : decode cX12_end 19 = .ok (.iconst 1, 1) := by decide +kernel
theorem dX12_end_20 : decode cX12_end 20 = .ok (.ireturn, 1) := by decide +kernel
theorem dX12_looks_0 : decode cX12_looks 0 = .ok (.aload_n 0, 1) := by decide +kernel
theorem dX12_looks_1 : decode cX12_looks 1 = .ok (.getfield 26, 3) := by decide +kernel
theorem dX12_looks_4 : decode cX12_looks 4 = .ok (.istore_n 1, 1) := by decide +kernel
theorem dX12_looks_5 : decode cX12_looks 5 = .ok (.iload_n 1, 1) := by decide +kernel
theorem dX12_looks_6 : decode cX12_looks 6 = .ok (.aload_n 0, 1) := by decide +kernel
theorem dX12_looks_7 : decode cX12_looks 7 = .ok (.getfield 17, 3) := by decide +kernel
theorem dX12_looks_10 : decode cX12_looks 10 = .ok (.if_icmp .ge 31, 3) := by decide +kernel
theorem dX12_looks_13 : decode cX12_looks 13 = .ok (.aload_n 0, 1) := by decide +kernel
theorem dX12_looks_14 : decode cX12_looks 14 = .ok (.getfield 7, 3) := by decide +kernel
theorem dX12_looks_17 : decode cX12_looks 17 = .ok (.iload_n 1, 1) := by decide +kernel
theorem dX12_looks_18 : decode cX12_looks 18 = .ok (.iaload, 1) := by decide +kernel
theorem dX12_looks_19 : decode cX12_looks 19 = .ok (.bipush 32, 2) := by decide +kernel
theorem dX12_looks_21 : decode cX12_looks 21 = .ok (.if_icmp .eq 14, 3) := by decide +kernel
theorem dX12_looks_24 : decode cX12_looks 24 = .ok (.aload_n 0, 1) := by decide +kernel
theorem dX12_looks_25 : decode cX12_looks 25 = .ok (.getfield 7, 3) := by decide +kernel
theorem dX12_looks_28 : decode cX12_looks 28 = .ok (.iload_n 1, 1) := by decide +kernel
theorem dX12_looks_29 : decode cX12_looks 29 = .ok (.iaload, 1) := by decide +kernel
theorem dX12_looks_30 : decode cX12_looks 30 = .ok (.bipush 10, 2) := by decide +kernel
theorem dX12_looks_32 : decode cX12_looks 32 = .ok (.if_icmp .ne 9, 3) := by decide +kernel
theorem dX12_looks_35 : decode cX12_looks 35 = .ok (.iinc 1 1, 3) := by decide +kernel
theorem dX12_looks_38 : decode cX12_looks 38 = .ok (.goto (-33), 3) := by decide +kernel
theorem dX12_looks_41 : decode cX12_looks 41 = .ok (.aload_n 0, 1) := by decide +kernel
theorem dX12_looks_42 : decode cX12_looks 42 = .ok (.iload_n 1, 1) := by decide +kernel
theorem dX12_looks_43 : decode cX12_looks 43 = .ok (.putfield 23, 3) := by decide +kernel
theorem dX12_looks_46 : decode cX12_looks 46 = .ok (.aload_n 0, 1) := by decide +kernel
theorem dX12_looks_47 : decode cX12_looks 47 = .ok (.iload_n 1, 1) := by decide +kernel
theorem dX12_looks_48 : decode cX12_looks 48 = .ok (.putfield 26, 3) := by decide +kernel
theorem dX12_looks_51 : decode cX12_looks 51 = .ok (.aload_n 0, 1) := by decide +kernel
theorem dX12_looks_52 : decode cX12_looks 52 = .ok (.iconst 0, 1) := by decide +kernel
theorem dX12_looks_53 : decode cX12_looks 53 = .ok (.putfield 20, 3) := by decide +kernel
theorem dX12_looks_56 : decode cX12_looks 56 = .ok (.iload_n 1, 1) := by decide +kernel
theorem dX12_looks_57 : decode cX12_looks 57 = .ok (.aload_n 0, 1) := by decide +kernel
theorem dX12_looks_58 : decode cX12_looks 58 = .ok (.getfield 17, 3) := by decide +kernel
theorem dX12_looks_61 : decode cX12_looks 61 = .ok (.if_icmp .lt 4, 3) := by decide +kernel
theorem dX12_looks_64 : decode cX12_looks 64 = .ok (.return_, 1) := by decide +kernel
theorem dX12_looks_65 : decode cX12_looks 65 = .ok (.aload_n 0, 1) := by decide +kernel
theorem dX12_looks_66 : decode cX12_looks 66 = .ok (.getfield 7, 3) := by decide +kernel
theorem dX12_looks_69 : decode cX12_looks 69 = .ok (.iload_n 1, 1) := by decide +kernel
theorem dX12_looks_70 : decode cX12_looks 70 = .ok (.iaload, 1) := by decide +kernel
theorem dX12_looks_71 : decode cX12_looks 71 = .ok (.invokestatic 301, 3) := by decide +kernel
theorem dX12_looks_74 : decode cX12_looks 74 = .ok (.istore_n 2, 1) := by decide +kernel
theorem dX12_looks_75 : decode cX12_looks 75 = .ok (.aload_n 0, 1) := by decide +kernel
theorem dX12_looks_76 : decode cX12_looks 76 = .ok (.getfield 7, 3) := by decide +kernel
theorem dX12_looks_79 : decode cX12_looks 79 = .ok (.iload_n 1, 1) := by decide +kernel
theorem dX12_looks_80 : decode cX12_looks 80 = .ok (.iaload, 1) := by decide +kernel
theorem dX12_looks_81 : decode cX12_looks 81 = .ok (.invokestatic 305, 3) := by decide +kernel
theorem dX12_looks_84 : decode cX12_looks 84 = .ok (.istore_n 3, 1) := by decide +kernel
theorem dX12_looks_85 : decode cX12_looks 85 = .ok (.iload_n 2, 1) := by decide +kernel
theorem dX12_looks_86 : decode cX12_looks 86 = .ok (.ifCond .ne 7, 3) := by decide +kernel
theorem dX12_looks_89 : decode cX12_looks 89 = .ok (.iload_n 3, 1) := by decide +kernel
theorem dX12_looks_90 : decode cX12_looks 90 = .ok (.ifCond .eq 41, 3) := by decide +kernel
theorem dX12_looks_93 : decode cX12_looks 93 = .ok (.iload_n 1, 1) := by decide +kernel
theorem dX12_looks_94 : decode cX12_looks 94 = .ok (.ifCond .le 37, 3) := by decide +kernel
theorem dX12_looks_97 : decode cX12_looks 97 = .ok (.aload_n 0, 1) := by decide +kernel
theorem dX12_looks_98 : decode cX12_looks 98 = .ok (.getfield 7, 3) := by decide +kernel
theorem dX12_looks_101 : decode cX12_looks 101 = .ok (.iload_n 1, 1) := by decide +kernel
theorem dX12_looks_102 : decode cX12_looks 102 = .ok (.iconst 1, 1) := by decide +kernel
theorem dX12_looks_103 : decode cX12_looks 103 = .ok (.isub, 1) := by decide +kernel
theorem dX12_looks_104 : decode cX12_looks 104 = .ok (.iaload, 1) := by decide +kernel
theorem dX12_looks_105 : decode cX12_looks 105 = .ok (.invokestatic 301, 3) := by decide +kernel
theorem dX12_looks_108 : decode cX12_looks 108 = .ok (.ifCond .ne 17, 3) := by decide +kernel
theorem dX12_looks_111 : decode cX12_looks 111 = .ok (.aload_n 0, 1) := by decide +kernel
theorem dX12_looks_112 : decode cX12_looks 112 = .ok (.getfield 7, 3) := by decide +kernel
theorem dX12_looks_115 : decode cX12_looks 115 = .ok (.iload_n 1, 1) := by decide +kernel
theorem dX12_looks_116 : decode cX12_looks 116 = .ok (.iconst 1, 1) := by decide +kernel
theorem dX12_looks_117 : decode cX12_looks 117 = .ok (.isub, 1) := by decide +kernel
theorem dX12_looks_118 : decode cX12_looks 118 = .ok (.iaload, 1) := by decide +kernel
theorem dX12_looks_119 : decode cX12_looks 119 = .ok (.invokestatic 305, 3) := by decide +kernel
theorem dX12_looks_122 : decode cX12_looks 122 = .ok (.ifCond .eq 9, 3) := by decide +kernel
theorem dX12_looks_125 : decode cX12_looks 125 = .ok (.aload_n 0, 1) := by decide +kernel
theorem dX12_looks_126 : decode cX12_looks 126 = .ok (.iconst 1, 1) := by decide +kernel
theorem dX12_looks_127 : decode cX12_looks 127 = .ok (.iload_n 1, 1) := by decide +kernel
theorem dX12_looks_128 : decode cX12_looks 128 = .ok (.invokevirtual 308, 3) := by decide +kernel
theorem dX12_looks_131 : decode cX12_looks 131 = .ok (.aload_n 0, 1) := by decide +kernel
theorem dX12_looks_132 : decode cX12_looks 132 = .ok (.iconst 0, 1) := by decide +kernel
theorem dX12_looks_133 : decode cX12_looks 133 = .ok (.putfield 29, 3) := by decide +kernel
theorem dX12_looks_136 : decode cX12_looks 136 = .ok (.aload_n 0, 1) := by decide +kernel
theorem dX12_looks_137 : decode cX12_looks 137 = .ok (.lconst 0, 1) := by decide +kernel
theorem dX12_looks_138 : decode cX12_looks 138 = .ok (.putfield 32, 3) := by decide +kernel
theorem dX12_looks_141 : decode cX12_looks 141 = .ok (.aload_n 0, 1) := by decide +kernel
theorem dX12_looks_142 : decode cX12_looks 142 = .ok (.iconst 3, 1) := by decide +kernel
theorem dX12_looks_143 : decode cX12_looks 143 = .ok (.putfield 20, 3) := by decide +kernel
theorem dX12_looks_146 : decode cX12_looks 146 = .ok (.aload_n 0, 1) := by decide +kernel
theorem dX12_looks_147 : decode cX12_looks 147 = .ok (.iload_n 1, 1) := by decide +kernel
theorem dX12_looks_148 : decode cX12_looks 148 = .ok (.iconst 1, 1) := by decide +kernel
theorem dX12_looks_149 : decode cX12_looks 149 = .ok (.iadd, 1) := by decide +kernel
theorem dX12_looks_150 : decode cX12_looks 150 = .ok (.putfield 26, 3) := by decide +kernel
theorem dX12_looks_153 : decode cX12_looks 153 = .ok (.iload_n 2, 1) := by decide +kernel
theorem dX12_looks_154 : decode cX12_looks 154 = .ok (.ifCond .ne 18, 3) := by decide +kernel
theorem dX12_looks_157 : decode cX12_looks 157 = .ok (.iload_n 3, 1) := by decide +kernel
theorem dX12_looks_158 : decode cX12_looks 158 = .ok (.ifCond .ne 14, 3) := by decide +kernel
theorem dX12_looks_161 : decode cX12_looks 161 = .ok (.aload_n 0, 1) := by decide +kernel
theorem dX12_looks_162 : decode cX12_looks 162 = .ok (.aload_n 0, 1) := by decide +kernel
theorem dX12_looks_163 : decode cX12_looks 163 = .ok (.getfield 7, 3) := by decide +kernel
theorem dX12_looks_166 : decode cX12_looks 166 = .ok (.iload_n 1, 1) := by decide +kernel
theorem dX12_looks_167 : decode cX12_looks 167 = .ok (.iaload, 1) := by decide +kernel
theorem dX12_looks_168 : decode cX12_looks 168 = .ok (.putfield 29, 3) := by decide +kernel
theorem dX12_looks_171 : decode cX12_looks 171 = .ok (.return_, 1) := by decide +kernel
theorem dX12_looks_172 : decode cX12_looks 172 = .ok (.aload_n 0, 1) := by decide +kernel
theorem dX12_looks_173 : decode cX12_looks 173 = .ok (.iload_n 2, 1) := by decide +kernel
theorem dX12_looks_174 : decode cX12_looks 174 = .ok (.ifCond .eq 7, 3) := by decide +kernel
theorem dX12_looks_177 : decode cX12_looks 177 = .ok (.iconst 1, 1) := by decide +kernel
theorem dX12_looks_178 : decode cX12_looks 178 = .ok (.goto 4, 3) := by decide +kernel
theorem dX12_looks_181 : decode cX12_looks 181 = .ok (.iconst 2, 1) := by decide +kernel
theorem dX12_looks_182 : decode cX12_looks 182 = .ok (.putfield 20, 3) := by decide +kernel
theorem dX12_looks_185 : decode cX12_looks 185 = .ok (.iload_n 2, 1) := by decide +kernel
theorem dX12_looks_186 : decode cX12_looks 186 = .ok (.ifCond .eq 8, 3) := by decide +kernel
theorem dX12_looks_189 : decode cX12_looks 189 = .ok (.bipush 8, 2) := by decide +kernel
theorem dX12_looks_191 : decode cX12_looks 191 = .ok (.goto 4, 3) := by decide +kernel
theorem dX12_looks_194 : decode cX12_looks 194 = .ok (.iconst 5, 1) := by decide +kernel
theorem dX12_looks_195 : decode cX12_looks 195 = .ok (.istore 4, 2) := by decide +kernel
theorem dX12_looks_197 : decode cX12_looks 197 = .ok (.iconst 0, 1) := by decide +kernel
theorem dX12_looks_198 : decode cX12_looks 198 = .ok (.istore 5, 2) := by decide +kernel
theorem dX12_looks_200 : decode cX12_looks 200 = .ok (.iload_n 1, 1) := by decide +kernel
theorem dX12_looks_201 : decode cX12_looks 201 = .ok (.aload_n 0, 1) := by decide +kernel
theorem dX12_looks_202 : decode cX12_looks 202 = .ok (.getfield 17, 3) := by decide +kernel
theorem dX12_looks_205 : decode cX12_looks 205 = .ok (.if_icmp .ge 118, 3) := by decide +kernel
theorem dX12_looks_208 : decode cX12_looks 208 = .ok (.iload_n 2, 1) := by decide +kernel
theorem dX12_looks_209 : decode cX12_looks 209 = .ok (.ifCond .eq 18, 3) := by decide +kernel
theorem dX12_looks_212 : decode cX12_looks 212 = .ok (.aload_n 0, 1) := by decide +kernel
theorem dX12_looks_213 : decode cX12_looks 213 = .ok (.getfield 7, 3) := by decide +kernel
theorem dX12_looks_216 : decode cX12_looks 216 = .ok (.iload_n 1, 1) := by decide +kernel
theorem dX12_looks_217 : decode cX12_looks 217 = .ok (.iaload, 1) := by decide +kernel
theorem dX12_looks_218 : decode cX12_looks 218 = .ok (.invokestatic 301, 3) := by decide +kernel
theorem dX12_looks_221 : decode cX12_looks 221 = .ok (.ifCond .eq 102, 3) := by decide +kernel
theorem dX12_looks_224 : decode cX12_looks 224 = .ok (.goto 15, 3) := by decide +kernel
theorem dX12_looks_227 : decode cX12_looks 227 = .ok (.aload_n 0, 1) := by decide +kernel
theorem dX12_looks_228 : decode cX12_looks 228 = .ok (.getfield 7, 3) := by decide +kernel
theorem dX12_looks_231 : decode cX12_looks 231 = .ok (.iload_n 1, 1) := by decide +kernel
theorem dX12_looks_232 : decode cX12_looks 232 = .ok (.iaload, 1) := by decide +kernel
theorem dX12_looks_233 : decode cX12_looks 233 = .ok (.invokestatic 305, 3) := by decide +kernel
theorem dX12_looks_236 : decode cX12_looks 236 = .ok (.ifCond .eq 87, 3) := by decide +kernel
theorem dX12_looks_239 : decode cX12_looks 239 = .ok (.iload 5, 2) := by decide +kernel
theorem dX12_looks_241 : decode cX12_looks 241 = .ok (.iload 4, 2) := by decide +kernel
theorem dX12_looks_243 : decode cX12_looks 243 = .ok (.if_icmp .ne 9, 3) := by decide +kernel
theorem dX12_looks_246 : decode cX12_looks 246 = .ok (.aload_n 0, 1) := by decide +kernel
theorem dX12_looks_247 : decode cX12_looks 247 = .ok (.iconst 1, 1) := by decide +kernel
theorem dX12_looks_248 : decode cX12_looks 248 = .ok (.iload_n 1, 1) := by decide +kernel
theorem dX12_looks_249 : decode cX12_looks 249 = .ok (.invokevirtual 308, 3) := by decide +kernel
theorem dX12_looks_252 : decode cX12_looks 252 = .ok (.iload 5, 2) := by decide +kernel
theorem dX12_looks_254 : decode cX12_looks 254 = .ok (.iload 4, 2) := by decide +kernel
theorem dX12_looks_256 : decode cX12_looks 256 = .ok (.if_icmp .ge 26, 3) := by decide +kernel
theorem dX12_looks_259 : decode cX12_looks 259 = .ok (.iload_n 2, 1) := by decide +kernel
theorem dX12_looks_260 : decode cX12_looks 260 = .ok (.ifCond .eq 22, 3) := by decide +kernel
theorem dX12_looks_263 : decode cX12_looks 263 = .ok (.aload_n 0, 1) := by decide +kernel
theorem dX12_looks_264 : decode cX12_looks 264 = .ok (.aload_n 0, 1) := by decide +kernel
theorem dX12_looks_265 : decode cX12_looks 265 = .ok (.getfield 32, 3) := by decide +kernel
theorem dX12_looks_268 : decode cX12_looks 268 = .ok (.bipush 8, 2) := by decide +kernel
theorem dX12_looks_270 : decode cX12_looks 270 = .ok (.lshl, 1) := by decide +kernel
theorem dX12_looks_271 : decode cX12_looks 271 = .ok (.aload_n 0, 1) := by decide +kernel
theorem dX12_looks_272 : decode cX12_looks 272 = .ok (.getfield 7, 3) := by decide +kernel
theorem dX12_looks_275 : decode cX12_looks 275 = .ok (.iload_n 1, 1) := by decide +kernel
theorem dX12_looks_276 : decode cX12_looks 276 = .ok (.iaload, 1) := by decide +kernel
theorem dX12_looks_277 : decode cX12_looks 277 = .ok (.i2l, 1) := by decide +kernel
theorem dX12_looks_278 : decode cX12_looks 278 = .ok (.lor, 1) := by decide +kernel
theorem dX12_looks_279 : decode cX12_looks 279 = .ok (.putfield 32, 3) := by decide +kernel
theorem dX12_looks_282 : decode cX12_looks 282 = .ok (.iload 5, 2) := by decide +kernel
theorem dX12_looks_284 : decode cX12_looks 284 = .ok (.iload 4, 2) := by decide +kernel
theorem dX12_looks_286 : decode cX12_looks 286 = .ok (.if_icmp .ge 28, 3) := by decide +kernel
theorem dX12_looks_289 : decode cX12_looks 289 = .ok (.iload_n 3, 1) := by decide +kernel
theorem dX12_looks_290 : decode cX12_looks 290 = .ok (.ifCond .eq 24, 3) := by decide +kernel
theorem dX12_looks_293 : decode cX12_looks 293 = .ok (.aload_n 0, 1) := by decide +kernel
theorem dX12_looks_294 : decode cX12_looks 294 = .ok (.bipush 10, 2) := by decide +kernel
theorem dX12_looks_296 : decode cX12_looks 296 = .ok (.aload_n 0, 1) := by decide +kernel
theorem dX12_looks_297 : decode cX12_looks 297 = .ok (.getfield 29, 3) := by decide +kernel
theorem dX12_looks_300 : decode cX12_looks 300 = .ok (.imul, 1) := by decide +kernel
theorem dX12_looks_301 : decode cX12_looks 301 = .ok (.aload_n 0, 1) := by decide +kernel
theorem dX12_looks_302 : decode cX12_looks 302 = .ok (.getfield 7, 3) := by decide +kernel
theorem dX12_looks_305 : decode cX12_looks 305 = .ok (.iload_n 1, 1) := by decide +kernel
theorem dX12_looks_306 : decode cX12_looks 306 = .ok (.iaload, 1) := by decide +kernel
theorem dX12_looks_307 : decode cX12_looks 307 = .ok (.iadd, 1) := by decide +kernel
theorem dX12_looks_308 : decode cX12_looks 308 = .ok (.bipush 48, 2) := by decide +kernel
theorem dX12_looks_310 : decode cX12_looks 310 = .ok (.isub, 1) := by decide +kernel
theorem dX12_looks_311 : decode cX12_looks 311 = .ok (.putfield 29, 3) := by decide +kernel
theorem dX12_looks_314 : decode cX12_looks 314 = .ok (.iinc 5 1, 3) := by decide +kernel
theorem dX12_looks_317 : decode cX12_looks 317 = .ok (.iinc 1 1, 3) := by decide +kernel
theorem dX12_looks_320 : decode cX12_looks 320 = .ok (.goto (-120), 3) := by decide +kernel
theorem dX12_looks_323 : decode cX12_looks 323 = .ok (.aload_n 0, 1) := by decide +kernel
theorem dX12_looks_324 : decode cX12_looks 324 = .ok (.iload_n 1, 1) := by decide +kernel
theorem dX12_looks_325 : decode cX12_looks 325 = .ok (.putfield 26, 3) := by decide +kernel
theorem dX12_looks_328 : decode cX12_looks 328 = .ok (.return_, 1) := by decide +kernel
theorem dX12_starts_0 : decode cX12_starts 0 = .ok (.aload_n 0, 1) := by decide +kernel
theorem dX12_starts_1 : decode cX12_starts 1 = .ok (.aload_n 0, 1) := by decide +kernel
theorem dX12_starts_2 : decode cX12_starts 2 = .ok (.getfield 13, 3) := by decide +kernel
theorem dX12_starts_5 : decode cX12_starts 5 = .ok (.putfield 17, 3) := by decide +kernel
theorem dX12_starts_8 : decode cX12_starts 8 = .ok (.aload_n 0, 1) := by decide +kernel
theorem dX12_starts_9 : decode cX12_starts 9 = .ok (.iconst 0, 1) := by decide +kernel
theorem dX12_starts_10 : decode cX12_starts 10 = .ok (.putfield 13, 3) := by decide +kernel
theorem dX12_starts_13 : decode cX12_starts 13 = .ok (.aload_n 0, 1) := by decide +kernel
theorem dX12_starts_14 : decode cX12_starts 14 = .ok (.iconst 0, 1) := by decide +kernel
theorem dX12_starts_15 : decode cX12_starts 15 = .ok (.putfield 26, 3) := by decide +kernel
theorem dX12_starts_18 : decode cX12_starts 18 = .ok (.aload_n 0, 1) := by decide +kernel
theorem dX12_starts_19 : decode cX12_starts 19 = .ok (.iconst 0, 1) := by decide +kernel
theorem dX12_starts_20 : decode cX12_starts 20 = .ok (.putfield 36, 3) := by decide +kernel
theorem dX12_starts_23 : decode cX12_starts 23 = .ok (.aload_n 0, 1) := by decide +kernel
theorem dX12_starts_24 : decode cX12_starts 24 = .ok (.iconst (-1), 1) := by decide +kernel
theorem dX12_starts_25 : decode cX12_starts 25 = .ok (.putfield 39, 3) := by decide +kernel
theorem dX12_starts_28 : decode cX12_starts 28 = .ok (.aload_n 0, 1) := by decide +kernel
theorem dX12_starts_29 : decode cX12_starts 29 = .ok (.invokevirtual 312, 3) := by decide +kernel
theorem dX12_starts_32 : decode cX12_starts 32 = .ok (.return_, 1) := by decide +kernel
theorem dX12_rules_0 : decode cX12_rules 0 = .ok (.aload_n 0, 1) := by decide +kernel
theorem dX12_rules_1 : decode cX12_rules 1 = .ok (.iconst 1, 1) := by decide +kernel
theorem dX12_rules_2 : decode cX12_rules 2 = .ok (.aload_n 0, 1) := by decide +kernel
theorem dX12_rules_3 : decode cX12_rules 3 = .ok (.getfield 48, 3) := by decide +kernel
theorem dX12_rules_6 : decode cX12_rules 6 = .ok (.isub, 1) := by decide +kernel
theorem dX12_rules_7 : decode cX12_rules 7 = .ok (.putfield 51, 3) := by decide +kernel
theorem dX12_rules_10 : decode cX12_rules 10 = .ok (.aload_n 0, 1) := by decide +kernel
theorem dX12_rules_11 : decode cX12_rules 11 = .ok (.getfield 54, 3) := by decide +kernel
theorem dX12_rules_14 : decode cX12_rules 14 = .ok (.aload_n 0, 1) := by decide +kernel
theorem dX12_rules_15 : decode cX12_rules 15 = .ok (.getfield 51, 3) := by decide +kernel
theorem dX12_rules_18 : decode cX12_rules 18 = .ok (.iconst 0, 1) := by decide +kernel
theorem dX12_rules_19 : decode cX12_rules 19 = .ok (.iastore, 1) := by decide +kernel
theorem dX12_rules_20 : decode cX12_rules 20 = .ok (.aload_n 0, 1) := by decide +kernel
theorem dX12_rules_21 : decode cX12_rules 21 = .ok (.getfield 57, 3) := by decide +kernel
theorem dX12_rules_24 : decode cX12_rules 24 = .ok (.aload_n 0, 1) := by decide +kernel
theorem dX12_rules_25 : decode cX12_rules 25 = .ok (.getfield 51, 3) := by decide +kernel
theorem dX12_rules_28 : decode cX12_rules 28 = .ok (.iconst 0, 1) := by decide +kernel
theorem dX12_rules_29 : decode cX12_rules 29 = .ok (.iastore, 1) := by decide +kernel
theorem dX12_rules_30 : decode cX12_rules 30 = .ok (.aload_n 0, 1) := by decide +kernel
theorem dX12_rules_31 : decode cX12_rules 31 = .ok (.getfield 60, 3) := by decide +kernel
theorem dX12_rules_34 : decode cX12_rules 34 = .ok (.aload_n 0, 1) := by decide +kernel
theorem dX12_rules_35 : decode cX12_rules 35 = .ok (.getfield 51, 3) := by decide +kernel
theorem dX12_rules_38 : decode cX12_rules 38 = .ok (.iconst 0, 1) := by decide +kernel
theorem dX12_rules_39 : decode cX12_rules 39 = .ok (.iastore, 1) := by decide +kernel
theorem dX12_rules_40 : decode cX12_rules 40 = .ok (.aload_n 0, 1) := by decide +kernel
theorem dX12_rules_41 : decode cX12_rules 41 = .ok (.getfield 63, 3) := by decide +kernel
theorem dX12_rules_44 : decode cX12_rules 44 = .ok (.aload_n 0, 1) := by decide +kernel
theorem dX12_rules_45 : decode cX12_rules 45 = .ok (.getfield 51, 3) := by decide +kernel
theorem dX12_rules_48 : decode cX12_rules 48 = .ok (.sipush 1000, 3) := by decide +kernel
theorem dX12_rules_51 : decode cX12_rules 51 = .ok (.iastore, 1) := by decide +kernel
theorem dX12_rules_52 : decode cX12_rules 52 = .ok (.aload_n 0, 1) := by decide +kernel
theorem dX12_rules_53 : decode cX12_rules 53 = .ok (.getfield 91, 3) := by decide +kernel
theorem dX12_rules_56 : decode cX12_rules 56 = .ok (.aload_n 0, 1) := by decide +kernel
theorem dX12_rules_57 : decode cX12_rules 57 = .ok (.getfield 51, 3) := by decide +kernel
theorem dX12_rules_60 : decode cX12_rules 60 = .ok (.iconst 0, 1) := by decide +kernel
theorem dX12_rules_61 : decode cX12_rules 61 = .ok (.iastore, 1) := by decide +kernel
theorem dX12_rules_62 : decode cX12_rules 62 = .ok (.aload_n 0, 1) := by decide +kernel
theorem dX12_rules_63 : decode cX12_rules 63 = .ok (.invokevirtual 439, 3) := by decide +kernel
theorem dX12_rules_66 : decode cX12_rules 66 = .ok (.iconst 0, 1) := by decide +kernel
theorem dX12_rules_67 : decode cX12_rules 67 = .ok (.istore_n 1, 1) := by decide +kernel
theorem dX12_rules_68 : decode cX12_rules 68 = .ok (.aload_n 0, 1) := by decide +kernel
theorem dX12_rules_69 : decode cX12_rules 69 = .ok (.getfield 36, 3) := by decide +kernel
theorem dX12_rules_72 : decode cX12_rules 72 = .ok (.ifCond .ne 20, 3) := by decide +kernel
theorem dX12_rules_75 : decode cX12_rules 75 = .ok (.aload_n 0, 1) := by decide +kernel
theorem dX12_rules_76 : decode cX12_rules 76 = .ok (.getfield 20, 3) := by decide +kernel
theorem dX12_rules_79 : decode cX12_rules 79 = .ok (.ifCond .eq 13, 3) := by decide +kernel
theorem dX12_rules_82 : decode cX12_rules 82 = .ok (.aload_n 0, 1) := by decide +kernel
theorem dX12_rules_83 : decode cX12_rules 83 = .ok (.invokevirtual 442, 3) := by decide +kernel
theorem dX12_rules_86 : decode cX12_rules 86 = .ok (.iinc 1 1, 3) := by decide +kernel
theorem dX12_rules_89 : decode cX12_rules 89 = .ok (.goto (-21), 3) := by decide +kernel
theorem dX12_rules_92 : decode cX12_rules 92 = .ok (.aload_n 0, 1) := by decide +kernel
theorem dX12_rules_93 : decode cX12_rules 93 = .ok (.aload_n 0, 1) := by decide +kernel
theorem dX12_rules_94 : decode cX12_rules 94 = .ok (.getfield 36, 3) := by decide +kernel
theorem dX12_rules_97 : decode cX12_rules 97 = .ok (.putfield 42, 3) := by decide +kernel
theorem dX12_rules_100 : decode cX12_rules 100 = .ok (.aload_n 0, 1) := by decide +kernel
theorem dX12_rules_101 : decode cX12_rules 101 = .ok (.aload_n 0, 1) := by decide +kernel
theorem dX12_rules_102 : decode cX12_rules 102 = .ok (.getfield 39, 3) := by decide +kernel
theorem dX12_rules_105 : decode cX12_rules 105 = .ok (.putfield 45, 3) := by decide +kernel
theorem dX12_rules_108 : decode cX12_rules 108 = .ok (.aload_n 0, 1) := by decide +kernel
theorem dX12_rules_109 : decode cX12_rules 109 = .ok (.getfield 36, 3) := by decide +kernel
theorem dX12_rules_112 : decode cX12_rules 112 = .ok (.ifCond .le 5, 3) := by decide +kernel
theorem dX12_rules_115 : decode cX12_rules 115 = .ok (.iconst (-1), 1) := by decide +kernel
theorem dX12_rules_116 : decode cX12_rules 116 = .ok (.ireturn, 1) := by decide +kernel
theorem dX12_rules_117 : decode cX12_rules 117 = .ok (.aload_n 0, 1) := by decide +kernel
theorem dX12_rules_118 : decode cX12_rules 118 = .ok (.aload_n 0, 1) := by decide +kernel
theorem dX12_rules_119 : decode cX12_rules 119 = .ok (.getfield 51, 3) := by decide +kernel
theorem dX12_rules_122 : decode cX12_rules 122 = .ok (.putfield 48, 3) := by decide +kernel
theorem dX12_rules_125 : decode cX12_rules 125 = .ok (.aload_n 0, 1) := by decide +kernel
theorem dX12_rules_126 : decode cX12_rules 126 = .ok (.iconst 0, 1) := by decide +kernel
theorem dX12_rules_127 : decode cX12_rules 127 = .ok (.putfield 126, 3) := by decide +kernel
theorem dX12_rules_130 : decode cX12_rules 130 = .ok (.aload_n 0, 1) := by decide +kernel
theorem dX12_rules_131 : decode cX12_rules 131 = .ok (.iconst 0, 1) := by decide +kernel
theorem dX12_rules_132 : decode cX12_rules 132 = .ok (.putfield 129, 3) := by decide +kernel
theorem dX12_rules_135 : decode cX12_rules 135 = .ok (.aload_n 0, 1) := by decide +kernel
theorem dX12_rules_136 : decode cX12_rules 136 = .ok (.iconst (-1), 1) := by decide +kernel
theorem dX12_rules_137 : decode cX12_rules 137 = .ok (.putfield 132, 3) := by decide +kernel
theorem dX12_rules_140 : decode cX12_rules 140 = .ok (.aload_n 0, 1) := by decide +kernel
theorem dX12_rules_141 : decode cX12_rules 141 = .ok (.iconst 0, 1) := by decide +kernel
theorem dX12_rules_142 : decode cX12_rules 142 = .ok (.putfield 219, 3) := by decide +kernel
theorem dX12_rules_145 : decode cX12_rules 145 = .ok (.iload_n 1, 1) := by decide +kernel
theorem dX12_rules_146 : decode cX12_rules 146 = .ok (.ireturn, 1) := by decide +kernel
theorem dX12_fault_0 : decode cX12_fault 0 = .ok (.iload_n 1, 1) := by decide +kernel
theorem dX12_fault_1 : decode cX12_fault 1 = .ok (.ifCond .ne 10, 3) := by decide +kernel
theorem dX12_fault_4 : decode cX12_fault 4 = .ok (.aload_n 0, 1) := by decide +kernel
theorem dX12_fault_5 : decode cX12_fault 5 = .ok (.getfield 42, 3) := by decide +kernel
theorem dX12_fault_8 : decode cX12_fault 8 = .ok (.goto 16, 3) := by decide +kernel
theorem dX12_fault_11 : decode cX12_fault 11 = .ok (.iload_n 1, 1) := by decide +kernel
theorem dX12_fault_12 : decode cX12_fault 12 = .ok (.iconst 1, 1) := by decide +kernel
theorem dX12_fault_13 : decode cX12_fault 13 = .ok (.if_icmp .ne 10, 3) := by decide +kernel
theorem dX12_fault_16 : decode cX12_fault 16 = .ok (.aload_n 0, 1) := by decide +kernel
theorem dX12_fault_17 : decode cX12_fault 17 = .ok (.getfield 45, 3) := by decide +kernel
theorem dX12_fault_20 : decode cX12_fault 20 = .ok (.goto 4, 3) := by decide +kernel
theorem dX12_fault_23 : decode cX12_fault 23 = .ok (.iconst (-1), 1) := by decide +kernel
theorem dX12_fault_24 : decode cX12_fault 24 = .ok (.ireturn, 1) := by decide +kernel
theorem dX12_isKind_0 : decode cX12_isKind 0 = .ok (.iload_n 1, 1) := by decide +kernel
theorem dX12_isKind_1 : decode cX12_isKind 1 = .ok (.ifCond .lt 20, 3) := by decide +kernel
theorem dX12_isKind_4 : decode cX12_isKind 4 = .ok (.iload_n 1, 1) := by decide +kernel
theorem dX12_isKind_5 : decode cX12_isKind 5 = .ok (.aload_n 0, 1) := by decide +kernel
theorem dX12_isKind_6 : decode cX12_isKind 6 = .ok (.getfield 54, 3) := by decide +kernel
theorem dX12_isKind_9 : decode cX12_isKind 9 = .ok (.aload_n 0, 1) := by decide +kernel
theorem dX12_isKind_10 : decode cX12_isKind 10 = .ok (.getfield 48, 3) := by decide +kernel
theorem dX12_isKind_13 : decode cX12_isKind 13 = .ok (.iaload, 1) := by decide +kernel
theorem dX12_isKind_14 : decode cX12_isKind 14 = .ok (.if_icmp .ge 7, 3) := by decide +kernel
theorem dX12_isKind_17 : decode cX12_isKind 17 = .ok (.iconst 1, 1) := by decide +kernel
theorem dX12_isKind_18 : decode cX12_isKind 18 = .ok (.goto 4, 3) := by decide +kernel
theorem dX12_isKind_21 : decode cX12_isKind 21 = .ok (.iconst 0, 1) := by decide +kernel
theorem dX12_isKind_22 : decode cX12_isKind 22 = .ok (.ireturn, 1) := by decide +kernel
theorem dX12_name_0 : decode cX12_name 0 = .ok (.iload_n 2, 1) := by decide +kernel
theorem dX12_name_1 : decode cX12_name 1 = .ok (.ifCond .lt 32, 3) := by decide +kernel
theorem dX12_name_4 : decode cX12_name 4 = .ok (.iload_n 2, 1) := by decide +kernel
theorem dX12_name_5 : decode cX12_name 5 = .ok (.iload_n 1, 1) := by decide +kernel
theorem dX12_name_6 : decode cX12_name 6 = .ok (.ifCond .eq 15, 3) := by decide +kernel
theorem dX12_name_9 : decode cX12_name 9 = .ok (.aload_n 0, 1) := by decide +kernel
theorem dX12_name_10 : decode cX12_name 10 = .ok (.getfield 57, 3) := by decide +kernel
theorem dX12_name_13 : decode cX12_name 13 = .ok (.aload_n 0, 1) := by decide +kernel
theorem dX12_name_14 : decode cX12_name 14 = .ok (.getfield 48, 3) := by decide +kernel
theorem dX12_name_17 : decode cX12_name 17 = .ok (.iaload, 1) := by decide +kernel
theorem dX12_name_18 : decode cX12_name 18 = .ok (.goto 12, 3) := by decide +kernel
theorem dX12_name_21 : decode cX12_name 21 = .ok (.aload_n 0, 1) := by decide +kernel
theorem dX12_name_22 : decode cX12_name 22 = .ok (.getfield 54, 3) := by decide +kernel
theorem dX12_name_25 : decode cX12_name 25 = .ok (.aload_n 0, 1) := by decide +kernel
theorem dX12_name_26 : decode cX12_name 26 = .ok (.getfield 48, 3) := by decide +kernel
theorem dX12_name_29 : decode cX12_name 29 = .ok (.iaload, 1) := by decide +kernel
theorem dX12_name_30 : decode cX12_name 30 = .ok (.if_icmp .lt 5, 3) := by decide +kernel
theorem dX12_name_33 : decode cX12_name 33 = .ok (.iconst (-1), 1) := by decide +kernel
theorem dX12_name_34 : decode cX12_name 34 = .ok (.ireturn, 1) := by decide +kernel
theorem dX12_name_35 : decode cX12_name 35 = .ok (.iload_n 1, 1) := by decide +kernel
theorem dX12_name_36 : decode cX12_name 36 = .ok (.ifCond .eq 20, 3) := by decide +kernel
theorem dX12_name_39 : decode cX12_name 39 = .ok (.aload_n 0, 1) := by decide +kernel
theorem dX12_name_40 : decode cX12_name 40 = .ok (.getfield 70, 3) := by decide +kernel
theorem dX12_name_43 : decode cX12_name 43 = .ok (.bipush 8, 2) := by decide +kernel
theorem dX12_name_45 : decode cX12_name 45 = .ok (.aload_n 0, 1) := by decide +kernel
theorem dX12_name_46 : decode cX12_name 46 = .ok (.getfield 48, 3) := by decide +kernel
theorem dX12_name_49 : decode cX12_name 49 = .ok (.imul, 1) := by decide +kernel
theorem dX12_name_50 : decode cX12_name 50 = .ok (.iload_n 2, 1) := by decide +kernel
theorem dX12_name_51 : decode cX12_name 51 = .ok (.iadd, 1) := by decide +kernel
theorem dX12_name_52 : decode cX12_name 52 = .ok (.laload, 1) := by decide +kernel
theorem dX12_name_53 : decode cX12_name 53 = .ok (.goto 17, 3) := by decide +kernel
theorem dX12_name_56 : decode cX12_name 56 = .ok (.aload_n 0, 1) := by decide +kernel
theorem dX12_name_57 : decode cX12_name 57 = .ok (.getfield 66, 3) := by decide +kernel
theorem dX12_name_60 : decode cX12_name 60 = .ok (.bipush 10, 2) := by decide +kernel
theorem dX12_name_62 : decode cX12_name 62 = .ok (.aload_n 0, 1) := by decide +kernel
theorem dX12_name_63 : decode cX12_name 63 = .ok (.getfield 48, 3) := by decide +kernel
theorem dX12_name_66 : decode cX12_name 66 = .ok (.imul, 1) := by decide +kernel
theorem dX12_name_67 : decode cX12_name 67 = .ok (.iload_n 2, 1) := by decide +kernel
theorem dX12_name_68 : decode cX12_name 68 = .ok (.iadd, 1) := by decide +kernel
theorem dX12_name_69 : decode cX12_name 69 = .ok (.laload, 1) := by decide +kernel
theorem dX12_name_70 : decode cX12_name 70 = .ok (.iload_n 3, 1) := by decide +kernel
theorem dX12_name_71 : decode cX12_name 71 = .ok (.invokestatic 447, 3) := by decide +kernel
theorem dX12_name_74 : decode cX12_name 74 = .ok (.ireturn, 1) := by decide +kernel
theorem dX12_marked_0 : decode cX12_marked 0 = .ok (.aload_n 0, 1) := by decide +kernel
theorem dX12_marked_1 : decode cX12_marked 1 = .ok (.iload_n 1, 1) := by decide +kernel
theorem dX12_marked_2 : decode cX12_marked 2 = .ok (.invokevirtual 450, 3) := by decide +kernel
theorem dX12_marked_5 : decode cX12_marked 5 = .ok (.ifCond .eq 20, 3) := by decide +kernel
theorem dX12_marked_8 : decode cX12_marked 8 = .ok (.iload_n 2, 1) := by decide +kernel
theorem dX12_marked_9 : decode cX12_marked 9 = .ok (.ifCond .lt 16, 3) := by decide +kernel
theorem dX12_marked_12 : decode cX12_marked 12 = .ok (.iload_n 2, 1) := by decide +kernel
theorem dX12_marked_13 : decode cX12_marked 13 = .ok (.aload_n 0, 1) := by decide +kernel
theorem dX12_marked_14 : decode cX12_marked 14 = .ok (.getfield 57, 3) := by decide +kernel
theorem dX12_marked_17 : decode cX12_marked 17 = .ok (.aload_n 0, 1) := by decide +kernel
theorem dX12_marked_18 : decode cX12_marked 18 = .ok (.getfield 48, 3) := by decide +kernel
theorem dX12_marked_21 : decode cX12_marked 21 = .ok (.iaload, 1) := by decide +kernel
theorem dX12_marked_22 : decode cX12_marked 22 = .ok (.if_icmp .lt 7, 3) := by decide +kernel
theorem dX12_marked_25 : decode cX12_marked 25 = .ok (.iconst (-1), 1) := by decide +kernel
theorem dX12_marked_26 : decode cX12_marked 26 = .ok (.goto 21, 3) := by decide +kernel
theorem dX12_marked_29 : decode cX12_marked 29 = .ok (.aload_n 0, 1) := by decide +kernel
theorem dX12_marked_30 : decode cX12_marked 30 = .ok (.getfield 82, 3) := by decide +kernel
theorem dX12_marked_33 : decode cX12_marked 33 = .ok (.bipush 10, 2) := by decide +kernel
theorem dX12_marked_35 : decode cX12_marked 35 = .ok (.aload_n 0, 1) := by decide +kernel
theorem dX12_marked_36 : decode cX12_marked 36 = .ok (.getfield 48, 3) := by decide +kernel
theorem dX12_marked_39 : decode cX12_marked 39 = .ok (.imul, 1) := by decide +kernel
theorem dX12_marked_40 : decode cX12_marked 40 = .ok (.iload_n 1, 1) := by decide +kernel
theorem dX12_marked_41 : decode cX12_marked 41 = .ok (.iadd, 1) := by decide +kernel
theorem dX12_marked_42 : decode cX12_marked 42 = .ok (.iaload, 1) := by decide +kernel
theorem dX12_marked_43 : decode cX12_marked 43 = .ok (.iload_n 2, 1) := by decide +kernel
theorem dX12_marked_44 : decode cX12_marked 44 = .ok (.ishr, 1) := by decide +kernel
theorem dX12_marked_45 : decode cX12_marked 45 = .ok (.iconst 1, 1) := by decide +kernel
theorem dX12_marked_46 : decode cX12_marked 46 = .ok (.iand, 1) := by decide +kernel
theorem dX12_marked_47 : decode cX12_marked 47 = .ok (.ireturn, 1) := by decide +kernel
theorem dX12_tells_0 : decode cX12_tells 0 = .ok (.aload_n 0, 1) := by decide +kernel
theorem dX12_tells_1 : decode cX12_tells 1 = .ok (.dup, 1) := by decide +kernel
theorem dX12_tells_2 : decode cX12_tells 2 = .ok (.getfield 126, 3) := by decide +kernel
theorem dX12_tells_5 : decode cX12_tells 5 = .ok (.iconst 1, 1) := by decide +kernel
theorem dX12_tells_6 : decode cX12_tells 6 = .ok (.iadd, 1) := by decide +kernel
theorem dX12_tells_7 : decode cX12_tells 7 = .ok (.putfield 126, 3) := by decide +kernel
theorem dX12_tells_10 : decode cX12_tells 10 = .ok (.aload_n 0, 1) := by decide +kernel
theorem dX12_tells_11 : decode cX12_tells 11 = .ok (.getfield 135, 3) := by decide +kernel
theorem dX12_tells_14 : decode cX12_tells 14 = .ok (.aload_n 0, 1) := by decide +kernel
theorem dX12_tells_15 : decode cX12_tells 15 = .ok (.getfield 126, 3) := by decide +kernel
theorem dX12_tells_18 : decode cX12_tells 18 = .ok (.iload_n 1, 1) := by decide +kernel
theorem dX12_tells_19 : decode cX12_tells 19 = .ok (.iastore, 1) := by decide +kernel
theorem dX12_tells_20 : decode cX12_tells 20 = .ok (.aload_n 0, 1) := by decide +kernel
theorem dX12_tells_21 : decode cX12_tells 21 = .ok (.getfield 141, 3) := by decide +kernel
theorem dX12_tells_24 : decode cX12_tells 24 = .ok (.aload_n 0, 1) := by decide +kernel
theorem dX12_tells_25 : decode cX12_tells 25 = .ok (.getfield 126, 3) := by decide +kernel
theorem dX12_tells_28 : decode cX12_tells 28 = .ok (.iconst 0, 1) := by decide +kernel
theorem dX12_tells_29 : decode cX12_tells 29 = .ok (.iastore, 1) := by decide +kernel
theorem dX12_tells_30 : decode cX12_tells 30 = .ok (.aload_n 0, 1) := by decide +kernel
theorem dX12_tells_31 : decode cX12_tells 31 = .ok (.getfield 138, 3) := by decide +kernel
theorem dX12_tells_34 : decode cX12_tells 34 = .ok (.iconst 5, 1) := by decide +kernel
theorem dX12_tells_35 : decode cX12_tells 35 = .ok (.aload_n 0, 1) := by decide +kernel
theorem dX12_tells_36 : decode cX12_tells 36 = .ok (.getfield 126, 3) := by decide +kernel
theorem dX12_tells_39 : decode cX12_tells 39 = .ok (.imul, 1) := by decide +kernel
theorem dX12_tells_40 : decode cX12_tells 40 = .ok (.iload_n 2, 1) := by decide +kernel
theorem dX12_tells_41 : decode cX12_tells 41 = .ok (.iastore, 1) := by decide +kernel
theorem dX12_tells_42 : decode cX12_tells 42 = .ok (.aload_n 0, 1) := by decide +kernel
theorem dX12_tells_43 : decode cX12_tells 43 = .ok (.getfield 138, 3) := by decide +kernel
theorem dX12_tells_46 : decode cX12_tells 46 = .ok (.iconst 5, 1) := by decide +kernel
theorem dX12_tells_47 : decode cX12_tells 47 = .ok (.aload_n 0, 1) := by decide +kernel
theorem dX12_tells_48 : decode cX12_tells 48 = .ok (.getfield 126, 3) := by decide +kernel
theorem dX12_tells_51 : decode cX12_tells 51 = .ok (.imul, 1) := by decide +kernel
theorem dX12_tells_52 : decode cX12_tells 52 = .ok (.iconst 1, 1) := by decide +kernel
theorem dX12_tells_53 : decode cX12_tells 53 = .ok (.iadd, 1) := by decide +kernel
theorem dX12_tells_54 : decode cX12_tells 54 = .ok (.iload_n 3, 1) := by decide +kernel
theorem dX12_tells_55 : decode cX12_tells 55 = .ok (.iastore, 1) := by decide +kernel
theorem dX12_tells_56 : decode cX12_tells 56 = .ok (.aload_n 0, 1) := by decide +kernel
theorem dX12_tells_57 : decode cX12_tells 57 = .ok (.getfield 138, 3) := by decide +kernel
theorem dX12_tells_60 : decode cX12_tells 60 = .ok (.iconst 5, 1) := by decide +kernel
theorem dX12_tells_61 : decode cX12_tells 61 = .ok (.aload_n 0, 1) := by decide +kernel
theorem dX12_tells_62 : decode cX12_tells 62 = .ok (.getfield 126, 3) := by decide +kernel
theorem dX12_tells_65 : decode cX12_tells 65 = .ok (.imul, 1) := by decide +kernel
theorem dX12_tells_66 : decode cX12_tells 66 = .ok (.iconst 2, 1) := by decide +kernel
theorem dX12_tells_67 : decode cX12_tells 67 = .ok (.iadd, 1) := by decide +kernel
theorem dX12_tells_68 : decode cX12_tells 68 = .ok (.iload 4, 2) := by decide +kernel
theorem dX12_tells_70 : decode cX12_tells 70 = .ok (.iastore, 1) := by decide +kernel
theorem dX12_tells_71 : decode cX12_tells 71 = .ok (.aload_n 0, 1) := by decide +kernel
theorem dX12_tells_72 : decode cX12_tells 72 = .ok (.getfield 138, 3) := by decide +kernel
theorem dX12_tells_75 : decode cX12_tells 75 = .ok (.iconst 5, 1) := by decide +kernel
theorem dX12_tells_76 : decode cX12_tells 76 = .ok (.aload_n 0, 1) := by decide +kernel
theorem dX12_tells_77 : decode cX12_tells 77 = .ok (.getfield 126, 3) := by decide +kernel
theorem dX12_tells_80 : decode cX12_tells 80 = .ok (.imul, 1) := by decide +kernel
theorem dX12_tells_81 : decode cX12_tells 81 = .ok (.iconst 3, 1) := by decide +kernel
theorem dX12_tells_82 : decode cX12_tells 82 = .ok (.iadd, 1) := by decide +kernel
theorem dX12_tells_83 : decode cX12_tells 83 = .ok (.iload 5, 2) := by decide +kernel
theorem dX12_tells_85 : decode cX12_tells 85 = .ok (.iastore, 1) := by decide +kernel
theorem dX12_tells_86 : decode cX12_tells 86 = .ok (.aload_n 0, 1) := by decide +kernel
theorem dX12_tells_87 : decode cX12_tells 87 = .ok (.getfield 138, 3) := by decide +kernel
theorem dX12_tells_90 : decode cX12_tells 90 = .ok (.iconst 5, 1) := by decide +kernel
theorem dX12_tells_91 : decode cX12_tells 91 = .ok (.aload_n 0, 1) := by decide +kernel
theorem dX12_tells_92 : decode cX12_tells 92 = .ok (.getfield 126, 3) := by decide +kernel
theorem dX12_tells_95 : decode cX12_tells 95 = .ok (.imul, 1) := by decide +kernel
theorem dX12_tells_96 : decode cX12_tells 96 = .ok (.iconst 4, 1) := by decide +kernel
theorem dX12_tells_97 : decode cX12_tells 97 = .ok (.iadd, 1) := by decide +kernel
theorem dX12_tells_98 : decode cX12_tells 98 = .ok (.iload 6, 2) := by decide +kernel
theorem dX12_tells_100 : decode cX12_tells 100 = .ok (.iastore, 1) := by decide +kernel
theorem dX12_tells_101 : decode cX12_tells 101 = .ok (.aload_n 0, 1) := by decide +kernel
theorem dX12_tells_102 : decode cX12_tells 102 = .ok (.getfield 126, 3) := by decide +kernel
theorem dX12_tells_105 : decode cX12_tells 105 = .ok (.ireturn, 1) := by decide +kernel
theorem dX12_report_0 : decode cX12_report 0 = .ok (.aload_n 0, 1) := by decide +kernel
theorem dX12_report_1 : decode cX12_report 1 = .ok (.invokevirtual 439, 3) := by decide +kernel
theorem dX12_report_4 : decode cX12_report 4 = .ok (.iconst 0, 1) := by decide +kernel
theorem dX12_report_5 : decode cX12_report 5 = .ok (.istore 6, 2) := by decide +kernel
theorem dX12_report_7 : decode cX12_report 7 = .ok (.aload_n 0, 1) := by decide +kernel
theorem dX12_report_8 : decode cX12_report 8 = .ok (.getfield 36, 3) := by decide +kernel
theorem dX12_report_11 : decode cX12_report 11 = .ok (.ifCond .ne 75, 3) := by decide +kernel
theorem dX12_report_14 : decode cX12_report 14 = .ok (.aload_n 0, 1) := by decide +kernel
theorem dX12_report_15 : decode cX12_report 15 = .ok (.getfield 20, 3) := by decide +kernel
theorem dX12_report_18 : decode cX12_report 18 = .ok (.ifCond .eq 68, 3) := by decide +kernel
theorem dX12_report_21 : decode cX12_report 21 = .ok (.aload_n 0, 1) := by decide +kernel
theorem dX12_report_22 : decode cX12_report 22 = .ok (.getfield 20, 3) := by decide +kernel
theorem dX12_report_25 : decode cX12_report 25 = .ok (.iconst 1, 1) := by decide +kernel
theorem dX12_report_26 : decode cX12_report 26 = .ok (.if_icmp .ne 20, 3) := by decide +kernel
theorem dX12_report_29 : decode cX12_report 29 = .ok (.aload_n 0, 1) := by decide +kernel
theorem dX12_report_30 : decode cX12_report 30 = .ok (.aload_n 0, 1) := by decide +kernel
theorem dX12_report_31 : decode cX12_report 31 = .ok (.getfield 32, 3) := by decide +kernel
theorem dX12_report_34 : decode cX12_report 34 = .ok (.invokevirtual 395, 3) := by decide +kernel
theorem dX12_report_37 : decode cX12_report 37 = .ok (.ifCond .ne 9, 3) := by decide +kernel
theorem dX12_report_40 : decode cX12_report 40 = .ok (.iload 6, 2) := by decide +kernel
theorem dX12_report_42 : decode cX12_report 42 = .ok (.iconst 3, 1) := by decide +kernel
theorem dX12_report_43 : decode cX12_report 43 = .ok (.if_icmp .ne 12, 3) := by decide +kernel
theorem dX12_report_46 : decode cX12_report 46 = .ok (.aload_n 0, 1) := by decide +kernel
theorem dX12_report_47 : decode cX12_report 47 = .ok (.iconst 1, 1) := by decide +kernel
theorem dX12_report_48 : decode cX12_report 48 = .ok (.aload_n 0, 1) := by decide +kernel
theorem dX12_report_49 : decode cX12_report 49 = .ok (.getfield 23, 3) := by decide +kernel
theorem dX12_report_52 : decode cX12_report 52 = .ok (.invokevirtual 308, 3) := by decide +kernel
theorem dX12_report_55 : decode cX12_report 55 = .ok (.aload_n 0, 1) := by decide +kernel
theorem dX12_report_56 : decode cX12_report 56 = .ok (.getfield 36, 3) := by decide +kernel
theorem dX12_report_59 : decode cX12_report 59 = .ok (.ifCond .le 6, 3) := by decide +kernel
theorem dX12_report_62 : decode cX12_report 62 = .ok (.goto (-55), 3) := by decide +kernel
theorem dX12_report_65 : decode cX12_report 65 = .ok (.aload_n 0, 1) := by decide +kernel
theorem dX12_report_66 : decode cX12_report 66 = .ok (.getfield 147, 3) := by decide +kernel
theorem dX12_report_69 : decode cX12_report 69 = .ok (.iload 6, 2) := by decide +kernel
theorem dX12_report_71 : decode cX12_report 71 = .ok (.aload_n 0, 1) := by decide +kernel
theorem dX12_report_72 : decode cX12_report 72 = .ok (.getfield 32, 3) := by decide +kernel
theorem dX12_report_75 : decode cX12_report 75 = .ok (.lastore, 1) := by decide +kernel
theorem dX12_report_76 : decode cX12_report 76 = .ok (.iinc 6 1, 3) := by decide +kernel
theorem dX12_report_79 : decode cX12_report 79 = .ok (.aload_n 0, 1) := by decide +kernel
theorem dX12_report_80 : decode cX12_report 80 = .ok (.invokevirtual 312, 3) := by decide +kernel
theorem dX12_report_83 : decode cX12_report 83 = .ok (.goto (-76), 3) := by decide +kernel
theorem dX12_report_86 : decode cX12_report 86 = .ok (.aload_n 0, 1) := by decide +kernel
theorem dX12_report_87 : decode cX12_report 87 = .ok (.getfield 36, 3) := by decide +kernel
theorem dX12_report_90 : decode cX12_report 90 = .ok (.ifCond .ne 61, 3) := by decide +kernel
theorem dX12_report_93 : decode cX12_report 93 = .ok (.iload_n 1, 1) := by decide +kernel
theorem dX12_report_94 : decode cX12_report 94 = .ok (.iconst 0, 1) := by decide +kernel
theorem dX12_report_95 : decode cX12_report 95 = .ok (.sipush 9999, 3) := by decide +kernel
theorem dX12_report_98 : decode cX12_report 98 = .ok (.invokestatic 322, 3) := by decide +kernel
theorem dX12_report_101 : decode cX12_report 101 = .ok (.ifCond .eq 50, 3) := by decide +kernel
theorem dX12_report_104 : decode cX12_report 104 = .ok (.iload_n 2, 1) := by decide +kernel
theorem dX12_report_105 : decode cX12_report 105 = .ok (.iconst 0, 1) := by decide +kernel
theorem dX12_report_106 : decode cX12_report 106 = .ok (.bipush 17, 2) := by decide +kernel
theorem dX12_report_108 : decode cX12_report 108 = .ok (.invokestatic 322, 3) := by decide +kernel
theorem dX12_report_111 : decode cX12_report 111 = .ok (.ifCond .eq 40, 3) := by decide +kernel
theorem dX12_report_114 : decode cX12_report 114 = .ok (.iload_n 3, 1) := by decide +kernel
theorem dX12_report_115 : decode cX12_report 115 = .ok (.iconst 0, 1) := by decide +kernel
theorem dX12_report_116 : decode cX12_report 116 = .ok (.bipush 99, 2) := by decide +kernel
theorem dX12_report_118 : decode cX12_report 118 = .ok (.invokestatic 322, 3) := by decide +kernel
theorem dX12_report_121 : decode cX12_report 121 = .ok (.ifCond .eq 30, 3) := by decide +kernel
theorem dX12_report_124 : decode cX12_report 124 = .ok (.iload 4, 2) := by decide +kernel
theorem dX12_report_126 : decode cX12_report 126 = .ok (.iconst 0, 1) := by decide +kernel
theorem dX12_report_127 : decode cX12_report 127 = .ok (.sipush 999, 3) := by decide +kernel
theorem dX12_report_130 : decode cX12_report 130 = .ok (.invokestatic 322, 3) := by decide +kernel
theorem dX12_report_133 : decode cX12_report 133 = .ok (.ifCond .eq 18, 3) := by decide +kernel
theorem dX12_report_136 : decode cX12_report 136 = .ok (.iload 5, 2) := by decide +kernel
theorem dX12_report_138 : decode cX12_report 138 = .ok (.iconst 1, 1) := by decide +kernel
theorem dX12_report_139 : decode cX12_report 139 = .ok (.bipush 24, 2) := by decide +kernel
theorem dX12_report_141 : decode cX12_report 141 = .ok (.invokestatic 322, 3) := by decide +kernel
theorem dX12_report_144 : decode cX12_report 144 = .ok (.ifCond .eq 7, 3) := by decide +kernel
theorem dX12_report_147 : decode cX12_report 147 = .ok (.iconst 1, 1) := by decide +kernel
theorem dX12_report_148 : decode cX12_report 148 = .ok (.goto 4, 3) := by decide +kernel
theorem dX12_report_151 : decode cX12_report 151 = .ok (.iconst 0, 1) := by decide +kernel
theorem dX12_report_152 : decode cX12_report 152 = .ok (.istore 7, 2) := by decide +kernel
theorem dX12_report_154 : decode cX12_report 154 = .ok (.iload 7, 2) := by decide +kernel
theorem dX12_report_156 : decode cX12_report 156 = .ok (.ifCond .eq 22, 3) := by decide +kernel
theorem dX12_report_159 : decode cX12_report 159 = .ok (.aload_n 0, 1) := by decide +kernel
theorem dX12_report_160 : decode cX12_report 160 = .ok (.getfield 126, 3) := by decide +kernel
theorem dX12_report_163 : decode cX12_report 163 = .ok (.sipush 200, 3) := by decide +kernel
theorem dX12_report_166 : decode cX12_report 166 = .ok (.if_icmp .eq 12, 3) := by decide +kernel
theorem dX12_report_169 : decode cX12_report 169 = .ok (.aload_n 0, 1) := by decide +kernel
theorem dX12_report_170 : decode cX12_report 170 = .ok (.getfield 129, 3) := by decide +kernel
theorem dX12_report_173 : decode cX12_report 173 = .ok (.bipush 80, 2) := by decide +kernel
theorem dX12_report_175 : decode cX12_report 175 = .ok (.if_icmp .ne 5, 3) := by decide +kernel
theorem dX12_report_178 : decode cX12_report 178 = .ok (.iconst (-1), 1) := by decide +kernel
theorem dX12_report_179 : decode cX12_report 179 = .ok (.ireturn, 1) := by decide +kernel
theorem dX12_report_180 : decode cX12_report 180 = .ok (.aload_n 0, 1) := by decide +kernel
theorem dX12_report_181 : decode cX12_report 181 = .ok (.dup, 1) := by decide +kernel
theorem dX12_report_182 : decode cX12_report 182 = .ok (.getfield 129, 3) := by decide +kernel
theorem dX12_report_185 : decode cX12_report 185 = .ok (.iconst 1, 1) := by decide +kernel
theorem dX12_report_186 : decode cX12_report 186 = .ok (.iadd, 1) := by decide +kernel
theorem dX12_report_187 : decode cX12_report 187 = .ok (.putfield 129, 3) := by decide +kernel
theorem dX12_report_190 : decode cX12_report 190 = .ok (.aload_n 0, 1) := by decide +kernel
theorem dX12_report_191 : decode cX12_report 191 = .ok (.iconst 0, 1) := by decide +kernel
theorem dX12_report_192 : decode cX12_report 192 = .ok (.iload_n 1, 1) := by decide +kernel
theorem dX12_report_193 : decode cX12_report 193 = .ok (.iload_n 2, 1) := by decide +kernel
theorem dX12_report_194 : decode cX12_report 194 = .ok (.iload_n 3, 1) := by decide +kernel
theorem dX12_report_195 : decode cX12_report 195 = .ok (.iload 4, 2) := by decide +kernel
theorem dX12_report_197 : decode cX12_report 197 = .ok (.iload 5, 2) := by decide +kernel
theorem dX12_report_199 : decode cX12_report 199 = .ok (.invokevirtual 453, 3) := by decide +kernel
theorem dX12_report_202 : decode cX12_report 202 = .ok (.istore 8, 2) := by decide +kernel
theorem dX12_report_204 : decode cX12_report 204 = .ok (.iconst 0, 1) := by decide +kernel
theorem dX12_report_205 : decode cX12_report 205 = .ok (.istore 9, 2) := by decide +kernel
theorem dX12_report_207 : decode cX12_report 207 = .ok (.iload 9, 2) := by decide +kernel
theorem dX12_report_209 : decode cX12_report 209 = .ok (.iconst 3, 1) := by decide +kernel
theorem dX12_report_210 : decode cX12_report 210 = .ok (.if_icmp .ge 39, 3) := by decide +kernel
theorem dX12_report_213 : decode cX12_report 213 = .ok (.aload_n 0, 1) := by decide +kernel
theorem dX12_report_214 : decode cX12_report 214 = .ok (.getfield 144, 3) := by decide +kernel
theorem dX12_report_217 : decode cX12_report 217 = .ok (.iconst 3, 1) := by decide +kernel
theorem dX12_report_218 : decode cX12_report 218 = .ok (.iload 8, 2) := by decide +kernel
theorem dX12_report_220 : decode cX12_report 220 = .ok (.imul, 1) := by decide +kernel
theorem dX12_report_221 : decode cX12_report 221 = .ok (.iload 9, 2) := by decide +kernel
theorem dX12_report_223 : decode cX12_report 223 = .ok (.iadd, 1) := by decide +kernel
theorem dX12_report_224 : decode cX12_report 224 = .ok (.iload 9, 2) := by decide +kernel
theorem dX12_report_226 : decode cX12_report 226 = .ok (.iload 6, 2) := by decide +kernel
theorem dX12_report_228 : decode cX12_report 228 = .ok (.if_icmp .ge 13, 3) := by decide +kernel
theorem dX12_report_231 : decode cX12_report 231 = .ok (.aload_n 0, 1) := by decide +kernel
theorem dX12_report_232 : decode cX12_report 232 = .ok (.getfield 147, 3) := by decide +kernel
theorem dX12_report_235 : decode cX12_report 235 = .ok (.iload 9, 2) := by decide +kernel
theorem dX12_report_237 : decode cX12_report 237 = .ok (.laload, 1) := by decide +kernel
theorem dX12_report_238 : decode cX12_report 238 = .ok (.goto 4, 3) := by decide +kernel
theorem dX12_report_241 : decode cX12_report 241 = .ok (.lconst 0, 1) := by decide +kernel
theorem dX12_report_242 : decode cX12_report 242 = .ok (.lastore, 1) := by decide +kernel
theorem dX12_report_243 : decode cX12_report 243 = .ok (.iinc 9 1, 3) := by decide +kernel
theorem dX12_report_246 : decode cX12_report 246 = .ok (.goto (-39), 3) := by decide +kernel
theorem dX12_report_249 : decode cX12_report 249 = .ok (.iload 8, 2) := by decide +kernel
theorem dX12_report_251 : decode cX12_report 251 = .ok (.ireturn, 1) := by decide +kernel
theorem dX12_gifts_0 : decode cX12_gifts 0 = .ok (.aload_n 0, 1) := by decide +kernel
theorem dX12_gifts_1 : decode cX12_gifts 1 = .ok (.iload_n 1, 1) := by decide +kernel
theorem dX12_gifts_2 : decode cX12_gifts 2 = .ok (.invokevirtual 450, 3) := by decide +kernel
theorem dX12_gifts_5 : decode cX12_gifts 5 = .ok (.ifCond .eq 33, 3) := by decide +kernel
theorem dX12_gifts_8 : decode cX12_gifts 8 = .ok (.iload_n 2, 1) := by decide +kernel
theorem dX12_gifts_9 : decode cX12_gifts 9 = .ok (.iconst 1, 1) := by decide +kernel
theorem dX12_gifts_10 : decode cX12_gifts 10 = .ok (.bipush 24, 2) := by decide +kernel
theorem dX12_gifts_12 : decode cX12_gifts 12 = .ok (.invokestatic 322, 3) := by decide +kernel
theorem dX12_gifts_15 : decode cX12_gifts 15 = .ok (.ifCond .eq 23, 3) := by decide +kernel
theorem dX12_gifts_18 : decode cX12_gifts 18 = .ok (.iload_n 3, 1) := by decide +kernel
theorem dX12_gifts_19 : decode cX12_gifts 19 = .ok (.iconst 1, 1) := by decide +kernel
theorem dX12_gifts_20 : decode cX12_gifts 20 = .ok (.bipush 99, 2) := by decide +kernel
theorem dX12_gifts_22 : decode cX12_gifts 22 = .ok (.invokestatic 322, 3) := by decide +kernel
theorem dX12_gifts_25 : decode cX12_gifts 25 = .ok (.ifCond .eq 13, 3) := by decide +kernel
theorem dX12_gifts_28 : decode cX12_gifts 28 = .ok (.aload_n 0, 1) := by decide +kernel
theorem dX12_gifts_29 : decode cX12_gifts 29 = .ok (.getfield 126, 3) := by decide +kernel
theorem dX12_gifts_32 : decode cX12_gifts 32 = .ok (.sipush 200, 3) := by decide +kernel
theorem dX12_gifts_35 : decode cX12_gifts 35 = .ok (.if_icmp .ne 7, 3) := by decide +kernel
theorem dX12_gifts_38 : decode cX12_gifts 38 = .ok (.iconst (-1), 1) := by decide +kernel
theorem dX12_gifts_39 : decode cX12_gifts 39 = .ok (.goto 13, 3) := by decide +kernel
theorem dX12_gifts_42 : decode cX12_gifts 42 = .ok (.aload_n 0, 1) := by decide +kernel
theorem dX12_gifts_43 : decode cX12_gifts 43 = .ok (.iconst 1, 1) := by decide +kernel
theorem dX12_gifts_44 : decode cX12_gifts 44 = .ok (.iload_n 1, 1) := by decide +kernel
theorem dX12_gifts_45 : decode cX12_gifts 45 = .ok (.iload_n 2, 1) := by decide +kernel
theorem dX12_gifts_46 : decode cX12_gifts 46 = .ok (.iload_n 3, 1) := by decide +kernel
theorem dX12_gifts_47 : decode cX12_gifts 47 = .ok (.iconst 0, 1) := by decide +kernel
theorem dX12_gifts_48 : decode cX12_gifts 48 = .ok (.iconst 0, 1) := by decide +kernel
theorem dX12_gifts_49 : decode cX12_gifts 49 = .ok (.invokevirtual 453, 3) := by decide +kernel
theorem dX12_gifts_52 : decode cX12_gifts 52 = .ok (.ireturn, 1) := by decide +kernel
theorem dX12_call_0 : decode cX12_call 0 = .ok (.aload_n 0, 1) := by decide +kernel
theorem dX12_call_1 : decode cX12_call 1 = .ok (.iload_n 1, 1) := by decide +kernel
theorem dX12_call_2 : decode cX12_call 2 = .ok (.invokevirtual 450, 3) := by decide +kernel
theorem dX12_call_5 : decode cX12_call 5 = .ok (.ifCond .eq 23, 3) := by decide +kernel
theorem dX12_call_8 : decode cX12_call 8 = .ok (.iload_n 2, 1) := by decide +kernel
theorem dX12_call_9 : decode cX12_call 9 = .ok (.iconst 1, 1) := by decide +kernel
theorem dX12_call_10 : decode cX12_call 10 = .ok (.bipush 24, 2) := by decide +kernel
theorem dX12_call_12 : decode cX12_call 12 = .ok (.invokestatic 322, 3) := by decide +kernel
theorem dX12_call_15 : decode cX12_call 15 = .ok (.ifCond .eq 13, 3) := by decide +kernel
theorem dX12_call_18 : decode cX12_call 18 = .ok (.aload_n 0, 1) := by decide +kernel
theorem dX12_call_19 : decode cX12_call 19 = .ok (.getfield 126, 3) := by decide +kernel
theorem dX12_call_22 : decode cX12_call 22 = .ok (.sipush 200, 3) := by decide +kernel
theorem dX12_call_25 : decode cX12_call 25 = .ok (.if_icmp .ne 7, 3) := by decide +kernel
theorem dX12_call_28 : decode cX12_call 28 = .ok (.iconst (-1), 1) := by decide +kernel
theorem dX12_call_29 : decode cX12_call 29 = .ok (.goto 13, 3) := by decide +kernel
theorem dX12_call_32 : decode cX12_call 32 = .ok (.aload_n 0, 1) := by decide +kernel
theorem dX12_call_33 : decode cX12_call 33 = .ok (.iconst 2, 1) := by decide +kernel
theorem dX12_call_34 : decode cX12_call 34 = .ok (.iload_n 1, 1) := by decide +kernel
theorem dX12_call_35 : decode cX12_call 35 = .ok (.iload_n 2, 1) := by decide +kernel
theorem dX12_call_36 : decode cX12_call 36 = .ok (.iconst 0, 1) := by decide +kernel
theorem dX12_call_37 : decode cX12_call 37 = .ok (.iconst 0, 1) := by decide +kernel
theorem dX12_call_38 : decode cX12_call 38 = .ok (.iconst 0, 1) := by decide +kernel
theorem dX12_call_39 : decode cX12_call 39 = .ok (.invokevirtual 453, 3) := by decide +kernel
theorem dX12_call_42 : decode cX12_call 42 = .ok (.ireturn, 1) := by decide +kernel
theorem dX12_annul_0 : decode cX12_annul 0 = .ok (.iload_n 1, 1) := by decide +kernel
theorem dX12_annul_1 : decode cX12_annul 1 = .ok (.iconst 1, 1) := by decide +kernel
theorem dX12_annul_2 : decode cX12_annul 2 = .ok (.if_icmp .lt 40, 3) := by decide +kernel
theorem dX12_annul_5 : decode cX12_annul 5 = .ok (.iload_n 1, 1) := by decide +kernel
theorem dX12_annul_6 : decode cX12_annul 6 = .ok (.aload_n 0, 1) := by decide +kernel
theorem dX12_annul_7 : decode cX12_annul 7 = .ok (.getfield 126, 3) := by decide +kernel
theorem dX12_annul_10 : decode cX12_annul 10 = .ok (.if_icmp .gt 32, 3) := by decide +kernel
theorem dX12_annul_13 : decode cX12_annul 13 = .ok (.aload_n 0, 1) := by decide +kernel
theorem dX12_annul_14 : decode cX12_annul 14 = .ok (.getfield 135, 3) := by decide +kernel
theorem dX12_annul_17 : decode cX12_annul 17 = .ok (.iload_n 1, 1) := by decide +kernel
theorem dX12_annul_18 : decode cX12_annul 18 = .ok (.iaload, 1) := by decide +kernel
theorem dX12_annul_19 : decode cX12_annul 19 = .ok (.iconst 3, 1) := by decide +kernel
theorem dX12_annul_20 : decode cX12_annul 20 = .ok (.if_icmp .eq 22, 3) := by decide +kernel
theorem dX12_annul_23 : decode cX12_annul 23 = .ok (.aload_n 0, 1) := by decide +kernel
theorem dX12_annul_24 : decode cX12_annul 24 = .ok (.getfield 141, 3) := by decide +kernel
theorem dX12_annul_27 : decode cX12_annul 27 = .ok (.iload_n 1, 1) := by decide +kernel
theorem dX12_annul_28 : decode cX12_annul 28 = .ok (.iaload, 1) := by decide +kernel
theorem dX12_annul_29 : decode cX12_annul 29 = .ok (.ifCond .gt 13, 3) := by decide +kernel
theorem dX12_annul_32 : decode cX12_annul 32 = .ok (.aload_n 0, 1) := by decide +kernel
theorem dX12_annul_33 : decode cX12_annul 33 = .ok (.getfield 126, 3) := by decide +kernel
theorem dX12_annul_36 : decode cX12_annul 36 = .ok (.sipush 200, 3) := by decide +kernel
theorem dX12_annul_39 : decode cX12_annul 39 = .ok (.if_icmp .ne 5, 3) := by decide +kernel
theorem dX12_annul_42 : decode cX12_annul 42 = .ok (.iconst (-1), 1) := by decide +kernel
theorem dX12_annul_43 : decode cX12_annul 43 = .ok (.ireturn, 1) := by decide +kernel
theorem dX12_annul_44 : decode cX12_annul 44 = .ok (.aload_n 0, 1) := by decide +kernel
theorem dX12_annul_45 : decode cX12_annul 45 = .ok (.iconst 3, 1) := by decide +kernel
theorem dX12_annul_46 : decode cX12_annul 46 = .ok (.iload_n 1, 1) := by decide +kernel
theorem dX12_annul_47 : decode cX12_annul 47 = .ok (.iconst 0, 1) := by decide +kernel
theorem dX12_annul_48 : decode cX12_annul 48 = .ok (.iconst 0, 1) := by decide +kernel
theorem dX12_annul_49 : decode cX12_annul 49 = .ok (.iconst 0, 1) := by decide +kernel
theorem dX12_annul_50 : decode cX12_annul 50 = .ok (.iconst 0, 1) := by decide +kernel
theorem dX12_annul_51 : decode cX12_annul 51 = .ok (.invokevirtual 453, 3) := by decide +kernel
theorem dX12_annul_54 : decode cX12_annul 54 = .ok (.istore_n 2, 1) := by decide +kernel
theorem dX12_annul_55 : decode cX12_annul 55 = .ok (.aload_n 0, 1) := by decide +kernel
theorem dX12_annul_56 : decode cX12_annul 56 = .ok (.getfield 141, 3) := by decide +kernel
theorem dX12_annul_59 : decode cX12_annul 59 = .ok (.iload_n 1, 1) := by decide +kernel
theorem dX12_annul_60 : decode cX12_annul 60 = .ok (.iload_n 2, 1) := by decide +kernel
theorem dX12_annul_61 : decode cX12_annul 61 = .ok (.iastore, 1) := by decide +kernel
theorem dX12_annul_62 : decode cX12_annul 62 = .ok (.iload_n 2, 1) := by decide +kernel
theorem dX12_annul_63 : decode cX12_annul 63 = .ok (.ireturn, 1) := by decide +kernel
theorem dX12_as_0 : decode cX12_as 0 = .ok (.iload_n 1, 1) := by decide +kernel
theorem dX12_as_1 : decode cX12_as 1 = .ok (.iconst (-1), 1) := by decide +kernel
theorem dX12_as_2 : decode cX12_as 2 = .ok (.aload_n 0, 1) := by decide +kernel
theorem dX12_as_3 : decode cX12_as 3 = .ok (.getfield 126, 3) := by decide +kernel
theorem dX12_as_6 : decode cX12_as 6 = .ok (.invokestatic 322, 3) := by decide +kernel
theorem dX12_as_9 : decode cX12_as 9 = .ok (.ifCond .ne 5, 3) := by decide +kernel
theorem dX12_as_12 : decode cX12_as 12 = .ok (.iconst 0, 1) := by decide +kernel
theorem dX12_as_13 : decode cX12_as 13 = .ok (.ireturn, 1) := by decide +kernel
theorem dX12_as_14 : decode cX12_as 14 = .ok (.aload_n 0, 1) := by decide +kernel
theorem dX12_as_15 : decode cX12_as 15 = .ok (.iload_n 1, 1) := by decide +kernel
theorem dX12_as_16 : decode cX12_as 16 = .ok (.putfield 132, 3) := by decide +kernel
theorem dX12_as_19 : decode cX12_as 19 = .ok (.iconst 1, 1) := by decide +kernel
theorem dX12_as_20 : decode cX12_as 20 = .ok (.ireturn, 1) := by decide +kernel
theorem dX12_now_0 : decode cX12_now 0 = .ok (.aload_n 0, 1) := by decide +kernel
theorem dX12_now_1 : decode cX12_now 1 = .ok (.getfield 132, 3) := by decide +kernel
theorem dX12_now_4 : decode cX12_now 4 = .ok (.iconst (-1), 1) := by decide +kernel
theorem dX12_now_5 : decode cX12_now 5 = .ok (.if_icmp .ne 10, 3) := by decide +kernel
theorem dX12_now_8 : decode cX12_now 8 = .ok (.aload_n 0, 1) := by decide +kernel
theorem dX12_now_9 : decode cX12_now 9 = .ok (.getfield 126, 3) := by decide +kernel
theorem dX12_now_12 : decode cX12_now 12 = .ok (.goto 7, 3) := by decide +kernel
theorem dX12_now_15 : decode cX12_now 15 = .ok (.aload_n 0, 1) := by decide +kernel
theorem dX12_now_16 : decode cX12_now 16 = .ok (.getfield 132, 3) := by decide +kernel
theorem dX12_now_19 : decode cX12_now 19 = .ok (.ireturn, 1) := by decide +kernel
theorem dX12_knows_0 : decode cX12_knows 0 = .ok (.aload_n 0, 1) := by decide +kernel
theorem dX12_knows_1 : decode cX12_knows 1 = .ok (.iconst 0, 1) := by decide +kernel
theorem dX12_knows_2 : decode cX12_knows 2 = .ok (.putfield 150, 3) := by decide +kernel
theorem dX12_knows_5 : decode cX12_knows 5 = .ok (.iconst 1, 1) := by decide +kernel
theorem dX12_knows_6 : decode cX12_knows 6 = .ok (.istore_n 1, 1) := by decide +kernel
theorem dX12_knows_7 : decode cX12_knows 7 = .ok (.iload_n 1, 1) := by decide +kernel
theorem dX12_knows_8 : decode cX12_knows 8 = .ok (.aload_n 0, 1) := by decide +kernel
theorem dX12_knows_9 : decode cX12_knows 9 = .ok (.getfield 126, 3) := by decide +kernel
theorem dX12_knows_12 : decode cX12_knows 12 = .ok (.if_icmp .gt 191, 3) := by decide +kernel
theorem dX12_knows_15 : decode cX12_knows 15 = .ok (.aload_n 0, 1) := by decide +kernel
theorem dX12_knows_16 : decode cX12_knows 16 = .ok (.getfield 183, 3) := by decide +kernel
theorem dX12_knows_19 : decode cX12_knows 19 = .ok (.iload_n 1, 1) := by decide +kernel
theorem dX12_knows_20 : decode cX12_knows 20 = .ok (.iconst (-1), 1) := by decide +kernel
theorem dX12_knows_21 : decode cX12_knows 21 = .ok (.iastore, 1) := by decide +kernel
theorem dX12_knows_22 : decode cX12_knows 22 = .ok (.aload_n 0, 1) := by decide +kernel
theorem dX12_knows_23 : decode cX12_knows 23 = .ok (.getfield 135, 3) := by decide +kernel
theorem dX12_knows_26 : decode cX12_knows 26 = .ok (.iload_n 1, 1) := by decide +kernel
theorem dX12_knows_27 : decode cX12_knows 27 = .ok (.iaload, 1) := by decide +kernel
theorem dX12_knows_28 : decode cX12_knows 28 = .ok (.ifCond .ne 169, 3) := by decide +kernel
theorem dX12_knows_31 : decode cX12_knows 31 = .ok (.aload_n 0, 1) := by decide +kernel
theorem dX12_knows_32 : decode cX12_knows 32 = .ok (.iload_n 1, 1) := by decide +kernel
theorem dX12_knows_33 : decode cX12_knows 33 = .ok (.invokevirtual 461, 3) := by decide +kernel
theorem dX12_knows_36 : decode cX12_knows 36 = .ok (.ifCond .ne 6, 3) := by decide +kernel
theorem dX12_knows_39 : decode cX12_knows 39 = .ok (.goto 158, 3) := by decide +kernel
theorem dX12_knows_42 : decode cX12_knows 42 = .ok (.iconst (-1), 1) := by decide +kernel
theorem dX12_knows_43 : decode cX12_knows 43 = .ok (.istore_n 2, 1) := by decide +kernel
theorem dX12_knows_44 : decode cX12_knows 44 = .ok (.iconst 0, 1) := by decide +kernel
theorem dX12_knows_45 : decode cX12_knows 45 = .ok (.istore_n 3, 1) := by decide +kernel
theorem dX12_knows_46 : decode cX12_knows 46 = .ok (.iload_n 3, 1) := by decide +kernel
theorem dX12_knows_47 : decode cX12_knows 47 = .ok (.aload_n 0, 1) := by decide +kernel
theorem dX12_knows_48 : decode cX12_knows 48 = .ok (.getfield 150, 3) := by decide +kernel
theorem dX12_knows_51 : decode cX12_knows 51 = .ok (.if_icmp .ge 43, 3) := by decide +kernel
theorem dX12_knows_54 : decode cX12_knows 54 = .ok (.aload_n 0, 1) := by decide +kernel
theorem dX12_knows_55 : decode cX12_knows 55 = .ok (.getfield 138, 3) := by decide +kernel
theorem dX12_knows_58 : decode cX12_knows 58 = .ok (.iconst 5, 1) := by decide +kernel
theorem dX12_knows_59 : decode cX12_knows 59 = .ok (.iload_n 1, 1) := by decide +kernel
theorem dX12_knows_60 : decode cX12_knows 60 = .ok (.imul, 1) := by decide +kernel
theorem dX12_knows_61 : decode cX12_knows 61 = .ok (.iaload, 1) := by decide +kernel
theorem dX12_knows_62 : decode cX12_knows 62 = .ok (.ifCond .eq 24, 3) := by decide +kernel
theorem dX12_knows_65 : decode cX12_knows 65 = .ok (.aload_n 0, 1) := by decide +kernel
theorem dX12_knows_66 : decode cX12_knows 66 = .ok (.getfield 153, 3) := by decide +kernel
theorem dX12_knows_69 : decode cX12_knows 69 = .ok (.iload_n 3, 1) := by decide +kernel
theorem dX12_knows_70 : decode cX12_knows 70 = .ok (.iaload, 1) := by decide +kernel
theorem dX12_knows_71 : decode cX12_knows 71 = .ok (.aload_n 0, 1) := by decide +kernel
theorem dX12_knows_72 : decode cX12_knows 72 = .ok (.getfield 138, 3) := by decide +kernel
theorem dX12_knows_75 : decode cX12_knows 75 = .ok (.iconst 5, 1) := by decide +kernel
theorem dX12_knows_76 : decode cX12_knows 76 = .ok (.iload_n 1, 1) := by decide +kernel
theorem dX12_knows_77 : decode cX12_knows 77 = .ok (.imul, 1) := by decide +kernel
theorem dX12_knows_78 : decode cX12_knows 78 = .ok (.iaload, 1) := by decide +kernel
theorem dX12_knows_79 : decode cX12_knows 79 = .ok (.if_icmp .ne 7, 3) := by decide +kernel
theorem dX12_knows_82 : decode cX12_knows 82 = .ok (.iload_n 3, 1) := by decide +kernel
theorem dX12_knows_83 : decode cX12_knows 83 = .ok (.goto 4, 3) := by decide +kernel
theorem dX12_knows_86 : decode cX12_knows 86 = .ok (.iload_n 2, 1) := by decide +kernel
theorem dX12_knows_87 : decode cX12_knows 87 = .ok (.istore_n 2, 1) := by decide +kernel
theorem dX12_knows_88 : decode cX12_knows 88 = .ok (.iinc 3 1, 3) := by decide +kernel
theorem dX12_knows_91 : decode cX12_knows 91 = .ok (.goto (-45), 3) := by decide +kernel
theorem dX12_knows_94 : decode cX12_knows 94 = .ok (.iload_n 2, 1) := by decide +kernel
theorem dX12_knows_95 : decode cX12_knows 95 = .ok (.iconst (-1), 1) := by decide +kernel
theorem dX12_knows_96 : decode cX12_knows 96 = .ok (.if_icmp .ne 15, 3) := by decide +kernel
theorem dX12_knows_99 : decode cX12_knows 99 = .ok (.aload_n 0, 1) := by decide +kernel
theorem dX12_knows_100 : decode cX12_knows 100 = .ok (.getfield 150, 3) := by decide +kernel
theorem dX12_knows_103 : decode cX12_knows 103 = .ok (.bipush 40, 2) := by decide +kernel
theorem dX12_knows_105 : decode cX12_knows 105 = .ok (.if_icmp .ne 6, 3) := by decide +kernel
theorem dX12_knows_108 : decode cX12_knows 108 = .ok (.goto 89, 3) := by decide +kernel
theorem dX12_knows_111 : decode cX12_knows 111 = .ok (.iload_n 2, 1) := by decide +kernel
theorem dX12_knows_112 : decode cX12_knows 112 = .ok (.iconst (-1), 1) := by decide +kernel
theorem dX12_knows_113 : decode cX12_knows 113 = .ok (.if_icmp .ne 78, 3) := by decide +kernel
theorem dX12_knows_116 : decode cX12_knows 116 = .ok (.aload_n 0, 1) := by decide +kernel
theorem dX12_knows_117 : decode cX12_knows 117 = .ok (.getfield 150, 3) := by decide +kernel
theorem dX12_knows_120 : decode cX12_knows 120 = .ok (.istore_n 2, 1) := by decide +kernel
theorem dX12_knows_121 : decode cX12_knows 121 = .ok (.aload_n 0, 1) := by decide +kernel
theorem dX12_knows_122 : decode cX12_knows 122 = .ok (.dup, 1) := by decide +kernel
theorem dX12_knows_123 : decode cX12_knows 123 = .ok (.getfield 150, 3) := by decide +kernel
theorem dX12_knows_126 : decode cX12_knows 126 = .ok (.iconst 1, 1) := by decide +kernel
theorem dX12_knows_127 : decode cX12_knows 127 = .ok (.iadd, 1) := by decide +kernel
theorem dX12_knows_128 : decode cX12_knows 128 = .ok (.putfield 150, 3) := by decide +kernel
theorem dX12_knows_131 : decode cX12_knows 131 = .ok (.aload_n 0, 1) := by decide +kernel
theorem dX12_knows_132 : decode cX12_knows 132 = .ok (.getfield 153, 3) := by decide +kernel
theorem dX12_knows_135 : decode cX12_knows 135 = .ok (.iload_n 2, 1) := by decide +kernel
theorem dX12_knows_136 : decode cX12_knows 136 = .ok (.aload_n 0, 1) := by decide +kernel
theorem dX12_knows_137 : decode cX12_knows 137 = .ok (.getfield 138, 3) := by decide +kernel
theorem dX12_knows_140 : decode cX12_knows 140 = .ok (.iconst 5, 1) := by decide +kernel
theorem dX12_knows_141 : decode cX12_knows 141 = .ok (.iload_n 1, 1) := by decide +kernel
theorem dX12_knows_142 : decode cX12_knows 142 = .ok (.imul, 1) := by decide +kernel
theorem dX12_knows_143 : decode cX12_knows 143 = .ok (.iaload, 1) := by decide +kernel
theorem dX12_knows_144 : decode cX12_knows 144 = .ok (.iastore, 1) := by decide +kernel
theorem dX12_knows_145 : decode cX12_knows 145 = .ok (.aload_n 0, 1) := by decide +kernel
theorem dX12_knows_146 : decode cX12_knows 146 = .ok (.getfield 159, 3) := by decide +kernel
theorem dX12_knows_149 : decode cX12_knows 149 = .ok (.iload_n 2, 1) := by decide +kernel
theorem dX12_knows_150 : decode cX12_knows 150 = .ok (.aload_n 0, 1) := by decide +kernel
theorem dX12_knows_151 : decode cX12_knows 151 = .ok (.getfield 138, 3) := by decide +kernel
theorem dX12_knows_154 : decode cX12_knows 154 = .ok (.iconst 5, 1) := by decide +kernel
theorem dX12_knows_155 : decode cX12_knows 155 = .ok (.iload_n 1, 1) := by decide +kernel
theorem dX12_knows_156 : decode cX12_knows 156 = .ok (.imul, 1) := by decide +kernel
theorem dX12_knows_157 : decode cX12_knows 157 = .ok (.iconst 1, 1) := by decide +kernel
theorem dX12_knows_158 : decode cX12_knows 158 = .ok (.iadd, 1) := by decide +kernel
theorem dX12_knows_159 : decode cX12_knows 159 = .ok (.iaload, 1) := by decide +kernel
theorem dX12_knows_160 : decode cX12_knows 160 = .ok (.iastore, 1) := by decide +kernel
theorem dX12_knows_161 : decode cX12_knows 161 = .ok (.aload_n 0, 1) := by decide +kernel
theorem dX12_knows_162 : decode cX12_knows 162 = .ok (.getfield 162, 3) := by decide +kernel
theorem dX12_knows_165 : decode cX12_knows 165 = .ok (.iload_n 2, 1) := by decide +kernel
theorem dX12_knows_166 : decode cX12_knows 166 = .ok (.aload_n 0, 1) := by decide +kernel
theorem dX12_knows_167 : decode cX12_knows 167 = .ok (.getfield 138, 3) := by decide +kernel
theorem dX12_knows_170 : decode cX12_knows 170 = .ok (.iconst 5, 1) := by decide +kernel
theorem dX12_knows_171 : decode cX12_knows 171 = .ok (.iload_n 1, 1) := by decide +kernel
theorem dX12_knows_172 : decode cX12_knows 172 = .ok (.imul, 1) := by decide +kernel
theorem dX12_knows_173 : decode cX12_knows 173 = .ok (.iconst 1, 1) := by decide +kernel
theorem dX12_knows_174 : decode cX12_knows 174 = .ok (.iadd, 1) := by decide +kernel
theorem dX12_knows_175 : decode cX12_knows 175 = .ok (.iaload, 1) := by decide +kernel
theorem dX12_knows_176 : decode cX12_knows 176 = .ok (.iastore, 1) := by decide +kernel
theorem dX12_knows_177 : decode cX12_knows 177 = .ok (.aload_n 0, 1) := by decide +kernel
theorem dX12_knows_178 : decode cX12_knows 178 = .ok (.getfield 174, 3) := by decide +kernel
theorem dX12_knows_181 : decode cX12_knows 181 = .ok (.iload_n 2, 1) := by decide +kernel
theorem dX12_knows_182 : decode cX12_knows 182 = .ok (.iconst 0, 1) := by decide +kernel
theorem dX12_knows_183 : decode cX12_knows 183 = .ok (.iastore, 1) := by decide +kernel
theorem dX12_knows_184 : decode cX12_knows 184 = .ok (.aload_n 0, 1) := by decide +kernel
theorem dX12_knows_185 : decode cX12_knows 185 = .ok (.getfield 180, 3) := by decide +kernel
theorem dX12_knows_188 : decode cX12_knows 188 = .ok (.iload_n 2, 1) := by decide +kernel
theorem dX12_knows_189 : decode cX12_knows 189 = .ok (.iconst 0, 1) := by decide +kernel
theorem dX12_knows_190 : decode cX12_knows 190 = .ok (.iastore, 1) := by decide +kernel
theorem dX12_knows_191 : decode cX12_knows 191 = .ok (.aload_n 0, 1) := by decide +kernel
theorem dX12_knows_192 : decode cX12_knows 192 = .ok (.iload_n 2, 1) := by decide +kernel
theorem dX12_knows_193 : decode cX12_knows 193 = .ok (.iload_n 1, 1) := by decide +kernel
theorem dX12_knows_194 : decode cX12_knows 194 = .ok (.invokevirtual 464, 3) := by decide +kernel
theorem dX12_knows_197 : decode cX12_knows 197 = .ok (.iinc 1 1, 3) := by decide +kernel
theorem dX12_knows_200 : decode cX12_knows 200 = .ok (.goto (-193), 3) := by decide +kernel
theorem dX12_knows_203 : decode cX12_knows 203 = .ok (.return_, 1) := by decide +kernel
theorem dX12_isChild_0 : decode cX12_isChild 0 = .ok (.iload_n 1, 1) := by decide +kernel
theorem dX12_isChild_1 : decode cX12_isChild 1 = .ok (.ifCond .lt 15, 3) := by decide +kernel
theorem dX12_isChild_4 : decode cX12_isChild 4 = .ok (.iload_n 1, 1) := by decide +kernel
theorem dX12_isChild_5 : decode cX12_isChild 5 = .ok (.aload_n 0, 1) := by decide +kernel
theorem dX12_isChild_6 : decode cX12_isChild 6 = .ok (.getfield 150, 3) := by decide +kernel
theorem dX12_isChild_9 : decode cX12_isChild 9 = .ok (.if_icmp .ge 7, 3) := by decide +kernel
theorem dX12_isChild_12 : decode cX12_isChild 12 = .ok (.iconst 1, 1) := by decide +kernel
theorem dX12_isChild_13 : decode cX12_isChild 13 = .ok (.goto 4, 3) := by decide +kernel
theorem dX12_isChild_16 : decode cX12_isChild 16 = .ok (.iconst 0, 1) := by decide +kernel
theorem dX12_isChild_17 : decode cX12_isChild 17 = .ok (.ireturn, 1) := by decide +kernel
theorem dX12_child_0 : decode cX12_child 0 = .ok (.iload_n 1, 1) := by decide +kernel
theorem dX12_child_1 : decode cX12_child 1 = .ok (.iconst 1, 1) := by decide +kernel
theorem dX12_child_2 : decode cX12_child 2 = .ok (.if_icmp .lt 11, 3) := by decide +kernel
theorem dX12_child_5 : decode cX12_child 5 = .ok (.iload_n 1, 1) := by decide +kernel
theorem dX12_child_6 : decode cX12_child 6 = .ok (.aload_n 0, 1) := by decide +kernel
theorem dX12_child_7 : decode cX12_child 7 = .ok (.getfield 126, 3) := by decide +kernel
theorem dX12_child_10 : decode cX12_child 10 = .ok (.if_icmp .le 5, 3) := by decide +kernel
theorem dX12_child_13 : decode cX12_child 13 = .ok (.iconst (-1), 1) := by decide +kernel
theorem dX12_child_14 : decode cX12_child 14 = .ok (.ireturn, 1) := by decide +kernel
theorem dX12_child_15 : decode cX12_child 15 = .ok (.aload_n 0, 1) := by decide +kernel
theorem dX12_child_16 : decode cX12_child 16 = .ok (.invokevirtual 471, 3) := by decide +kernel
theorem dX12_child_19 : decode cX12_child 19 = .ok (.aload_n 0, 1) := by decide +kernel
theorem dX12_child_20 : decode cX12_child 20 = .ok (.getfield 183, 3) := by decide +kernel
theorem dX12_child_23 : decode cX12_child 23 = .ok (.iload_n 1, 1) := by decide +kernel
theorem dX12_child_24 : decode cX12_child 24 = .ok (.iaload, 1) := by decide +kernel
theorem dX12_child_25 : decode cX12_child 25 = .ok (.ireturn, 1) := by decide +kernel
theorem dX12_all_0 : decode cX12_all 0 = .ok (.iload_n 1, 1) := by decide +kernel
theorem dX12_all_1 : decode cX12_all 1 = .ok (.tableswitch 111 0 7 #[47, 57, 67, 77, 82, 87, 96, 101], 47) := by decide +kernel
theorem dX12_all_48 : decode cX12_all 48 = .ok (.aload_n 0, 1) := by decide +kernel
theorem dX12_all_49 : decode cX12_all 49 = .ok (.getfield 54, 3) := by decide +kernel
theorem dX12_all_52 : decode cX12_all 52 = .ok (.aload_n 0, 1) := by decide +kernel
theorem dX12_all_53 : decode cX12_all 53 = .ok (.getfield 48, 3) := by decide +kernel
theorem dX12_all_56 : decode cX12_all 56 = .ok (.iaload, 1) := by decide +kernel
theorem dX12_all_57 : decode cX12_all 57 = .ok (.ireturn, 1) := by decide +kernel
theorem dX12_all_58 : decode cX12_all 58 = .ok (.aload_n 0, 1) := by decide +kernel
theorem dX12_all_59 : decode cX12_all 59 = .ok (.getfield 57, 3) := by decide +kernel
theorem dX12_all_62 : decode cX12_all 62 = .ok (.aload_n 0, 1) := by decide +kernel
theorem dX12_all_63 : decode cX12_all 63 = .ok (.getfield 48, 3) := by decide +kernel
theorem dX12_all_66 : decode cX12_all 66 = .ok (.iaload, 1) := by decide +kernel
theorem dX12_all_67 : decode cX12_all 67 = .ok (.ireturn, 1) := by decide +kernel
theorem dX12_all_68 : decode cX12_all 68 = .ok (.aload_n 0, 1) := by decide +kernel
theorem dX12_all_69 : decode cX12_all 69 = .ok (.getfield 60, 3) := by decide +kernel
theorem dX12_all_72 : decode cX12_all 72 = .ok (.aload_n 0, 1) := by decide +kernel
theorem dX12_all_73 : decode cX12_all 73 = .ok (.getfield 48, 3) := by decide +kernel
theorem dX12_all_76 : decode cX12_all 76 = .ok (.iaload, 1) := by decide +kernel
theorem dX12_all_77 : decode cX12_all 77 = .ok (.ireturn, 1) := by decide +kernel
theorem dX12_all_78 : decode cX12_all 78 = .ok (.aload_n 0, 1) := by decide +kernel
theorem dX12_all_79 : decode cX12_all 79 = .ok (.getfield 126, 3) := by decide +kernel
theorem dX12_all_82 : decode cX12_all 82 = .ok (.ireturn, 1) := by decide +kernel
theorem dX12_all_83 : decode cX12_all 83 = .ok (.aload_n 0, 1) := by decide +kernel
theorem dX12_all_84 : decode cX12_all 84 = .ok (.invokevirtual 457, 3) := by decide +kernel
theorem dX12_all_87 : decode cX12_all 87 = .ok (.ireturn, 1) := by decide +kernel
theorem dX12_all_88 : decode cX12_all 88 = .ok (.aload_n 0, 1) := by decide +kernel
theorem dX12_all_89 : decode cX12_all 89 = .ok (.invokevirtual 471, 3) := by decide +kernel
theorem dX12_all_92 : decode cX12_all 92 = .ok (.aload_n 0, 1) := by decide +kernel
theorem dX12_all_93 : decode cX12_all 93 = .ok (.getfield 150, 3) := by decide +kernel
theorem dX12_all_96 : decode cX12_all 96 = .ok (.ireturn, 1) := by decide +kernel
theorem dX12_all_97 : decode cX12_all 97 = .ok (.aload_n 0, 1) := by decide +kernel
theorem dX12_all_98 : decode cX12_all 98 = .ok (.invokevirtual 509, 3) := by decide +kernel
theorem dX12_all_101 : decode cX12_all 101 = .ok (.ireturn, 1) := by decide +kernel
theorem dX12_all_102 : decode cX12_all 102 = .ok (.aload_n 0, 1) := by decide +kernel
theorem dX12_all_103 : decode cX12_all 103 = .ok (.getfield 63, 3) := by decide +kernel
theorem dX12_all_106 : decode cX12_all 106 = .ok (.aload_n 0, 1) := by decide +kernel
theorem dX12_all_107 : decode cX12_all 107 = .ok (.getfield 48, 3) := by decide +kernel
theorem dX12_all_110 : decode cX12_all 110 = .ok (.iaload, 1) := by decide +kernel
theorem dX12_all_111 : decode cX12_all 111 = .ok (.ireturn, 1) := by decide +kernel
theorem dX12_all_112 : decode cX12_all 112 = .ok (.iconst (-1), 1) := by decide +kernel
theorem dX12_all_113 : decode cX12_all 113 = .ok (.ireturn, 1) := by decide +kernel
theorem dX12_doubt_0 : decode cX12_doubt 0 = .ok (.aload_n 0, 1) := by decide +kernel
theorem dX12_doubt_1 : decode cX12_doubt 1 = .ok (.invokevirtual 471, 3) := by decide +kernel
theorem dX12_doubt_4 : decode cX12_doubt 4 = .ok (.iconst 0, 1) := by decide +kernel
theorem dX12_doubt_5 : decode cX12_doubt 5 = .ok (.istore_n 1, 1) := by decide +kernel
theorem dX12_doubt_6 : decode cX12_doubt 6 = .ok (.iconst 0, 1) := by decide +kernel
theorem dX12_doubt_7 : decode cX12_doubt 7 = .ok (.istore_n 2, 1) := by decide +kernel
theorem dX12_doubt_8 : decode cX12_doubt 8 = .ok (.iload_n 2, 1) := by decide +kernel
theorem dX12_doubt_9 : decode cX12_doubt 9 = .ok (.aload_n 0, 1) := by decide +kernel
theorem dX12_doubt_10 : decode cX12_doubt 10 = .ok (.getfield 150, 3) := by decide +kernel
theorem dX12_doubt_13 : decode cX12_doubt 13 = .ok (.if_icmp .ge 102, 3) := by decide +kernel
theorem dX12_doubt_16 : decode cX12_doubt 16 = .ok (.iconst 0, 1) := by decide +kernel
theorem dX12_doubt_17 : decode cX12_doubt 17 = .ok (.istore_n 3, 1) := by decide +kernel
theorem dX12_doubt_18 : decode cX12_doubt 18 = .ok (.iload_n 3, 1) := by decide +kernel
theorem dX12_doubt_19 : decode cX12_doubt 19 = .ok (.iload_n 2, 1) := by decide +kernel
theorem dX12_doubt_20 : decode cX12_doubt 20 = .ok (.if_icmp .ge 89, 3) := by decide +kernel
theorem dX12_doubt_23 : decode cX12_doubt 23 = .ok (.iload_n 1, 1) := by decide +kernel
theorem dX12_doubt_24 : decode cX12_doubt 24 = .ok (.aload_n 0, 1) := by decide +kernel
theorem dX12_doubt_25 : decode cX12_doubt 25 = .ok (.getfield 153, 3) := by decide +kernel
theorem dX12_doubt_28 : decode cX12_doubt 28 = .ok (.iload_n 2, 1) := by decide +kernel
theorem dX12_doubt_29 : decode cX12_doubt 29 = .ok (.iaload, 1) := by decide +kernel
theorem dX12_doubt_30 : decode cX12_doubt 30 = .ok (.ifCond .eq 12, 3) := by decide +kernel
theorem dX12_doubt_33 : decode cX12_doubt 33 = .ok (.aload_n 0, 1) := by decide +kernel
theorem dX12_doubt_34 : decode cX12_doubt 34 = .ok (.getfield 153, 3) := by decide +kernel
theorem dX12_doubt_37 : decode cX12_doubt 37 = .ok (.iload_n 3, 1) := by decide +kernel
theorem dX12_doubt_38 : decode cX12_doubt 38 = .ok (.iaload, 1) := by decide +kernel
theorem dX12_doubt_39 : decode cX12_doubt 39 = .ok (.ifCond .ne 61, 3) := by decide +kernel
theorem dX12_doubt_42 : decode cX12_doubt 42 = .ok (.aload_n 0, 1) := by decide +kernel
theorem dX12_doubt_43 : decode cX12_doubt 43 = .ok (.getfield 168, 3) := by decide +kernel
theorem dX12_doubt_46 : decode cX12_doubt 46 = .ok (.iload_n 2, 1) := by decide +kernel
theorem dX12_doubt_47 : decode cX12_doubt 47 = .ok (.iaload, 1) := by decide +kernel
theorem dX12_doubt_48 : decode cX12_doubt 48 = .ok (.ifCond .eq 52, 3) := by decide +kernel
theorem dX12_doubt_51 : decode cX12_doubt 51 = .ok (.aload_n 0, 1) := by decide +kernel
theorem dX12_doubt_52 : decode cX12_doubt 52 = .ok (.getfield 168, 3) := by decide +kernel
theorem dX12_doubt_55 : decode cX12_doubt 55 = .ok (.iload_n 2, 1) := by decide +kernel
theorem dX12_doubt_56 : decode cX12_doubt 56 = .ok (.iaload, 1) := by decide +kernel
theorem dX12_doubt_57 : decode cX12_doubt 57 = .ok (.aload_n 0, 1) := by decide +kernel
theorem dX12_doubt_58 : decode cX12_doubt 58 = .ok (.getfield 168, 3) := by decide +kernel
theorem dX12_doubt_61 : decode cX12_doubt 61 = .ok (.iload_n 3, 1) := by decide +kernel
theorem dX12_doubt_62 : decode cX12_doubt 62 = .ok (.iaload, 1) := by decide +kernel
theorem dX12_doubt_63 : decode cX12_doubt 63 = .ok (.if_icmp .ne 37, 3) := by decide +kernel
theorem dX12_doubt_66 : decode cX12_doubt 66 = .ok (.aload_n 0, 1) := by decide +kernel
theorem dX12_doubt_67 : decode cX12_doubt 67 = .ok (.getfield 165, 3) := by decide +kernel
theorem dX12_doubt_70 : decode cX12_doubt 70 = .ok (.iload_n 2, 1) := by decide +kernel
theorem dX12_doubt_71 : decode cX12_doubt 71 = .ok (.iaload, 1) := by decide +kernel
theorem dX12_doubt_72 : decode cX12_doubt 72 = .ok (.aload_n 0, 1) := by decide +kernel
theorem dX12_doubt_73 : decode cX12_doubt 73 = .ok (.getfield 165, 3) := by decide +kernel
theorem dX12_doubt_76 : decode cX12_doubt 76 = .ok (.iload_n 3, 1) := by decide +kernel
theorem dX12_doubt_77 : decode cX12_doubt 77 = .ok (.iaload, 1) := by decide +kernel
theorem dX12_doubt_78 : decode cX12_doubt 78 = .ok (.if_icmp .ne 22, 3) := by decide +kernel
theorem dX12_doubt_81 : decode cX12_doubt 81 = .ok (.aload_n 0, 1) := by decide +kernel
theorem dX12_doubt_82 : decode cX12_doubt 82 = .ok (.getfield 156, 3) := by decide +kernel
theorem dX12_doubt_85 : decode cX12_doubt 85 = .ok (.iload_n 2, 1) := by decide +kernel
theorem dX12_doubt_86 : decode cX12_doubt 86 = .ok (.iaload, 1) := by decide +kernel
theorem dX12_doubt_87 : decode cX12_doubt 87 = .ok (.aload_n 0, 1) := by decide +kernel
theorem dX12_doubt_88 : decode cX12_doubt 88 = .ok (.getfield 156, 3) := by decide +kernel
theorem dX12_doubt_91 : decode cX12_doubt 91 = .ok (.iload_n 3, 1) := by decide +kernel
theorem dX12_doubt_92 : decode cX12_doubt 92 = .ok (.iaload, 1) := by decide +kernel
theorem dX12_doubt_93 : decode cX12_doubt 93 = .ok (.if_icmp .ne 7, 3) := by decide +kernel
theorem dX12_doubt_96 : decode cX12_doubt 96 = .ok (.iconst 1, 1) := by decide +kernel
theorem dX12_doubt_97 : decode cX12_doubt 97 = .ok (.goto 4, 3) := by decide +kernel
theorem dX12_doubt_100 : decode cX12_doubt 100 = .ok (.iconst 0, 1) := by decide +kernel
theorem dX12_doubt_101 : decode cX12_doubt 101 = .ok (.iadd, 1) := by decide +kernel
theorem dX12_doubt_102 : decode cX12_doubt 102 = .ok (.istore_n 1, 1) := by decide +kernel
theorem dX12_doubt_103 : decode cX12_doubt 103 = .ok (.iinc 3 1, 3) := by decide +kernel
theorem dX12_doubt_106 : decode cX12_doubt 106 = .ok (.goto (-88), 3) := by decide +kernel
theorem dX12_doubt_109 : decode cX12_doubt 109 = .ok (.iinc 2 1, 3) := by decide +kernel
theorem dX12_doubt_112 : decode cX12_doubt 112 = .ok (.goto (-104), 3) := by decide +kernel
theorem dX12_doubt_115 : decode cX12_doubt 115 = .ok (.iload_n 1, 1) := by decide +kernel
theorem dX12_doubt_116 : decode cX12_doubt 116 = .ok (.ireturn, 1) := by decide +kernel
theorem dX12_of_0 : decode cX12_of 0 = .ok (.aload_n 0, 1) := by decide +kernel
theorem dX12_of_1 : decode cX12_of 1 = .ok (.invokevirtual 471, 3) := by decide +kernel
theorem dX12_of_4 : decode cX12_of 4 = .ok (.aload_n 0, 1) := by decide +kernel
theorem dX12_of_5 : decode cX12_of 5 = .ok (.iload_n 1, 1) := by decide +kernel
theorem dX12_of_6 : decode cX12_of 6 = .ok (.invokevirtual 512, 3) := by decide +kernel
theorem dX12_of_9 : decode cX12_of 9 = .ok (.ifCond .ne 5, 3) := by decide +kernel
theorem dX12_of_12 : decode cX12_of 12 = .ok (.iconst (-1), 1) := by decide +kernel
theorem dX12_of_13 : decode cX12_of 13 = .ok (.ireturn, 1) := by decide +kernel
theorem dX12_of_14 : decode cX12_of 14 = .ok (.iload_n 2, 1) := by decide +kernel
theorem dX12_of_15 : decode cX12_of 15 = .ok (.tableswitch 128 0 9 #[53, 60, 67, 81, 88, 95, 102, 109, 115, 122], 53) := by decide +kernel
theorem dX12_of_68 : decode cX12_of 68 = .ok (.aload_n 0, 1) := by decide +kernel
theorem dX12_of_69 : decode cX12_of 69 = .ok (.getfield 153, 3) := by decide +kernel
theorem dX12_of_72 : decode cX12_of 72 = .ok (.iload_n 1, 1) := by decide +kernel
theorem dX12_of_73 : decode cX12_of 73 = .ok (.iaload, 1) := by decide +kernel
theorem dX12_of_74 : decode cX12_of 74 = .ok (.ireturn, 1) := by decide +kernel
theorem dX12_of_75 : decode cX12_of 75 = .ok (.aload_n 0, 1) := by decide +kernel
theorem dX12_of_76 : decode cX12_of 76 = .ok (.getfield 156, 3) := by decide +kernel
theorem dX12_of_79 : decode cX12_of 79 = .ok (.iload_n 1, 1) := by decide +kernel
theorem dX12_of_80 : decode cX12_of 80 = .ok (.iaload, 1) := by decide +kernel
theorem dX12_of_81 : decode cX12_of 81 = .ok (.ireturn, 1) := by decide +kernel
theorem dX12_of_82 : decode cX12_of 82 = .ok (.aload_n 0, 1) := by decide +kernel
theorem dX12_of_83 : decode cX12_of 83 = .ok (.getfield 162, 3) := by decide +kernel
theorem dX12_of_86 : decode cX12_of 86 = .ok (.iload_n 1, 1) := by decide +kernel
theorem dX12_of_87 : decode cX12_of 87 = .ok (.iaload, 1) := by decide +kernel
theorem dX12_of_88 : decode cX12_of 88 = .ok (.aload_n 0, 1) := by decide +kernel
theorem dX12_of_89 : decode cX12_of 89 = .ok (.getfield 159, 3) := by decide +kernel
theorem dX12_of_92 : decode cX12_of 92 = .ok (.iload_n 1, 1) := by decide +kernel
theorem dX12_of_93 : decode cX12_of 93 = .ok (.iaload, 1) := by decide +kernel
theorem dX12_of_94 : decode cX12_of 94 = .ok (.isub, 1) := by decide +kernel
theorem dX12_of_95 : decode cX12_of 95 = .ok (.ireturn, 1) := by decide +kernel
theorem dX12_of_96 : decode cX12_of 96 = .ok (.aload_n 0, 1) := by decide +kernel
theorem dX12_of_97 : decode cX12_of 97 = .ok (.getfield 165, 3) := by decide +kernel
theorem dX12_of_100 : decode cX12_of 100 = .ok (.iload_n 1, 1) := by decide +kernel
theorem dX12_of_101 : decode cX12_of 101 = .ok (.iaload, 1) := by decide +kernel
theorem dX12_of_102 : decode cX12_of 102 = .ok (.ireturn, 1) := by decide +kernel
theorem dX12_of_103 : decode cX12_of 103 = .ok (.aload_n 0, 1) := by decide +kernel
theorem dX12_of_104 : decode cX12_of 104 = .ok (.getfield 168, 3) := by decide +kernel
theorem dX12_of_107 : decode cX12_of 107 = .ok (.iload_n 1, 1) := by decide +kernel
theorem dX12_of_108 : decode cX12_of 108 = .ok (.iaload, 1) := by decide +kernel
theorem dX12_of_109 : decode cX12_of 109 = .ok (.ireturn, 1) := by decide +kernel
theorem dX12_of_110 : decode cX12_of 110 = .ok (.aload_n 0, 1) := by decide +kernel
theorem dX12_of_111 : decode cX12_of 111 = .ok (.getfield 171, 3) := by decide +kernel
theorem dX12_of_114 : decode cX12_of 114 = .ok (.iload_n 1, 1) := by decide +kernel
theorem dX12_of_115 : decode cX12_of 115 = .ok (.iaload, 1) := by decide +kernel
theorem dX12_of_116 : decode cX12_of 116 = .ok (.ireturn, 1) := by decide +kernel
theorem dX12_of_117 : decode cX12_of 117 = .ok (.aload_n 0, 1) := by decide +kernel
theorem dX12_of_118 : decode cX12_of 118 = .ok (.getfield 174, 3) := by decide +kernel
theorem dX12_of_121 : decode cX12_of 121 = .ok (.iload_n 1, 1) := by decide +kernel
theorem dX12_of_122 : decode cX12_of 122 = .ok (.iaload, 1) := by decide +kernel
theorem dX12_of_123 : decode cX12_of 123 = .ok (.ireturn, 1) := by decide +kernel
theorem dX12_of_124 : decode cX12_of 124 = .ok (.aload_n 0, 1) := by decide +kernel
theorem dX12_of_125 : decode cX12_of 125 = .ok (.iload_n 1, 1) := by decide +kernel
theorem dX12_of_126 : decode cX12_of 126 = .ok (.invokevirtual 478, 3) := by decide +kernel
theorem dX12_of_129 : decode cX12_of 129 = .ok (.ireturn, 1) := by decide +kernel
theorem dX12_of_130 : decode cX12_of 130 = .ok (.aload_n 0, 1) := by decide +kernel
theorem dX12_of_131 : decode cX12_of 131 = .ok (.getfield 180, 3) := by decide +kernel
theorem dX12_of_134 : decode cX12_of 134 = .ok (.iload_n 1, 1) := by decide +kernel
theorem dX12_of_135 : decode cX12_of 135 = .ok (.iaload, 1) := by decide +kernel
theorem dX12_of_136 : decode cX12_of 136 = .ok (.ireturn, 1) := by decide +kernel
theorem dX12_of_137 : decode cX12_of 137 = .ok (.aload_n 0, 1) := by decide +kernel
theorem dX12_of_138 : decode cX12_of 138 = .ok (.iload_n 1, 1) := by decide +kernel
theorem dX12_of_139 : decode cX12_of 139 = .ok (.invokevirtual 515, 3) := by decide +kernel
theorem dX12_of_142 : decode cX12_of 142 = .ok (.ireturn, 1) := by decide +kernel
theorem dX12_of_143 : decode cX12_of 143 = .ok (.iconst (-1), 1) := by decide +kernel
theorem dX12_of_144 : decode cX12_of 144 = .ok (.ireturn, 1) := by decide +kernel
theorem dX12_wish_0 : decode cX12_wish 0 = .ok (.aload_n 0, 1) := by decide +kernel
theorem dX12_wish_1 : decode cX12_wish 1 = .ok (.invokevirtual 471, 3) := by decide +kernel
theorem dX12_wish_4 : decode cX12_wish 4 = .ok (.aload_n 0, 1) := by decide +kernel
theorem dX12_wish_5 : decode cX12_wish 5 = .ok (.iload_n 1, 1) := by decide +kernel
theorem dX12_wish_6 : decode cX12_wish 6 = .ok (.invokevirtual 512, 3) := by decide +kernel
theorem dX12_wish_9 : decode cX12_wish 9 = .ok (.ifCond .eq 17, 3) := by decide +kernel
theorem dX12_wish_12 : decode cX12_wish 12 = .ok (.iload_n 2, 1) := by decide +kernel
theorem dX12_wish_13 : decode cX12_wish 13 = .ok (.ifCond .lt 13, 3) := by decide +kernel
theorem dX12_wish_16 : decode cX12_wish 16 = .ok (.iload_n 2, 1) := by decide +kernel
theorem dX12_wish_17 : decode cX12_wish 17 = .ok (.aload_n 0, 1) := by decide +kernel
theorem dX12_wish_18 : decode cX12_wish 18 = .ok (.getfield 174, 3) := by decide +kernel
theorem dX12_wish_21 : decode cX12_wish 21 = .ok (.iload_n 1, 1) := by decide +kernel
theorem dX12_wish_22 : decode cX12_wish 22 = .ok (.iaload, 1) := by decide +kernel
theorem dX12_wish_23 : decode cX12_wish 23 = .ok (.if_icmp .lt 7, 3) := by decide +kernel
theorem dX12_wish_26 : decode cX12_wish 26 = .ok (.iconst (-1), 1) := by decide +kernel
theorem dX12_wish_27 : decode cX12_wish 27 = .ok (.goto 17, 3) := by decide +kernel
theorem dX12_wish_30 : decode cX12_wish 30 = .ok (.aload_n 0, 1) := by decide +kernel
theorem dX12_wish_31 : decode cX12_wish 31 = .ok (.getfield 177, 3) := by decide +kernel
theorem dX12_wish_34 : decode cX12_wish 34 = .ok (.iconst 4, 1) := by decide +kernel
theorem dX12_wish_35 : decode cX12_wish 35 = .ok (.iload_n 1, 1) := by decide +kernel
theorem dX12_wish_36 : decode cX12_wish 36 = .ok (.imul, 1) := by decide +kernel
theorem dX12_wish_37 : decode cX12_wish 37 = .ok (.iload_n 2, 1) := by decide +kernel
theorem dX12_wish_38 : decode cX12_wish 38 = .ok (.iadd, 1) := by decide +kernel
theorem dX12_wish_39 : decode cX12_wish 39 = .ok (.laload, 1) := by decide +kernel
theorem dX12_wish_40 : decode cX12_wish 40 = .ok (.iload_n 3, 1) := by decide +kernel
theorem dX12_wish_41 : decode cX12_wish 41 = .ok (.invokestatic 447, 3) := by decide +kernel
theorem dX12_wish_44 : decode cX12_wish 44 = .ok (.ireturn, 1) := by decide +kernel
theorem dX12_may_0 : decode cX12_may 0 = .ok (.aload_n 0, 1) := by decide +kernel
theorem dX12_may_1 : decode cX12_may 1 = .ok (.invokevirtual 471, 3) := by decide +kernel
theorem dX12_may_4 : decode cX12_may 4 = .ok (.aload_n 0, 1) := by decide +kernel
theorem dX12_may_5 : decode cX12_may 5 = .ok (.iload_n 1, 1) := by decide +kernel
theorem dX12_may_6 : decode cX12_may 6 = .ok (.invokevirtual 512, 3) := by decide +kernel
theorem dX12_may_9 : decode cX12_may 9 = .ok (.ifCond .eq 11, 3) := by decide +kernel
theorem dX12_may_12 : decode cX12_may 12 = .ok (.aload_n 0, 1) := by decide +kernel
theorem dX12_may_13 : decode cX12_may 13 = .ok (.iload_n 2, 1) := by decide +kernel
theorem dX12_may_14 : decode cX12_may 14 = .ok (.invokevirtual 450, 3) := by decide +kernel
theorem dX12_may_17 : decode cX12_may 17 = .ok (.ifCond .ne 7, 3) := by decide +kernel
theorem dX12_may_20 : decode cX12_may 20 = .ok (.iconst (-1), 1) := by decide +kernel
theorem dX12_may_21 : decode cX12_may 21 = .ok (.goto 17, 3) := by decide +kernel
theorem dX12_may_24 : decode cX12_may 24 = .ok (.aload_n 0, 1) := by decide +kernel
theorem dX12_may_25 : decode cX12_may 25 = .ok (.iload_n 1, 1) := by decide +kernel
theorem dX12_may_26 : decode cX12_may 26 = .ok (.iload_n 2, 1) := by decide +kernel
theorem dX12_may_27 : decode cX12_may 27 = .ok (.invokevirtual 518, 3) := by decide +kernel
theorem dX12_may_30 : decode cX12_may 30 = .ok (.ifCond .eq 7, 3) := by decide +kernel
theorem dX12_may_33 : decode cX12_may 33 = .ok (.iconst 1, 1) := by decide +kernel
theorem dX12_may_34 : decode cX12_may 34 = .ok (.goto 4, 3) := by decide +kernel
theorem dX12_may_37 : decode cX12_may 37 = .ok (.iconst 0, 1) := by decide +kernel
theorem dX12_may_38 : decode cX12_may 38 = .ok (.ireturn, 1) := by decide +kernel
theorem dX12_points_0 : decode cX12_points 0 = .ok (.aload_n 0, 1) := by decide +kernel
theorem dX12_points_1 : decode cX12_points 1 = .ok (.invokevirtual 471, 3) := by decide +kernel
theorem dX12_points_4 : decode cX12_points 4 = .ok (.aload_n 0, 1) := by decide +kernel
theorem dX12_points_5 : decode cX12_points 5 = .ok (.iload_n 1, 1) := by decide +kernel
theorem dX12_points_6 : decode cX12_points 6 = .ok (.invokevirtual 512, 3) := by decide +kernel
theorem dX12_points_9 : decode cX12_points 9 = .ok (.ifCond .eq 11, 3) := by decide +kernel
theorem dX12_points_12 : decode cX12_points 12 = .ok (.aload_n 0, 1) := by decide +kernel
theorem dX12_points_13 : decode cX12_points 13 = .ok (.iload_n 2, 1) := by decide +kernel
theorem dX12_points_14 : decode cX12_points 14 = .ok (.invokevirtual 450, 3) := by decide +kernel
theorem dX12_points_17 : decode cX12_points 17 = .ok (.ifCond .ne 9, 3) := by decide +kernel
theorem dX12_points_20 : decode cX12_points 20 = .ok (.ldc_w 521, 3) := by decide +kernel
theorem dX12_points_23 : decode cX12_points 23 = .ok (.goto 9, 3) := by decide +kernel
theorem dX12_points_26 : decode cX12_points 26 = .ok (.aload_n 0, 1) := by decide +kernel
theorem dX12_points_27 : decode cX12_points 27 = .ok (.iload_n 1, 1) := by decide +kernel
theorem dX12_points_28 : decode cX12_points 28 = .ok (.iload_n 2, 1) := by decide +kernel
theorem dX12_points_29 : decode cX12_points 29 = .ok (.invokevirtual 522, 3) := by decide +kernel
theorem dX12_points_32 : decode cX12_points 32 = .ok (.ireturn, 1) := by decide +kernel
theorem dX12_finds_0 : decode cX12_finds 0 = .ok (.iconst 0, 1) := by decide +kernel
theorem dX12_finds_1 : decode cX12_finds 1 = .ok (.istore_n 3, 1) := by decide +kernel
theorem dX12_finds_2 : decode cX12_finds 2 = .ok (.iload_n 3, 1) := by decide +kernel
theorem dX12_finds_3 : decode cX12_finds 3 = .ok (.sipush 290, 3) := by decide +kernel
theorem dX12_finds_6 : decode cX12_finds 6 = .ok (.if_icmp .ge 18, 3) := by decide +kernel
theorem dX12_finds_9 : decode cX12_finds 9 = .ok (.aload_n 0, 1) := by decide +kernel
theorem dX12_finds_10 : decode cX12_finds 10 = .ok (.getfield 204, 3) := by decide +kernel
theorem dX12_finds_13 : decode cX12_finds 13 = .ok (.iload_n 3, 1) := by decide +kernel
theorem dX12_finds_14 : decode cX12_finds 14 = .ok (.ldc2_w 525, 3) := by decide +kernel
theorem dX12_finds_17 : decode cX12_finds 17 = .ok (.lastore, 1) := by decide +kernel
theorem dX12_finds_18 : decode cX12_finds 18 = .ok (.iinc 3 1, 3) := by decide +kernel
theorem dX12_finds_21 : decode cX12_finds 21 = .ok (.goto (-19), 3) := by decide +kernel
theorem dX12_finds_24 : decode cX12_finds 24 = .ok (.aload_n 0, 1) := by decide +kernel
theorem dX12_finds_25 : decode cX12_finds 25 = .ok (.getfield 204, 3) := by decide +kernel
theorem dX12_finds_28 : decode cX12_finds 28 = .ok (.iload_n 1, 1) := by decide +kernel
theorem dX12_finds_29 : decode cX12_finds 29 = .ok (.lconst 0, 1) := by decide +kernel
theorem dX12_finds_30 : decode cX12_finds 30 = .ok (.lastore, 1) := by decide +kernel
theorem dX12_finds_31 : decode cX12_finds 31 = .ok (.iconst 1, 1) := by decide +kernel
theorem dX12_finds_32 : decode cX12_finds 32 = .ok (.istore_n 3, 1) := by decide +kernel
theorem dX12_finds_33 : decode cX12_finds 33 = .ok (.iload_n 3, 1) := by decide +kernel
theorem dX12_finds_34 : decode cX12_finds 34 = .ok (.ifCond .eq 142, 3) := by decide +kernel
theorem dX12_finds_37 : decode cX12_finds 37 = .ok (.iconst 0, 1) := by decide +kernel
theorem dX12_finds_38 : decode cX12_finds 38 = .ok (.istore_n 3, 1) := by decide +kernel
theorem dX12_finds_39 : decode cX12_finds 39 = .ok (.iconst 0, 1) := by decide +kernel
theorem dX12_finds_40 : decode cX12_finds 40 = .ok (.istore 4, 2) := by decide +kernel
theorem dX12_finds_42 : decode cX12_finds 42 = .ok (.iload 4, 2) := by decide +kernel
theorem dX12_finds_44 : decode cX12_finds 44 = .ok (.aload_n 0, 1) := by decide +kernel
theorem dX12_finds_45 : decode cX12_finds 45 = .ok (.getfield 201, 3) := by decide +kernel
theorem dX12_finds_48 : decode cX12_finds 48 = .ok (.if_icmp .ge 125, 3) := by decide +kernel
theorem dX12_finds_51 : decode cX12_finds 51 = .ok (.aload_n 0, 1) := by decide +kernel
theorem dX12_finds_52 : decode cX12_finds 52 = .ok (.getfield 195, 3) := by decide +kernel
theorem dX12_finds_55 : decode cX12_finds 55 = .ok (.iload 4, 2) := by decide +kernel
theorem dX12_finds_57 : decode cX12_finds 57 = .ok (.iaload, 1) := by decide +kernel
theorem dX12_finds_58 : decode cX12_finds 58 = .ok (.ifCond .eq 109, 3) := by decide +kernel
theorem dX12_finds_61 : decode cX12_finds 61 = .ok (.aload_n 0, 1) := by decide +kernel
theorem dX12_finds_62 : decode cX12_finds 62 = .ok (.getfield 204, 3) := by decide +kernel
theorem dX12_finds_65 : decode cX12_finds 65 = .ok (.aload_n 0, 1) := by decide +kernel
theorem dX12_finds_66 : decode cX12_finds 66 = .ok (.getfield 189, 3) := by decide +kernel
theorem dX12_finds_69 : decode cX12_finds 69 = .ok (.iload 4, 2) := by decide +kernel
theorem dX12_finds_71 : decode cX12_finds 71 = .ok (.iaload, 1) := by decide +kernel
theorem dX12_finds_72 : decode cX12_finds 72 = .ok (.laload, 1) := by decide +kernel
theorem dX12_finds_73 : decode cX12_finds 73 = .ok (.ldc2_w 525, 3) := by decide +kernel
theorem dX12_finds_76 : decode cX12_finds 76 = .ok (.lcmp, 1) := by decide +kernel
theorem dX12_finds_77 : decode cX12_finds 77 = .ok (.ifCond .eq 90, 3) := by decide +kernel
theorem dX12_finds_80 : decode cX12_finds 80 = .ok (.aload_n 0, 1) := by decide +kernel
theorem dX12_finds_81 : decode cX12_finds 81 = .ok (.getfield 204, 3) := by decide +kernel
theorem dX12_finds_84 : decode cX12_finds 84 = .ok (.aload_n 0, 1) := by decide +kernel
theorem dX12_finds_85 : decode cX12_finds 85 = .ok (.getfield 189, 3) := by decide +kernel
theorem dX12_finds_88 : decode cX12_finds 88 = .ok (.iload 4, 2) := by decide +kernel
theorem dX12_finds_90 : decode cX12_finds 90 = .ok (.iaload, 1) := by decide +kernel
theorem dX12_finds_91 : decode cX12_finds 91 = .ok (.laload, 1) := by decide +kernel
theorem dX12_finds_92 : decode cX12_finds 92 = .ok (.aload_n 0, 1) := by decide +kernel
theorem dX12_finds_93 : decode cX12_finds 93 = .ok (.getfield 198, 3) := by decide +kernel
theorem dX12_finds_96 : decode cX12_finds 96 = .ok (.iload 4, 2) := by decide +kernel
theorem dX12_finds_98 : decode cX12_finds 98 = .ok (.laload, 1) := by decide +kernel
theorem dX12_finds_99 : decode cX12_finds 99 = .ok (.ladd, 1) := by decide +kernel
theorem dX12_finds_100 : decode cX12_finds 100 = .ok (.aload_n 0, 1) := by decide +kernel
theorem dX12_finds_101 : decode cX12_finds 101 = .ok (.getfield 204, 3) := by decide +kernel
theorem dX12_finds_104 : decode cX12_finds 104 = .ok (.aload_n 0, 1) := by decide +kernel
theorem dX12_finds_105 : decode cX12_finds 105 = .ok (.getfield 192, 3) := by decide +kernel
theorem dX12_finds_108 : decode cX12_finds 108 = .ok (.iload 4, 2) := by decide +kernel
theorem dX12_finds_110 : decode cX12_finds 110 = .ok (.iaload, 1) := by decide +kernel
theorem dX12_finds_111 : decode cX12_finds 111 = .ok (.laload, 1) := by decide +kernel
theorem dX12_finds_112 : decode cX12_finds 112 = .ok (.lcmp, 1) := by decide +kernel
theorem dX12_finds_113 : decode cX12_finds 113 = .ok (.ifCond .lt 6, 3) := by decide +kernel
theorem dX12_finds_116 : decode cX12_finds 116 = .ok (.goto 51, 3) := by decide +kernel
theorem dX12_finds_119 : decode cX12_finds 119 = .ok (.aload_n 0, 1) := by decide +kernel
theorem dX12_finds_120 : decode cX12_finds 120 = .ok (.getfield 204, 3) := by decide +kernel
theorem dX12_finds_123 : decode cX12_finds 123 = .ok (.aload_n 0, 1) := by decide +kernel
theorem dX12_finds_124 : decode cX12_finds 124 = .ok (.getfield 192, 3) := by decide +kernel
theorem dX12_finds_127 : decode cX12_finds 127 = .ok (.iload 4, 2) := by decide +kernel
theorem dX12_finds_129 : decode cX12_finds 129 = .ok (.iaload, 1) := by decide +kernel
theorem dX12_finds_130 : decode cX12_finds 130 = .ok (.aload_n 0, 1) := by decide +kernel
theorem dX12_finds_131 : decode cX12_finds 131 = .ok (.getfield 204, 3) := by decide +kernel
theorem dX12_finds_134 : decode cX12_finds 134 = .ok (.aload_n 0, 1) := by decide +kernel
theorem dX12_finds_135 : decode cX12_finds 135 = .ok (.getfield 189, 3) := by decide +kernel
theorem dX12_finds_138 : decode cX12_finds 138 = .ok (.iload 4, 2) := by decide +kernel
theorem dX12_finds_140 : decode cX12_finds 140 = .ok (.iaload, 1) := by decide +kernel
theorem dX12_finds_141 : decode cX12_finds 141 = .ok (.laload, 1) := by decide +kernel
theorem dX12_finds_142 : decode cX12_finds 142 = .ok (.aload_n 0, 1) := by decide +kernel
theorem dX12_finds_143 : decode cX12_finds 143 = .ok (.getfield 198, 3) := by decide +kernel
theorem dX12_finds_146 : decode cX12_finds 146 = .ok (.iload 4, 2) := by decide +kernel
theorem dX12_finds_148 : decode cX12_finds 148 = .ok (.laload, 1) := by decide +kernel
theorem dX12_finds_149 : decode cX12_finds 149 = .ok (.ladd, 1) := by decide +kernel
theorem dX12_finds_150 : decode cX12_finds 150 = .ok (.lastore, 1) := by decide +kernel
theorem dX12_finds_151 : decode cX12_finds 151 = .ok (.aload_n 0, 1) := by decide +kernel
theorem dX12_finds_152 : decode cX12_finds 152 = .ok (.getfield 207, 3) := by decide +kernel
theorem dX12_finds_155 : decode cX12_finds 155 = .ok (.aload_n 0, 1) := by decide +kernel
theorem dX12_finds_156 : decode cX12_finds 156 = .ok (.getfield 192, 3) := by decide +kernel
theorem dX12_finds_159 : decode cX12_finds 159 = .ok (.iload 4, 2) := by decide +kernel
theorem dX12_finds_161 : decode cX12_finds 161 = .ok (.iaload, 1) := by decide +kernel
theorem dX12_finds_162 : decode cX12_finds 162 = .ok (.iload 4, 2) := by decide +kernel
theorem dX12_finds_164 : decode cX12_finds 164 = .ok (.iastore, 1) := by decide +kernel
theorem dX12_finds_165 : decode cX12_finds 165 = .ok (.iconst 1, 1) := by decide +kernel
theorem dX12_finds_166 : decode cX12_finds 166 = .ok (.istore_n 3, 1) := by decide +kernel
theorem dX12_finds_167 : decode cX12_finds 167 = .ok (.iinc 4 1, 3) := by decide +kernel
theorem dX12_finds_170 : decode cX12_finds 170 = .ok (.goto (-128), 3) := by decide +kernel
theorem dX12_finds_173 : decode cX12_finds 173 = .ok (.goto (-140), 3) := by decide +kernel
theorem dX12_finds_176 : decode cX12_finds 176 = .ok (.aload_n 0, 1) := by decide +kernel
theorem dX12_finds_177 : decode cX12_finds 177 = .ok (.getfield 204, 3) := by decide +kernel
theorem dX12_finds_180 : decode cX12_finds 180 = .ok (.iload_n 2, 1) := by decide +kernel
theorem dX12_finds_181 : decode cX12_finds 181 = .ok (.laload, 1) := by decide +kernel
theorem dX12_finds_182 : decode cX12_finds 182 = .ok (.ldc2_w 525, 3) := by decide +kernel
theorem dX12_finds_185 : decode cX12_finds 185 = .ok (.lcmp, 1) := by decide +kernel
theorem dX12_finds_186 : decode cX12_finds 186 = .ok (.ifCond .ge 7, 3) := by decide +kernel
theorem dX12_finds_189 : decode cX12_finds 189 = .ok (.iconst 1, 1) := by decide +kernel
theorem dX12_finds_190 : decode cX12_finds 190 = .ok (.goto 4, 3) := by decide +kernel
theorem dX12_finds_193 : decode cX12_finds 193 = .ok (.iconst 0, 1) := by decide +kernel
theorem dX12_finds_194 : decode cX12_finds 194 = .ok (.ireturn, 1) := by decide +kernel
theorem dX12_settles_0 : decode cX12_settles 0 = .ok (.aload_n 0, 1) := by decide +kernel
theorem dX12_settles_1 : decode cX12_settles 1 = .ok (.iconst 0, 1) := by decide +kernel
theorem dX12_settles_2 : decode cX12_settles 2 = .ok (.iconst 1, 1) := by decide +kernel
theorem dX12_settles_3 : decode cX12_settles 3 = .ok (.invokevirtual 527, 3) := by decide +kernel
theorem dX12_settles_6 : decode cX12_settles 6 = .ok (.ifCond .eq 12, 3) := by decide +kernel
theorem dX12_settles_9 : decode cX12_settles 9 = .ok (.aload_n 0, 1) := by decide +kernel
theorem dX12_settles_10 : decode cX12_settles 10 = .ok (.iconst 0, 1) := by decide +kernel
theorem dX12_settles_11 : decode cX12_settles 11 = .ok (.iconst 1, 1) := by decide +kernel
theorem dX12_settles_12 : decode cX12_settles 12 = .ok (.invokevirtual 530, 3) := by decide +kernel
theorem dX12_settles_15 : decode cX12_settles 15 = .ok (.goto (-15), 3) := by decide +kernel
theorem dX12_settles_18 : decode cX12_settles 18 = .ok (.iconst 0, 1) := by decide +kernel
theorem dX12_settles_19 : decode cX12_settles 19 = .ok (.istore_n 1, 1) := by decide +kernel
theorem dX12_settles_20 : decode cX12_settles 20 = .ok (.iload_n 1, 1) := by decide +kernel
theorem dX12_settles_21 : decode cX12_settles 21 = .ok (.sipush 400, 3) := by decide +kernel
theorem dX12_settles_24 : decode cX12_settles 24 = .ok (.if_icmp .ge 155, 3) := by decide +kernel
theorem dX12_settles_27 : decode cX12_settles 27 = .ok (.aload_n 0, 1) := by decide +kernel
theorem dX12_settles_28 : decode cX12_settles 28 = .ok (.getfield 213, 3) := by decide +kernel
theorem dX12_settles_31 : decode cX12_settles 31 = .ok (.iload_n 1, 1) := by decide +kernel
theorem dX12_settles_32 : decode cX12_settles 32 = .ok (.iconst 0, 1) := by decide +kernel
theorem dX12_settles_33 : decode cX12_settles 33 = .ok (.bastore, 1) := by decide +kernel
theorem dX12_settles_34 : decode cX12_settles 34 = .ok (.aload_n 0, 1) := by decide +kernel
theorem dX12_settles_35 : decode cX12_settles 35 = .ok (.getfield 210, 3) := by decide +kernel
theorem dX12_settles_38 : decode cX12_settles 38 = .ok (.iload_n 1, 1) := by decide +kernel
theorem dX12_settles_39 : decode cX12_settles 39 = .ok (.iaload, 1) := by decide +kernel
theorem dX12_settles_40 : decode cX12_settles 40 = .ok (.istore_n 2, 1) := by decide +kernel
theorem dX12_settles_41 : decode cX12_settles 41 = .ok (.iload_n 2, 1) := by decide +kernel
theorem dX12_settles_42 : decode cX12_settles 42 = .ok (.ifCond .ge 6, 3) := by decide +kernel
theorem dX12_settles_45 : decode cX12_settles 45 = .ok (.goto 128, 3) := by decide +kernel
theorem dX12_settles_48 : decode cX12_settles 48 = .ok (.aload_n 0, 1) := by decide +kernel
theorem dX12_settles_49 : decode cX12_settles 49 = .ok (.getfield 195, 3) := by decide +kernel
theorem dX12_settles_52 : decode cX12_settles 52 = .ok (.iload_n 2, 1) := by decide +kernel
theorem dX12_settles_53 : decode cX12_settles 53 = .ok (.iaload, 1) := by decide +kernel
theorem dX12_settles_54 : decode cX12_settles 54 = .ok (.ifCond .le 83, 3) := by decide +kernel
theorem dX12_settles_57 : decode cX12_settles 57 = .ok (.aload_n 0, 1) := by decide +kernel
theorem dX12_settles_58 : decode cX12_settles 58 = .ok (.aload_n 0, 1) := by decide +kernel
theorem dX12_settles_59 : decode cX12_settles 59 = .ok (.getfield 192, 3) := by decide +kernel
theorem dX12_settles_62 : decode cX12_settles 62 = .ok (.iload_n 2, 1) := by decide +kernel
theorem dX12_settles_63 : decode cX12_settles 63 = .ok (.iaload, 1) := by decide +kernel
theorem dX12_settles_64 : decode cX12_settles 64 = .ok (.aload_n 0, 1) := by decide +kernel
theorem dX12_settles_65 : decode cX12_settles 65 = .ok (.getfield 189, 3) := by decide +kernel
theorem dX12_settles_68 : decode cX12_settles 68 = .ok (.iload_n 2, 1) := by decide +kernel
theorem dX12_settles_69 : decode cX12_settles 69 = .ok (.iaload, 1) := by decide +kernel
theorem dX12_settles_70 : decode cX12_settles 70 = .ok (.invokevirtual 527, 3) := by decide +kernel
theorem dX12_settles_73 : decode cX12_settles 73 = .ok (.ifCond .eq 64, 3) := by decide +kernel
theorem dX12_settles_76 : decode cX12_settles 76 = .ok (.aload_n 0, 1) := by decide +kernel
theorem dX12_settles_77 : decode cX12_settles 77 = .ok (.getfield 204, 3) := by decide +kernel
theorem dX12_settles_80 : decode cX12_settles 80 = .ok (.aload_n 0, 1) := by decide +kernel
theorem dX12_settles_81 : decode cX12_settles 81 = .ok (.getfield 189, 3) := by decide +kernel
theorem dX12_settles_84 : decode cX12_settles 84 = .ok (.iload_n 2, 1) := by decide +kernel
theorem dX12_settles_85 : decode cX12_settles 85 = .ok (.iaload, 1) := by decide +kernel
theorem dX12_settles_86 : decode cX12_settles 86 = .ok (.laload, 1) := by decide +kernel
theorem dX12_settles_87 : decode cX12_settles 87 = .ok (.aload_n 0, 1) := by decide +kernel
theorem dX12_settles_88 : decode cX12_settles 88 = .ok (.getfield 198, 3) := by decide +kernel
theorem dX12_settles_91 : decode cX12_settles 91 = .ok (.iload_n 2, 1) := by decide +kernel
theorem dX12_settles_92 : decode cX12_settles 92 = .ok (.laload, 1) := by decide +kernel
theorem dX12_settles_93 : decode cX12_settles 93 = .ok (.ladd, 1) := by decide +kernel
theorem dX12_settles_94 : decode cX12_settles 94 = .ok (.lconst 0, 1) := by decide +kernel
theorem dX12_settles_95 : decode cX12_settles 95 = .ok (.lcmp, 1) := by decide +kernel
theorem dX12_settles_96 : decode cX12_settles 96 = .ok (.ifCond .ne 41, 3) := by decide +kernel
theorem dX12_settles_99 : decode cX12_settles 99 = .ok (.aload_n 0, 1) := by decide +kernel
theorem dX12_settles_100 : decode cX12_settles 100 = .ok (.aload_n 0, 1) := by decide +kernel
theorem dX12_settles_101 : decode cX12_settles 101 = .ok (.getfield 192, 3) := by decide +kernel
theorem dX12_settles_104 : decode cX12_settles 104 = .ok (.iload_n 2, 1) := by decide +kernel
theorem dX12_settles_105 : decode cX12_settles 105 = .ok (.iaload, 1) := by decide +kernel
theorem dX12_settles_106 : decode cX12_settles 106 = .ok (.aload_n 0, 1) := by decide +kernel
theorem dX12_settles_107 : decode cX12_settles 107 = .ok (.getfield 189, 3) := by decide +kernel
theorem dX12_settles_110 : decode cX12_settles 110 = .ok (.iload_n 2, 1) := by decide +kernel
theorem dX12_settles_111 : decode cX12_settles 111 = .ok (.iaload, 1) := by decide +kernel
theorem dX12_settles_112 : decode cX12_settles 112 = .ok (.invokevirtual 530, 3) := by decide +kernel
theorem dX12_settles_115 : decode cX12_settles 115 = .ok (.aload_n 0, 1) := by decide +kernel
theorem dX12_settles_116 : decode cX12_settles 116 = .ok (.getfield 195, 3) := by decide +kernel
theorem dX12_settles_119 : decode cX12_settles 119 = .ok (.iload_n 2, 1) := by decide +kernel
theorem dX12_settles_120 : decode cX12_settles 120 = .ok (.dup2, 1) := by decide +kernel
theorem dX12_settles_121 : decode cX12_settles 121 = .ok (.iaload, 1) := by decide +kernel
theorem dX12_settles_122 : decode cX12_settles 122 = .ok (.iconst 1, 1) := by decide +kernel
theorem dX12_settles_123 : decode cX12_settles 123 = .ok (.isub, 1) := by decide +kernel
theorem dX12_settles_124 : decode cX12_settles 124 = .ok (.iastore, 1) := by decide +kernel
theorem dX12_settles_125 : decode cX12_settles 125 = .ok (.aload_n 0, 1) := by decide +kernel
theorem dX12_settles_126 : decode cX12_settles 126 = .ok (.getfield 195, 3) := by decide +kernel
theorem dX12_settles_129 : decode cX12_settles 129 = .ok (.iload_n 2, 1) := by decide +kernel
theorem dX12_settles_130 : decode cX12_settles 130 = .ok (.iconst 1, 1) := by decide +kernel
theorem dX12_settles_131 : decode cX12_settles 131 = .ok (.iadd, 1) := by decide +kernel
theorem dX12_settles_132 : decode cX12_settles 132 = .ok (.dup2, 1) := by decide +kernel
theorem dX12_settles_133 : decode cX12_settles 133 = .ok (.iaload, 1) := by decide +kernel
theorem dX12_settles_134 : decode cX12_settles 134 = .ok (.iconst 1, 1) := by decide +kernel
theorem dX12_settles_135 : decode cX12_settles 135 = .ok (.iadd, 1) := by decide +kernel
theorem dX12_settles_136 : decode cX12_settles 136 = .ok (.iastore, 1) := by decide +kernel
theorem dX12_settles_137 : decode cX12_settles 137 = .ok (.aload_n 0, 1) := by decide +kernel
theorem dX12_settles_138 : decode cX12_settles 138 = .ok (.getfield 213, 3) := by decide +kernel
theorem dX12_settles_141 : decode cX12_settles 141 = .ok (.iload_n 1, 1) := by decide +kernel
theorem dX12_settles_142 : decode cX12_settles 142 = .ok (.aload_n 0, 1) := by decide +kernel
theorem dX12_settles_143 : decode cX12_settles 143 = .ok (.getfield 195, 3) := by decide +kernel
theorem dX12_settles_146 : decode cX12_settles 146 = .ok (.iload_n 2, 1) := by decide +kernel
theorem dX12_settles_147 : decode cX12_settles 147 = .ok (.iaload, 1) := by decide +kernel
theorem dX12_settles_148 : decode cX12_settles 148 = .ok (.ifCond .ne 7, 3) := by decide +kernel
theorem dX12_settles_151 : decode cX12_settles 151 = .ok (.iconst 1, 1) := by decide +kernel
theorem dX12_settles_152 : decode cX12_settles 152 = .ok (.goto 4, 3) := by decide +kernel
theorem dX12_settles_155 : decode cX12_settles 155 = .ok (.iconst 0, 1) := by decide +kernel
theorem dX12_settles_156 : decode cX12_settles 156 = .ok (.bastore, 1) := by decide +kernel
theorem dX12_settles_157 : decode cX12_settles 157 = .ok (.aload_n 0, 1) := by decide +kernel
theorem dX12_settles_158 : decode cX12_settles 158 = .ok (.getfield 195, 3) := by decide +kernel
theorem dX12_settles_161 : decode cX12_settles 161 = .ok (.iload_n 2, 1) := by decide +kernel
theorem dX12_settles_162 : decode cX12_settles 162 = .ok (.iconst 0, 1) := by decide +kernel
theorem dX12_settles_163 : decode cX12_settles 163 = .ok (.iastore, 1) := by decide +kernel
theorem dX12_settles_164 : decode cX12_settles 164 = .ok (.aload_n 0, 1) := by decide +kernel
theorem dX12_settles_165 : decode cX12_settles 165 = .ok (.getfield 195, 3) := by decide +kernel
theorem dX12_settles_168 : decode cX12_settles 168 = .ok (.iload_n 2, 1) := by decide +kernel
theorem dX12_settles_169 : decode cX12_settles 169 = .ok (.iconst 1, 1) := by decide +kernel
theorem dX12_settles_170 : decode cX12_settles 170 = .ok (.iadd, 1) := by decide +kernel
theorem dX12_settles_171 : decode cX12_settles 171 = .ok (.iconst 0, 1) := by decide +kernel
theorem dX12_settles_172 : decode cX12_settles 172 = .ok (.iastore, 1) := by decide +kernel
theorem dX12_settles_173 : decode cX12_settles 173 = .ok (.iinc 1 1, 3) := by decide +kernel
theorem dX12_settles_176 : decode cX12_settles 176 = .ok (.goto (-156), 3) := by decide +kernel
theorem dX12_settles_179 : decode cX12_settles 179 = .ok (.return_, 1) := by decide +kernel
theorem dX12_arrives_0 : decode cX12_arrives 0 = .ok (.iconst 0, 1) := by decide +kernel
theorem dX12_arrives_1 : decode cX12_arrives 1 = .ok (.istore_n 1, 1) := by decide +kernel
theorem dX12_arrives_2 : decode cX12_arrives 2 = .ok (.iload_n 1, 1) := by decide +kernel
theorem dX12_arrives_3 : decode cX12_arrives 3 = .ok (.sipush 250, 3) := by decide +kernel
theorem dX12_arrives_6 : decode cX12_arrives 6 = .ok (.if_icmp .ge 16, 3) := by decide +kernel
theorem dX12_arrives_9 : decode cX12_arrives 9 = .ok (.aload_n 0, 1) := by decide +kernel
theorem dX12_arrives_10 : decode cX12_arrives 10 = .ok (.getfield 216, 3) := by decide +kernel
theorem dX12_arrives_13 : decode cX12_arrives 13 = .ok (.iload_n 1, 1) := by decide +kernel
theorem dX12_arrives_14 : decode cX12_arrives 14 = .ok (.iconst 0, 1) := by decide +kernel
theorem dX12_arrives_15 : decode cX12_arrives 15 = .ok (.iastore, 1) := by decide +kernel
theorem dX12_arrives_16 : decode cX12_arrives 16 = .ok (.iinc 1 1, 3) := by decide +kernel
theorem dX12_arrives_19 : decode cX12_arrives 19 = .ok (.goto (-17), 3) := by decide +kernel
theorem dX12_arrives_22 : decode cX12_arrives 22 = .ok (.iconst 1, 1) := by decide +kernel
theorem dX12_arrives_23 : decode cX12_arrives 23 = .ok (.istore_n 1, 1) := by decide +kernel
theorem dX12_arrives_24 : decode cX12_arrives 24 = .ok (.iload_n 1, 1) := by decide +kernel
theorem dX12_arrives_25 : decode cX12_arrives 25 = .ok (.aload_n 0, 1) := by decide +kernel
theorem dX12_arrives_26 : decode cX12_arrives 26 = .ok (.getfield 126, 3) := by decide +kernel
theorem dX12_arrives_29 : decode cX12_arrives 29 = .ok (.if_icmp .gt 67, 3) := by decide +kernel
theorem dX12_arrives_32 : decode cX12_arrives 32 = .ok (.aload_n 0, 1) := by decide +kernel
theorem dX12_arrives_33 : decode cX12_arrives 33 = .ok (.getfield 135, 3) := by decide +kernel
theorem dX12_arrives_36 : decode cX12_arrives 36 = .ok (.iload_n 1, 1) := by decide +kernel
theorem dX12_arrives_37 : decode cX12_arrives 37 = .ok (.iaload, 1) := by decide +kernel
theorem dX12_arrives_38 : decode cX12_arrives 38 = .ok (.iconst 1, 1) := by decide +kernel
theorem dX12_arrives_39 : decode cX12_arrives 39 = .ok (.if_icmp .ne 51, 3) := by decide +kernel
theorem dX12_arrives_42 : decode cX12_arrives 42 = .ok (.aload_n 0, 1) := by decide +kernel
theorem dX12_arrives_43 : decode cX12_arrives 43 = .ok (.iload_n 1, 1) := by decide +kernel
theorem dX12_arrives_44 : decode cX12_arrives 44 = .ok (.invokevirtual 461, 3) := by decide +kernel
theorem dX12_arrives_47 : decode cX12_arrives 47 = .ok (.ifCond .eq 43, 3) := by decide +kernel
theorem dX12_arrives_50 : decode cX12_arrives 50 = .ok (.aload_n 0, 1) := by decide +kernel
theorem dX12_arrives_51 : decode cX12_arrives 51 = .ok (.getfield 216, 3) := by decide +kernel
theorem dX12_arrives_54 : decode cX12_arrives 54 = .ok (.bipush 25, 2) := by decide +kernel
theorem dX12_arrives_56 : decode cX12_arrives 56 = .ok (.aload_n 0, 1) := by decide +kernel
theorem dX12_arrives_57 : decode cX12_arrives 57 = .ok (.getfield 138, 3) := by decide +kernel
theorem dX12_arrives_60 : decode cX12_arrives 60 = .ok (.iconst 5, 1) := by decide +kernel
theorem dX12_arrives_61 : decode cX12_arrives 61 = .ok (.iload_n 1, 1) := by decide +kernel
theorem dX12_arrives_62 : decode cX12_arrives 62 = .ok (.imul, 1) := by decide +kernel
theorem dX12_arrives_63 : decode cX12_arrives 63 = .ok (.iaload, 1) := by decide +kernel
theorem dX12_arrives_64 : decode cX12_arrives 64 = .ok (.imul, 1) := by decide +kernel
theorem dX12_arrives_65 : decode cX12_arrives 65 = .ok (.aload_n 0, 1) := by decide +kernel
theorem dX12_arrives_66 : decode cX12_arrives 66 = .ok (.getfield 138, 3) := by decide +kernel
theorem dX12_arrives_69 : decode cX12_arrives 69 = .ok (.iconst 5, 1) := by decide +kernel
theorem dX12_arrives_70 : decode cX12_arrives 70 = .ok (.iload_n 1, 1) := by decide +kernel
theorem dX12_arrives_71 : decode cX12_arrives 71 = .ok (.imul, 1) := by decide +kernel
theorem dX12_arrives_72 : decode cX12_arrives 72 = .ok (.iconst 1, 1) := by decide +kernel
theorem dX12_arrives_73 : decode cX12_arrives 73 = .ok (.iadd, 1) := by decide +kernel
theorem dX12_arrives_74 : decode cX12_arrives 74 = .ok (.iaload, 1) := by decide +kernel
theorem dX12_arrives_75 : decode cX12_arrives 75 = .ok (.iadd, 1) := by decide +kernel
theorem dX12_arrives_76 : decode cX12_arrives 76 = .ok (.dup2, 1) := by decide +kernel
theorem dX12_arrives_77 : decode cX12_arrives 77 = .ok (.iaload, 1) := by decide +kernel
theorem dX12_arrives_78 : decode cX12_arrives 78 = .ok (.aload_n 0, 1) := by decide +kernel
theorem dX12_arrives_79 : decode cX12_arrives 79 = .ok (.getfield 138, 3) := by decide +kernel
theorem dX12_arrives_82 : decode cX12_arrives 82 = .ok (.iconst 5, 1) := by decide +kernel
theorem dX12_arrives_83 : decode cX12_arrives 83 = .ok (.iload_n 1, 1) := by decide +kernel
theorem dX12_arrives_84 : decode cX12_arrives 84 = .ok (.imul, 1) := by decide +kernel
theorem dX12_arrives_85 : decode cX12_arrives 85 = .ok (.iconst 2, 1) := by decide +kernel
theorem dX12_arrives_86 : decode cX12_arrives 86 = .ok (.iadd, 1) := by decide +kernel
theorem dX12_arrives_87 : decode cX12_arrives 87 = .ok (.iaload, 1) := by decide +kernel
theorem dX12_arrives_88 : decode cX12_arrives 88 = .ok (.iadd, 1) := by decide +kernel
theorem dX12_arrives_89 : decode cX12_arrives 89 = .ok (.iastore, 1) := by decide +kernel
theorem dX12_arrives_90 : decode cX12_arrives 90 = .ok (.iinc 1 1, 3) := by decide +kernel
theorem dX12_arrives_93 : decode cX12_arrives 93 = .ok (.goto (-69), 3) := by decide +kernel
theorem dX12_arrives_96 : decode cX12_arrives 96 = .ok (.return_, 1) := by decide +kernel
theorem dX12_give_0 : decode cX12_give 0 = .ok (.aload_n 0, 1) := by decide +kernel
theorem dX12_give_1 : decode cX12_give 1 = .ok (.invokevirtual 471, 3) := by decide +kernel
theorem dX12_give_4 : decode cX12_give 4 = .ok (.aload_n 0, 1) := by decide +kernel
theorem dX12_give_5 : decode cX12_give 5 = .ok (.invokevirtual 533, 3) := by decide +kernel
theorem dX12_give_8 : decode cX12_give 8 = .ok (.aload_n 0, 1) := by decide +kernel
theorem dX12_give_9 : decode cX12_give 9 = .ok (.iconst 0, 1) := by decide +kernel
theorem dX12_give_10 : decode cX12_give 10 = .ok (.putfield 201, 3) := by decide +kernel
theorem dX12_give_13 : decode cX12_give 13 = .ok (.iconst 0, 1) := by decide +kernel
theorem dX12_give_14 : decode cX12_give 14 = .ok (.istore_n 1, 1) := by decide +kernel
theorem dX12_give_15 : decode cX12_give 15 = .ok (.iload_n 1, 1) := by decide +kernel
theorem dX12_give_16 : decode cX12_give 16 = .ok (.aload_n 0, 1) := by decide +kernel
theorem dX12_give_17 : decode cX12_give 17 = .ok (.getfield 54, 3) := by decide +kernel
theorem dX12_give_20 : decode cX12_give 20 = .ok (.aload_n 0, 1) := by decide +kernel
theorem dX12_give_21 : decode cX12_give 21 = .ok (.getfield 48, 3) := by decide +kernel
theorem dX12_give_24 : decode cX12_give 24 = .ok (.iaload, 1) := by decide +kernel
theorem dX12_give_25 : decode cX12_give 25 = .ok (.if_icmp .ge 94, 3) := by decide +kernel
theorem dX12_give_28 : decode cX12_give 28 = .ok (.iconst 1, 1) := by decide +kernel
theorem dX12_give_29 : decode cX12_give 29 = .ok (.istore_n 2, 1) := by decide +kernel
theorem dX12_give_30 : decode cX12_give 30 = .ok (.iload_n 2, 1) := by decide +kernel
theorem dX12_give_31 : decode cX12_give 31 = .ok (.bipush 24, 2) := by decide +kernel
theorem dX12_give_33 : decode cX12_give 33 = .ok (.if_icmp .gt 80, 3) := by decide +kernel
theorem dX12_give_36 : decode cX12_give 36 = .ok (.aload_n 0, 1) := by decide +kernel
theorem dX12_give_37 : decode cX12_give 37 = .ok (.getfield 216, 3) := by decide +kernel
theorem dX12_give_40 : decode cX12_give 40 = .ok (.bipush 25, 2) := by decide +kernel
theorem dX12_give_42 : decode cX12_give 42 = .ok (.iload_n 1, 1) := by decide +kernel
theorem dX12_give_43 : decode cX12_give 43 = .ok (.imul, 1) := by decide +kernel
theorem dX12_give_44 : decode cX12_give 44 = .ok (.iload_n 2, 1) := by decide +kernel
theorem dX12_give_45 : decode cX12_give 45 = .ok (.iadd, 1) := by decide +kernel
theorem dX12_give_46 : decode cX12_give 46 = .ok (.iaload, 1) := by decide +kernel
theorem dX12_give_47 : decode cX12_give 47 = .ok (.ifCond .le 29, 3) := by decide +kernel
theorem dX12_give_50 : decode cX12_give 50 = .ok (.aload_n 0, 1) := by decide +kernel
theorem dX12_give_51 : decode cX12_give 51 = .ok (.iconst 0, 1) := by decide +kernel
theorem dX12_give_52 : decode cX12_give 52 = .ok (.iconst 1, 1) := by decide +kernel
theorem dX12_give_53 : decode cX12_give 53 = .ok (.bipush 24, 2) := by decide +kernel
theorem dX12_give_55 : decode cX12_give 55 = .ok (.iload_n 1, 1) := by decide +kernel
theorem dX12_give_56 : decode cX12_give 56 = .ok (.imul, 1) := by decide +kernel
theorem dX12_give_57 : decode cX12_give 57 = .ok (.iadd, 1) := by decide +kernel
theorem dX12_give_58 : decode cX12_give 58 = .ok (.iload_n 2, 1) := by decide +kernel
theorem dX12_give_59 : decode cX12_give 59 = .ok (.iadd, 1) := by decide +kernel
theorem dX12_give_60 : decode cX12_give 60 = .ok (.aload_n 0, 1) := by decide +kernel
theorem dX12_give_61 : decode cX12_give 61 = .ok (.getfield 216, 3) := by decide +kernel
theorem dX12_give_64 : decode cX12_give 64 = .ok (.bipush 25, 2) := by decide +kernel
theorem dX12_give_66 : decode cX12_give 66 = .ok (.iload_n 1, 1) := by decide +kernel
theorem dX12_give_67 : decode cX12_give 67 = .ok (.imul, 1) := by decide +kernel
theorem dX12_give_68 : decode cX12_give 68 = .ok (.iload_n 2, 1) := by decide +kernel
theorem dX12_give_69 : decode cX12_give 69 = .ok (.iadd, 1) := by decide +kernel
theorem dX12_give_70 : decode cX12_give 70 = .ok (.iaload, 1) := by decide +kernel
theorem dX12_give_71 : decode cX12_give 71 = .ok (.lconst 0, 1) := by decide +kernel
theorem dX12_give_72 : decode cX12_give 72 = .ok (.invokevirtual 536, 3) := by decide +kernel
theorem dX12_give_75 : decode cX12_give 75 = .ok (.pop, 1) := by decide +kernel
theorem dX12_give_76 : decode cX12_give 76 = .ok (.iload_n 2, 1) := by decide +kernel
theorem dX12_give_77 : decode cX12_give 77 = .ok (.bipush 24, 2) := by decide +kernel
theorem dX12_give_79 : decode cX12_give 79 = .ok (.if_icmp .ge 28, 3) := by decide +kernel
theorem dX12_give_82 : decode cX12_give 82 = .ok (.aload_n 0, 1) := by decide +kernel
theorem dX12_give_83 : decode cX12_give 83 = .ok (.iconst 1, 1) := by decide +kernel
theorem dX12_give_84 : decode cX12_give 84 = .ok (.bipush 24, 2) := by decide +kernel
theorem dX12_give_86 : decode cX12_give 86 = .ok (.iload_n 1, 1) := by decide +kernel
theorem dX12_give_87 : decode cX12_give 87 = .ok (.imul, 1) := by decide +kernel
theorem dX12_give_88 : decode cX12_give 88 = .ok (.iadd, 1) := by decide +kernel
theorem dX12_give_89 : decode cX12_give 89 = .ok (.iload_n 2, 1) := by decide +kernel
theorem dX12_give_90 : decode cX12_give 90 = .ok (.iadd, 1) := by decide +kernel
theorem dX12_give_91 : decode cX12_give 91 = .ok (.iconst 2, 1) := by decide +kernel
theorem dX12_give_92 : decode cX12_give 92 = .ok (.bipush 24, 2) := by decide +kernel
theorem dX12_give_94 : decode cX12_give 94 = .ok (.iload_n 1, 1) := by decide +kernel
theorem dX12_give_95 : decode cX12_give 95 = .ok (.imul, 1) := by decide +kernel
theorem dX12_give_96 : decode cX12_give 96 = .ok (.iadd, 1) := by decide +kernel
theorem dX12_give_97 : decode cX12_give 97 = .ok (.iload_n 2, 1) := by decide +kernel
theorem dX12_give_98 : decode cX12_give 98 = .ok (.iadd, 1) := by decide +kernel
theorem dX12_give_99 : decode cX12_give 99 = .ok (.ldc_w 540, 3) := by decide +kernel
theorem dX12_give_102 : decode cX12_give 102 = .ok (.lconst 0, 1) := by decide +kernel
theorem dX12_give_103 : decode cX12_give 103 = .ok (.invokevirtual 536, 3) := by decide +kernel
theorem dX12_give_106 : decode cX12_give 106 = .ok (.pop, 1) := by decide +kernel
theorem dX12_give_107 : decode cX12_give 107 = .ok (.iinc 2 1, 3) := by decide +kernel
theorem dX12_give_110 : decode cX12_give 110 = .ok (.goto (-80), 3) := by decide +kernel
theorem dX12_give_113 : decode cX12_give 113 = .ok (.iinc 1 1, 3) := by decide +kernel
theorem dX12_give_116 : decode cX12_give 116 = .ok (.goto (-101), 3) := by decide +kernel
theorem dX12_give_119 : decode cX12_give 119 = .ok (.iconst 0, 1) := by decide +kernel
theorem dX12_give_120 : decode cX12_give 120 = .ok (.istore_n 1, 1) := by decide +kernel
theorem dX12_give_121 : decode cX12_give 121 = .ok (.iload_n 1, 1) := by decide +kernel
theorem dX12_give_122 : decode cX12_give 122 = .ok (.sipush 400, 3) := by decide +kernel
theorem dX12_give_125 : decode cX12_give 125 = .ok (.if_icmp .ge 16, 3) := by decide +kernel
theorem dX12_give_128 : decode cX12_give 128 = .ok (.aload_n 0, 1) := by decide +kernel
theorem dX12_give_129 : decode cX12_give 129 = .ok (.getfield 210, 3) := by decide +kernel
theorem dX12_give_132 : decode cX12_give 132 = .ok (.iload_n 1, 1) := by decide +kernel
theorem dX12_give_133 : decode cX12_give 133 = .ok (.iconst (-1), 1) := by decide +kernel
theorem dX12_give_134 : decode cX12_give 134 = .ok (.iastore, 1) := by decide +kernel
theorem dX12_give_135 : decode cX12_give 135 = .ok (.iinc 1 1, 3) := by decide +kernel
theorem dX12_give_138 : decode cX12_give 138 = .ok (.goto (-17), 3) := by decide +kernel
theorem dX12_give_141 : decode cX12_give 141 = .ok (.aload_n 0, 1) := by decide +kernel
theorem dX12_give_142 : decode cX12_give 142 = .ok (.aload_n 0, 1) := by decide +kernel
theorem dX12_give_143 : decode cX12_give 143 = .ok (.getfield 150, 3) := by decide +kernel
theorem dX12_give_146 : decode cX12_give 146 = .ok (.putfield 222, 3) := by decide +kernel
theorem dX12_give_149 : decode cX12_give 149 = .ok (.iconst 0, 1) := by decide +kernel
theorem dX12_give_150 : decode cX12_give 150 = .ok (.istore_n 1, 1) := by decide +kernel
theorem dX12_give_151 : decode cX12_give 151 = .ok (.iload_n 1, 1) := by decide +kernel
theorem dX12_give_152 : decode cX12_give 152 = .ok (.aload_n 0, 1) := by decide +kernel
theorem dX12_give_153 : decode cX12_give 153 = .ok (.getfield 150, 3) := by decide +kernel
theorem dX12_give_156 : decode cX12_give 156 = .ok (.if_icmp .ge 168, 3) := by decide +kernel
theorem dX12_give_159 : decode cX12_give 159 = .ok (.aload_n 0, 1) := by decide +kernel
theorem dX12_give_160 : decode cX12_give 160 = .ok (.getfield 225, 3) := by decide +kernel
theorem dX12_give_163 : decode cX12_give 163 = .ok (.iload_n 1, 1) := by decide +kernel
theorem dX12_give_164 : decode cX12_give 164 = .ok (.aload_n 0, 1) := by decide +kernel
theorem dX12_give_165 : decode cX12_give 165 = .ok (.iload_n 1, 1) := by decide +kernel
theorem dX12_give_166 : decode cX12_give 166 = .ok (.invokevirtual 515, 3) := by decide +kernel
theorem dX12_give_169 : decode cX12_give 169 = .ok (.iastore, 1) := by decide +kernel
theorem dX12_give_170 : decode cX12_give 170 = .ok (.aload_n 0, 1) := by decide +kernel
theorem dX12_give_171 : decode cX12_give 171 = .ok (.getfield 228, 3) := by decide +kernel
theorem dX12_give_174 : decode cX12_give 174 = .ok (.iload_n 1, 1) := by decide +kernel
theorem dX12_give_175 : decode cX12_give 175 = .ok (.aload_n 0, 1) := by decide +kernel
theorem dX12_give_176 : decode cX12_give 176 = .ok (.getfield 168, 3) := by decide +kernel
theorem dX12_give_179 : decode cX12_give 179 = .ok (.iload_n 1, 1) := by decide +kernel
theorem dX12_give_180 : decode cX12_give 180 = .ok (.iaload, 1) := by decide +kernel
theorem dX12_give_181 : decode cX12_give 181 = .ok (.iastore, 1) := by decide +kernel
theorem dX12_give_182 : decode cX12_give 182 = .ok (.aload_n 0, 1) := by decide +kernel
theorem dX12_give_183 : decode cX12_give 183 = .ok (.getfield 231, 3) := by decide +kernel
theorem dX12_give_186 : decode cX12_give 186 = .ok (.iload_n 1, 1) := by decide +kernel
theorem dX12_give_187 : decode cX12_give 187 = .ok (.aload_n 0, 1) := by decide +kernel
theorem dX12_give_188 : decode cX12_give 188 = .ok (.getfield 171, 3) := by decide +kernel
theorem dX12_give_191 : decode cX12_give 191 = .ok (.iload_n 1, 1) := by decide +kernel
theorem dX12_give_192 : decode cX12_give 192 = .ok (.iaload, 1) := by decide +kernel
theorem dX12_give_193 : decode cX12_give 193 = .ok (.iastore, 1) := by decide +kernel
theorem dX12_give_194 : decode cX12_give 194 = .ok (.aload_n 0, 1) := by decide +kernel
theorem dX12_give_195 : decode cX12_give 195 = .ok (.getfield 234, 3) := by decide +kernel
theorem dX12_give_198 : decode cX12_give 198 = .ok (.iload_n 1, 1) := by decide +kernel
theorem dX12_give_199 : decode cX12_give 199 = .ok (.aload_n 0, 1) := by decide +kernel
theorem dX12_give_200 : decode cX12_give 200 = .ok (.getfield 156, 3) := by decide +kernel
theorem dX12_give_203 : decode cX12_give 203 = .ok (.iload_n 1, 1) := by decide +kernel
theorem dX12_give_204 : decode cX12_give 204 = .ok (.iaload, 1) := by decide +kernel
theorem dX12_give_205 : decode cX12_give 205 = .ok (.iastore, 1) := by decide +kernel
theorem dX12_give_206 : decode cX12_give 206 = .ok (.aload_n 0, 1) := by decide +kernel
theorem dX12_give_207 : decode cX12_give 207 = .ok (.sipush 242, 3) := by decide +kernel
theorem dX12_give_210 : decode cX12_give 210 = .ok (.iload_n 1, 1) := by decide +kernel
theorem dX12_give_211 : decode cX12_give 211 = .ok (.iadd, 1) := by decide +kernel
theorem dX12_give_212 : decode cX12_give 212 = .ok (.iconst 1, 1) := by decide +kernel
theorem dX12_give_213 : decode cX12_give 213 = .ok (.aload_n 0, 1) := by decide +kernel
theorem dX12_give_214 : decode cX12_give 214 = .ok (.getfield 225, 3) := by decide +kernel
theorem dX12_give_217 : decode cX12_give 217 = .ok (.iload_n 1, 1) := by decide +kernel
theorem dX12_give_218 : decode cX12_give 218 = .ok (.iaload, 1) := by decide +kernel
theorem dX12_give_219 : decode cX12_give 219 = .ok (.lconst 0, 1) := by decide +kernel
theorem dX12_give_220 : decode cX12_give 220 = .ok (.invokevirtual 536, 3) := by decide +kernel
theorem dX12_give_223 : decode cX12_give 223 = .ok (.pop, 1) := by decide +kernel
theorem dX12_give_224 : decode cX12_give 224 = .ok (.iconst 0, 1) := by decide +kernel
theorem dX12_give_225 : decode cX12_give 225 = .ok (.istore_n 2, 1) := by decide +kernel
theorem dX12_give_226 : decode cX12_give 226 = .ok (.iload_n 2, 1) := by decide +kernel
theorem dX12_give_227 : decode cX12_give 227 = .ok (.aload_n 0, 1) := by decide +kernel
theorem dX12_give_228 : decode cX12_give 228 = .ok (.getfield 54, 3) := by decide +kernel
theorem dX12_give_231 : decode cX12_give 231 = .ok (.aload_n 0, 1) := by decide +kernel
theorem dX12_give_232 : decode cX12_give 232 = .ok (.getfield 48, 3) := by decide +kernel
theorem dX12_give_235 : decode cX12_give 235 = .ok (.iaload, 1) := by decide +kernel
theorem dX12_give_236 : decode cX12_give 236 = .ok (.if_icmp .ge 82, 3) := by decide +kernel
theorem dX12_give_239 : decode cX12_give 239 = .ok (.aload_n 0, 1) := by decide +kernel
theorem dX12_give_240 : decode cX12_give 240 = .ok (.getfield 237, 3) := by decide +kernel
theorem dX12_give_243 : decode cX12_give 243 = .ok (.bipush 10, 2) := by decide +kernel
theorem dX12_give_245 : decode cX12_give 245 = .ok (.iload_n 1, 1) := by decide +kernel
theorem dX12_give_246 : decode cX12_give 246 = .ok (.imul, 1) := by decide +kernel
theorem dX12_give_247 : decode cX12_give 247 = .ok (.iload_n 2, 1) := by decide +kernel
theorem dX12_give_248 : decode cX12_give 248 = .ok (.iadd, 1) := by decide +kernel
theorem dX12_give_249 : decode cX12_give 249 = .ok (.aload_n 0, 1) := by decide +kernel
theorem dX12_give_250 : decode cX12_give 250 = .ok (.iload_n 1, 1) := by decide +kernel
theorem dX12_give_251 : decode cX12_give 251 = .ok (.iload_n 2, 1) := by decide +kernel
theorem dX12_give_252 : decode cX12_give 252 = .ok (.invokevirtual 518, 3) := by decide +kernel
theorem dX12_give_255 : decode cX12_give 255 = .ok (.bastore, 1) := by decide +kernel
theorem dX12_give_256 : decode cX12_give 256 = .ok (.aload_n 0, 1) := by decide +kernel
theorem dX12_give_257 : decode cX12_give 257 = .ok (.getfield 237, 3) := by decide +kernel
theorem dX12_give_260 : decode cX12_give 260 = .ok (.bipush 10, 2) := by decide +kernel
theorem dX12_give_262 : decode cX12_give 262 = .ok (.iload_n 1, 1) := by decide +kernel
theorem dX12_give_263 : decode cX12_give 263 = .ok (.imul, 1) := by decide +kernel
theorem dX12_give_264 : decode cX12_give 264 = .ok (.iload_n 2, 1) := by decide +kernel
theorem dX12_give_265 : decode cX12_give 265 = .ok (.iadd, 1) := by decide +kernel
theorem dX12_give_266 : decode cX12_give 266 = .ok (.baload, 1) := by decide +kernel
theorem dX12_give_267 : decode cX12_give 267 = .ok (.ifCond .eq 45, 3) := by decide +kernel
theorem dX12_give_270 : decode cX12_give 270 = .ok (.aload_n 0, 1) := by decide +kernel
theorem dX12_give_271 : decode cX12_give 271 = .ok (.getfield 210, 3) := by decide +kernel
theorem dX12_give_274 : decode cX12_give 274 = .ok (.bipush 10, 2) := by decide +kernel
theorem dX12_give_276 : decode cX12_give 276 = .ok (.iload_n 1, 1) := by decide +kernel
theorem dX12_give_277 : decode cX12_give 277 = .ok (.imul, 1) := by decide +kernel
theorem dX12_give_278 : decode cX12_give 278 = .ok (.iload_n 2, 1) := by decide +kernel
theorem dX12_give_279 : decode cX12_give 279 = .ok (.iadd, 1) := by decide +kernel
theorem dX12_give_280 : decode cX12_give 280 = .ok (.aload_n 0, 1) := by decide +kernel
theorem dX12_give_281 : decode cX12_give 281 = .ok (.iconst 1, 1) := by decide +kernel
theorem dX12_give_282 : decode cX12_give 282 = .ok (.bipush 24, 2) := by decide +kernel
theorem dX12_give_284 : decode cX12_give 284 = .ok (.iload_n 2, 1) := by decide +kernel
theorem dX12_give_285 : decode cX12_give 285 = .ok (.imul, 1) := by decide +kernel
theorem dX12_give_286 : decode cX12_give 286 = .ok (.iadd, 1) := by decide +kernel
theorem dX12_give_287 : decode cX12_give 287 = .ok (.aload_n 0, 1) := by decide +kernel
theorem dX12_give_288 : decode cX12_give 288 = .ok (.getfield 171, 3) := by decide +kernel
theorem dX12_give_291 : decode cX12_give 291 = .ok (.iload_n 1, 1) := by decide +kernel
theorem dX12_give_292 : decode cX12_give 292 = .ok (.iaload, 1) := by decide +kernel
theorem dX12_give_293 : decode cX12_give 293 = .ok (.iadd, 1) := by decide +kernel
theorem dX12_give_294 : decode cX12_give 294 = .ok (.sipush 242, 3) := by decide +kernel
theorem dX12_give_297 : decode cX12_give 297 = .ok (.iload_n 1, 1) := by decide +kernel
theorem dX12_give_298 : decode cX12_give 298 = .ok (.iadd, 1) := by decide +kernel
theorem dX12_give_299 : decode cX12_give 299 = .ok (.iconst 1, 1) := by decide +kernel
theorem dX12_give_300 : decode cX12_give 300 = .ok (.aload_n 0, 1) := by decide +kernel
theorem dX12_give_301 : decode cX12_give 301 = .ok (.iload_n 1, 1) := by decide +kernel
theorem dX12_give_302 : decode cX12_give 302 = .ok (.iload_n 2, 1) := by decide +kernel
theorem dX12_give_303 : decode cX12_give 303 = .ok (.invokevirtual 522, 3) := by decide +kernel
theorem dX12_give_306 : decode cX12_give 306 = .ok (.ineg, 1) := by decide +kernel
theorem dX12_give_307 : decode cX12_give 307 = .ok (.i2l, 1) := by decide +kernel
theorem dX12_give_308 : decode cX12_give 308 = .ok (.invokevirtual 536, 3) := by decide +kernel
theorem dX12_give_311 : decode cX12_give 311 = .ok (.iastore, 1) := by decide +kernel
theorem dX12_give_312 : decode cX12_give 312 = .ok (.iinc 2 1, 3) := by decide +kernel
theorem dX12_give_315 : decode cX12_give 315 = .ok (.goto (-89), 3) := by decide +kernel
theorem dX12_give_318 : decode cX12_give 318 = .ok (.iinc 1 1, 3) := by decide +kernel
theorem dX12_give_321 : decode cX12_give 321 = .ok (.goto (-170), 3) := by decide +kernel
theorem dX12_give_324 : decode cX12_give 324 = .ok (.aload_n 0, 1) := by decide +kernel
theorem dX12_give_325 : decode cX12_give 325 = .ok (.invokevirtual 541, 3) := by decide +kernel
theorem dX12_give_328 : decode cX12_give 328 = .ok (.aload_n 0, 1) := by decide +kernel
theorem dX12_give_329 : decode cX12_give 329 = .ok (.iconst 0, 1) := by decide +kernel
theorem dX12_give_330 : decode cX12_give 330 = .ok (.putfield 249, 3) := by decide +kernel
theorem dX12_give_333 : decode cX12_give 333 = .ok (.aload_n 0, 1) := by decide +kernel
theorem dX12_give_334 : decode cX12_give 334 = .ok (.iconst 0, 1) := by decide +kernel
theorem dX12_give_335 : decode cX12_give 335 = .ok (.putfield 252, 3) := by decide +kernel
theorem dX12_give_338 : decode cX12_give 338 = .ok (.iconst 0, 1) := by decide +kernel
theorem dX12_give_339 : decode cX12_give 339 = .ok (.istore_n 1, 1) := by decide +kernel
theorem dX12_give_340 : decode cX12_give 340 = .ok (.iload_n 1, 1) := by decide +kernel
theorem dX12_give_341 : decode cX12_give 341 = .ok (.aload_n 0, 1) := by decide +kernel
theorem dX12_give_342 : decode cX12_give 342 = .ok (.getfield 54, 3) := by decide +kernel
theorem dX12_give_345 : decode cX12_give 345 = .ok (.aload_n 0, 1) := by decide +kernel
theorem dX12_give_346 : decode cX12_give 346 = .ok (.getfield 48, 3) := by decide +kernel
theorem dX12_give_349 : decode cX12_give 349 = .ok (.iaload, 1) := by decide +kernel
theorem dX12_give_350 : decode cX12_give 350 = .ok (.if_icmp .ge 50, 3) := by decide +kernel
theorem dX12_give_353 : decode cX12_give 353 = .ok (.aload_n 0, 1) := by decide +kernel
theorem dX12_give_354 : decode cX12_give 354 = .ok (.getfield 246, 3) := by decide +kernel
theorem dX12_give_357 : decode cX12_give 357 = .ok (.iload_n 1, 1) := by decide +kernel
theorem dX12_give_358 : decode cX12_give 358 = .ok (.iconst 0, 1) := by decide +kernel
theorem dX12_give_359 : decode cX12_give 359 = .ok (.iastore, 1) := by decide +kernel
theorem dX12_give_360 : decode cX12_give 360 = .ok (.iconst 1, 1) := by decide +kernel
theorem dX12_give_361 : decode cX12_give 361 = .ok (.istore_n 2, 1) := by decide +kernel
theorem dX12_give_362 : decode cX12_give 362 = .ok (.iload_n 2, 1) := by decide +kernel
theorem dX12_give_363 : decode cX12_give 363 = .ok (.bipush 24, 2) := by decide +kernel
theorem dX12_give_365 : decode cX12_give 365 = .ok (.if_icmp .gt 29, 3) := by decide +kernel
theorem dX12_give_368 : decode cX12_give 368 = .ok (.aload_n 0, 1) := by decide +kernel
theorem dX12_give_369 : decode cX12_give 369 = .ok (.getfield 246, 3) := by decide +kernel
theorem dX12_give_372 : decode cX12_give 372 = .ok (.iload_n 1, 1) := by decide +kernel
theorem dX12_give_373 : decode cX12_give 373 = .ok (.dup2, 1) := by decide +kernel
theorem dX12_give_374 : decode cX12_give 374 = .ok (.iaload, 1) := by decide +kernel
theorem dX12_give_375 : decode cX12_give 375 = .ok (.aload_n 0, 1) := by decide +kernel
theorem dX12_give_376 : decode cX12_give 376 = .ok (.getfield 216, 3) := by decide +kernel
theorem dX12_give_379 : decode cX12_give 379 = .ok (.bipush 25, 2) := by decide +kernel
theorem dX12_give_381 : decode cX12_give 381 = .ok (.iload_n 1, 1) := by decide +kernel
theorem dX12_give_382 : decode cX12_give 382 = .ok (.imul, 1) := by decide +kernel
theorem dX12_give_383 : decode cX12_give 383 = .ok (.iload_n 2, 1) := by decide +kernel
theorem dX12_give_384 : decode cX12_give 384 = .ok (.iadd, 1) := by decide +kernel
theorem dX12_give_385 : decode cX12_give 385 = .ok (.iaload, 1) := by decide +kernel
theorem dX12_give_386 : decode cX12_give 386 = .ok (.iadd, 1) := by decide +kernel
theorem dX12_give_387 : decode cX12_give 387 = .ok (.iastore, 1) := by decide +kernel
theorem dX12_give_388 : decode cX12_give 388 = .ok (.iinc 2 1, 3) := by decide +kernel
theorem dX12_give_391 : decode cX12_give 391 = .ok (.goto (-29), 3) := by decide +kernel
theorem dX12_give_394 : decode cX12_give 394 = .ok (.iinc 1 1, 3) := by decide +kernel
theorem dX12_give_397 : decode cX12_give 397 = .ok (.goto (-57), 3) := by decide +kernel
theorem dX12_give_400 : decode cX12_give 400 = .ok (.iconst 0, 1) := by decide +kernel
theorem dX12_give_401 : decode cX12_give 401 = .ok (.istore_n 1, 1) := by decide +kernel
theorem dX12_give_402 : decode cX12_give 402 = .ok (.iload_n 1, 1) := by decide +kernel
theorem dX12_give_403 : decode cX12_give 403 = .ok (.aload_n 0, 1) := by decide +kernel
theorem dX12_give_404 : decode cX12_give 404 = .ok (.getfield 150, 3) := by decide +kernel
theorem dX12_give_407 : decode cX12_give 407 = .ok (.if_icmp .ge 113, 3) := by decide +kernel
theorem dX12_give_410 : decode cX12_give 410 = .ok (.aload_n 0, 1) := by decide +kernel
theorem dX12_give_411 : decode cX12_give 411 = .ok (.getfield 240, 3) := by decide +kernel
theorem dX12_give_414 : decode cX12_give 414 = .ok (.iload_n 1, 1) := by decide +kernel
theorem dX12_give_415 : decode cX12_give 415 = .ok (.iconst 0, 1) := by decide +kernel
theorem dX12_give_416 : decode cX12_give 416 = .ok (.iastore, 1) := by decide +kernel
theorem dX12_give_417 : decode cX12_give 417 = .ok (.iconst 0, 1) := by decide +kernel
theorem dX12_give_418 : decode cX12_give 418 = .ok (.istore_n 2, 1) := by decide +kernel
theorem dX12_give_419 : decode cX12_give 419 = .ok (.iload_n 2, 1) := by decide +kernel
theorem dX12_give_420 : decode cX12_give 420 = .ok (.aload_n 0, 1) := by decide +kernel
theorem dX12_give_421 : decode cX12_give 421 = .ok (.getfield 54, 3) := by decide +kernel
theorem dX12_give_424 : decode cX12_give 424 = .ok (.aload_n 0, 1) := by decide +kernel
theorem dX12_give_425 : decode cX12_give 425 = .ok (.getfield 48, 3) := by decide +kernel
theorem dX12_give_428 : decode cX12_give 428 = .ok (.iaload, 1) := by decide +kernel
theorem dX12_give_429 : decode cX12_give 429 = .ok (.if_icmp .ge 73, 3) := by decide +kernel
theorem dX12_give_432 : decode cX12_give 432 = .ok (.aload_n 0, 1) := by decide +kernel
theorem dX12_give_433 : decode cX12_give 433 = .ok (.getfield 213, 3) := by decide +kernel
theorem dX12_give_436 : decode cX12_give 436 = .ok (.bipush 10, 2) := by decide +kernel
theorem dX12_give_438 : decode cX12_give 438 = .ok (.iload_n 1, 1) := by decide +kernel
theorem dX12_give_439 : decode cX12_give 439 = .ok (.imul, 1) := by decide +kernel
theorem dX12_give_440 : decode cX12_give 440 = .ok (.iload_n 2, 1) := by decide +kernel
theorem dX12_give_441 : decode cX12_give 441 = .ok (.iadd, 1) := by decide +kernel
theorem dX12_give_442 : decode cX12_give 442 = .ok (.baload, 1) := by decide +kernel
theorem dX12_give_443 : decode cX12_give 443 = .ok (.ifCond .ne 6, 3) := by decide +kernel
theorem dX12_give_446 : decode cX12_give 446 = .ok (.goto 50, 3) := by decide +kernel
theorem dX12_give_449 : decode cX12_give 449 = .ok (.aload_n 0, 1) := by decide +kernel
theorem dX12_give_450 : decode cX12_give 450 = .ok (.getfield 240, 3) := by decide +kernel
theorem dX12_give_453 : decode cX12_give 453 = .ok (.iload_n 1, 1) := by decide +kernel
theorem dX12_give_454 : decode cX12_give 454 = .ok (.dup2, 1) := by decide +kernel
theorem dX12_give_455 : decode cX12_give 455 = .ok (.iaload, 1) := by decide +kernel
theorem dX12_give_456 : decode cX12_give 456 = .ok (.iconst 1, 1) := by decide +kernel
theorem dX12_give_457 : decode cX12_give 457 = .ok (.iload_n 2, 1) := by decide +kernel
theorem dX12_give_458 : decode cX12_give 458 = .ok (.ishl, 1) := by decide +kernel
theorem dX12_give_459 : decode cX12_give 459 = .ok (.ior, 1) := by decide +kernel
theorem dX12_give_460 : decode cX12_give 460 = .ok (.iastore, 1) := by decide +kernel
theorem dX12_give_461 : decode cX12_give 461 = .ok (.aload_n 0, 1) := by decide +kernel
theorem dX12_give_462 : decode cX12_give 462 = .ok (.getfield 246, 3) := by decide +kernel
theorem dX12_give_465 : decode cX12_give 465 = .ok (.iload_n 2, 1) := by decide +kernel
theorem dX12_give_466 : decode cX12_give 466 = .ok (.dup2, 1) := by decide +kernel
theorem dX12_give_467 : decode cX12_give 467 = .ok (.iaload, 1) := by decide +kernel
theorem dX12_give_468 : decode cX12_give 468 = .ok (.iconst 1, 1) := by decide +kernel
theorem dX12_give_469 : decode cX12_give 469 = .ok (.isub, 1) := by decide +kernel
theorem dX12_give_470 : decode cX12_give 470 = .ok (.iastore, 1) := by decide +kernel
theorem dX12_give_471 : decode cX12_give 471 = .ok (.aload_n 0, 1) := by decide +kernel
theorem dX12_give_472 : decode cX12_give 472 = .ok (.dup, 1) := by decide +kernel
theorem dX12_give_473 : decode cX12_give 473 = .ok (.getfield 249, 3) := by decide +kernel
theorem dX12_give_476 : decode cX12_give 476 = .ok (.iconst 1, 1) := by decide +kernel
theorem dX12_give_477 : decode cX12_give 477 = .ok (.iadd, 1) := by decide +kernel
theorem dX12_give_478 : decode cX12_give 478 = .ok (.putfield 249, 3) := by decide +kernel
theorem dX12_give_481 : decode cX12_give 481 = .ok (.aload_n 0, 1) := by decide +kernel
theorem dX12_give_482 : decode cX12_give 482 = .ok (.dup, 1) := by decide +kernel
theorem dX12_give_483 : decode cX12_give 483 = .ok (.getfield 252, 3) := by decide +kernel
theorem dX12_give_486 : decode cX12_give 486 = .ok (.aload_n 0, 1) := by decide +kernel
theorem dX12_give_487 : decode cX12_give 487 = .ok (.iload_n 1, 1) := by decide +kernel
theorem dX12_give_488 : decode cX12_give 488 = .ok (.iload_n 2, 1) := by decide +kernel
theorem dX12_give_489 : decode cX12_give 489 = .ok (.invokevirtual 522, 3) := by decide +kernel
theorem dX12_give_492 : decode cX12_give 492 = .ok (.iadd, 1) := by decide +kernel
theorem dX12_give_493 : decode cX12_give 493 = .ok (.putfield 252, 3) := by decide +kernel
theorem dX12_give_496 : decode cX12_give 496 = .ok (.iinc 2 1, 3) := by decide +kernel
theorem dX12_give_499 : decode cX12_give 499 = .ok (.goto (-80), 3) := by decide +kernel
theorem dX12_give_502 : decode cX12_give 502 = .ok (.aload_n 0, 1) := by decide +kernel
theorem dX12_give_503 : decode cX12_give 503 = .ok (.getfield 243, 3) := by decide +kernel
theorem dX12_give_506 : decode cX12_give 506 = .ok (.iload_n 1, 1) := by decide +kernel
theorem dX12_give_507 : decode cX12_give 507 = .ok (.aload_n 0, 1) := by decide +kernel
theorem dX12_give_508 : decode cX12_give 508 = .ok (.getfield 240, 3) := by decide +kernel
theorem dX12_give_511 : decode cX12_give 511 = .ok (.iload_n 1, 1) := by decide +kernel
theorem dX12_give_512 : decode cX12_give 512 = .ok (.iaload, 1) := by decide +kernel
theorem dX12_give_513 : decode cX12_give 513 = .ok (.iastore, 1) := by decide +kernel
theorem dX12_give_514 : decode cX12_give 514 = .ok (.iinc 1 1, 3) := by decide +kernel
theorem dX12_give_517 : decode cX12_give 517 = .ok (.goto (-115), 3) := by decide +kernel
theorem dX12_give_520 : decode cX12_give 520 = .ok (.aload_n 0, 1) := by decide +kernel
theorem dX12_give_521 : decode cX12_give 521 = .ok (.iconst 1, 1) := by decide +kernel
theorem dX12_give_522 : decode cX12_give 522 = .ok (.putfield 219, 3) := by decide +kernel
theorem dX12_give_525 : decode cX12_give 525 = .ok (.aload_n 0, 1) := by decide +kernel
theorem dX12_give_526 : decode cX12_give 526 = .ok (.iconst 0, 1) := by decide +kernel
theorem dX12_give_527 : decode cX12_give 527 = .ok (.putfield 255, 3) := by decide +kernel
theorem dX12_give_530 : decode cX12_give 530 = .ok (.aload_n 0, 1) := by decide +kernel
theorem dX12_give_531 : decode cX12_give 531 = .ok (.getfield 249, 3) := by decide +kernel
theorem dX12_give_534 : decode cX12_give 534 = .ok (.ireturn, 1) := by decide +kernel
theorem dX12_given_0 : decode cX12_given 0 = .ok (.aload_n 0, 1) := by decide +kernel
theorem dX12_given_1 : decode cX12_given 1 = .ok (.getfield 219, 3) := by decide +kernel
theorem dX12_given_4 : decode cX12_given 4 = .ok (.ifCond .ne 5, 3) := by decide +kernel
theorem dX12_given_7 : decode cX12_given 7 = .ok (.iconst (-1), 1) := by decide +kernel
theorem dX12_given_8 : decode cX12_given 8 = .ok (.ireturn, 1) := by decide +kernel
theorem dX12_given_9 : decode cX12_given 9 = .ok (.iconst 0, 1) := by decide +kernel
theorem dX12_given_10 : decode cX12_given 10 = .ok (.istore_n 2, 1) := by decide +kernel
theorem dX12_given_11 : decode cX12_given 11 = .ok (.iload_n 1, 1) := by decide +kernel
theorem dX12_given_12 : decode cX12_given 12 = .ok (.tableswitch 150 0 3 #[32, 37, 81, 118], 32) := by decide +kernel
theorem dX12_given_44 : decode cX12_given 44 = .ok (.aload_n 0, 1) := by decide +kernel
theorem dX12_given_45 : decode cX12_given 45 = .ok (.getfield 252, 3) := by decide +kernel
theorem dX12_given_48 : decode cX12_given 48 = .ok (.ireturn, 1) := by decide +kernel
theorem dX12_given_49 : decode cX12_given 49 = .ok (.iconst 0, 1) := by decide +kernel
theorem dX12_given_50 : decode cX12_given 50 = .ok (.istore_n 3, 1) := by decide +kernel
theorem dX12_given_51 : decode cX12_given 51 = .ok (.iload_n 3, 1) := by decide +kernel
theorem dX12_given_52 : decode cX12_given 52 = .ok (.aload_n 0, 1) := by decide +kernel
theorem dX12_given_53 : decode cX12_given 53 = .ok (.getfield 222, 3) := by decide +kernel
theorem dX12_given_56 : decode cX12_given 56 = .ok (.if_icmp .ge 35, 3) := by decide +kernel
theorem dX12_given_59 : decode cX12_given 59 = .ok (.iload_n 2, 1) := by decide +kernel
theorem dX12_given_60 : decode cX12_given 60 = .ok (.aload_n 0, 1) := by decide +kernel
theorem dX12_given_61 : decode cX12_given 61 = .ok (.getfield 240, 3) := by decide +kernel
theorem dX12_given_64 : decode cX12_given 64 = .ok (.iload_n 3, 1) := by decide +kernel
theorem dX12_given_65 : decode cX12_given 65 = .ok (.iaload, 1) := by decide +kernel
theorem dX12_given_66 : decode cX12_given 66 = .ok (.invokestatic 544, 3) := by decide +kernel
theorem dX12_given_69 : decode cX12_given 69 = .ok (.aload_n 0, 1) := by decide +kernel
theorem dX12_given_70 : decode cX12_given 70 = .ok (.getfield 225, 3) := by decide +kernel
theorem dX12_given_73 : decode cX12_given 73 = .ok (.iload_n 3, 1) := by decide +kernel
theorem dX12_given_74 : decode cX12_given 74 = .ok (.iaload, 1) := by decide +kernel
theorem dX12_given_75 : decode cX12_given 75 = .ok (.if_icmp .lt 7, 3) := by decide +kernel
theorem dX12_given_78 : decode cX12_given 78 = .ok (.iconst 1, 1) := by decide +kernel
theorem dX12_given_79 : decode cX12_given 79 = .ok (.goto 4, 3) := by decide +kernel
theorem dX12_given_82 : decode cX12_given 82 = .ok (.iconst 0, 1) := by decide +kernel
theorem dX12_given_83 : decode cX12_given 83 = .ok (.iadd, 1) := by decide +kernel
theorem dX12_given_84 : decode cX12_given 84 = .ok (.istore_n 2, 1) := by decide +kernel
theorem dX12_given_85 : decode cX12_given 85 = .ok (.iinc 3 1, 3) := by decide +kernel
theorem dX12_given_88 : decode cX12_given 88 = .ok (.goto (-37), 3) := by decide +kernel
theorem dX12_given_91 : decode cX12_given 91 = .ok (.iload_n 2, 1) := by decide +kernel
theorem dX12_given_92 : decode cX12_given 92 = .ok (.ireturn, 1) := by decide +kernel
theorem dX12_given_93 : decode cX12_given 93 = .ok (.iconst 0, 1) := by decide +kernel
theorem dX12_given_94 : decode cX12_given 94 = .ok (.istore_n 3, 1) := by decide +kernel
theorem dX12_given_95 : decode cX12_given 95 = .ok (.iload_n 3, 1) := by decide +kernel
theorem dX12_given_96 : decode cX12_given 96 = .ok (.aload_n 0, 1) := by decide +kernel
theorem dX12_given_97 : decode cX12_given 97 = .ok (.getfield 222, 3) := by decide +kernel
theorem dX12_given_100 : decode cX12_given 100 = .ok (.if_icmp .ge 28, 3) := by decide +kernel
theorem dX12_given_103 : decode cX12_given 103 = .ok (.iload_n 2, 1) := by decide +kernel
theorem dX12_given_104 : decode cX12_given 104 = .ok (.aload_n 0, 1) := by decide +kernel
theorem dX12_given_105 : decode cX12_given 105 = .ok (.getfield 225, 3) := by decide +kernel
theorem dX12_given_108 : decode cX12_given 108 = .ok (.iload_n 3, 1) := by decide +kernel
theorem dX12_given_109 : decode cX12_given 109 = .ok (.iaload, 1) := by decide +kernel
theorem dX12_given_110 : decode cX12_given 110 = .ok (.aload_n 0, 1) := by decide +kernel
theorem dX12_given_111 : decode cX12_given 111 = .ok (.getfield 240, 3) := by decide +kernel
theorem dX12_given_114 : decode cX12_given 114 = .ok (.iload_n 3, 1) := by decide +kernel
theorem dX12_given_115 : decode cX12_given 115 = .ok (.iaload, 1) := by decide +kernel
theorem dX12_given_116 : decode cX12_given 116 = .ok (.invokestatic 544, 3) := by decide +kernel
theorem dX12_given_119 : decode cX12_given 119 = .ok (.isub, 1) := by decide +kernel
theorem dX12_given_120 : decode cX12_given 120 = .ok (.iadd, 1) := by decide +kernel
theorem dX12_given_121 : decode cX12_given 121 = .ok (.istore_n 2, 1) := by decide +kernel
theorem dX12_given_122 : decode cX12_given 122 = .ok (.iinc 3 1, 3) := by decide +kernel
theorem dX12_given_125 : decode cX12_given 125 = .ok (.goto (-30), 3) := by decide +kernel
theorem dX12_given_128 : decode cX12_given 128 = .ok (.iload_n 2, 1) := by decide +kernel
theorem dX12_given_129 : decode cX12_given 129 = .ok (.ireturn, 1) := by decide +kernel
theorem dX12_given_130 : decode cX12_given 130 = .ok (.iconst 0, 1) := by decide +kernel
theorem dX12_given_131 : decode cX12_given 131 = .ok (.istore_n 3, 1) := by decide +kernel
theorem dX12_given_132 : decode cX12_given 132 = .ok (.iload_n 3, 1) := by decide +kernel
theorem dX12_given_133 : decode cX12_given 133 = .ok (.aload_n 0, 1) := by decide +kernel
theorem dX12_given_134 : decode cX12_given 134 = .ok (.getfield 54, 3) := by decide +kernel
theorem dX12_given_137 : decode cX12_given 137 = .ok (.aload_n 0, 1) := by decide +kernel
theorem dX12_given_138 : decode cX12_given 138 = .ok (.getfield 48, 3) := by decide +kernel
theorem dX12_given_141 : decode cX12_given 141 = .ok (.iaload, 1) := by decide +kernel
theorem dX12_given_142 : decode cX12_given 142 = .ok (.if_icmp .ge 18, 3) := by decide +kernel
theorem dX12_given_145 : decode cX12_given 145 = .ok (.iload_n 2, 1) := by decide +kernel
theorem dX12_given_146 : decode cX12_given 146 = .ok (.aload_n 0, 1) := by decide +kernel
theorem dX12_given_147 : decode cX12_given 147 = .ok (.getfield 246, 3) := by decide +kernel
theorem dX12_given_150 : decode cX12_given 150 = .ok (.iload_n 3, 1) := by decide +kernel
theorem dX12_given_151 : decode cX12_given 151 = .ok (.iaload, 1) := by decide +kernel
theorem dX12_given_152 : decode cX12_given 152 = .ok (.iadd, 1) := by decide +kernel
theorem dX12_given_153 : decode cX12_given 153 = .ok (.istore_n 2, 1) := by decide +kernel
theorem dX12_given_154 : decode cX12_given 154 = .ok (.iinc 3 1, 3) := by decide +kernel
theorem dX12_given_157 : decode cX12_given 157 = .ok (.goto (-25), 3) := by decide +kernel
theorem dX12_given_160 : decode cX12_given 160 = .ok (.iload_n 2, 1) := by decide +kernel
theorem dX12_given_161 : decode cX12_given 161 = .ok (.ireturn, 1) := by decide +kernel
theorem dX12_given_162 : decode cX12_given 162 = .ok (.iconst (-1), 1) := by decide +kernel
theorem dX12_given_163 : decode cX12_given 163 = .ok (.ireturn, 1) := by decide +kernel
theorem dX12_was_0 : decode cX12_was 0 = .ok (.aload_n 0, 1) := by decide +kernel
theorem dX12_was_1 : decode cX12_was 1 = .ok (.getfield 219, 3) := by decide +kernel
theorem dX12_was_4 : decode cX12_was 4 = .ok (.ifCond .eq 19, 3) := by decide +kernel
theorem dX12_was_7 : decode cX12_was 7 = .ok (.iload_n 1, 1) := by decide +kernel
theorem dX12_was_8 : decode cX12_was 8 = .ok (.ifCond .lt 15, 3) := by decide +kernel
theorem dX12_was_11 : decode cX12_was 11 = .ok (.iload_n 1, 1) := by decide +kernel
theorem dX12_was_12 : decode cX12_was 12 = .ok (.aload_n 0, 1) := by decide +kernel
theorem dX12_was_13 : decode cX12_was 13 = .ok (.getfield 222, 3) := by decide +kernel
theorem dX12_was_16 : decode cX12_was 16 = .ok (.if_icmp .ge 7, 3) := by decide +kernel
theorem dX12_was_19 : decode cX12_was 19 = .ok (.iconst 1, 1) := by decide +kernel
theorem dX12_was_20 : decode cX12_was 20 = .ok (.goto 4, 3) := by decide +kernel
theorem dX12_was_23 : decode cX12_was 23 = .ok (.iconst 0, 1) := by decide +kernel
theorem dX12_was_24 : decode cX12_was 24 = .ok (.ireturn, 1) := by decide +kernel
theorem dX12_gets_0 : decode cX12_gets 0 = .ok (.aload_n 0, 1) := by decide +kernel
theorem dX12_gets_1 : decode cX12_gets 1 = .ok (.iload_n 1, 1) := by decide +kernel
theorem dX12_gets_2 : decode cX12_gets 2 = .ok (.invokevirtual 547, 3) := by decide +kernel
theorem dX12_gets_5 : decode cX12_gets 5 = .ok (.ifCond .eq 12, 3) := by decide +kernel
theorem dX12_gets_8 : decode cX12_gets 8 = .ok (.aload_n 0, 1) := by decide +kernel
theorem dX12_gets_9 : decode cX12_gets 9 = .ok (.getfield 243, 3) := by decide +kernel
theorem dX12_gets_12 : decode cX12_gets 12 = .ok (.iload_n 1, 1) := by decide +kernel
theorem dX12_gets_13 : decode cX12_gets 13 = .ok (.iaload, 1) := by decide +kernel
theorem dX12_gets_14 : decode cX12_gets 14 = .ok (.goto 4, 3) := by decide +kernel
theorem dX12_gets_17 : decode cX12_gets 17 = .ok (.iconst (-1), 1) := by decide +kernel
theorem dX12_gets_18 : decode cX12_gets 18 = .ok (.ireturn, 1) := by decide +kernel
theorem dX12_left_0 : decode cX12_left 0 = .ok (.aload_n 0, 1) := by decide +kernel
theorem dX12_left_1 : decode cX12_left 1 = .ok (.getfield 219, 3) := by decide +kernel
theorem dX12_left_4 : decode cX12_left 4 = .ok (.ifCond .eq 11, 3) := by decide +kernel
theorem dX12_left_7 : decode cX12_left 7 = .ok (.aload_n 0, 1) := by decide +kernel
theorem dX12_left_8 : decode cX12_left 8 = .ok (.iload_n 1, 1) := by decide +kernel
theorem dX12_left_9 : decode cX12_left 9 = .ok (.invokevirtual 450, 3) := by decide +kernel
theorem dX12_left_12 : decode cX12_left 12 = .ok (.ifCond .ne 7, 3) := by decide +kernel
theorem dX12_left_15 : decode cX12_left 15 = .ok (.iconst (-1), 1) := by decide +kernel
theorem dX12_left_16 : decode cX12_left 16 = .ok (.goto 9, 3) := by decide +kernel
theorem dX12_left_19 : decode cX12_left 19 = .ok (.aload_n 0, 1) := by decide +kernel
theorem dX12_left_20 : decode cX12_left 20 = .ok (.getfield 246, 3) := by decide +kernel
theorem dX12_left_23 : decode cX12_left 23 = .ok (.iload_n 1, 1) := by decide +kernel
theorem dX12_left_24 : decode cX12_left 24 = .ok (.iaload, 1) := by decide +kernel
theorem dX12_left_25 : decode cX12_left 25 = .ok (.ireturn, 1) := by decide +kernel
theorem dX12_blind_0 : decode cX12_blind 0 = .ok (.aload_n 0, 1) := by decide +kernel
theorem dX12_blind_1 : decode cX12_blind 1 = .ok (.invokevirtual 471, 3) := by decide +kernel
theorem dX12_blind_4 : decode cX12_blind 4 = .ok (.aload_n 0, 1) := by decide +kernel
theorem dX12_blind_5 : decode cX12_blind 5 = .ok (.invokevirtual 533, 3) := by decide +kernel
theorem dX12_blind_8 : decode cX12_blind 8 = .ok (.iconst 0, 1) := by decide +kernel
theorem dX12_blind_9 : decode cX12_blind 9 = .ok (.istore_n 1, 1) := by decide +kernel
theorem dX12_blind_10 : decode cX12_blind 10 = .ok (.iconst 0, 1) := by decide +kernel
theorem dX12_blind_11 : decode cX12_blind 11 = .ok (.istore_n 2, 1) := by decide +kernel
theorem dX12_blind_12 : decode cX12_blind 12 = .ok (.iload_n 2, 1) := by decide +kernel
theorem dX12_blind_13 : decode cX12_blind 13 = .ok (.bipush 10, 2) := by decide +kernel
theorem dX12_blind_15 : decode cX12_blind 15 = .ok (.if_icmp .ge 16, 3) := by decide +kernel
theorem dX12_blind_18 : decode cX12_blind 18 = .ok (.aload_n 0, 1) := by decide +kernel
theorem dX12_blind_19 : decode cX12_blind 19 = .ok (.getfield 261, 3) := by decide +kernel
theorem dX12_blind_22 : decode cX12_blind 22 = .ok (.iload_n 2, 1) := by decide +kernel
theorem dX12_blind_23 : decode cX12_blind 23 = .ok (.iconst 0, 1) := by decide +kernel
theorem dX12_blind_24 : decode cX12_blind 24 = .ok (.iastore, 1) := by decide +kernel
theorem dX12_blind_25 : decode cX12_blind 25 = .ok (.iinc 2 1, 3) := by decide +kernel
theorem dX12_blind_28 : decode cX12_blind 28 = .ok (.goto (-16), 3) := by decide +kernel
theorem dX12_blind_31 : decode cX12_blind 31 = .ok (.iconst 1, 1) := by decide +kernel
theorem dX12_blind_32 : decode cX12_blind 32 = .ok (.istore_n 2, 1) := by decide +kernel
theorem dX12_blind_33 : decode cX12_blind 33 = .ok (.iload_n 2, 1) := by decide +kernel
theorem dX12_blind_34 : decode cX12_blind 34 = .ok (.bipush 24, 2) := by decide +kernel
theorem dX12_blind_36 : decode cX12_blind 36 = .ok (.if_icmp .gt 17, 3) := by decide +kernel
theorem dX12_blind_39 : decode cX12_blind 39 = .ok (.iload_n 1, 1) := by decide +kernel
theorem dX12_blind_40 : decode cX12_blind 40 = .ok (.aload_n 0, 1) := by decide +kernel
theorem dX12_blind_41 : decode cX12_blind 41 = .ok (.iload_n 2, 1) := by decide +kernel
theorem dX12_blind_42 : decode cX12_blind 42 = .ok (.invokevirtual 550, 3) := by decide +kernel
theorem dX12_blind_45 : decode cX12_blind 45 = .ok (.iadd, 1) := by decide +kernel
theorem dX12_blind_46 : decode cX12_blind 46 = .ok (.istore_n 1, 1) := by decide +kernel
theorem dX12_blind_47 : decode cX12_blind 47 = .ok (.iinc 2 1, 3) := by decide +kernel
theorem dX12_blind_50 : decode cX12_blind 50 = .ok (.goto (-17), 3) := by decide +kernel
theorem dX12_blind_53 : decode cX12_blind 53 = .ok (.iload_n 1, 1) := by decide +kernel
theorem dX12_blind_54 : decode cX12_blind 54 = .ok (.ireturn, 1) := by decide +kernel
theorem dX12_blindDay_0 : decode cX12_blindDay 0 = .ok (.aload_n 0, 1) := by decide +kernel
theorem dX12_blindDay_1 : decode cX12_blindDay 1 = .ok (.iconst 0, 1) := by decide +kernel
theorem dX12_blindDay_2 : decode cX12_blindDay 2 = .ok (.putfield 201, 3) := by decide +kernel
theorem dX12_blindDay_5 : decode cX12_blindDay 5 = .ok (.iconst 0, 1) := by decide +kernel
theorem dX12_blindDay_6 : decode cX12_blindDay 6 = .ok (.istore_n 2, 1) := by decide +kernel
theorem dX12_blindDay_7 : decode cX12_blindDay 7 = .ok (.iload_n 2, 1) := by decide +kernel
theorem dX12_blindDay_8 : decode cX12_blindDay 8 = .ok (.sipush 400, 3) := by decide +kernel
theorem dX12_blindDay_11 : decode cX12_blindDay 11 = .ok (.if_icmp .ge 16, 3) := by decide +kernel
theorem dX12_blindDay_14 : decode cX12_blindDay 14 = .ok (.aload_n 0, 1) := by decide +kernel
theorem dX12_blindDay_15 : decode cX12_blindDay 15 = .ok (.getfield 210, 3) := by decide +kernel
theorem dX12_blindDay_18 : decode cX12_blindDay 18 = .ok (.iload_n 2, 1) := by decide +kernel
theorem dX12_blindDay_19 : decode cX12_blindDay 19 = .ok (.iconst (-1), 1) := by decide +kernel
theorem dX12_blindDay_20 : decode cX12_blindDay 20 = .ok (.iastore, 1) := by decide +kernel
theorem dX12_blindDay_21 : decode cX12_blindDay 21 = .ok (.iinc 2 1, 3) := by decide +kernel
theorem dX12_blindDay_24 : decode cX12_blindDay 24 = .ok (.goto (-17), 3) := by decide +kernel
theorem dX12_blindDay_27 : decode cX12_blindDay 27 = .ok (.iconst 0, 1) := by decide +kernel
theorem dX12_blindDay_28 : decode cX12_blindDay 28 = .ok (.istore_n 2, 1) := by decide +kernel
theorem dX12_blindDay_29 : decode cX12_blindDay 29 = .ok (.iload_n 2, 1) := by decide +kernel
theorem dX12_blindDay_30 : decode cX12_blindDay 30 = .ok (.aload_n 0, 1) := by decide +kernel
theorem dX12_blindDay_31 : decode cX12_blindDay 31 = .ok (.getfield 54, 3) := by decide +kernel
theorem dX12_blindDay_34 : decode cX12_blindDay 34 = .ok (.aload_n 0, 1) := by decide +kernel
theorem dX12_blindDay_35 : decode cX12_blindDay 35 = .ok (.getfield 48, 3) := by decide +kernel
theorem dX12_blindDay_38 : decode cX12_blindDay 38 = .ok (.iaload, 1) := by decide +kernel
theorem dX12_blindDay_39 : decode cX12_blindDay 39 = .ok (.if_icmp .ge 45, 3) := by decide +kernel
theorem dX12_blindDay_42 : decode cX12_blindDay 42 = .ok (.aload_n 0, 1) := by decide +kernel
theorem dX12_blindDay_43 : decode cX12_blindDay 43 = .ok (.getfield 261, 3) := by decide +kernel
theorem dX12_blindDay_46 : decode cX12_blindDay 46 = .ok (.iload_n 2, 1) := by decide +kernel
theorem dX12_blindDay_47 : decode cX12_blindDay 47 = .ok (.dup2, 1) := by decide +kernel
theorem dX12_blindDay_48 : decode cX12_blindDay 48 = .ok (.iaload, 1) := by decide +kernel
theorem dX12_blindDay_49 : decode cX12_blindDay 49 = .ok (.aload_n 0, 1) := by decide +kernel
theorem dX12_blindDay_50 : decode cX12_blindDay 50 = .ok (.getfield 216, 3) := by decide +kernel
theorem dX12_blindDay_53 : decode cX12_blindDay 53 = .ok (.bipush 25, 2) := by decide +kernel
theorem dX12_blindDay_55 : decode cX12_blindDay 55 = .ok (.iload_n 2, 1) := by decide +kernel
theorem dX12_blindDay_56 : decode cX12_blindDay 56 = .ok (.imul, 1) := by decide +kernel
theorem dX12_blindDay_57 : decode cX12_blindDay 57 = .ok (.iload_n 1, 1) := by decide +kernel
theorem dX12_blindDay_58 : decode cX12_blindDay 58 = .ok (.iadd, 1) := by decide +kernel
theorem dX12_blindDay_59 : decode cX12_blindDay 59 = .ok (.iaload, 1) := by decide +kernel
theorem dX12_blindDay_60 : decode cX12_blindDay 60 = .ok (.iadd, 1) := by decide +kernel
theorem dX12_blindDay_61 : decode cX12_blindDay 61 = .ok (.iastore, 1) := by decide +kernel
theorem dX12_blindDay_62 : decode cX12_blindDay 62 = .ok (.aload_n 0, 1) := by decide +kernel
theorem dX12_blindDay_63 : decode cX12_blindDay 63 = .ok (.iconst 0, 1) := by decide +kernel
theorem dX12_blindDay_64 : decode cX12_blindDay 64 = .ok (.iconst 2, 1) := by decide +kernel
theorem dX12_blindDay_65 : decode cX12_blindDay 65 = .ok (.iload_n 2, 1) := by decide +kernel
theorem dX12_blindDay_66 : decode cX12_blindDay 66 = .ok (.iadd, 1) := by decide +kernel
theorem dX12_blindDay_67 : decode cX12_blindDay 67 = .ok (.aload_n 0, 1) := by decide +kernel
theorem dX12_blindDay_68 : decode cX12_blindDay 68 = .ok (.getfield 261, 3) := by decide +kernel
theorem dX12_blindDay_71 : decode cX12_blindDay 71 = .ok (.iload_n 2, 1) := by decide +kernel
theorem dX12_blindDay_72 : decode cX12_blindDay 72 = .ok (.iaload, 1) := by decide +kernel
theorem dX12_blindDay_73 : decode cX12_blindDay 73 = .ok (.lconst 0, 1) := by decide +kernel
theorem dX12_blindDay_74 : decode cX12_blindDay 74 = .ok (.invokevirtual 536, 3) := by decide +kernel
theorem dX12_blindDay_77 : decode cX12_blindDay 77 = .ok (.pop, 1) := by decide +kernel
theorem dX12_blindDay_78 : decode cX12_blindDay 78 = .ok (.iinc 2 1, 3) := by decide +kernel
theorem dX12_blindDay_81 : decode cX12_blindDay 81 = .ok (.goto (-52), 3) := by decide +kernel
theorem dX12_blindDay_84 : decode cX12_blindDay 84 = .ok (.iconst 0, 1) := by decide +kernel
theorem dX12_blindDay_85 : decode cX12_blindDay 85 = .ok (.istore_n 2, 1) := by decide +kernel
theorem dX12_blindDay_86 : decode cX12_blindDay 86 = .ok (.iload_n 2, 1) := by decide +kernel
theorem dX12_blindDay_87 : decode cX12_blindDay 87 = .ok (.aload_n 0, 1) := by decide +kernel
theorem dX12_blindDay_88 : decode cX12_blindDay 88 = .ok (.getfield 150, 3) := by decide +kernel
theorem dX12_blindDay_91 : decode cX12_blindDay 91 = .ok (.if_icmp .ge 101, 3) := by decide +kernel
theorem dX12_blindDay_94 : decode cX12_blindDay 94 = .ok (.aload_n 0, 1) := by decide +kernel
theorem dX12_blindDay_95 : decode cX12_blindDay 95 = .ok (.getfield 171, 3) := by decide +kernel
theorem dX12_blindDay_98 : decode cX12_blindDay 98 = .ok (.iload_n 2, 1) := by decide +kernel
theorem dX12_blindDay_99 : decode cX12_blindDay 99 = .ok (.iaload, 1) := by decide +kernel
theorem dX12_blindDay_100 : decode cX12_blindDay 100 = .ok (.iload_n 1, 1) := by decide +kernel
theorem dX12_blindDay_101 : decode cX12_blindDay 101 = .ok (.if_icmp .eq 6, 3) := by decide +kernel
theorem dX12_blindDay_104 : decode cX12_blindDay 104 = .ok (.goto 82, 3) := by decide +kernel
theorem dX12_blindDay_107 : decode cX12_blindDay 107 = .ok (.aload_n 0, 1) := by decide +kernel
theorem dX12_blindDay_108 : decode cX12_blindDay 108 = .ok (.sipush 242, 3) := by decide +kernel
theorem dX12_blindDay_111 : decode cX12_blindDay 111 = .ok (.iload_n 2, 1) := by decide +kernel
theorem dX12_blindDay_112 : decode cX12_blindDay 112 = .ok (.iadd, 1) := by decide +kernel
theorem dX12_blindDay_113 : decode cX12_blindDay 113 = .ok (.iconst 1, 1) := by decide +kernel
theorem dX12_blindDay_114 : decode cX12_blindDay 114 = .ok (.aload_n 0, 1) := by decide +kernel
theorem dX12_blindDay_115 : decode cX12_blindDay 115 = .ok (.iload_n 2, 1) := by decide +kernel
theorem dX12_blindDay_116 : decode cX12_blindDay 116 = .ok (.invokevirtual 515, 3) := by decide +kernel
theorem dX12_blindDay_119 : decode cX12_blindDay 119 = .ok (.lconst 0, 1) := by decide +kernel
theorem dX12_blindDay_120 : decode cX12_blindDay 120 = .ok (.invokevirtual 536, 3) := by decide +kernel
theorem dX12_blindDay_123 : decode cX12_blindDay 123 = .ok (.pop, 1) := by decide +kernel
theorem dX12_blindDay_124 : decode cX12_blindDay 124 = .ok (.iconst 0, 1) := by decide +kernel
theorem dX12_blindDay_125 : decode cX12_blindDay 125 = .ok (.istore_n 3, 1) := by decide +kernel
theorem dX12_blindDay_126 : decode cX12_blindDay 126 = .ok (.iload_n 3, 1) := by decide +kernel
theorem dX12_blindDay_127 : decode cX12_blindDay 127 = .ok (.aload_n 0, 1) := by decide +kernel
theorem dX12_blindDay_128 : decode cX12_blindDay 128 = .ok (.getfield 54, 3) := by decide +kernel
theorem dX12_blindDay_131 : decode cX12_blindDay 131 = .ok (.aload_n 0, 1) := by decide +kernel
theorem dX12_blindDay_132 : decode cX12_blindDay 132 = .ok (.getfield 48, 3) := by decide +kernel
theorem dX12_blindDay_135 : decode cX12_blindDay 135 = .ok (.iaload, 1) := by decide +kernel
theorem dX12_blindDay_136 : decode cX12_blindDay 136 = .ok (.if_icmp .ge 50, 3) := by decide +kernel
theorem dX12_blindDay_139 : decode cX12_blindDay 139 = .ok (.aload_n 0, 1) := by decide +kernel
theorem dX12_blindDay_140 : decode cX12_blindDay 140 = .ok (.iload_n 2, 1) := by decide +kernel
theorem dX12_blindDay_141 : decode cX12_blindDay 141 = .ok (.iload_n 3, 1) := by decide +kernel
theorem dX12_blindDay_142 : decode cX12_blindDay 142 = .ok (.invokevirtual 518, 3) := by decide +kernel
theorem dX12_blindDay_145 : decode cX12_blindDay 145 = .ok (.ifCond .eq 35, 3) := by decide +kernel
theorem dX12_blindDay_148 : decode cX12_blindDay 148 = .ok (.aload_n 0, 1) := by decide +kernel
theorem dX12_blindDay_149 : decode cX12_blindDay 149 = .ok (.getfield 210, 3) := by decide +kernel
theorem dX12_blindDay_152 : decode cX12_blindDay 152 = .ok (.bipush 10, 2) := by decide +kernel
theorem dX12_blindDay_154 : decode cX12_blindDay 154 = .ok (.iload_n 2, 1) := by decide +kernel
theorem dX12_blindDay_155 : decode cX12_blindDay 155 = .ok (.imul, 1) := by decide +kernel
theorem dX12_blindDay_156 : decode cX12_blindDay 156 = .ok (.iload_n 3, 1) := by decide +kernel
theorem dX12_blindDay_157 : decode cX12_blindDay 157 = .ok (.iadd, 1) := by decide +kernel
theorem dX12_blindDay_158 : decode cX12_blindDay 158 = .ok (.aload_n 0, 1) := by decide +kernel
theorem dX12_blindDay_159 : decode cX12_blindDay 159 = .ok (.iconst 2, 1) := by decide +kernel
theorem dX12_blindDay_160 : decode cX12_blindDay 160 = .ok (.iload_n 3, 1) := by decide +kernel
theorem dX12_blindDay_161 : decode cX12_blindDay 161 = .ok (.iadd, 1) := by decide +kernel
theorem dX12_blindDay_162 : decode cX12_blindDay 162 = .ok (.sipush 242, 3) := by decide +kernel
theorem dX12_blindDay_165 : decode cX12_blindDay 165 = .ok (.iload_n 2, 1) := by decide +kernel
theorem dX12_blindDay_166 : decode cX12_blindDay 166 = .ok (.iadd, 1) := by decide +kernel
theorem dX12_blindDay_167 : decode cX12_blindDay 167 = .ok (.iconst 1, 1) := by decide +kernel
theorem dX12_blindDay_168 : decode cX12_blindDay 168 = .ok (.aload_n 0, 1) := by decide +kernel
theorem dX12_blindDay_169 : decode cX12_blindDay 169 = .ok (.iload_n 2, 1) := by decide +kernel
theorem dX12_blindDay_170 : decode cX12_blindDay 170 = .ok (.iload_n 3, 1) := by decide +kernel
theorem dX12_blindDay_171 : decode cX12_blindDay 171 = .ok (.invokevirtual 522, 3) := by decide +kernel
theorem dX12_blindDay_174 : decode cX12_blindDay 174 = .ok (.ineg, 1) := by decide +kernel
theorem dX12_blindDay_175 : decode cX12_blindDay 175 = .ok (.i2l, 1) := by decide +kernel
theorem dX12_blindDay_176 : decode cX12_blindDay 176 = .ok (.invokevirtual 536, 3) := by decide +kernel
theorem dX12_blindDay_179 : decode cX12_blindDay 179 = .ok (.iastore, 1) := by decide +kernel
theorem dX12_blindDay_180 : decode cX12_blindDay 180 = .ok (.iinc 3 1, 3) := by decide +kernel
theorem dX12_blindDay_183 : decode cX12_blindDay 183 = .ok (.goto (-57), 3) := by decide +kernel
theorem dX12_blindDay_186 : decode cX12_blindDay 186 = .ok (.iinc 2 1, 3) := by decide +kernel
theorem dX12_blindDay_189 : decode cX12_blindDay 189 = .ok (.goto (-103), 3) := by decide +kernel
theorem dX12_blindDay_192 : decode cX12_blindDay 192 = .ok (.aload_n 0, 1) := by decide +kernel
theorem dX12_blindDay_193 : decode cX12_blindDay 193 = .ok (.invokevirtual 541, 3) := by decide +kernel
theorem dX12_blindDay_196 : decode cX12_blindDay 196 = .ok (.iconst 0, 1) := by decide +kernel
theorem dX12_blindDay_197 : decode cX12_blindDay 197 = .ok (.istore_n 2, 1) := by decide +kernel
theorem dX12_blindDay_198 : decode cX12_blindDay 198 = .ok (.iconst 0, 1) := by decide +kernel
theorem dX12_blindDay_199 : decode cX12_blindDay 199 = .ok (.istore_n 3, 1) := by decide +kernel
theorem dX12_blindDay_200 : decode cX12_blindDay 200 = .ok (.iload_n 3, 1) := by decide +kernel
theorem dX12_blindDay_201 : decode cX12_blindDay 201 = .ok (.aload_n 0, 1) := by decide +kernel
theorem dX12_blindDay_202 : decode cX12_blindDay 202 = .ok (.getfield 150, 3) := by decide +kernel
theorem dX12_blindDay_205 : decode cX12_blindDay 205 = .ok (.if_icmp .ge 85, 3) := by decide +kernel
theorem dX12_blindDay_208 : decode cX12_blindDay 208 = .ok (.aload_n 0, 1) := by decide +kernel
theorem dX12_blindDay_209 : decode cX12_blindDay 209 = .ok (.getfield 171, 3) := by decide +kernel
theorem dX12_blindDay_212 : decode cX12_blindDay 212 = .ok (.iload_n 3, 1) := by decide +kernel
theorem dX12_blindDay_213 : decode cX12_blindDay 213 = .ok (.iaload, 1) := by decide +kernel
theorem dX12_blindDay_214 : decode cX12_blindDay 214 = .ok (.iload_n 1, 1) := by decide +kernel
theorem dX12_blindDay_215 : decode cX12_blindDay 215 = .ok (.if_icmp .eq 6, 3) := by decide +kernel
theorem dX12_blindDay_218 : decode cX12_blindDay 218 = .ok (.goto 66, 3) := by decide +kernel
theorem dX12_blindDay_221 : decode cX12_blindDay 221 = .ok (.iconst 0, 1) := by decide +kernel
theorem dX12_blindDay_222 : decode cX12_blindDay 222 = .ok (.istore 4, 2) := by decide +kernel
theorem dX12_blindDay_224 : decode cX12_blindDay 224 = .ok (.iconst 0, 1) := by decide +kernel
theorem dX12_blindDay_225 : decode cX12_blindDay 225 = .ok (.istore 5, 2) := by decide +kernel
theorem dX12_blindDay_227 : decode cX12_blindDay 227 = .ok (.iload 5, 2) := by decide +kernel
theorem dX12_blindDay_229 : decode cX12_blindDay 229 = .ok (.aload_n 0, 1) := by decide +kernel
theorem dX12_blindDay_230 : decode cX12_blindDay 230 = .ok (.getfield 54, 3) := by decide +kernel
theorem dX12_blindDay_233 : decode cX12_blindDay 233 = .ok (.aload_n 0, 1) := by decide +kernel
theorem dX12_blindDay_234 : decode cX12_blindDay 234 = .ok (.getfield 48, 3) := by decide +kernel
theorem dX12_blindDay_237 : decode cX12_blindDay 237 = .ok (.iaload, 1) := by decide +kernel
theorem dX12_blindDay_238 : decode cX12_blindDay 238 = .ok (.if_icmp .ge 41, 3) := by decide +kernel
theorem dX12_blindDay_241 : decode cX12_blindDay 241 = .ok (.aload_n 0, 1) := by decide +kernel
theorem dX12_blindDay_242 : decode cX12_blindDay 242 = .ok (.getfield 213, 3) := by decide +kernel
theorem dX12_blindDay_245 : decode cX12_blindDay 245 = .ok (.bipush 10, 2) := by decide +kernel
theorem dX12_blindDay_247 : decode cX12_blindDay 247 = .ok (.iload_n 3, 1) := by decide +kernel
theorem dX12_blindDay_248 : decode cX12_blindDay 248 = .ok (.imul, 1) := by decide +kernel
theorem dX12_blindDay_249 : decode cX12_blindDay 249 = .ok (.iload 5, 2) := by decide +kernel
theorem dX12_blindDay_251 : decode cX12_blindDay 251 = .ok (.iadd, 1) := by decide +kernel
theorem dX12_blindDay_252 : decode cX12_blindDay 252 = .ok (.baload, 1) := by decide +kernel
theorem dX12_blindDay_253 : decode cX12_blindDay 253 = .ok (.ifCond .ne 6, 3) := by decide +kernel
theorem dX12_blindDay_256 : decode cX12_blindDay 256 = .ok (.goto 17, 3) := by decide +kernel
theorem dX12_blindDay_259 : decode cX12_blindDay 259 = .ok (.aload_n 0, 1) := by decide +kernel
theorem dX12_blindDay_260 : decode cX12_blindDay 260 = .ok (.getfield 261, 3) := by decide +kernel
theorem dX12_blindDay_263 : decode cX12_blindDay 263 = .ok (.iload 5, 2) := by decide +kernel
theorem dX12_blindDay_265 : decode cX12_blindDay 265 = .ok (.dup2, 1) := by decide +kernel
theorem dX12_blindDay_266 : decode cX12_blindDay 266 = .ok (.iaload, 1) := by decide +kernel
theorem dX12_blindDay_267 : decode cX12_blindDay 267 = .ok (.iconst 1, 1) := by decide +kernel
theorem dX12_blindDay_268 : decode cX12_blindDay 268 = .ok (.isub, 1) := by decide +kernel
theorem dX12_blindDay_269 : decode cX12_blindDay 269 = .ok (.iastore, 1) := by decide +kernel
theorem dX12_blindDay_270 : decode cX12_blindDay 270 = .ok (.iinc 4 1, 3) := by decide +kernel
theorem dX12_blindDay_273 : decode cX12_blindDay 273 = .ok (.iinc 5 1, 3) := by decide +kernel
theorem dX12_blindDay_276 : decode cX12_blindDay 276 = .ok (.goto (-49), 3) := by decide +kernel
theorem dX12_blindDay_279 : decode cX12_blindDay 279 = .ok (.iload_n 2, 1) := by decide +kernel
theorem dX12_blindDay_280 : decode cX12_blindDay 280 = .ok (.iload 4, 2) := by decide +kernel
theorem dX12_blindDay_282 : decode cX12_blindDay 282 = .ok (.iadd, 1) := by decide +kernel
theorem dX12_blindDay_283 : decode cX12_blindDay 283 = .ok (.istore_n 2, 1) := by decide +kernel
theorem dX12_blindDay_284 : decode cX12_blindDay 284 = .ok (.iinc 3 1, 3) := by decide +kernel
theorem dX12_blindDay_287 : decode cX12_blindDay 287 = .ok (.goto (-87), 3) := by decide +kernel
theorem dX12_blindDay_290 : decode cX12_blindDay 290 = .ok (.iload_n 2, 1) := by decide +kernel
theorem dX12_blindDay_291 : decode cX12_blindDay 291 = .ok (.ireturn, 1) := by decide +kernel
theorem dX12_lacks_0 : decode cX12_lacks 0 = .ok (.aload_n 0, 1) := by decide +kernel
theorem dX12_lacks_1 : decode cX12_lacks 1 = .ok (.getfield 219, 3) := by decide +kernel
theorem dX12_lacks_4 : decode cX12_lacks 4 = .ok (.ifCond .ne 5, 3) := by decide +kernel
theorem dX12_lacks_7 : decode cX12_lacks 7 = .ok (.iconst (-1), 1) := by decide +kernel
theorem dX12_lacks_8 : decode cX12_lacks 8 = .ok (.ireturn, 1) := by decide +kernel
theorem dX12_lacks_9 : decode cX12_lacks 9 = .ok (.iconst 0, 1) := by decide +kernel
theorem dX12_lacks_10 : decode cX12_lacks 10 = .ok (.istore_n 3, 1) := by decide +kernel
theorem dX12_lacks_11 : decode cX12_lacks 11 = .ok (.iconst 0, 1) := by decide +kernel
theorem dX12_lacks_12 : decode cX12_lacks 12 = .ok (.istore 4, 2) := by decide +kernel
theorem dX12_lacks_14 : decode cX12_lacks 14 = .ok (.iload 4, 2) := by decide +kernel
theorem dX12_lacks_16 : decode cX12_lacks 16 = .ok (.aload_n 0, 1) := by decide +kernel
theorem dX12_lacks_17 : decode cX12_lacks 17 = .ok (.getfield 222, 3) := by decide +kernel
theorem dX12_lacks_20 : decode cX12_lacks 20 = .ok (.if_icmp .ge 49, 3) := by decide +kernel
theorem dX12_lacks_23 : decode cX12_lacks 23 = .ok (.iload_n 3, 1) := by decide +kernel
theorem dX12_lacks_24 : decode cX12_lacks 24 = .ok (.aload_n 0, 1) := by decide +kernel
theorem dX12_lacks_25 : decode cX12_lacks 25 = .ok (.getfield 234, 3) := by decide +kernel
theorem dX12_lacks_28 : decode cX12_lacks 28 = .ok (.iload 4, 2) := by decide +kernel
theorem dX12_lacks_30 : decode cX12_lacks 30 = .ok (.iaload, 1) := by decide +kernel
theorem dX12_lacks_31 : decode cX12_lacks 31 = .ok (.iload_n 1, 1) := by decide +kernel
theorem dX12_lacks_32 : decode cX12_lacks 32 = .ok (.iload_n 2, 1) := by decide +kernel
theorem dX12_lacks_33 : decode cX12_lacks 33 = .ok (.invokestatic 322, 3) := by decide +kernel
theorem dX12_lacks_36 : decode cX12_lacks 36 = .ok (.ifCond .eq 24, 3) := by decide +kernel
theorem dX12_lacks_39 : decode cX12_lacks 39 = .ok (.aload_n 0, 1) := by decide +kernel
theorem dX12_lacks_40 : decode cX12_lacks 40 = .ok (.getfield 225, 3) := by decide +kernel
theorem dX12_lacks_43 : decode cX12_lacks 43 = .ok (.iload 4, 2) := by decide +kernel
theorem dX12_lacks_45 : decode cX12_lacks 45 = .ok (.iaload, 1) := by decide +kernel
theorem dX12_lacks_46 : decode cX12_lacks 46 = .ok (.aload_n 0, 1) := by decide +kernel
theorem dX12_lacks_47 : decode cX12_lacks 47 = .ok (.getfield 240, 3) := by decide +kernel
theorem dX12_lacks_50 : decode cX12_lacks 50 = .ok (.iload 4, 2) := by decide +kernel
theorem dX12_lacks_52 : decode cX12_lacks 52 = .ok (.iaload, 1) := by decide +kernel
theorem dX12_lacks_53 : decode cX12_lacks 53 = .ok (.invokestatic 544, 3) := by decide +kernel
theorem dX12_lacks_56 : decode cX12_lacks 56 = .ok (.isub, 1) := by decide +kernel
theorem dX12_lacks_57 : decode cX12_lacks 57 = .ok (.goto 4, 3) := by decide +kernel
theorem dX12_lacks_60 : decode cX12_lacks 60 = .ok (.iconst 0, 1) := by decide +kernel
theorem dX12_lacks_61 : decode cX12_lacks 61 = .ok (.iadd, 1) := by decide +kernel
theorem dX12_lacks_62 : decode cX12_lacks 62 = .ok (.istore_n 3, 1) := by decide +kernel
theorem dX12_lacks_63 : decode cX12_lacks 63 = .ok (.iinc 4 1, 3) := by decide +kernel
theorem dX12_lacks_66 : decode cX12_lacks 66 = .ok (.goto (-52), 3) := by decide +kernel
theorem dX12_lacks_69 : decode cX12_lacks 69 = .ok (.iload_n 3, 1) := by decide +kernel
theorem dX12_lacks_70 : decode cX12_lacks 70 = .ok (.ireturn, 1) := by decide +kernel
theorem dX12_price_0 : decode cX12_price 0 = .ok (.aload_n 0, 1) := by decide +kernel
theorem dX12_price_1 : decode cX12_price 1 = .ok (.iload_n 1, 1) := by decide +kernel
theorem dX12_price_2 : decode cX12_price 2 = .ok (.invokevirtual 547, 3) := by decide +kernel
theorem dX12_price_5 : decode cX12_price 5 = .ok (.ifCond .eq 11, 3) := by decide +kernel
theorem dX12_price_8 : decode cX12_price 8 = .ok (.aload_n 0, 1) := by decide +kernel
theorem dX12_price_9 : decode cX12_price 9 = .ok (.iload_n 1, 1) := by decide +kernel
theorem dX12_price_10 : decode cX12_price 10 = .ok (.invokevirtual 565, 3) := by decide +kernel
theorem dX12_price_13 : decode cX12_price 13 = .ok (.goto 4, 3) := by decide +kernel
theorem dX12_price_16 : decode cX12_price 16 = .ok (.iconst (-1), 1) := by decide +kernel
theorem dX12_price_17 : decode cX12_price 17 = .ok (.ireturn, 1) := by decide +kernel
theorem dX12_spend_0 : decode cX12_spend 0 = .ok (.aload_n 0, 1) := by decide +kernel
theorem dX12_spend_1 : decode cX12_spend 1 = .ok (.getfield 219, 3) := by decide +kernel
theorem dX12_spend_4 : decode cX12_spend 4 = .ok (.ifCond .eq 21, 3) := by decide +kernel
theorem dX12_spend_7 : decode cX12_spend 7 = .ok (.aload_n 0, 1) := by decide +kernel
theorem dX12_spend_8 : decode cX12_spend 8 = .ok (.getfield 255, 3) := by decide +kernel
theorem dX12_spend_11 : decode cX12_spend 11 = .ok (.ifCond .ne 14, 3) := by decide +kernel
theorem dX12_spend_14 : decode cX12_spend 14 = .ok (.iload_n 1, 1) := by decide +kernel
theorem dX12_spend_15 : decode cX12_spend 15 = .ok (.iconst 0, 1) := by decide +kernel
theorem dX12_spend_16 : decode cX12_spend 16 = .ok (.ldc_w 568, 3) := by decide +kernel
theorem dX12_spend_19 : decode cX12_spend 19 = .ok (.invokestatic 322, 3) := by decide +kernel
theorem dX12_spend_22 : decode cX12_spend 22 = .ok (.ifCond .ne 5, 3) := by decide +kernel
theorem dX12_spend_25 : decode cX12_spend 25 = .ok (.iconst (-1), 1) := by decide +kernel
theorem dX12_spend_26 : decode cX12_spend 26 = .ok (.ireturn, 1) := by decide +kernel
theorem dX12_spend_27 : decode cX12_spend 27 = .ok (.iconst 0, 1) := by decide +kernel
theorem dX12_spend_28 : decode cX12_spend 28 = .ok (.istore_n 2, 1) := by decide +kernel
theorem dX12_spend_29 : decode cX12_spend 29 = .ok (.iload_n 2, 1) := by decide +kernel
theorem dX12_spend_30 : decode cX12_spend 30 = .ok (.aload_n 0, 1) := by decide +kernel
theorem dX12_spend_31 : decode cX12_spend 31 = .ok (.getfield 222, 3) := by decide +kernel
theorem dX12_spend_34 : decode cX12_spend 34 = .ok (.if_icmp .ge 41, 3) := by decide +kernel
theorem dX12_spend_37 : decode cX12_spend 37 = .ok (.aload_n 0, 1) := by decide +kernel
theorem dX12_spend_38 : decode cX12_spend 38 = .ok (.getfield 273, 3) := by decide +kernel
theorem dX12_spend_41 : decode cX12_spend 41 = .ok (.iload_n 2, 1) := by decide +kernel
theorem dX12_spend_42 : decode cX12_spend 42 = .ok (.aload_n 0, 1) := by decide +kernel
theorem dX12_spend_43 : decode cX12_spend 43 = .ok (.iload_n 2, 1) := by decide +kernel
theorem dX12_spend_44 : decode cX12_spend 44 = .ok (.invokevirtual 559, 3) := by decide +kernel
theorem dX12_spend_47 : decode cX12_spend 47 = .ok (.bastore, 1) := by decide +kernel
theorem dX12_spend_48 : decode cX12_spend 48 = .ok (.aload_n 0, 1) := by decide +kernel
theorem dX12_spend_49 : decode cX12_spend 49 = .ok (.getfield 267, 3) := by decide +kernel
theorem dX12_spend_52 : decode cX12_spend 52 = .ok (.iload_n 2, 1) := by decide +kernel
theorem dX12_spend_53 : decode cX12_spend 53 = .ok (.aload_n 0, 1) := by decide +kernel
theorem dX12_spend_54 : decode cX12_spend 54 = .ok (.iload_n 2, 1) := by decide +kernel
theorem dX12_spend_55 : decode cX12_spend 55 = .ok (.invokevirtual 565, 3) := by decide +kernel
theorem dX12_spend_58 : decode cX12_spend 58 = .ok (.iastore, 1) := by decide +kernel
theorem dX12_spend_59 : decode cX12_spend 59 = .ok (.aload_n 0, 1) := by decide +kernel
theorem dX12_spend_60 : decode cX12_spend 60 = .ok (.getfield 270, 3) := by decide +kernel
theorem dX12_spend_63 : decode cX12_spend 63 = .ok (.iload_n 2, 1) := by decide +kernel
theorem dX12_spend_64 : decode cX12_spend 64 = .ok (.aload_n 0, 1) := by decide +kernel
theorem dX12_spend_65 : decode cX12_spend 65 = .ok (.getfield 264, 3) := by decide +kernel
theorem dX12_spend_68 : decode cX12_spend 68 = .ok (.iastore, 1) := by decide +kernel
theorem dX12_spend_69 : decode cX12_spend 69 = .ok (.iinc 2 1, 3) := by decide +kernel
theorem dX12_spend_72 : decode cX12_spend 72 = .ok (.goto (-43), 3) := by decide +kernel
theorem dX12_spend_75 : decode cX12_spend 75 = .ok (.aload_n 0, 1) := by decide +kernel
theorem dX12_spend_76 : decode cX12_spend 76 = .ok (.iconst 1, 1) := by decide +kernel
theorem dX12_spend_77 : decode cX12_spend 77 = .ok (.putfield 255, 3) := by decide +kernel
theorem dX12_spend_80 : decode cX12_spend 80 = .ok (.aload_n 0, 1) := by decide +kernel
theorem dX12_spend_81 : decode cX12_spend 81 = .ok (.iconst 0, 1) := by decide +kernel
theorem dX12_spend_82 : decode cX12_spend 82 = .ok (.putfield 258, 3) := by decide +kernel
theorem dX12_spend_85 : decode cX12_spend 85 = .ok (.iconst 0, 1) := by decide +kernel
theorem dX12_spend_86 : decode cX12_spend 86 = .ok (.istore_n 2, 1) := by decide +kernel
theorem dX12_spend_87 : decode cX12_spend 87 = .ok (.iconst 1, 1) := by decide +kernel
theorem dX12_spend_88 : decode cX12_spend 88 = .ok (.istore_n 3, 1) := by decide +kernel
theorem dX12_spend_89 : decode cX12_spend 89 = .ok (.iload_n 3, 1) := by decide +kernel
theorem dX12_spend_90 : decode cX12_spend 90 = .ok (.ifCond .eq 153, 3) := by decide +kernel
theorem dX12_spend_93 : decode cX12_spend 93 = .ok (.iconst (-1), 1) := by decide +kernel
theorem dX12_spend_94 : decode cX12_spend 94 = .ok (.istore 4, 2) := by decide +kernel
theorem dX12_spend_96 : decode cX12_spend 96 = .ok (.iconst 0, 1) := by decide +kernel
theorem dX12_spend_97 : decode cX12_spend 97 = .ok (.istore 5, 2) := by decide +kernel
theorem dX12_spend_99 : decode cX12_spend 99 = .ok (.iload 5, 2) := by decide +kernel
theorem dX12_spend_101 : decode cX12_spend 101 = .ok (.aload_n 0, 1) := by decide +kernel
theorem dX12_spend_102 : decode cX12_spend 102 = .ok (.getfield 222, 3) := by decide +kernel
theorem dX12_spend_105 : decode cX12_spend 105 = .ok (.if_icmp .ge 56, 3) := by decide +kernel
theorem dX12_spend_108 : decode cX12_spend 108 = .ok (.aload_n 0, 1) := by decide +kernel
theorem dX12_spend_109 : decode cX12_spend 109 = .ok (.getfield 273, 3) := by decide +kernel
theorem dX12_spend_112 : decode cX12_spend 112 = .ok (.iload 5, 2) := by decide +kernel
theorem dX12_spend_114 : decode cX12_spend 114 = .ok (.baload, 1) := by decide +kernel
theorem dX12_spend_115 : decode cX12_spend 115 = .ok (.ifCond .ne 40, 3) := by decide +kernel
theorem dX12_spend_118 : decode cX12_spend 118 = .ok (.aload_n 0, 1) := by decide +kernel
theorem dX12_spend_119 : decode cX12_spend 119 = .ok (.getfield 267, 3) := by decide +kernel
theorem dX12_spend_122 : decode cX12_spend 122 = .ok (.iload 5, 2) := by decide +kernel
theorem dX12_spend_124 : decode cX12_spend 124 = .ok (.iaload, 1) := by decide +kernel
theorem dX12_spend_125 : decode cX12_spend 125 = .ok (.ifCond .lt 30, 3) := by decide +kernel
theorem dX12_spend_128 : decode cX12_spend 128 = .ok (.iload 4, 2) := by decide +kernel
theorem dX12_spend_130 : decode cX12_spend 130 = .ok (.iconst (-1), 1) := by decide +kernel
theorem dX12_spend_131 : decode cX12_spend 131 = .ok (.if_icmp .eq 20, 3) := by decide +kernel
theorem dX12_spend_134 : decode cX12_spend 134 = .ok (.aload_n 0, 1) := by decide +kernel
theorem dX12_spend_135 : decode cX12_spend 135 = .ok (.getfield 267, 3) := by decide +kernel
theorem dX12_spend_138 : decode cX12_spend 138 = .ok (.iload 5, 2) := by decide +kernel
theorem dX12_spend_140 : decode cX12_spend 140 = .ok (.iaload, 1) := by decide +kernel
theorem dX12_spend_141 : decode cX12_spend 141 = .ok (.aload_n 0, 1) := by decide +kernel
theorem dX12_spend_142 : decode cX12_spend 142 = .ok (.getfield 267, 3) := by decide +kernel
theorem dX12_spend_145 : decode cX12_spend 145 = .ok (.iload 4, 2) := by decide +kernel
theorem dX12_spend_147 : decode cX12_spend 147 = .ok (.iaload, 1) := by decide +kernel
theorem dX12_spend_148 : decode cX12_spend 148 = .ok (.if_icmp .ge 7, 3) := by decide +kernel
theorem dX12_spend_151 : decode cX12_spend 151 = .ok (.iload 5, 2) := by decide +kernel
theorem dX12_spend_153 : decode cX12_spend 153 = .ok (.istore 4, 2) := by decide +kernel
theorem dX12_spend_155 : decode cX12_spend 155 = .ok (.iinc 5 1, 3) := by decide +kernel
theorem dX12_spend_158 : decode cX12_spend 158 = .ok (.goto (-59), 3) := by decide +kernel
theorem dX12_spend_161 : decode cX12_spend 161 = .ok (.iload 4, 2) := by decide +kernel
theorem dX12_spend_163 : decode cX12_spend 163 = .ok (.iconst (-1), 1) := by decide +kernel
theorem dX12_spend_164 : decode cX12_spend 164 = .ok (.if_icmp .eq 23, 3) := by decide +kernel
theorem dX12_spend_167 : decode cX12_spend 167 = .ok (.aload_n 0, 1) := by decide +kernel
theorem dX12_spend_168 : decode cX12_spend 168 = .ok (.getfield 258, 3) := by decide +kernel
theorem dX12_spend_171 : decode cX12_spend 171 = .ok (.aload_n 0, 1) := by decide +kernel
theorem dX12_spend_172 : decode cX12_spend 172 = .ok (.getfield 267, 3) := by decide +kernel
theorem dX12_spend_175 : decode cX12_spend 175 = .ok (.iload 4, 2) := by decide +kernel
theorem dX12_spend_177 : decode cX12_spend 177 = .ok (.iaload, 1) := by decide +kernel
theorem dX12_spend_178 : decode cX12_spend 178 = .ok (.iadd, 1) := by decide +kernel
theorem dX12_spend_179 : decode cX12_spend 179 = .ok (.iload_n 1, 1) := by decide +kernel
theorem dX12_spend_180 : decode cX12_spend 180 = .ok (.if_icmp .gt 7, 3) := by decide +kernel
theorem dX12_spend_183 : decode cX12_spend 183 = .ok (.iconst 1, 1) := by decide +kernel
theorem dX12_spend_184 : decode cX12_spend 184 = .ok (.goto 4, 3) := by decide +kernel
theorem dX12_spend_187 : decode cX12_spend 187 = .ok (.iconst 0, 1) := by decide +kernel
theorem dX12_spend_188 : decode cX12_spend 188 = .ok (.istore_n 3, 1) := by decide +kernel
theorem dX12_spend_189 : decode cX12_spend 189 = .ok (.iload_n 3, 1) := by decide +kernel
theorem dX12_spend_190 : decode cX12_spend 190 = .ok (.ifCond .ne 6, 3) := by decide +kernel
theorem dX12_spend_193 : decode cX12_spend 193 = .ok (.goto (-104), 3) := by decide +kernel
theorem dX12_spend_196 : decode cX12_spend 196 = .ok (.aload_n 0, 1) := by decide +kernel
theorem dX12_spend_197 : decode cX12_spend 197 = .ok (.getfield 273, 3) := by decide +kernel
theorem dX12_spend_200 : decode cX12_spend 200 = .ok (.iload 4, 2) := by decide +kernel
theorem dX12_spend_202 : decode cX12_spend 202 = .ok (.iconst 1, 1) := by decide +kernel
theorem dX12_spend_203 : decode cX12_spend 203 = .ok (.bastore, 1) := by decide +kernel
theorem dX12_spend_204 : decode cX12_spend 204 = .ok (.aload_n 0, 1) := by decide +kernel
theorem dX12_spend_205 : decode cX12_spend 205 = .ok (.getfield 243, 3) := by decide +kernel
theorem dX12_spend_208 : decode cX12_spend 208 = .ok (.iload 4, 2) := by decide +kernel
theorem dX12_spend_210 : decode cX12_spend 210 = .ok (.dup2, 1) := by decide +kernel
theorem dX12_spend_211 : decode cX12_spend 211 = .ok (.iaload, 1) := by decide +kernel
theorem dX12_spend_212 : decode cX12_spend 212 = .ok (.aload_n 0, 1) := by decide +kernel
theorem dX12_spend_213 : decode cX12_spend 213 = .ok (.getfield 270, 3) := by decide +kernel
theorem dX12_spend_216 : decode cX12_spend 216 = .ok (.iload 4, 2) := by decide +kernel
theorem dX12_spend_218 : decode cX12_spend 218 = .ok (.iaload, 1) := by decide +kernel
theorem dX12_spend_219 : decode cX12_spend 219 = .ok (.ior, 1) := by decide +kernel
theorem dX12_spend_220 : decode cX12_spend 220 = .ok (.iastore, 1) := by decide +kernel
theorem dX12_spend_221 : decode cX12_spend 221 = .ok (.aload_n 0, 1) := by decide +kernel
theorem dX12_spend_222 : decode cX12_spend 222 = .ok (.dup, 1) := by decide +kernel
theorem dX12_spend_223 : decode cX12_spend 223 = .ok (.getfield 258, 3) := by decide +kernel
theorem dX12_spend_226 : decode cX12_spend 226 = .ok (.aload_n 0, 1) := by decide +kernel
theorem dX12_spend_227 : decode cX12_spend 227 = .ok (.getfield 267, 3) := by decide +kernel
theorem dX12_spend_230 : decode cX12_spend 230 = .ok (.iload 4, 2) := by decide +kernel
theorem dX12_spend_232 : decode cX12_spend 232 = .ok (.iaload, 1) := by decide +kernel
theorem dX12_spend_233 : decode cX12_spend 233 = .ok (.iadd, 1) := by decide +kernel
theorem dX12_spend_234 : decode cX12_spend 234 = .ok (.putfield 258, 3) := by decide +kernel
theorem dX12_spend_237 : decode cX12_spend 237 = .ok (.iinc 2 1, 3) := by decide +kernel
theorem dX12_spend_240 : decode cX12_spend 240 = .ok (.goto (-151), 3) := by decide +kernel
theorem dX12_spend_243 : decode cX12_spend 243 = .ok (.iload_n 2, 1) := by decide +kernel
theorem dX12_spend_244 : decode cX12_spend 244 = .ok (.ireturn, 1) := by decide +kernel
theorem dX12_spent_0 : decode cX12_spent 0 = .ok (.aload_n 0, 1) := by decide +kernel
theorem dX12_spent_1 : decode cX12_spent 1 = .ok (.getfield 219, 3) := by decide +kernel
theorem dX12_spent_4 : decode cX12_spent 4 = .ok (.ifCond .eq 17, 3) := by decide +kernel
theorem dX12_spent_7 : decode cX12_spent 7 = .ok (.aload_n 0, 1) := by decide +kernel
theorem dX12_spent_8 : decode cX12_spent 8 = .ok (.getfield 255, 3) := by decide +kernel
theorem dX12_spent_11 : decode cX12_spent 11 = .ok (.ifCond .eq 10, 3) := by decide +kernel
theorem dX12_spent_14 : decode cX12_spent 14 = .ok (.aload_n 0, 1) := by decide +kernel
theorem dX12_spent_15 : decode cX12_spent 15 = .ok (.getfield 258, 3) := by decide +kernel
theorem dX12_spent_18 : decode cX12_spent 18 = .ok (.goto 4, 3) := by decide +kernel
theorem dX12_spent_21 : decode cX12_spent 21 = .ok (.iconst (-1), 1) := by decide +kernel
theorem dX12_spent_22 : decode cX12_spent 22 = .ok (.ireturn, 1) := by decide +kernel
theorem dX12_right_0 : decode cX12_right 0 = .ok (.aload_n 0, 1) := by decide +kernel
theorem dX12_right_1 : decode cX12_right 1 = .ok (.getfield 219, 3) := by decide +kernel
theorem dX12_right_4 : decode cX12_right 4 = .ok (.ifCond .ne 5, 3) := by decide +kernel
theorem dX12_right_7 : decode cX12_right 7 = .ok (.iconst (-1), 1) := by decide +kernel
theorem dX12_right_8 : decode cX12_right 8 = .ok (.ireturn, 1) := by decide +kernel
theorem dX12_right_9 : decode cX12_right 9 = .ok (.iconst 0, 1) := by decide +kernel
theorem dX12_right_10 : decode cX12_right 10 = .ok (.istore_n 1, 1) := by decide +kernel
theorem dX12_right_11 : decode cX12_right 11 = .ok (.iconst 0, 1) := by decide +kernel
theorem dX12_right_12 : decode cX12_right 12 = .ok (.istore_n 2, 1) := by decide +kernel
theorem dX12_right_13 : decode cX12_right 13 = .ok (.iload_n 2, 1) := by decide +kernel
theorem dX12_right_14 : decode cX12_right 14 = .ok (.aload_n 0, 1) := by decide +kernel
theorem dX12_right_15 : decode cX12_right 15 = .ok (.getfield 222, 3) := by decide +kernel
theorem dX12_right_18 : decode cX12_right 18 = .ok (.if_icmp .ge 25, 3) := by decide +kernel
theorem dX12_right_21 : decode cX12_right 21 = .ok (.iload_n 1, 1) := by decide +kernel
theorem dX12_right_22 : decode cX12_right 22 = .ok (.aload_n 0, 1) := by decide +kernel
theorem dX12_right_23 : decode cX12_right 23 = .ok (.iload_n 2, 1) := by decide +kernel
theorem dX12_right_24 : decode cX12_right 24 = .ok (.invokevirtual 559, 3) := by decide +kernel
theorem dX12_right_27 : decode cX12_right 27 = .ok (.ifCond .eq 7, 3) := by decide +kernel
theorem dX12_right_30 : decode cX12_right 30 = .ok (.iconst 1, 1) := by decide +kernel
theorem dX12_right_31 : decode cX12_right 31 = .ok (.goto 4, 3) := by decide +kernel
theorem dX12_right_34 : decode cX12_right 34 = .ok (.iconst 0, 1) := by decide +kernel
theorem dX12_right_35 : decode cX12_right 35 = .ok (.iadd, 1) := by decide +kernel
theorem dX12_right_36 : decode cX12_right 36 = .ok (.istore_n 1, 1) := by decide +kernel
theorem dX12_right_37 : decode cX12_right 37 = .ok (.iinc 2 1, 3) := by decide +kernel
theorem dX12_right_40 : decode cX12_right 40 = .ok (.goto (-27), 3) := by decide +kernel
theorem dX12_right_43 : decode cX12_right 43 = .ok (.iload_n 1, 1) := by decide +kernel
theorem dX12_right_44 : decode cX12_right 44 = .ok (.ireturn, 1) := by decide +kernel
theorem dX12_walks_0 : decode cX12_walks 0 = .ok (.aload_n 0, 1) := by decide +kernel
theorem dX12_walks_1 : decode cX12_walks 1 = .ok (.getfield 219, 3) := by decide +kernel
theorem dX12_walks_4 : decode cX12_walks 4 = .ok (.ifCond .eq 13, 3) := by decide +kernel
theorem dX12_walks_7 : decode cX12_walks 7 = .ok (.iload_n 1, 1) := by decide +kernel
theorem dX12_walks_8 : decode cX12_walks 8 = .ok (.iconst 1, 1) := by decide +kernel
theorem dX12_walks_9 : decode cX12_walks 9 = .ok (.bipush 40, 2) := by decide +kernel
theorem dX12_walks_11 : decode cX12_walks 11 = .ok (.invokestatic 322, 3) := by decide +kernel
theorem dX12_walks_14 : decode cX12_walks 14 = .ok (.ifCond .ne 5, 3) := by decide +kernel
theorem dX12_walks_17 : decode cX12_walks 17 = .ok (.iconst (-1), 1) := by decide +kernel
theorem dX12_walks_18 : decode cX12_walks 18 = .ok (.ireturn, 1) := by decide +kernel
theorem dX12_walks_19 : decode cX12_walks 19 = .ok (.aload_n 0, 1) := by decide +kernel
theorem dX12_walks_20 : decode cX12_walks 20 = .ok (.invokevirtual 572, 3) := by decide +kernel
theorem dX12_walks_23 : decode cX12_walks 23 = .ok (.iconst 0, 1) := by decide +kernel
theorem dX12_walks_24 : decode cX12_walks 24 = .ok (.istore_n 2, 1) := by decide +kernel
theorem dX12_walks_25 : decode cX12_walks 25 = .ok (.iconst 0, 1) := by decide +kernel
theorem dX12_walks_26 : decode cX12_walks 26 = .ok (.istore_n 3, 1) := by decide +kernel
theorem dX12_walks_27 : decode cX12_walks 27 = .ok (.iload_n 3, 1) := by decide +kernel
theorem dX12_walks_28 : decode cX12_walks 28 = .ok (.aload_n 0, 1) := by decide +kernel
theorem dX12_walks_29 : decode cX12_walks 29 = .ok (.getfield 279, 3) := by decide +kernel
theorem dX12_walks_32 : decode cX12_walks 32 = .ok (.if_icmp .ge 25, 3) := by decide +kernel
theorem dX12_walks_35 : decode cX12_walks 35 = .ok (.iload_n 2, 1) := by decide +kernel
theorem dX12_walks_36 : decode cX12_walks 36 = .ok (.iconst 2, 1) := by decide +kernel
theorem dX12_walks_37 : decode cX12_walks 37 = .ok (.aload_n 0, 1) := by decide +kernel
theorem dX12_walks_38 : decode cX12_walks 38 = .ok (.aload_n 0, 1) := by decide +kernel
theorem dX12_walks_39 : decode cX12_walks 39 = .ok (.getfield 276, 3) := by decide +kernel
theorem dX12_walks_42 : decode cX12_walks 42 = .ok (.iload_n 3, 1) := by decide +kernel
theorem dX12_walks_43 : decode cX12_walks 43 = .ok (.iaload, 1) := by decide +kernel
theorem dX12_walks_44 : decode cX12_walks 44 = .ok (.invokevirtual 569, 3) := by decide +kernel
theorem dX12_walks_47 : decode cX12_walks 47 = .ok (.imul, 1) := by decide +kernel
theorem dX12_walks_48 : decode cX12_walks 48 = .ok (.iadd, 1) := by decide +kernel
theorem dX12_walks_49 : decode cX12_walks 49 = .ok (.istore_n 2, 1) := by decide +kernel
theorem dX12_walks_50 : decode cX12_walks 50 = .ok (.iload_n 3, 1) := by decide +kernel
theorem dX12_walks_51 : decode cX12_walks 51 = .ok (.iload_n 1, 1) := by decide +kernel
theorem dX12_walks_52 : decode cX12_walks 52 = .ok (.iadd, 1) := by decide +kernel
theorem dX12_walks_53 : decode cX12_walks 53 = .ok (.istore_n 3, 1) := by decide +kernel
theorem dX12_walks_54 : decode cX12_walks 54 = .ok (.goto (-27), 3) := by decide +kernel
theorem dX12_walks_57 : decode cX12_walks 57 = .ok (.iload_n 2, 1) := by decide +kernel
theorem dX12_walks_58 : decode cX12_walks 58 = .ok (.ireturn, 1) := by decide +kernel
theorem dX12_bag_0 : decode cX12_bag 0 = .ok (.aload_n 0, 1) := by decide +kernel
theorem dX12_bag_1 : decode cX12_bag 1 = .ok (.getfield 219, 3) := by decide +kernel
theorem dX12_bag_4 : decode cX12_bag 4 = .ok (.ifCond .ne 5, 3) := by decide +kernel
theorem dX12_bag_7 : decode cX12_bag 7 = .ok (.iconst (-1), 1) := by decide +kernel
theorem dX12_bag_8 : decode cX12_bag 8 = .ok (.ireturn, 1) := by decide +kernel
theorem dX12_bag_9 : decode cX12_bag 9 = .ok (.aload_n 0, 1) := by decide +kernel
theorem dX12_bag_10 : decode cX12_bag 10 = .ok (.invokevirtual 572, 3) := by decide +kernel
theorem dX12_bag_13 : decode cX12_bag 13 = .ok (.iload_n 1, 1) := by decide +kernel
theorem dX12_bag_14 : decode cX12_bag 14 = .ok (.ifCond .lt 11, 3) := by decide +kernel
theorem dX12_bag_17 : decode cX12_bag 17 = .ok (.iload_n 1, 1) := by decide +kernel
theorem dX12_bag_18 : decode cX12_bag 18 = .ok (.aload_n 0, 1) := by decide +kernel
theorem dX12_bag_19 : decode cX12_bag 19 = .ok (.getfield 279, 3) := by decide +kernel
theorem dX12_bag_22 : decode cX12_bag 22 = .ok (.if_icmp .lt 7, 3) := by decide +kernel
theorem dX12_bag_25 : decode cX12_bag 25 = .ok (.iconst (-1), 1) := by decide +kernel
theorem dX12_bag_26 : decode cX12_bag 26 = .ok (.goto 9, 3) := by decide +kernel
theorem dX12_bag_29 : decode cX12_bag 29 = .ok (.aload_n 0, 1) := by decide +kernel
theorem dX12_bag_30 : decode cX12_bag 30 = .ok (.getfield 276, 3) := by decide +kernel
theorem dX12_bag_33 : decode cX12_bag 33 = .ok (.iload_n 1, 1) := by decide +kernel
theorem dX12_bag_34 : decode cX12_bag 34 = .ok (.iaload, 1) := by decide +kernel
theorem dX12_bag_35 : decode cX12_bag 35 = .ok (.ireturn, 1) := by decide +kernel
theorem dX12_queue_0 : decode cX12_queue 0 = .ok (.aload_n 0, 1) := by decide +kernel
theorem dX12_queue_1 : decode cX12_queue 1 = .ok (.getfield 219, 3) := by decide +kernel
theorem dX12_queue_4 : decode cX12_queue 4 = .ok (.ifCond .eq 32, 3) := by decide +kernel
theorem dX12_queue_7 : decode cX12_queue 7 = .ok (.iload_n 1, 1) := by decide +kernel
theorem dX12_queue_8 : decode cX12_queue 8 = .ok (.iconst 1, 1) := by decide +kernel
theorem dX12_queue_9 : decode cX12_queue 9 = .ok (.bipush 24, 2) := by decide +kernel
theorem dX12_queue_11 : decode cX12_queue 11 = .ok (.invokestatic 322, 3) := by decide +kernel
theorem dX12_queue_14 : decode cX12_queue 14 = .ok (.ifCond .eq 22, 3) := by decide +kernel
theorem dX12_queue_17 : decode cX12_queue 17 = .ok (.iload_n 2, 1) := by decide +kernel
theorem dX12_queue_18 : decode cX12_queue 18 = .ok (.iconst 1, 1) := by decide +kernel
theorem dX12_queue_19 : decode cX12_queue 19 = .ok (.bipush 9, 2) := by decide +kernel
theorem dX12_queue_21 : decode cX12_queue 21 = .ok (.invokestatic 322, 3) := by decide +kernel
theorem dX12_queue_24 : decode cX12_queue 24 = .ok (.ifCond .eq 12, 3) := by decide +kernel
theorem dX12_queue_27 : decode cX12_queue 27 = .ok (.iload_n 3, 1) := by decide +kernel
theorem dX12_queue_28 : decode cX12_queue 28 = .ok (.iconst 0, 1) := by decide +kernel
theorem dX12_queue_29 : decode cX12_queue 29 = .ok (.iconst 2, 1) := by decide +kernel
theorem dX12_queue_30 : decode cX12_queue 30 = .ok (.invokestatic 322, 3) := by decide +kernel
theorem dX12_queue_33 : decode cX12_queue 33 = .ok (.ifCond .ne 5, 3) := by decide +kernel
theorem dX12_queue_36 : decode cX12_queue 36 = .ok (.iconst (-1), 1) := by decide +kernel
theorem dX12_queue_37 : decode cX12_queue 37 = .ok (.ireturn, 1) := by decide +kernel
theorem dX12_queue_38 : decode cX12_queue 38 = .ok (.iconst 0, 1) := by decide +kernel
theorem dX12_queue_39 : decode cX12_queue 39 = .ok (.istore 4, 2) := by decide +kernel
theorem dX12_queue_41 : decode cX12_queue 41 = .ok (.iconst 0, 1) := by decide +kernel
theorem dX12_queue_42 : decode cX12_queue 42 = .ok (.istore 5, 2) := by decide +kernel
theorem dX12_queue_44 : decode cX12_queue 44 = .ok (.iload 5, 2) := by decide +kernel
theorem dX12_queue_46 : decode cX12_queue 46 = .ok (.aload_n 0, 1) := by decide +kernel
theorem dX12_queue_47 : decode cX12_queue 47 = .ok (.getfield 222, 3) := by decide +kernel
theorem dX12_queue_50 : decode cX12_queue 50 = .ok (.if_icmp .ge 112, 3) := by decide +kernel
theorem dX12_queue_53 : decode cX12_queue 53 = .ok (.aload_n 0, 1) := by decide +kernel
theorem dX12_queue_54 : decode cX12_queue 54 = .ok (.iload 5, 2) := by decide +kernel
theorem dX12_queue_56 : decode cX12_queue 56 = .ok (.iload_n 1, 1) := by decide +kernel
theorem dX12_queue_57 : decode cX12_queue 57 = .ok (.invokevirtual 575, 3) := by decide +kernel
theorem dX12_queue_60 : decode cX12_queue 60 = .ok (.istore 6, 2) := by decide +kernel
theorem dX12_queue_62 : decode cX12_queue 62 = .ok (.iload 6, 2) := by decide +kernel
theorem dX12_queue_64 : decode cX12_queue 64 = .ok (.ifCond .ne 6, 3) := by decide +kernel
theorem dX12_queue_67 : decode cX12_queue 67 = .ok (.goto 89, 3) := by decide +kernel
theorem dX12_queue_70 : decode cX12_queue 70 = .ok (.iload 4, 2) := by decide +kernel
theorem dX12_queue_72 : decode cX12_queue 72 = .ok (.istore 7, 2) := by decide +kernel
theorem dX12_queue_74 : decode cX12_queue 74 = .ok (.iload 7, 2) := by decide +kernel
theorem dX12_queue_76 : decode cX12_queue 76 = .ok (.ifCond .le 57, 3) := by decide +kernel
theorem dX12_queue_79 : decode cX12_queue 79 = .ok (.aload_n 0, 1) := by decide +kernel
theorem dX12_queue_80 : decode cX12_queue 80 = .ok (.getfield 285, 3) := by decide +kernel
theorem dX12_queue_83 : decode cX12_queue 83 = .ok (.iload 7, 2) := by decide +kernel
theorem dX12_queue_85 : decode cX12_queue 85 = .ok (.iconst 1, 1) := by decide +kernel
theorem dX12_queue_86 : decode cX12_queue 86 = .ok (.isub, 1) := by decide +kernel
theorem dX12_queue_87 : decode cX12_queue 87 = .ok (.iaload, 1) := by decide +kernel
theorem dX12_queue_88 : decode cX12_queue 88 = .ok (.iload 6, 2) := by decide +kernel
theorem dX12_queue_90 : decode cX12_queue 90 = .ok (.iconst 2, 1) := by decide +kernel
theorem dX12_queue_91 : decode cX12_queue 91 = .ok (.iadd, 1) := by decide +kernel
theorem dX12_queue_92 : decode cX12_queue 92 = .ok (.if_icmp .le 41, 3) := by decide +kernel
theorem dX12_queue_95 : decode cX12_queue 95 = .ok (.aload_n 0, 1) := by decide +kernel
theorem dX12_queue_96 : decode cX12_queue 96 = .ok (.getfield 285, 3) := by decide +kernel
theorem dX12_queue_99 : decode cX12_queue 99 = .ok (.iload 7, 2) := by decide +kernel
theorem dX12_queue_101 : decode cX12_queue 101 = .ok (.aload_n 0, 1) := by decide +kernel
theorem dX12_queue_102 : decode cX12_queue 102 = .ok (.getfield 285, 3) := by decide +kernel
theorem dX12_queue_105 : decode cX12_queue 105 = .ok (.iload 7, 2) := by decide +kernel
theorem dX12_queue_107 : decode cX12_queue 107 = .ok (.iconst 1, 1) := by decide +kernel
theorem dX12_queue_108 : decode cX12_queue 108 = .ok (.isub, 1) := by decide +kernel
theorem dX12_queue_109 : decode cX12_queue 109 = .ok (.iaload, 1) := by decide +kernel
theorem dX12_queue_110 : decode cX12_queue 110 = .ok (.iastore, 1) := by decide +kernel
theorem dX12_queue_111 : decode cX12_queue 111 = .ok (.aload_n 0, 1) := by decide +kernel
theorem dX12_queue_112 : decode cX12_queue 112 = .ok (.getfield 282, 3) := by decide +kernel
theorem dX12_queue_115 : decode cX12_queue 115 = .ok (.iload 7, 2) := by decide +kernel
theorem dX12_queue_117 : decode cX12_queue 117 = .ok (.aload_n 0, 1) := by decide +kernel
theorem dX12_queue_118 : decode cX12_queue 118 = .ok (.getfield 282, 3) := by decide +kernel
theorem dX12_queue_121 : decode cX12_queue 121 = .ok (.iload 7, 2) := by decide +kernel
theorem dX12_queue_123 : decode cX12_queue 123 = .ok (.iconst 1, 1) := by decide +kernel
theorem dX12_queue_124 : decode cX12_queue 124 = .ok (.isub, 1) := by decide +kernel
theorem dX12_queue_125 : decode cX12_queue 125 = .ok (.iaload, 1) := by decide +kernel
theorem dX12_queue_126 : decode cX12_queue 126 = .ok (.iastore, 1) := by decide +kernel
theorem dX12_queue_127 : decode cX12_queue 127 = .ok (.iinc 7 (-1), 3) := by decide +kernel
theorem dX12_queue_130 : decode cX12_queue 130 = .ok (.goto (-56), 3) := by decide +kernel
theorem dX12_queue_133 : decode cX12_queue 133 = .ok (.aload_n 0, 1) := by decide +kernel
theorem dX12_queue_134 : decode cX12_queue 134 = .ok (.getfield 285, 3) := by decide +kernel
theorem dX12_queue_137 : decode cX12_queue 137 = .ok (.iload 7, 2) := by decide +kernel
theorem dX12_queue_139 : decode cX12_queue 139 = .ok (.iload 6, 2) := by decide +kernel
theorem dX12_queue_141 : decode cX12_queue 141 = .ok (.iconst 2, 1) := by decide +kernel
theorem dX12_queue_142 : decode cX12_queue 142 = .ok (.iadd, 1) := by decide +kernel
theorem dX12_queue_143 : decode cX12_queue 143 = .ok (.iastore, 1) := by decide +kernel
theorem dX12_queue_144 : decode cX12_queue 144 = .ok (.aload_n 0, 1) := by decide +kernel
theorem dX12_queue_145 : decode cX12_queue 145 = .ok (.getfield 282, 3) := by decide +kernel
theorem dX12_queue_148 : decode cX12_queue 148 = .ok (.iload 7, 2) := by decide +kernel
theorem dX12_queue_150 : decode cX12_queue 150 = .ok (.iload 5, 2) := by decide +kernel
theorem dX12_queue_152 : decode cX12_queue 152 = .ok (.iastore, 1) := by decide +kernel
theorem dX12_queue_153 : decode cX12_queue 153 = .ok (.iinc 4 1, 3) := by decide +kernel
theorem dX12_queue_156 : decode cX12_queue 156 = .ok (.iinc 5 1, 3) := by decide +kernel
theorem dX12_queue_159 : decode cX12_queue 159 = .ok (.goto (-115), 3) := by decide +kernel
theorem dX12_queue_162 : decode cX12_queue 162 = .ok (.iconst 0, 1) := by decide +kernel
theorem dX12_queue_163 : decode cX12_queue 163 = .ok (.istore 5, 2) := by decide +kernel
theorem dX12_queue_165 : decode cX12_queue 165 = .ok (.iload 5, 2) := by decide +kernel
theorem dX12_queue_167 : decode cX12_queue 167 = .ok (.bipush 9, 2) := by decide +kernel
theorem dX12_queue_169 : decode cX12_queue 169 = .ok (.if_icmp .ge 17, 3) := by decide +kernel
theorem dX12_queue_172 : decode cX12_queue 172 = .ok (.aload_n 0, 1) := by decide +kernel
theorem dX12_queue_173 : decode cX12_queue 173 = .ok (.getfield 288, 3) := by decide +kernel
theorem dX12_queue_176 : decode cX12_queue 176 = .ok (.iload 5, 2) := by decide +kernel
theorem dX12_queue_178 : decode cX12_queue 178 = .ok (.iconst 0, 1) := by decide +kernel
theorem dX12_queue_179 : decode cX12_queue 179 = .ok (.iastore, 1) := by decide +kernel
theorem dX12_queue_180 : decode cX12_queue 180 = .ok (.iinc 5 1, 3) := by decide +kernel
theorem dX12_queue_183 : decode cX12_queue 183 = .ok (.goto (-18), 3) := by decide +kernel
theorem dX12_queue_186 : decode cX12_queue 186 = .ok (.iconst 0, 1) := by decide +kernel
theorem dX12_queue_187 : decode cX12_queue 187 = .ok (.istore 5, 2) := by decide +kernel
theorem dX12_queue_189 : decode cX12_queue 189 = .ok (.iconst 0, 1) := by decide +kernel
theorem dX12_queue_190 : decode cX12_queue 190 = .ok (.istore 6, 2) := by decide +kernel
theorem dX12_queue_192 : decode cX12_queue 192 = .ok (.iconst 0, 1) := by decide +kernel
theorem dX12_queue_193 : decode cX12_queue 193 = .ok (.istore 7, 2) := by decide +kernel
theorem dX12_queue_195 : decode cX12_queue 195 = .ok (.iload 7, 2) := by decide +kernel
theorem dX12_queue_197 : decode cX12_queue 197 = .ok (.iload 4, 2) := by decide +kernel
theorem dX12_queue_199 : decode cX12_queue 199 = .ok (.if_icmp .ge 108, 3) := by decide +kernel
theorem dX12_queue_202 : decode cX12_queue 202 = .ok (.iconst 0, 1) := by decide +kernel
theorem dX12_queue_203 : decode cX12_queue 203 = .ok (.istore 8, 2) := by decide +kernel
theorem dX12_queue_205 : decode cX12_queue 205 = .ok (.iconst 1, 1) := by decide +kernel
theorem dX12_queue_206 : decode cX12_queue 206 = .ok (.istore 9, 2) := by decide +kernel
theorem dX12_queue_208 : decode cX12_queue 208 = .ok (.iload 9, 2) := by decide +kernel
theorem dX12_queue_210 : decode cX12_queue 210 = .ok (.iload_n 2, 1) := by decide +kernel
theorem dX12_queue_211 : decode cX12_queue 211 = .ok (.if_icmp .ge 35, 3) := by decide +kernel
theorem dX12_queue_214 : decode cX12_queue 214 = .ok (.aload_n 0, 1) := by decide +kernel
theorem dX12_queue_215 : decode cX12_queue 215 = .ok (.getfield 288, 3) := by decide +kernel
theorem dX12_queue_218 : decode cX12_queue 218 = .ok (.iload 9, 2) := by decide +kernel
theorem dX12_queue_220 : decode cX12_queue 220 = .ok (.iaload, 1) := by decide +kernel
theorem dX12_queue_221 : decode cX12_queue 221 = .ok (.aload_n 0, 1) := by decide +kernel
theorem dX12_queue_222 : decode cX12_queue 222 = .ok (.getfield 288, 3) := by decide +kernel
theorem dX12_queue_225 : decode cX12_queue 225 = .ok (.iload 8, 2) := by decide +kernel
theorem dX12_queue_227 : decode cX12_queue 227 = .ok (.iaload, 1) := by decide +kernel
theorem dX12_queue_228 : decode cX12_queue 228 = .ok (.if_icmp .ge 8, 3) := by decide +kernel
theorem dX12_queue_231 : decode cX12_queue 231 = .ok (.iload 9, 2) := by decide +kernel
theorem dX12_queue_233 : decode cX12_queue 233 = .ok (.goto 5, 3) := by decide +kernel
theorem dX12_queue_236 : decode cX12_queue 236 = .ok (.iload 8, 2) := by decide +kernel
theorem dX12_queue_238 : decode cX12_queue 238 = .ok (.istore 8, 2) := by decide +kernel
theorem dX12_queue_240 : decode cX12_queue 240 = .ok (.iinc 9 1, 3) := by decide +kernel
theorem dX12_queue_243 : decode cX12_queue 243 = .ok (.goto (-35), 3) := by decide +kernel
theorem dX12_queue_246 : decode cX12_queue 246 = .ok (.iload 5, 2) := by decide +kernel
theorem dX12_queue_248 : decode cX12_queue 248 = .ok (.aload_n 0, 1) := by decide +kernel
theorem dX12_queue_249 : decode cX12_queue 249 = .ok (.getfield 288, 3) := by decide +kernel
theorem dX12_queue_252 : decode cX12_queue 252 = .ok (.iload 8, 2) := by decide +kernel
theorem dX12_queue_254 : decode cX12_queue 254 = .ok (.iaload, 1) := by decide +kernel
theorem dX12_queue_255 : decode cX12_queue 255 = .ok (.iadd, 1) := by decide +kernel
theorem dX12_queue_256 : decode cX12_queue 256 = .ok (.istore 5, 2) := by decide +kernel
theorem dX12_queue_258 : decode cX12_queue 258 = .ok (.aload_n 0, 1) := by decide +kernel
theorem dX12_queue_259 : decode cX12_queue 259 = .ok (.getfield 288, 3) := by decide +kernel
theorem dX12_queue_262 : decode cX12_queue 262 = .ok (.iload 8, 2) := by decide +kernel
theorem dX12_queue_264 : decode cX12_queue 264 = .ok (.dup2, 1) := by decide +kernel
theorem dX12_queue_265 : decode cX12_queue 265 = .ok (.iaload, 1) := by decide +kernel
theorem dX12_queue_266 : decode cX12_queue 266 = .ok (.aload_n 0, 1) := by decide +kernel
theorem dX12_queue_267 : decode cX12_queue 267 = .ok (.getfield 285, 3) := by decide +kernel
theorem dX12_queue_270 : decode cX12_queue 270 = .ok (.iload 7, 2) := by decide +kernel
theorem dX12_queue_272 : decode cX12_queue 272 = .ok (.iaload, 1) := by decide +kernel
theorem dX12_queue_273 : decode cX12_queue 273 = .ok (.iadd, 1) := by decide +kernel
theorem dX12_queue_274 : decode cX12_queue 274 = .ok (.iastore, 1) := by decide +kernel
theorem dX12_queue_275 : decode cX12_queue 275 = .ok (.aload_n 0, 1) := by decide +kernel
theorem dX12_queue_276 : decode cX12_queue 276 = .ok (.getfield 288, 3) := by decide +kernel
theorem dX12_queue_279 : decode cX12_queue 279 = .ok (.iload 8, 2) := by decide +kernel
theorem dX12_queue_281 : decode cX12_queue 281 = .ok (.iaload, 1) := by decide +kernel
theorem dX12_queue_282 : decode cX12_queue 282 = .ok (.iload 6, 2) := by decide +kernel
theorem dX12_queue_284 : decode cX12_queue 284 = .ok (.if_icmp .le 13, 3) := by decide +kernel
theorem dX12_queue_287 : decode cX12_queue 287 = .ok (.aload_n 0, 1) := by decide +kernel
theorem dX12_queue_288 : decode cX12_queue 288 = .ok (.getfield 288, 3) := by decide +kernel
theorem dX12_queue_291 : decode cX12_queue 291 = .ok (.iload 8, 2) := by decide +kernel
theorem dX12_queue_293 : decode cX12_queue 293 = .ok (.iaload, 1) := by decide +kernel
theorem dX12_queue_294 : decode cX12_queue 294 = .ok (.goto 5, 3) := by decide +kernel
theorem dX12_queue_297 : decode cX12_queue 297 = .ok (.iload 6, 2) := by decide +kernel
theorem dX12_queue_299 : decode cX12_queue 299 = .ok (.istore 6, 2) := by decide +kernel
theorem dX12_queue_301 : decode cX12_queue 301 = .ok (.iinc 7 1, 3) := by decide +kernel
theorem dX12_queue_304 : decode cX12_queue 304 = .ok (.goto (-109), 3) := by decide +kernel
theorem dX12_queue_307 : decode cX12_queue 307 = .ok (.iload_n 3, 1) := by decide +kernel
theorem dX12_queue_308 : decode cX12_queue 308 = .ok (.ifCond .ne 8, 3) := by decide +kernel
theorem dX12_queue_311 : decode cX12_queue 311 = .ok (.iload 4, 2) := by decide +kernel
theorem dX12_queue_313 : decode cX12_queue 313 = .ok (.goto 15, 3) := by decide +kernel
theorem dX12_queue_316 : decode cX12_queue 316 = .ok (.iload_n 3, 1) := by decide +kernel
theorem dX12_queue_317 : decode cX12_queue 317 = .ok (.iconst 1, 1) := by decide +kernel
theorem dX12_queue_318 : decode cX12_queue 318 = .ok (.if_icmp .ne 8, 3) := by decide +kernel
theorem dX12_queue_321 : decode cX12_queue 321 = .ok (.iload 5, 2) := by decide +kernel
theorem dX12_queue_323 : decode cX12_queue 323 = .ok (.goto 5, 3) := by decide +kernel
theorem dX12_queue_326 : decode cX12_queue 326 = .ok (.iload 6, 2) := by decide +kernel
theorem dX12_queue_328 : decode cX12_queue 328 = .ok (.ireturn, 1) := by decide +kernel
theorem dX12_label_0 : decode cX12_label 0 = .ok (.aload_n 0, 1) := by decide +kernel
theorem dX12_label_1 : decode cX12_label 1 = .ok (.iload_n 1, 1) := by decide +kernel
theorem dX12_label_2 : decode cX12_label 2 = .ok (.invokevirtual 547, 3) := by decide +kernel
theorem dX12_label_5 : decode cX12_label 5 = .ok (.ifCond .eq 12, 3) := by decide +kernel
theorem dX12_label_8 : decode cX12_label 8 = .ok (.aload_n 0, 1) := by decide +kernel
theorem dX12_label_9 : decode cX12_label 9 = .ok (.getfield 243, 3) := by decide +kernel
theorem dX12_label_12 : decode cX12_label 12 = .ok (.iload_n 1, 1) := by decide +kernel
theorem dX12_label_13 : decode cX12_label 13 = .ok (.iaload, 1) := by decide +kernel
theorem dX12_label_14 : decode cX12_label 14 = .ok (.ifCond .ne 5, 3) := by decide +kernel
theorem dX12_label_17 : decode cX12_label 17 = .ok (.iconst (-1), 1) := by decide +kernel
theorem dX12_label_18 : decode cX12_label 18 = .ok (.ireturn, 1) := by decide +kernel
theorem dX12_label_19 : decode cX12_label 19 = .ok (.aload_n 0, 1) := by decide +kernel
theorem dX12_label_20 : decode cX12_label 20 = .ok (.iconst 0, 1) := by decide +kernel
theorem dX12_label_21 : decode cX12_label 21 = .ok (.putfield 294, 3) := by decide +kernel
theorem dX12_label_24 : decode cX12_label 24 = .ok (.iconst 0, 1) := by decide +kernel
theorem dX12_label_25 : decode cX12_label 25 = .ok (.istore_n 2, 1) := by decide +kernel
theorem dX12_label_26 : decode cX12_label 26 = .ok (.iload_n 2, 1) := by decide +kernel
theorem dX12_label_27 : decode cX12_label 27 = .ok (.aload_n 0, 1) := by decide +kernel
theorem dX12_label_28 : decode cX12_label 28 = .ok (.getfield 54, 3) := by decide +kernel
theorem dX12_label_31 : decode cX12_label 31 = .ok (.aload_n 0, 1) := by decide +kernel
theorem dX12_label_32 : decode cX12_label 32 = .ok (.getfield 48, 3) := by decide +kernel
theorem dX12_label_35 : decode cX12_label 35 = .ok (.iaload, 1) := by decide +kernel
theorem dX12_label_36 : decode cX12_label 36 = .ok (.if_icmp .ge 88, 3) := by decide +kernel
theorem dX12_label_39 : decode cX12_label 39 = .ok (.aload_n 0, 1) := by decide +kernel
theorem dX12_label_40 : decode cX12_label 40 = .ok (.getfield 243, 3) := by decide +kernel
theorem dX12_label_43 : decode cX12_label 43 = .ok (.iload_n 1, 1) := by decide +kernel
theorem dX12_label_44 : decode cX12_label 44 = .ok (.iaload, 1) := by decide +kernel
theorem dX12_label_45 : decode cX12_label 45 = .ok (.iload_n 2, 1) := by decide +kernel
theorem dX12_label_46 : decode cX12_label 46 = .ok (.ishr, 1) := by decide +kernel
theorem dX12_label_47 : decode cX12_label 47 = .ok (.iconst 1, 1) := by decide +kernel
theorem dX12_label_48 : decode cX12_label 48 = .ok (.iand, 1) := by decide +kernel
theorem dX12_label_49 : decode cX12_label 49 = .ok (.ifCond .ne 6, 3) := by decide +kernel
theorem dX12_label_52 : decode cX12_label 52 = .ok (.goto 66, 3) := by decide +kernel
theorem dX12_label_55 : decode cX12_label 55 = .ok (.aload_n 0, 1) := by decide +kernel
theorem dX12_label_56 : decode cX12_label 56 = .ok (.getfield 294, 3) := by decide +kernel
theorem dX12_label_59 : decode cX12_label 59 = .ok (.ifCond .le 15, 3) := by decide +kernel
theorem dX12_label_62 : decode cX12_label 62 = .ok (.aload_n 0, 1) := by decide +kernel
theorem dX12_label_63 : decode cX12_label 63 = .ok (.bipush 44, 2) := by decide +kernel
theorem dX12_label_65 : decode cX12_label 65 = .ok (.invokevirtual 578, 3) := by decide +kernel
theorem dX12_label_68 : decode cX12_label 68 = .ok (.aload_n 0, 1) := by decide +kernel
theorem dX12_label_69 : decode cX12_label 69 = .ok (.bipush 32, 2) := by decide +kernel
theorem dX12_label_71 : decode cX12_label 71 = .ok (.invokevirtual 578, 3) := by decide +kernel
theorem dX12_label_74 : decode cX12_label 74 = .ok (.aload_n 0, 1) := by decide +kernel
theorem dX12_label_75 : decode cX12_label 75 = .ok (.getfield 66, 3) := by decide +kernel
theorem dX12_label_78 : decode cX12_label 78 = .ok (.bipush 10, 2) := by decide +kernel
theorem dX12_label_80 : decode cX12_label 80 = .ok (.aload_n 0, 1) := by decide +kernel
theorem dX12_label_81 : decode cX12_label 81 = .ok (.getfield 48, 3) := by decide +kernel
theorem dX12_label_84 : decode cX12_label 84 = .ok (.imul, 1) := by decide +kernel
theorem dX12_label_85 : decode cX12_label 85 = .ok (.iload_n 2, 1) := by decide +kernel
theorem dX12_label_86 : decode cX12_label 86 = .ok (.iadd, 1) := by decide +kernel
theorem dX12_label_87 : decode cX12_label 87 = .ok (.laload, 1) := by decide +kernel
theorem dX12_label_88 : decode cX12_label 88 = .ok (.lstore_n 3, 1) := by decide +kernel
theorem dX12_label_89 : decode cX12_label 89 = .ok (.iconst 0, 1) := by decide +kernel
theorem dX12_label_90 : decode cX12_label 90 = .ok (.istore 5, 2) := by decide +kernel
theorem dX12_label_92 : decode cX12_label 92 = .ok (.lload_n 3, 1) := by decide +kernel
theorem dX12_label_93 : decode cX12_label 93 = .ok (.iload 5, 2) := by decide +kernel
theorem dX12_label_95 : decode cX12_label 95 = .ok (.invokestatic 447, 3) := by decide +kernel
theorem dX12_label_98 : decode cX12_label 98 = .ok (.iconst (-1), 1) := by decide +kernel
theorem dX12_label_99 : decode cX12_label 99 = .ok (.if_icmp .eq 19, 3) := by decide +kernel
theorem dX12_label_102 : decode cX12_label 102 = .ok (.aload_n 0, 1) := by decide +kernel
theorem dX12_label_103 : decode cX12_label 103 = .ok (.lload_n 3, 1) := by decide +kernel
theorem dX12_label_104 : decode cX12_label 104 = .ok (.iload 5, 2) := by decide +kernel
theorem dX12_label_106 : decode cX12_label 106 = .ok (.invokestatic 447, 3) := by decide +kernel
theorem dX12_label_109 : decode cX12_label 109 = .ok (.invokevirtual 578, 3) := by decide +kernel
theorem dX12_label_112 : decode cX12_label 112 = .ok (.iinc 5 1, 3) := by decide +kernel
theorem dX12_label_115 : decode cX12_label 115 = .ok (.goto (-23), 3) := by decide +kernel
theorem dX12_label_118 : decode cX12_label 118 = .ok (.iinc 2 1, 3) := by decide +kernel
theorem dX12_label_121 : decode cX12_label 121 = .ok (.goto (-95), 3) := by decide +kernel
theorem dX12_label_124 : decode cX12_label 124 = .ok (.aload_n 0, 1) := by decide +kernel
theorem dX12_label_125 : decode cX12_label 125 = .ok (.bipush 46, 2) := by decide +kernel
theorem dX12_label_127 : decode cX12_label 127 = .ok (.invokevirtual 578, 3) := by decide +kernel
theorem dX12_label_130 : decode cX12_label 130 = .ok (.aload_n 0, 1) := by decide +kernel
theorem dX12_label_131 : decode cX12_label 131 = .ok (.getfield 294, 3) := by decide +kernel
theorem dX12_label_134 : decode cX12_label 134 = .ok (.ireturn, 1) := by decide +kernel
theorem dX12_at_0 : decode cX12_at 0 = .ok (.iload_n 1, 1) := by decide +kernel
theorem dX12_at_1 : decode cX12_at 1 = .ok (.ifCond .lt 11, 3) := by decide +kernel
theorem dX12_at_4 : decode cX12_at 4 = .ok (.iload_n 1, 1) := by decide +kernel
theorem dX12_at_5 : decode cX12_at 5 = .ok (.aload_n 0, 1) := by decide +kernel
theorem dX12_at_6 : decode cX12_at 6 = .ok (.getfield 294, 3) := by decide +kernel
theorem dX12_at_9 : decode cX12_at 9 = .ok (.if_icmp .lt 7, 3) := by decide +kernel
theorem dX12_at_12 : decode cX12_at 12 = .ok (.iconst (-1), 1) := by decide +kernel
theorem dX12_at_13 : decode cX12_at 13 = .ok (.goto 9, 3) := by decide +kernel
theorem dX12_at_16 : decode cX12_at 16 = .ok (.aload_n 0, 1) := by decide +kernel
theorem dX12_at_17 : decode cX12_at 17 = .ok (.getfield 291, 3) := by decide +kernel
theorem dX12_at_20 : decode cX12_at 20 = .ok (.iload_n 1, 1) := by decide +kernel
theorem dX12_at_21 : decode cX12_at 21 = .ok (.iaload, 1) := by decide +kernel
theorem dX12_at_22 : decode cX12_at 22 = .ok (.ireturn, 1) := by decide +kernel
theorem dJ7_fill_53178_0 : decode cJ7_fill_53178 0 = .ok (.iconst 0, 1) := by decide +kernel
theorem dJ7_fill_53178_1 : decode cJ7_fill_53178 1 = .ok (.istore_n 2, 1) := by decide +kernel
theorem dJ7_fill_53178_2 : decode cJ7_fill_53178 2 = .ok (.aload_n 0, 1) := by decide +kernel
theorem dJ7_fill_53178_3 : decode cJ7_fill_53178 3 = .ok (.arraylength, 1) := by decide +kernel
theorem dJ7_fill_53178_4 : decode cJ7_fill_53178 4 = .ok (.istore_n 3, 1) := by decide +kernel
theorem dJ7_fill_53178_5 : decode cJ7_fill_53178 5 = .ok (.iload_n 2, 1) := by decide +kernel
theorem dJ7_fill_53178_6 : decode cJ7_fill_53178 6 = .ok (.iload_n 3, 1) := by decide +kernel
theorem dJ7_fill_53178_7 : decode cJ7_fill_53178 7 = .ok (.if_icmp .ge 13, 3) := by decide +kernel
theorem dJ7_fill_53178_10 : decode cJ7_fill_53178 10 = .ok (.aload_n 0, 1) := by decide +kernel
theorem dJ7_fill_53178_11 : decode cJ7_fill_53178 11 = .ok (.iload_n 2, 1) := by decide +kernel
theorem dJ7_fill_53178_12 : decode cJ7_fill_53178 12 = .ok (.iload_n 1, 1) := by decide +kernel
theorem dJ7_fill_53178_13 : decode cJ7_fill_53178 13 = .ok (.iastore, 1) := by decide +kernel
theorem dJ7_fill_53178_14 : decode cJ7_fill_53178 14 = .ok (.iinc 2 1, 3) := by decide +kernel
theorem dJ7_fill_53178_17 : decode cJ7_fill_53178 17 = .ok (.goto (-12), 3) := by decide +kernel
theorem dJ7_fill_53178_20 : decode cJ7_fill_53178 20 = .ok (.return_, 1) := by decide +kernel
theorem dJ0_length_8abf5_0 : decode cJ0_length_8abf5 0 = .ok (.aload_n 0, 1) := by decide +kernel
theorem dJ0_length_8abf5_1 : decode cJ0_length_8abf5 1 = .ok (.getfield 9, 3) := by decide +kernel
theorem dJ0_length_8abf5_4 : decode cJ0_length_8abf5 4 = .ok (.arraylength, 1) := by decide +kernel
theorem dJ0_length_8abf5_5 : decode cJ0_length_8abf5 5 = .ok (.aload_n 0, 1) := by decide +kernel
theorem dJ0_length_8abf5_6 : decode cJ0_length_8abf5 6 = .ok (.invokevirtual 335, 3) := by decide +kernel
theorem dJ0_length_8abf5_9 : decode cJ0_length_8abf5 9 = .ok (.ishr, 1) := by decide +kernel
theorem dJ0_length_8abf5_10 : decode cJ0_length_8abf5 10 = .ok (.ireturn, 1) := by decide +kernel
theorem dJ0_charAt_5068e_0 : decode cJ0_charAt_5068e 0 = .ok (.aload_n 0, 1) := by decide +kernel
theorem dJ0_charAt_5068e_1 : decode cJ0_charAt_5068e 1 = .ok (.invokevirtual 492, 3) := by decide +kernel
theorem dJ0_charAt_5068e_4 : decode cJ0_charAt_5068e 4 = .ok (.ifCond .eq 12, 3) := by decide +kernel
theorem dJ0_charAt_5068e_7 : decode cJ0_charAt_5068e 7 = .ok (.aload_n 0, 1) := by decide +kernel
theorem dJ0_charAt_5068e_8 : decode cJ0_charAt_5068e 8 = .ok (.getfield 9, 3) := by decide +kernel
theorem dJ0_charAt_5068e_11 : decode cJ0_charAt_5068e 11 = .ok (.iload_n 1, 1) := by decide +kernel
theorem dJ0_charAt_5068e_12 : decode cJ0_charAt_5068e 12 = .ok (.invokestatic 495, 3) := by decide +kernel
theorem dJ0_charAt_5068e_15 : decode cJ0_charAt_5068e 15 = .ok (.ireturn, 1) := by decide +kernel
theorem dJ0_charAt_5068e_16 : decode cJ0_charAt_5068e 16 = .ok (.aload_n 0, 1) := by decide +kernel
theorem dJ0_charAt_5068e_17 : decode cJ0_charAt_5068e 17 = .ok (.getfield 9, 3) := by decide +kernel
theorem dJ0_charAt_5068e_20 : decode cJ0_charAt_5068e 20 = .ok (.iload_n 1, 1) := by decide +kernel
theorem dJ0_charAt_5068e_21 : decode cJ0_charAt_5068e 21 = .ok (.invokestatic 498, 3) := by decide +kernel
theorem dJ0_charAt_5068e_24 : decode cJ0_charAt_5068e 24 = .ok (.ireturn, 1) := by decide +kernel
theorem dJ0_coder_7d493_0 : decode cJ0_coder_7d493 0 = .ok (.getstatic 38, 3) := by decide +kernel
theorem dJ0_coder_7d493_3 : decode cJ0_coder_7d493 3 = .ok (.ifCond .eq 10, 3) := by decide +kernel
theorem dJ0_coder_7d493_6 : decode cJ0_coder_7d493 6 = .ok (.aload_n 0, 1) := by decide +kernel
theorem dJ0_coder_7d493_7 : decode cJ0_coder_7d493 7 = .ok (.getfield 15, 3) := by decide +kernel
theorem dJ0_coder_7d493_10 : decode cJ0_coder_7d493 10 = .ok (.goto 4, 3) := by decide +kernel
theorem dJ0_coder_7d493_13 : decode cJ0_coder_7d493 13 = .ok (.iconst 1, 1) := by decide +kernel
theorem dJ0_coder_7d493_14 : decode cJ0_coder_7d493 14 = .ok (.ireturn, 1) := by decide +kernel
theorem dJ0_isLatin1_aae02_0 : decode cJ0_isLatin1_aae02 0 = .ok (.getstatic 38, 3) := by decide +kernel
theorem dJ0_isLatin1_aae02_3 : decode cJ0_isLatin1_aae02 3 = .ok (.ifCond .eq 14, 3) := by decide +kernel
theorem dJ0_isLatin1_aae02_6 : decode cJ0_isLatin1_aae02 6 = .ok (.aload_n 0, 1) := by decide +kernel
theorem dJ0_isLatin1_aae02_7 : decode cJ0_isLatin1_aae02 7 = .ok (.getfield 15, 3) := by decide +kernel
theorem dJ0_isLatin1_aae02_10 : decode cJ0_isLatin1_aae02 10 = .ok (.ifCond .ne 7, 3) := by decide +kernel
theorem dJ0_isLatin1_aae02_13 : decode cJ0_isLatin1_aae02 13 = .ok (.iconst 1, 1) := by decide +kernel
theorem dJ0_isLatin1_aae02_14 : decode cJ0_isLatin1_aae02 14 = .ok (.goto 4, 3) := by decide +kernel
theorem dJ0_isLatin1_aae02_17 : decode cJ0_isLatin1_aae02 17 = .ok (.iconst 0, 1) := by decide +kernel
theorem dJ0_isLatin1_aae02_18 : decode cJ0_isLatin1_aae02 18 = .ok (.ireturn, 1) := by decide +kernel
theorem dJ0_checkIndex_df160_0 : decode cJ0_checkIndex_df160 0 = .ok (.iload_n 0, 1) := by decide +kernel
theorem dJ0_checkIndex_df160_1 : decode cJ0_checkIndex_df160 1 = .ok (.iload_n 1, 1) := by decide +kernel
theorem dJ0_checkIndex_df160_2 : decode cJ0_checkIndex_df160 2 = .ok (.getstatic 1053, 3) := by decide +kernel
theorem dJ0_checkIndex_df160_5 : decode cJ0_checkIndex_df160 5 = .ok (.invokestatic 1059, 3) := by decide +kernel
theorem dJ0_checkIndex_df160_8 : decode cJ0_checkIndex_df160 8 = .ok (.pop, 1) := by decide +kernel
theorem dJ0_checkIndex_df160_9 : decode cJ0_checkIndex_df160 9 = .ok (.return_, 1) := by decide +kernel
theorem dJ1_charAt_3b067_0 : decode cJ1_charAt_3b067 0 = .ok (.iload_n 1, 1) := by decide +kernel
theorem dJ1_charAt_3b067_1 : decode cJ1_charAt_3b067 1 = .ok (.aload_n 0, 1) := by decide +kernel
theorem dJ1_charAt_3b067_2 : decode cJ1_charAt_3b067 2 = .ok (.arraylength, 1) := by decide +kernel
theorem dJ1_charAt_3b067_3 : decode cJ1_charAt_3b067 3 = .ok (.invokestatic 9, 3) := by decide +kernel
theorem dJ1_charAt_3b067_6 : decode cJ1_charAt_3b067 6 = .ok (.aload_n 0, 1) := by decide +kernel
theorem dJ1_charAt_3b067_7 : decode cJ1_charAt_3b067 7 = .ok (.iload_n 1, 1) := by decide +kernel
theorem dJ1_charAt_3b067_8 : decode cJ1_charAt_3b067 8 = .ok (.baload, 1) := by decide +kernel
theorem dJ1_charAt_3b067_9 : decode cJ1_charAt_3b067 9 = .ok (.sipush 255, 3) := by decide +kernel
theorem dJ1_charAt_3b067_12 : decode cJ1_charAt_3b067 12 = .ok (.iand, 1) := by decide +kernel
theorem dJ1_charAt_3b067_13 : decode cJ1_charAt_3b067 13 = .ok (.i2c, 1) := by decide +kernel
theorem dJ1_charAt_3b067_14 : decode cJ1_charAt_3b067 14 = .ok (.ireturn, 1) := by decide +kernel
theorem dJ3_checkIndex_8e157_0 : decode cJ3_checkIndex_8e157 0 = .ok (.iload_n 0, 1) := by decide +kernel
theorem dJ3_checkIndex_8e157_1 : decode cJ3_checkIndex_8e157 1 = .ok (.ifCond .lt 8, 3) := by decide +kernel
theorem dJ3_checkIndex_8e157_4 : decode cJ3_checkIndex_8e157 4 = .ok (.iload_n 0, 1) := by decide +kernel
theorem dJ3_checkIndex_8e157_5 : decode cJ3_checkIndex_8e157 5 = .ok (.iload_n 1, 1) := by decide +kernel
theorem dJ3_checkIndex_8e157_6 : decode cJ3_checkIndex_8e157 6 = .ok (.if_icmp .lt 10, 3) := by decide +kernel
theorem dJ3_checkIndex_8e157_9 : decode cJ3_checkIndex_8e157 9 = .ok (.aload_n 2, 1) := by decide +kernel
theorem dJ3_checkIndex_8e157_10 : decode cJ3_checkIndex_8e157 10 = .ok (.iload_n 0, 1) := by decide +kernel
theorem dJ3_checkIndex_8e157_11 : decode cJ3_checkIndex_8e157 11 = .ok (.iload_n 1, 1) := by decide +kernel
theorem dJ3_checkIndex_8e157_12 : decode cJ3_checkIndex_8e157 12 = .ok (.invokestatic 95, 3) := by decide +kernel
theorem dJ3_checkIndex_8e157_15 : decode cJ3_checkIndex_8e157 15 = .ok (.athrow, 1) := by decide +kernel
theorem dJ3_checkIndex_8e157_16 : decode cJ3_checkIndex_8e157 16 = .ok (.iload_n 0, 1) := by decide +kernel
theorem dJ3_checkIndex_8e157_17 : decode cJ3_checkIndex_8e157 17 = .ok (.ireturn, 1) := by decide +kernel
theorem dL_law_0 : decode cL_law 0 = .ok (.new 7, 3) := by decide +kernel
theorem dL_law_3 : decode cL_law 3 = .ok (.dup, 1) := by decide +kernel
theorem dL_law_4 : decode cL_law 4 = .ok (.invokespecial 9, 3) := by decide +kernel
theorem dL_law_7 : decode cL_law 7 = .ok (.astore_n 1, 1) := by decide +kernel
theorem dL_law_8 : decode cL_law 8 = .ok (.new 10, 3) := by decide +kernel
theorem dL_law_11 : decode cL_law 11 = .ok (.dup, 1) := by decide +kernel
theorem dL_law_12 : decode cL_law 12 = .ok (.invokespecial 12, 3) := by decide +kernel
theorem dL_law_15 : decode cL_law 15 = .ok (.astore_n 2, 1) := by decide +kernel
theorem dL_law_16 : decode cL_law 16 = .ok (.iconst 0, 1) := by decide +kernel
theorem dL_law_17 : decode cL_law 17 = .ok (.istore_n 3, 1) := by decide +kernel
theorem dL_law_18 : decode cL_law 18 = .ok (.iload_n 3, 1) := by decide +kernel
theorem dL_law_19 : decode cL_law 19 = .ok (.aload_n 0, 1) := by decide +kernel
theorem dL_law_20 : decode cL_law 20 = .ok (.arraylength, 1) := by decide +kernel
theorem dL_law_21 : decode cL_law 21 = .ok (.bipush 6, 2) := by decide +kernel
theorem dL_law_23 : decode cL_law 23 = .ok (.isub, 1) := by decide +kernel
theorem dL_law_24 : decode cL_law 24 = .ok (.if_icmp .gt 1080, 3) := by decide +kernel
theorem dL_law_27 : decode cL_law 27 = .ok (.aload_n 0, 1) := by decide +kernel
theorem dL_law_28 : decode cL_law 28 = .ok (.iload_n 3, 1) := by decide +kernel
theorem dL_law_29 : decode cL_law 29 = .ok (.iaload, 1) := by decide +kernel
theorem dL_law_30 : decode cL_law 30 = .ok (.bipush 31, 2) := by decide +kernel
theorem dL_law_32 : decode cL_law 32 = .ok (.iand, 1) := by decide +kernel
theorem dL_law_33 : decode cL_law 33 = .ok (.tableswitch 1065 0 31 #[143, 206, 229, 242, 265, 324, 357, 420, 463, 496, 519, 542, 565, 588, 621, 664, 697, 730, 743, 766, 789, 812, 825, 858, 881, 904, 917, 930, 953, 976, 1019, 1042], 143) := by decide +kernel
theorem dL_law_176 : decode cL_law 176 = .ok (.aload_n 1, 1) := by decide +kernel
theorem dL_law_177 : decode cL_law 177 = .ok (.aload_n 0, 1) := by decide +kernel
theorem dL_law_178 : decode cL_law 178 = .ok (.iload_n 3, 1) := by decide +kernel
theorem dL_law_179 : decode cL_law 179 = .ok (.iconst 1, 1) := by decide +kernel
theorem dL_law_180 : decode cL_law 180 = .ok (.iadd, 1) := by decide +kernel
theorem dL_law_181 : decode cL_law 181 = .ok (.iaload, 1) := by decide +kernel
theorem dL_law_182 : decode cL_law 182 = .ok (.aload_n 0, 1) := by decide +kernel
theorem dL_law_183 : decode cL_law 183 = .ok (.iload_n 3, 1) := by decide +kernel
theorem dL_law_184 : decode cL_law 184 = .ok (.iconst 2, 1) := by decide +kernel
theorem dL_law_185 : decode cL_law 185 = .ok (.iadd, 1) := by decide +kernel
theorem dL_law_186 : decode cL_law 186 = .ok (.iaload, 1) := by decide +kernel
theorem dL_law_187 : decode cL_law 187 = .ok (.aload_n 0, 1) := by decide +kernel
theorem dL_law_188 : decode cL_law 188 = .ok (.iload_n 3, 1) := by decide +kernel
theorem dL_law_189 : decode cL_law 189 = .ok (.iconst 3, 1) := by decide +kernel
theorem dL_law_190 : decode cL_law 190 = .ok (.iadd, 1) := by decide +kernel
theorem dL_law_191 : decode cL_law 191 = .ok (.iaload, 1) := by decide +kernel
theorem dL_law_192 : decode cL_law 192 = .ok (.aload_n 0, 1) := by decide +kernel
theorem dL_law_193 : decode cL_law 193 = .ok (.iload_n 3, 1) := by decide +kernel
theorem dL_law_194 : decode cL_law 194 = .ok (.iconst 4, 1) := by decide +kernel
theorem dL_law_195 : decode cL_law 195 = .ok (.iadd, 1) := by decide +kernel
theorem dL_law_196 : decode cL_law 196 = .ok (.iaload, 1) := by decide +kernel
theorem dL_law_197 : decode cL_law 197 = .ok (.aload_n 0, 1) := by decide +kernel
theorem dL_law_198 : decode cL_law 198 = .ok (.iload_n 3, 1) := by decide +kernel
theorem dL_law_199 : decode cL_law 199 = .ok (.iconst 5, 1) := by decide +kernel
theorem dL_law_200 : decode cL_law 200 = .ok (.iadd, 1) := by decide +kernel
theorem dL_law_201 : decode cL_law 201 = .ok (.iaload, 1) := by decide +kernel
theorem dL_law_202 : decode cL_law 202 = .ok (.invokevirtual 13, 3) := by decide +kernel
theorem dL_law_205 : decode cL_law 205 = .ok (.aload_n 2, 1) := by decide +kernel
theorem dL_law_206 : decode cL_law 206 = .ok (.aload_n 0, 1) := by decide +kernel
theorem dL_law_207 : decode cL_law 207 = .ok (.iload_n 3, 1) := by decide +kernel
theorem dL_law_208 : decode cL_law 208 = .ok (.iconst 1, 1) := by decide +kernel
theorem dL_law_209 : decode cL_law 209 = .ok (.iadd, 1) := by decide +kernel
theorem dL_law_210 : decode cL_law 210 = .ok (.iaload, 1) := by decide +kernel
theorem dL_law_211 : decode cL_law 211 = .ok (.aload_n 0, 1) := by decide +kernel
theorem dL_law_212 : decode cL_law 212 = .ok (.iload_n 3, 1) := by decide +kernel
theorem dL_law_213 : decode cL_law 213 = .ok (.iconst 2, 1) := by decide +kernel
theorem dL_law_214 : decode cL_law 214 = .ok (.iadd, 1) := by decide +kernel
theorem dL_law_215 : decode cL_law 215 = .ok (.iaload, 1) := by decide +kernel
theorem dL_law_216 : decode cL_law 216 = .ok (.aload_n 0, 1) := by decide +kernel
theorem dL_law_217 : decode cL_law 217 = .ok (.iload_n 3, 1) := by decide +kernel
theorem dL_law_218 : decode cL_law 218 = .ok (.iconst 3, 1) := by decide +kernel
theorem dL_law_219 : decode cL_law 219 = .ok (.iadd, 1) := by decide +kernel
theorem dL_law_220 : decode cL_law 220 = .ok (.iaload, 1) := by decide +kernel
theorem dL_law_221 : decode cL_law 221 = .ok (.aload_n 0, 1) := by decide +kernel
theorem dL_law_222 : decode cL_law 222 = .ok (.iload_n 3, 1) := by decide +kernel
theorem dL_law_223 : decode cL_law 223 = .ok (.iconst 4, 1) := by decide +kernel
theorem dL_law_224 : decode cL_law 224 = .ok (.iadd, 1) := by decide +kernel
theorem dL_law_225 : decode cL_law 225 = .ok (.iaload, 1) := by decide +kernel
theorem dL_law_226 : decode cL_law 226 = .ok (.aload_n 0, 1) := by decide +kernel
theorem dL_law_227 : decode cL_law 227 = .ok (.iload_n 3, 1) := by decide +kernel
theorem dL_law_228 : decode cL_law 228 = .ok (.iconst 5, 1) := by decide +kernel
theorem dL_law_229 : decode cL_law 229 = .ok (.iadd, 1) := by decide +kernel
theorem dL_law_230 : decode cL_law 230 = .ok (.iaload, 1) := by decide +kernel
theorem dL_law_231 : decode cL_law 231 = .ok (.invokevirtual 17, 3) := by decide +kernel
theorem dL_law_234 : decode cL_law 234 = .ok (.if_icmp .eq 864, 3) := by decide +kernel
theorem dL_law_237 : decode cL_law 237 = .ok (.iconst 0, 1) := by decide +kernel
theorem dL_law_238 : decode cL_law 238 = .ok (.ireturn, 1) := by decide +kernel
theorem dL_law_239 : decode cL_law 239 = .ok (.aload_n 1, 1) := by decide +kernel
theorem dL_law_240 : decode cL_law 240 = .ok (.aload_n 0, 1) := by decide +kernel
theorem dL_law_241 : decode cL_law 241 = .ok (.iload_n 3, 1) := by decide +kernel
theorem dL_law_242 : decode cL_law 242 = .ok (.iconst 1, 1) := by decide +kernel
theorem dL_law_243 : decode cL_law 243 = .ok (.iadd, 1) := by decide +kernel
theorem dL_law_244 : decode cL_law 244 = .ok (.iaload, 1) := by decide +kernel
theorem dL_law_245 : decode cL_law 245 = .ok (.invokevirtual 18, 3) := by decide +kernel
theorem dL_law_248 : decode cL_law 248 = .ok (.aload_n 2, 1) := by decide +kernel
theorem dL_law_249 : decode cL_law 249 = .ok (.aload_n 0, 1) := by decide +kernel
theorem dL_law_250 : decode cL_law 250 = .ok (.iload_n 3, 1) := by decide +kernel
theorem dL_law_251 : decode cL_law 251 = .ok (.iconst 1, 1) := by decide +kernel
theorem dL_law_252 : decode cL_law 252 = .ok (.iadd, 1) := by decide +kernel
theorem dL_law_253 : decode cL_law 253 = .ok (.iaload, 1) := by decide +kernel
theorem dL_law_254 : decode cL_law 254 = .ok (.invokevirtual 22, 3) := by decide +kernel
theorem dL_law_257 : decode cL_law 257 = .ok (.if_icmp .eq 841, 3) := by decide +kernel
theorem dL_law_260 : decode cL_law 260 = .ok (.iconst 0, 1) := by decide +kernel
theorem dL_law_261 : decode cL_law 261 = .ok (.ireturn, 1) := by decide +kernel
theorem dL_law_262 : decode cL_law 262 = .ok (.aload_n 1, 1) := by decide +kernel
theorem dL_law_263 : decode cL_law 263 = .ok (.invokevirtual 23, 3) := by decide +kernel
theorem dL_law_266 : decode cL_law 266 = .ok (.aload_n 2, 1) := by decide +kernel
theorem dL_law_267 : decode cL_law 267 = .ok (.invokevirtual 27, 3) := by decide +kernel
theorem dL_law_270 : decode cL_law 270 = .ok (.if_icmp .eq 828, 3) := by decide +kernel
theorem dL_law_273 : decode cL_law 273 = .ok (.iconst 0, 1) := by decide +kernel
theorem dL_law_274 : decode cL_law 274 = .ok (.ireturn, 1) := by decide +kernel
theorem dL_law_275 : decode cL_law 275 = .ok (.aload_n 1, 1) := by decide +kernel
theorem dL_law_276 : decode cL_law 276 = .ok (.aload_n 0, 1) := by decide +kernel
theorem dL_law_277 : decode cL_law 277 = .ok (.iload_n 3, 1) := by decide +kernel
theorem dL_law_278 : decode cL_law 278 = .ok (.iconst 1, 1) := by decide +kernel
theorem dL_law_279 : decode cL_law 279 = .ok (.iadd, 1) := by decide +kernel
theorem dL_law_280 : decode cL_law 280 = .ok (.iaload, 1) := by decide +kernel
theorem dL_law_281 : decode cL_law 281 = .ok (.invokevirtual 28, 3) := by decide +kernel
theorem dL_law_284 : decode cL_law 284 = .ok (.aload_n 2, 1) := by decide +kernel
theorem dL_law_285 : decode cL_law 285 = .ok (.aload_n 0, 1) := by decide +kernel
theorem dL_law_286 : decode cL_law 286 = .ok (.iload_n 3, 1) := by decide +kernel
theorem dL_law_287 : decode cL_law 287 = .ok (.iconst 1, 1) := by decide +kernel
theorem dL_law_288 : decode cL_law 288 = .ok (.iadd, 1) := by decide +kernel
theorem dL_law_289 : decode cL_law 289 = .ok (.iaload, 1) := by decide +kernel
theorem dL_law_290 : decode cL_law 290 = .ok (.invokevirtual 32, 3) := by decide +kernel
theorem dL_law_293 : decode cL_law 293 = .ok (.if_icmp .eq 805, 3) := by decide +kernel
theorem dL_law_296 : decode cL_law 296 = .ok (.iconst 0, 1) := by decide +kernel
theorem dL_law_297 : decode cL_law 297 = .ok (.ireturn, 1) := by decide +kernel
theorem dL_law_298 : decode cL_law 298 = .ok (.aload_n 1, 1) := by decide +kernel
theorem dL_law_299 : decode cL_law 299 = .ok (.aload_n 0, 1) := by decide +kernel
theorem dL_law_300 : decode cL_law 300 = .ok (.iload_n 3, 1) := by decide +kernel
theorem dL_law_301 : decode cL_law 301 = .ok (.iconst 1, 1) := by decide +kernel
theorem dL_law_302 : decode cL_law 302 = .ok (.iadd, 1) := by decide +kernel
theorem dL_law_303 : decode cL_law 303 = .ok (.iaload, 1) := by decide +kernel
theorem dL_law_304 : decode cL_law 304 = .ok (.ifCond .eq 7, 3) := by decide +kernel
theorem dL_law_307 : decode cL_law 307 = .ok (.iconst 1, 1) := by decide +kernel
theorem dL_law_308 : decode cL_law 308 = .ok (.goto 4, 3) := by decide +kernel
theorem dL_law_311 : decode cL_law 311 = .ok (.iconst 0, 1) := by decide +kernel
theorem dL_law_312 : decode cL_law 312 = .ok (.aload_n 0, 1) := by decide +kernel
theorem dL_law_313 : decode cL_law 313 = .ok (.iload_n 3, 1) := by decide +kernel
theorem dL_law_314 : decode cL_law 314 = .ok (.iconst 2, 1) := by decide +kernel
theorem dL_law_315 : decode cL_law 315 = .ok (.iadd, 1) := by decide +kernel
theorem dL_law_316 : decode cL_law 316 = .ok (.iaload, 1) := by decide +kernel
theorem dL_law_317 : decode cL_law 317 = .ok (.aload_n 0, 1) := by decide +kernel
theorem dL_law_318 : decode cL_law 318 = .ok (.iload_n 3, 1) := by decide +kernel
theorem dL_law_319 : decode cL_law 319 = .ok (.iconst 3, 1) := by decide +kernel
theorem dL_law_320 : decode cL_law 320 = .ok (.iadd, 1) := by decide +kernel
theorem dL_law_321 : decode cL_law 321 = .ok (.iaload, 1) := by decide +kernel
theorem dL_law_322 : decode cL_law 322 = .ok (.invokevirtual 33, 3) := by decide +kernel
theorem dL_law_325 : decode cL_law 325 = .ok (.aload_n 2, 1) := by decide +kernel
theorem dL_law_326 : decode cL_law 326 = .ok (.aload_n 0, 1) := by decide +kernel
theorem dL_law_327 : decode cL_law 327 = .ok (.iload_n 3, 1) := by decide +kernel
theorem dL_law_328 : decode cL_law 328 = .ok (.iconst 1, 1) := by decide +kernel
theorem dL_law_329 : decode cL_law 329 = .ok (.iadd, 1) := by decide +kernel
theorem dL_law_330 : decode cL_law 330 = .ok (.iaload, 1) := by decide +kernel
theorem dL_law_331 : decode cL_law 331 = .ok (.ifCond .eq 7, 3) := by decide +kernel
theorem dL_law_334 : decode cL_law 334 = .ok (.iconst 1, 1) := by decide +kernel
theorem dL_law_335 : decode cL_law 335 = .ok (.goto 4, 3) := by decide +kernel
theorem dL_law_338 : decode cL_law 338 = .ok (.iconst 0, 1) := by decide +kernel
theorem dL_law_339 : decode cL_law 339 = .ok (.aload_n 0, 1) := by decide +kernel
theorem dL_law_340 : decode cL_law 340 = .ok (.iload_n 3, 1) := by decide +kernel
theorem dL_law_341 : decode cL_law 341 = .ok (.iconst 2, 1) := by decide +kernel
theorem dL_law_342 : decode cL_law 342 = .ok (.iadd, 1) := by decide +kernel
theorem dL_law_343 : decode cL_law 343 = .ok (.iaload, 1) := by decide +kernel
theorem dL_law_344 : decode cL_law 344 = .ok (.aload_n 0, 1) := by decide +kernel
theorem dL_law_345 : decode cL_law 345 = .ok (.iload_n 3, 1) := by decide +kernel
theorem dL_law_346 : decode cL_law 346 = .ok (.iconst 3, 1) := by decide +kernel
theorem dL_law_347 : decode cL_law 347 = .ok (.iadd, 1) := by decide +kernel
theorem dL_law_348 : decode cL_law 348 = .ok (.iaload, 1) := by decide +kernel
theorem dL_law_349 : decode cL_law 349 = .ok (.invokevirtual 37, 3) := by decide +kernel
theorem dL_law_352 : decode cL_law 352 = .ok (.if_icmp .eq 746, 3) := by decide +kernel
theorem dL_law_355 : decode cL_law 355 = .ok (.iconst 0, 1) := by decide +kernel
theorem dL_law_356 : decode cL_law 356 = .ok (.ireturn, 1) := by decide +kernel
theorem dL_law_357 : decode cL_law 357 = .ok (.aload_n 1, 1) := by decide +kernel
theorem dL_law_358 : decode cL_law 358 = .ok (.aload_n 0, 1) := by decide +kernel
theorem dL_law_359 : decode cL_law 359 = .ok (.iload_n 3, 1) := by decide +kernel
theorem dL_law_360 : decode cL_law 360 = .ok (.iconst 1, 1) := by decide +kernel
theorem dL_law_361 : decode cL_law 361 = .ok (.iadd, 1) := by decide +kernel
theorem dL_law_362 : decode cL_law 362 = .ok (.iaload, 1) := by decide +kernel
theorem dL_law_363 : decode cL_law 363 = .ok (.aload_n 0, 1) := by decide +kernel
theorem dL_law_364 : decode cL_law 364 = .ok (.iload_n 3, 1) := by decide +kernel
theorem dL_law_365 : decode cL_law 365 = .ok (.iconst 2, 1) := by decide +kernel
theorem dL_law_366 : decode cL_law 366 = .ok (.iadd, 1) := by decide +kernel
theorem dL_law_367 : decode cL_law 367 = .ok (.iaload, 1) := by decide +kernel
theorem dL_law_368 : decode cL_law 368 = .ok (.invokevirtual 38, 3) := by decide +kernel
theorem dL_law_371 : decode cL_law 371 = .ok (.aload_n 2, 1) := by decide +kernel
theorem dL_law_372 : decode cL_law 372 = .ok (.aload_n 0, 1) := by decide +kernel
theorem dL_law_373 : decode cL_law 373 = .ok (.iload_n 3, 1) := by decide +kernel
theorem dL_law_374 : decode cL_law 374 = .ok (.iconst 1, 1) := by decide +kernel
theorem dL_law_375 : decode cL_law 375 = .ok (.iadd, 1) := by decide +kernel
theorem dL_law_376 : decode cL_law 376 = .ok (.iaload, 1) := by decide +kernel
theorem dL_law_377 : decode cL_law 377 = .ok (.aload_n 0, 1) := by decide +kernel
theorem dL_law_378 : decode cL_law 378 = .ok (.iload_n 3, 1) := by decide +kernel
theorem dL_law_379 : decode cL_law 379 = .ok (.iconst 2, 1) := by decide +kernel
theorem dL_law_380 : decode cL_law 380 = .ok (.iadd, 1) := by decide +kernel
theorem dL_law_381 : decode cL_law 381 = .ok (.iaload, 1) := by decide +kernel
theorem dL_law_382 : decode cL_law 382 = .ok (.invokevirtual 42, 3) := by decide +kernel
theorem dL_law_385 : decode cL_law 385 = .ok (.if_icmp .eq 713, 3) := by decide +kernel
theorem dL_law_388 : decode cL_law 388 = .ok (.iconst 0, 1) := by decide +kernel
theorem dL_law_389 : decode cL_law 389 = .ok (.ireturn, 1) := by decide +kernel
theorem dL_law_390 : decode cL_law 390 = .ok (.aload_n 1, 1) := by decide +kernel
theorem dL_law_391 : decode cL_law 391 = .ok (.aload_n 0, 1) := by decide +kernel
theorem dL_law_392 : decode cL_law 392 = .ok (.iload_n 3, 1) := by decide +kernel
theorem dL_law_393 : decode cL_law 393 = .ok (.iconst 1, 1) := by decide +kernel
theorem dL_law_394 : decode cL_law 394 = .ok (.iadd, 1) := by decide +kernel
theorem dL_law_395 : decode cL_law 395 = .ok (.iaload, 1) := by decide +kernel
theorem dL_law_396 : decode cL_law 396 = .ok (.aload_n 0, 1) := by decide +kernel
theorem dL_law_397 : decode cL_law 397 = .ok (.iload_n 3, 1) := by decide +kernel
theorem dL_law_398 : decode cL_law 398 = .ok (.iconst 2, 1) := by decide +kernel
theorem dL_law_399 : decode cL_law 399 = .ok (.iadd, 1) := by decide +kernel
theorem dL_law_400 : decode cL_law 400 = .ok (.iaload, 1) := by decide +kernel
theorem dL_law_401 : decode cL_law 401 = .ok (.aload_n 0, 1) := by decide +kernel
theorem dL_law_402 : decode cL_law 402 = .ok (.iload_n 3, 1) := by decide +kernel
theorem dL_law_403 : decode cL_law 403 = .ok (.iconst 3, 1) := by decide +kernel
theorem dL_law_404 : decode cL_law 404 = .ok (.iadd, 1) := by decide +kernel
theorem dL_law_405 : decode cL_law 405 = .ok (.iaload, 1) := by decide +kernel
theorem dL_law_406 : decode cL_law 406 = .ok (.aload_n 0, 1) := by decide +kernel
theorem dL_law_407 : decode cL_law 407 = .ok (.iload_n 3, 1) := by decide +kernel
theorem dL_law_408 : decode cL_law 408 = .ok (.iconst 4, 1) := by decide +kernel
theorem dL_law_409 : decode cL_law 409 = .ok (.iadd, 1) := by decide +kernel
theorem dL_law_410 : decode cL_law 410 = .ok (.iaload, 1) := by decide +kernel
theorem dL_law_411 : decode cL_law 411 = .ok (.aload_n 0, 1) := by decide +kernel
theorem dL_law_412 : decode cL_law 412 = .ok (.iload_n 3, 1) := by decide +kernel
theorem dL_law_413 : decode cL_law 413 = .ok (.iconst 5, 1) := by decide +kernel
theorem dL_law_414 : decode cL_law 414 = .ok (.iadd, 1) := by decide +kernel
theorem dL_law_415 : decode cL_law 415 = .ok (.iaload, 1) := by decide +kernel
theorem dL_law_416 : decode cL_law 416 = .ok (.invokevirtual 43, 3) := by decide +kernel
theorem dL_law_419 : decode cL_law 419 = .ok (.aload_n 2, 1) := by decide +kernel
theorem dL_law_420 : decode cL_law 420 = .ok (.aload_n 0, 1) := by decide +kernel
theorem dL_law_421 : decode cL_law 421 = .ok (.iload_n 3, 1) := by decide +kernel
theorem dL_law_422 : decode cL_law 422 = .ok (.iconst 1, 1) := by decide +kernel
theorem dL_law_423 : decode cL_law 423 = .ok (.iadd, 1) := by decide +kernel
theorem dL_law_424 : decode cL_law 424 = .ok (.iaload, 1) := by decide +kernel
theorem dL_law_425 : decode cL_law 425 = .ok (.aload_n 0, 1) := by decide +kernel
theorem dL_law_426 : decode cL_law 426 = .ok (.iload_n 3, 1) := by decide +kernel
theorem dL_law_427 : decode cL_law 427 = .ok (.iconst 2, 1) := by decide +kernel
theorem dL_law_428 : decode cL_law 428 = .ok (.iadd, 1) := by decide +kernel
theorem dL_law_429 : decode cL_law 429 = .ok (.iaload, 1) := by decide +kernel
theorem dL_law_430 : decode cL_law 430 = .ok (.aload_n 0, 1) := by decide +kernel
theorem dL_law_431 : decode cL_law 431 = .ok (.iload_n 3, 1) := by decide +kernel
theorem dL_law_432 : decode cL_law 432 = .ok (.iconst 3, 1) := by decide +kernel
theorem dL_law_433 : decode cL_law 433 = .ok (.iadd, 1) := by decide +kernel
theorem dL_law_434 : decode cL_law 434 = .ok (.iaload, 1) := by decide +kernel
theorem dL_law_435 : decode cL_law 435 = .ok (.aload_n 0, 1) := by decide +kernel
theorem dL_law_436 : decode cL_law 436 = .ok (.iload_n 3, 1) := by decide +kernel
theorem dL_law_437 : decode cL_law 437 = .ok (.iconst 4, 1) := by decide +kernel
theorem dL_law_438 : decode cL_law 438 = .ok (.iadd, 1) := by decide +kernel
theorem dL_law_439 : decode cL_law 439 = .ok (.iaload, 1) := by decide +kernel
theorem dL_law_440 : decode cL_law 440 = .ok (.aload_n 0, 1) := by decide +kernel
theorem dL_law_441 : decode cL_law 441 = .ok (.iload_n 3, 1) := by decide +kernel
theorem dL_law_442 : decode cL_law 442 = .ok (.iconst 5, 1) := by decide +kernel
theorem dL_law_443 : decode cL_law 443 = .ok (.iadd, 1) := by decide +kernel
theorem dL_law_444 : decode cL_law 444 = .ok (.iaload, 1) := by decide +kernel
theorem dL_law_445 : decode cL_law 445 = .ok (.invokevirtual 46, 3) := by decide +kernel
theorem dL_law_448 : decode cL_law 448 = .ok (.if_icmp .eq 650, 3) := by decide +kernel
theorem dL_law_451 : decode cL_law 451 = .ok (.iconst 0, 1) := by decide +kernel
theorem dL_law_452 : decode cL_law 452 = .ok (.ireturn, 1) := by decide +kernel
theorem dL_law_453 : decode cL_law 453 = .ok (.aload_n 1, 1) := by decide +kernel
theorem dL_law_454 : decode cL_law 454 = .ok (.aload_n 0, 1) := by decide +kernel
theorem dL_law_455 : decode cL_law 455 = .ok (.iload_n 3, 1) := by decide +kernel
theorem dL_law_456 : decode cL_law 456 = .ok (.iconst 1, 1) := by decide +kernel
theorem dL_law_457 : decode cL_law 457 = .ok (.iadd, 1) := by decide +kernel
theorem dL_law_458 : decode cL_law 458 = .ok (.iaload, 1) := by decide +kernel
theorem dL_law_459 : decode cL_law 459 = .ok (.aload_n 0, 1) := by decide +kernel
theorem dL_law_460 : decode cL_law 460 = .ok (.iload_n 3, 1) := by decide +kernel
theorem dL_law_461 : decode cL_law 461 = .ok (.iconst 2, 1) := by decide +kernel
theorem dL_law_462 : decode cL_law 462 = .ok (.iadd, 1) := by decide +kernel
theorem dL_law_463 : decode cL_law 463 = .ok (.iaload, 1) := by decide +kernel
theorem dL_law_464 : decode cL_law 464 = .ok (.aload_n 0, 1) := by decide +kernel
theorem dL_law_465 : decode cL_law 465 = .ok (.iload_n 3, 1) := by decide +kernel
theorem dL_law_466 : decode cL_law 466 = .ok (.iconst 3, 1) := by decide +kernel
theorem dL_law_467 : decode cL_law 467 = .ok (.iadd, 1) := by decide +kernel
theorem dL_law_468 : decode cL_law 468 = .ok (.iaload, 1) := by decide +kernel
theorem dL_law_469 : decode cL_law 469 = .ok (.invokevirtual 47, 3) := by decide +kernel
theorem dL_law_472 : decode cL_law 472 = .ok (.aload_n 2, 1) := by decide +kernel
theorem dL_law_473 : decode cL_law 473 = .ok (.aload_n 0, 1) := by decide +kernel
theorem dL_law_474 : decode cL_law 474 = .ok (.iload_n 3, 1) := by decide +kernel
theorem dL_law_475 : decode cL_law 475 = .ok (.iconst 1, 1) := by decide +kernel
theorem dL_law_476 : decode cL_law 476 = .ok (.iadd, 1) := by decide +kernel
theorem dL_law_477 : decode cL_law 477 = .ok (.iaload, 1) := by decide +kernel
theorem dL_law_478 : decode cL_law 478 = .ok (.aload_n 0, 1) := by decide +kernel
theorem dL_law_479 : decode cL_law 479 = .ok (.iload_n 3, 1) := by decide +kernel
theorem dL_law_480 : decode cL_law 480 = .ok (.iconst 2, 1) := by decide +kernel
theorem dL_law_481 : decode cL_law 481 = .ok (.iadd, 1) := by decide +kernel
theorem dL_law_482 : decode cL_law 482 = .ok (.iaload, 1) := by decide +kernel
theorem dL_law_483 : decode cL_law 483 = .ok (.aload_n 0, 1) := by decide +kernel
theorem dL_law_484 : decode cL_law 484 = .ok (.iload_n 3, 1) := by decide +kernel
theorem dL_law_485 : decode cL_law 485 = .ok (.iconst 3, 1) := by decide +kernel
theorem dL_law_486 : decode cL_law 486 = .ok (.iadd, 1) := by decide +kernel
theorem dL_law_487 : decode cL_law 487 = .ok (.iaload, 1) := by decide +kernel
theorem dL_law_488 : decode cL_law 488 = .ok (.invokevirtual 51, 3) := by decide +kernel
theorem dL_law_491 : decode cL_law 491 = .ok (.if_icmp .eq 607, 3) := by decide +kernel
theorem dL_law_494 : decode cL_law 494 = .ok (.iconst 0, 1) := by decide +kernel
theorem dL_law_495 : decode cL_law 495 = .ok (.ireturn, 1) := by decide +kernel
theorem dL_law_496 : decode cL_law 496 = .ok (.aload_n 1, 1) := by decide +kernel
theorem dL_law_497 : decode cL_law 497 = .ok (.aload_n 0, 1) := by decide +kernel
theorem dL_law_498 : decode cL_law 498 = .ok (.iload_n 3, 1) := by decide +kernel
theorem dL_law_499 : decode cL_law 499 = .ok (.iconst 1, 1) := by decide +kernel
theorem dL_law_500 : decode cL_law 500 = .ok (.iadd, 1) := by decide +kernel
theorem dL_law_501 : decode cL_law 501 = .ok (.iaload, 1) := by decide +kernel
theorem dL_law_502 : decode cL_law 502 = .ok (.aload_n 0, 1) := by decide +kernel
theorem dL_law_503 : decode cL_law 503 = .ok (.iload_n 3, 1) := by decide +kernel
theorem dL_law_504 : decode cL_law 504 = .ok (.iconst 2, 1) := by decide +kernel
theorem dL_law_505 : decode cL_law 505 = .ok (.iadd, 1) := by decide +kernel
theorem dL_law_506 : decode cL_law 506 = .ok (.iaload, 1) := by decide +kernel
theorem dL_law_507 : decode cL_law 507 = .ok (.invokevirtual 52, 3) := by decide +kernel
theorem dL_law_510 : decode cL_law 510 = .ok (.aload_n 2, 1) := by decide +kernel
theorem dL_law_511 : decode cL_law 511 = .ok (.aload_n 0, 1) := by decide +kernel
theorem dL_law_512 : decode cL_law 512 = .ok (.iload_n 3, 1) := by decide +kernel
theorem dL_law_513 : decode cL_law 513 = .ok (.iconst 1, 1) := by decide +kernel
theorem dL_law_514 : decode cL_law 514 = .ok (.iadd, 1) := by decide +kernel
theorem dL_law_515 : decode cL_law 515 = .ok (.iaload, 1) := by decide +kernel
theorem dL_law_516 : decode cL_law 516 = .ok (.aload_n 0, 1) := by decide +kernel
theorem dL_law_517 : decode cL_law 517 = .ok (.iload_n 3, 1) := by decide +kernel
theorem dL_law_518 : decode cL_law 518 = .ok (.iconst 2, 1) := by decide +kernel
theorem dL_law_519 : decode cL_law 519 = .ok (.iadd, 1) := by decide +kernel
theorem dL_law_520 : decode cL_law 520 = .ok (.iaload, 1) := by decide +kernel
theorem dL_law_521 : decode cL_law 521 = .ok (.invokevirtual 55, 3) := by decide +kernel
theorem dL_law_524 : decode cL_law 524 = .ok (.if_icmp .eq 574, 3) := by decide +kernel
theorem dL_law_527 : decode cL_law 527 = .ok (.iconst 0, 1) := by decide +kernel
theorem dL_law_528 : decode cL_law 528 = .ok (.ireturn, 1) := by decide +kernel
theorem dL_law_529 : decode cL_law 529 = .ok (.aload_n 1, 1) := by decide +kernel
theorem dL_law_530 : decode cL_law 530 = .ok (.aload_n 0, 1) := by decide +kernel
theorem dL_law_531 : decode cL_law 531 = .ok (.iload_n 3, 1) := by decide +kernel
theorem dL_law_532 : decode cL_law 532 = .ok (.iconst 1, 1) := by decide +kernel
theorem dL_law_533 : decode cL_law 533 = .ok (.iadd, 1) := by decide +kernel
theorem dL_law_534 : decode cL_law 534 = .ok (.iaload, 1) := by decide +kernel
theorem dL_law_535 : decode cL_law 535 = .ok (.invokevirtual 56, 3) := by decide +kernel
theorem dL_law_538 : decode cL_law 538 = .ok (.aload_n 2, 1) := by decide +kernel
theorem dL_law_539 : decode cL_law 539 = .ok (.aload_n 0, 1) := by decide +kernel
theorem dL_law_540 : decode cL_law 540 = .ok (.iload_n 3, 1) := by decide +kernel
theorem dL_law_541 : decode cL_law 541 = .ok (.iconst 1, 1) := by decide +kernel
theorem dL_law_542 : decode cL_law 542 = .ok (.iadd, 1) := by decide +kernel
theorem dL_law_543 : decode cL_law 543 = .ok (.iaload, 1) := by decide +kernel
theorem dL_law_544 : decode cL_law 544 = .ok (.invokevirtual 59, 3) := by decide +kernel
theorem dL_law_547 : decode cL_law 547 = .ok (.if_icmp .eq 551, 3) := by decide +kernel
theorem dL_law_550 : decode cL_law 550 = .ok (.iconst 0, 1) := by decide +kernel
theorem dL_law_551 : decode cL_law 551 = .ok (.ireturn, 1) := by decide +kernel
theorem dL_law_552 : decode cL_law 552 = .ok (.aload_n 1, 1) := by decide +kernel
theorem dL_law_553 : decode cL_law 553 = .ok (.aload_n 0, 1) := by decide +kernel
theorem dL_law_554 : decode cL_law 554 = .ok (.iload_n 3, 1) := by decide +kernel
theorem dL_law_555 : decode cL_law 555 = .ok (.iconst 1, 1) := by decide +kernel
theorem dL_law_556 : decode cL_law 556 = .ok (.iadd, 1) := by decide +kernel
theorem dL_law_557 : decode cL_law 557 = .ok (.iaload, 1) := by decide +kernel
theorem dL_law_558 : decode cL_law 558 = .ok (.invokevirtual 60, 3) := by decide +kernel
theorem dL_law_561 : decode cL_law 561 = .ok (.aload_n 2, 1) := by decide +kernel
theorem dL_law_562 : decode cL_law 562 = .ok (.aload_n 0, 1) := by decide +kernel
theorem dL_law_563 : decode cL_law 563 = .ok (.iload_n 3, 1) := by decide +kernel
theorem dL_law_564 : decode cL_law 564 = .ok (.iconst 1, 1) := by decide +kernel
theorem dL_law_565 : decode cL_law 565 = .ok (.iadd, 1) := by decide +kernel
theorem dL_law_566 : decode cL_law 566 = .ok (.iaload, 1) := by decide +kernel
theorem dL_law_567 : decode cL_law 567 = .ok (.invokevirtual 63, 3) := by decide +kernel
theorem dL_law_570 : decode cL_law 570 = .ok (.if_icmp .eq 528, 3) := by decide +kernel
theorem dL_law_573 : decode cL_law 573 = .ok (.iconst 0, 1) := by decide +kernel
theorem dL_law_574 : decode cL_law 574 = .ok (.ireturn, 1) := by decide +kernel
theorem dL_law_575 : decode cL_law 575 = .ok (.aload_n 1, 1) := by decide +kernel
theorem dL_law_576 : decode cL_law 576 = .ok (.aload_n 0, 1) := by decide +kernel
theorem dL_law_577 : decode cL_law 577 = .ok (.iload_n 3, 1) := by decide +kernel
theorem dL_law_578 : decode cL_law 578 = .ok (.iconst 1, 1) := by decide +kernel
theorem dL_law_579 : decode cL_law 579 = .ok (.iadd, 1) := by decide +kernel
theorem dL_law_580 : decode cL_law 580 = .ok (.iaload, 1) := by decide +kernel
theorem dL_law_581 : decode cL_law 581 = .ok (.invokevirtual 64, 3) := by decide +kernel
theorem dL_law_584 : decode cL_law 584 = .ok (.aload_n 2, 1) := by decide +kernel
theorem dL_law_585 : decode cL_law 585 = .ok (.aload_n 0, 1) := by decide +kernel
theorem dL_law_586 : decode cL_law 586 = .ok (.iload_n 3, 1) := by decide +kernel
theorem dL_law_587 : decode cL_law 587 = .ok (.iconst 1, 1) := by decide +kernel
theorem dL_law_588 : decode cL_law 588 = .ok (.iadd, 1) := by decide +kernel
theorem dL_law_589 : decode cL_law 589 = .ok (.iaload, 1) := by decide +kernel
theorem dL_law_590 : decode cL_law 590 = .ok (.invokevirtual 67, 3) := by decide +kernel
theorem dL_law_593 : decode cL_law 593 = .ok (.if_icmp .eq 505, 3) := by decide +kernel
theorem dL_law_596 : decode cL_law 596 = .ok (.iconst 0, 1) := by decide +kernel
theorem dL_law_597 : decode cL_law 597 = .ok (.ireturn, 1) := by decide +kernel
theorem dL_law_598 : decode cL_law 598 = .ok (.aload_n 1, 1) := by decide +kernel
theorem dL_law_599 : decode cL_law 599 = .ok (.aload_n 0, 1) := by decide +kernel
theorem dL_law_600 : decode cL_law 600 = .ok (.iload_n 3, 1) := by decide +kernel
theorem dL_law_601 : decode cL_law 601 = .ok (.iconst 1, 1) := by decide +kernel
theorem dL_law_602 : decode cL_law 602 = .ok (.iadd, 1) := by decide +kernel
theorem dL_law_603 : decode cL_law 603 = .ok (.iaload, 1) := by decide +kernel
theorem dL_law_604 : decode cL_law 604 = .ok (.invokevirtual 68, 3) := by decide +kernel
theorem dL_law_607 : decode cL_law 607 = .ok (.aload_n 2, 1) := by decide +kernel
theorem dL_law_608 : decode cL_law 608 = .ok (.aload_n 0, 1) := by decide +kernel
theorem dL_law_609 : decode cL_law 609 = .ok (.iload_n 3, 1) := by decide +kernel
theorem dL_law_610 : decode cL_law 610 = .ok (.iconst 1, 1) := by decide +kernel
theorem dL_law_611 : decode cL_law 611 = .ok (.iadd, 1) := by decide +kernel
theorem dL_law_612 : decode cL_law 612 = .ok (.iaload, 1) := by decide +kernel
theorem dL_law_613 : decode cL_law 613 = .ok (.invokevirtual 71, 3) := by decide +kernel
theorem dL_law_616 : decode cL_law 616 = .ok (.if_icmp .eq 482, 3) := by decide +kernel
theorem dL_law_619 : decode cL_law 619 = .ok (.iconst 0, 1) := by decide +kernel
theorem dL_law_620 : decode cL_law 620 = .ok (.ireturn, 1) := by decide +kernel
theorem dL_law_621 : decode cL_law 621 = .ok (.aload_n 1, 1) := by decide +kernel
theorem dL_law_622 : decode cL_law 622 = .ok (.aload_n 0, 1) := by decide +kernel
theorem dL_law_623 : decode cL_law 623 = .ok (.iload_n 3, 1) := by decide +kernel
theorem dL_law_624 : decode cL_law 624 = .ok (.iconst 1, 1) := by decide +kernel
theorem dL_law_625 : decode cL_law 625 = .ok (.iadd, 1) := by decide +kernel
theorem dL_law_626 : decode cL_law 626 = .ok (.iaload, 1) := by decide +kernel
theorem dL_law_627 : decode cL_law 627 = .ok (.aload_n 0, 1) := by decide +kernel
theorem dL_law_628 : decode cL_law 628 = .ok (.iload_n 3, 1) := by decide +kernel
theorem dL_law_629 : decode cL_law 629 = .ok (.iconst 2, 1) := by decide +kernel
theorem dL_law_630 : decode cL_law 630 = .ok (.iadd, 1) := by decide +kernel
theorem dL_law_631 : decode cL_law 631 = .ok (.iaload, 1) := by decide +kernel
theorem dL_law_632 : decode cL_law 632 = .ok (.invokevirtual 72, 3) := by decide +kernel
theorem dL_law_635 : decode cL_law 635 = .ok (.aload_n 2, 1) := by decide +kernel
theorem dL_law_636 : decode cL_law 636 = .ok (.aload_n 0, 1) := by decide +kernel
theorem dL_law_637 : decode cL_law 637 = .ok (.iload_n 3, 1) := by decide +kernel
theorem dL_law_638 : decode cL_law 638 = .ok (.iconst 1, 1) := by decide +kernel
theorem dL_law_639 : decode cL_law 639 = .ok (.iadd, 1) := by decide +kernel
theorem dL_law_640 : decode cL_law 640 = .ok (.iaload, 1) := by decide +kernel
theorem dL_law_641 : decode cL_law 641 = .ok (.aload_n 0, 1) := by decide +kernel
theorem dL_law_642 : decode cL_law 642 = .ok (.iload_n 3, 1) := by decide +kernel
theorem dL_law_643 : decode cL_law 643 = .ok (.iconst 2, 1) := by decide +kernel
theorem dL_law_644 : decode cL_law 644 = .ok (.iadd, 1) := by decide +kernel
theorem dL_law_645 : decode cL_law 645 = .ok (.iaload, 1) := by decide +kernel
theorem dL_law_646 : decode cL_law 646 = .ok (.invokevirtual 75, 3) := by decide +kernel
theorem dL_law_649 : decode cL_law 649 = .ok (.if_icmp .eq 449, 3) := by decide +kernel
theorem dL_law_652 : decode cL_law 652 = .ok (.iconst 0, 1) := by decide +kernel
theorem dL_law_653 : decode cL_law 653 = .ok (.ireturn, 1) := by decide +kernel
theorem dL_law_654 : decode cL_law 654 = .ok (.aload_n 1, 1) := by decide +kernel
theorem dL_law_655 : decode cL_law 655 = .ok (.aload_n 0, 1) := by decide +kernel
theorem dL_law_656 : decode cL_law 656 = .ok (.iload_n 3, 1) := by decide +kernel
theorem dL_law_657 : decode cL_law 657 = .ok (.iconst 1, 1) := by decide +kernel
theorem dL_law_658 : decode cL_law 658 = .ok (.iadd, 1) := by decide +kernel
theorem dL_law_659 : decode cL_law 659 = .ok (.iaload, 1) := by decide +kernel
theorem dL_law_660 : decode cL_law 660 = .ok (.aload_n 0, 1) := by decide +kernel
theorem dL_law_661 : decode cL_law 661 = .ok (.iload_n 3, 1) := by decide +kernel
theorem dL_law_662 : decode cL_law 662 = .ok (.iconst 2, 1) := by decide +kernel
theorem dL_law_663 : decode cL_law 663 = .ok (.iadd, 1) := by decide +kernel
theorem dL_law_664 : decode cL_law 664 = .ok (.iaload, 1) := by decide +kernel
theorem dL_law_665 : decode cL_law 665 = .ok (.aload_n 0, 1) := by decide +kernel
theorem dL_law_666 : decode cL_law 666 = .ok (.iload_n 3, 1) := by decide +kernel
theorem dL_law_667 : decode cL_law 667 = .ok (.iconst 3, 1) := by decide +kernel
theorem dL_law_668 : decode cL_law 668 = .ok (.iadd, 1) := by decide +kernel
theorem dL_law_669 : decode cL_law 669 = .ok (.iaload, 1) := by decide +kernel
theorem dL_law_670 : decode cL_law 670 = .ok (.invokevirtual 76, 3) := by decide +kernel
theorem dL_law_673 : decode cL_law 673 = .ok (.aload_n 2, 1) := by decide +kernel
theorem dL_law_674 : decode cL_law 674 = .ok (.aload_n 0, 1) := by decide +kernel
theorem dL_law_675 : decode cL_law 675 = .ok (.iload_n 3, 1) := by decide +kernel
theorem dL_law_676 : decode cL_law 676 = .ok (.iconst 1, 1) := by decide +kernel
theorem dL_law_677 : decode cL_law 677 = .ok (.iadd, 1) := by decide +kernel
theorem dL_law_678 : decode cL_law 678 = .ok (.iaload, 1) := by decide +kernel
theorem dL_law_679 : decode cL_law 679 = .ok (.aload_n 0, 1) := by decide +kernel
theorem dL_law_680 : decode cL_law 680 = .ok (.iload_n 3, 1) := by decide +kernel
theorem dL_law_681 : decode cL_law 681 = .ok (.iconst 2, 1) := by decide +kernel
theorem dL_law_682 : decode cL_law 682 = .ok (.iadd, 1) := by decide +kernel
theorem dL_law_683 : decode cL_law 683 = .ok (.iaload, 1) := by decide +kernel
theorem dL_law_684 : decode cL_law 684 = .ok (.aload_n 0, 1) := by decide +kernel
theorem dL_law_685 : decode cL_law 685 = .ok (.iload_n 3, 1) := by decide +kernel
theorem dL_law_686 : decode cL_law 686 = .ok (.iconst 3, 1) := by decide +kernel
theorem dL_law_687 : decode cL_law 687 = .ok (.iadd, 1) := by decide +kernel
theorem dL_law_688 : decode cL_law 688 = .ok (.iaload, 1) := by decide +kernel
theorem dL_law_689 : decode cL_law 689 = .ok (.invokevirtual 79, 3) := by decide +kernel
theorem dL_law_692 : decode cL_law 692 = .ok (.if_icmp .eq 406, 3) := by decide +kernel
theorem dL_law_695 : decode cL_law 695 = .ok (.iconst 0, 1) := by decide +kernel
theorem dL_law_696 : decode cL_law 696 = .ok (.ireturn, 1) := by decide +kernel
theorem dL_law_697 : decode cL_law 697 = .ok (.aload_n 1, 1) := by decide +kernel
theorem dL_law_698 : decode cL_law 698 = .ok (.aload_n 0, 1) := by decide +kernel
theorem dL_law_699 : decode cL_law 699 = .ok (.iload_n 3, 1) := by decide +kernel
theorem dL_law_700 : decode cL_law 700 = .ok (.iconst 1, 1) := by decide +kernel
theorem dL_law_701 : decode cL_law 701 = .ok (.iadd, 1) := by decide +kernel
theorem dL_law_702 : decode cL_law 702 = .ok (.iaload, 1) := by decide +kernel
theorem dL_law_703 : decode cL_law 703 = .ok (.aload_n 0, 1) := by decide +kernel
theorem dL_law_704 : decode cL_law 704 = .ok (.iload_n 3, 1) := by decide +kernel
theorem dL_law_705 : decode cL_law 705 = .ok (.iconst 2, 1) := by decide +kernel
theorem dL_law_706 : decode cL_law 706 = .ok (.iadd, 1) := by decide +kernel
theorem dL_law_707 : decode cL_law 707 = .ok (.iaload, 1) := by decide +kernel
theorem dL_law_708 : decode cL_law 708 = .ok (.invokevirtual 80, 3) := by decide +kernel
theorem dL_law_711 : decode cL_law 711 = .ok (.aload_n 2, 1) := by decide +kernel
theorem dL_law_712 : decode cL_law 712 = .ok (.aload_n 0, 1) := by decide +kernel
theorem dL_law_713 : decode cL_law 713 = .ok (.iload_n 3, 1) := by decide +kernel
theorem dL_law_714 : decode cL_law 714 = .ok (.iconst 1, 1) := by decide +kernel
theorem dL_law_715 : decode cL_law 715 = .ok (.iadd, 1) := by decide +kernel
theorem dL_law_716 : decode cL_law 716 = .ok (.iaload, 1) := by decide +kernel
theorem dL_law_717 : decode cL_law 717 = .ok (.aload_n 0, 1) := by decide +kernel
theorem dL_law_718 : decode cL_law 718 = .ok (.iload_n 3, 1) := by decide +kernel
theorem dL_law_719 : decode cL_law 719 = .ok (.iconst 2, 1) := by decide +kernel
theorem dL_law_720 : decode cL_law 720 = .ok (.iadd, 1) := by decide +kernel
theorem dL_law_721 : decode cL_law 721 = .ok (.iaload, 1) := by decide +kernel
theorem dL_law_722 : decode cL_law 722 = .ok (.invokevirtual 83, 3) := by decide +kernel
theorem dL_law_725 : decode cL_law 725 = .ok (.if_icmp .eq 373, 3) := by decide +kernel
theorem dL_law_728 : decode cL_law 728 = .ok (.iconst 0, 1) := by decide +kernel
theorem dL_law_729 : decode cL_law 729 = .ok (.ireturn, 1) := by decide +kernel
theorem dL_law_730 : decode cL_law 730 = .ok (.aload_n 1, 1) := by decide +kernel
theorem dL_law_731 : decode cL_law 731 = .ok (.aload_n 0, 1) := by decide +kernel
theorem dL_law_732 : decode cL_law 732 = .ok (.iload_n 3, 1) := by decide +kernel
theorem dL_law_733 : decode cL_law 733 = .ok (.iconst 1, 1) := by decide +kernel
theorem dL_law_734 : decode cL_law 734 = .ok (.iadd, 1) := by decide +kernel
theorem dL_law_735 : decode cL_law 735 = .ok (.iaload, 1) := by decide +kernel
theorem dL_law_736 : decode cL_law 736 = .ok (.aload_n 0, 1) := by decide +kernel
theorem dL_law_737 : decode cL_law 737 = .ok (.iload_n 3, 1) := by decide +kernel
theorem dL_law_738 : decode cL_law 738 = .ok (.iconst 2, 1) := by decide +kernel
theorem dL_law_739 : decode cL_law 739 = .ok (.iadd, 1) := by decide +kernel
theorem dL_law_740 : decode cL_law 740 = .ok (.iaload, 1) := by decide +kernel
theorem dL_law_741 : decode cL_law 741 = .ok (.invokevirtual 84, 3) := by decide +kernel
theorem dL_law_744 : decode cL_law 744 = .ok (.aload_n 2, 1) := by decide +kernel
theorem dL_law_745 : decode cL_law 745 = .ok (.aload_n 0, 1) := by decide +kernel
theorem dL_law_746 : decode cL_law 746 = .ok (.iload_n 3, 1) := by decide +kernel
theorem dL_law_747 : decode cL_law 747 = .ok (.iconst 1, 1) := by decide +kernel
theorem dL_law_748 : decode cL_law 748 = .ok (.iadd, 1) := by decide +kernel
theorem dL_law_749 : decode cL_law 749 = .ok (.iaload, 1) := by decide +kernel
theorem dL_law_750 : decode cL_law 750 = .ok (.aload_n 0, 1) := by decide +kernel
theorem dL_law_751 : decode cL_law 751 = .ok (.iload_n 3, 1) := by decide +kernel
theorem dL_law_752 : decode cL_law 752 = .ok (.iconst 2, 1) := by decide +kernel
theorem dL_law_753 : decode cL_law 753 = .ok (.iadd, 1) := by decide +kernel
theorem dL_law_754 : decode cL_law 754 = .ok (.iaload, 1) := by decide +kernel
theorem dL_law_755 : decode cL_law 755 = .ok (.invokevirtual 87, 3) := by decide +kernel
theorem dL_law_758 : decode cL_law 758 = .ok (.if_icmp .eq 340, 3) := by decide +kernel
theorem dL_law_761 : decode cL_law 761 = .ok (.iconst 0, 1) := by decide +kernel
theorem dL_law_762 : decode cL_law 762 = .ok (.ireturn, 1) := by decide +kernel
theorem dL_law_763 : decode cL_law 763 = .ok (.aload_n 1, 1) := by decide +kernel
theorem dL_law_764 : decode cL_law 764 = .ok (.invokevirtual 88, 3) := by decide +kernel
theorem dL_law_767 : decode cL_law 767 = .ok (.aload_n 2, 1) := by decide +kernel
theorem dL_law_768 : decode cL_law 768 = .ok (.invokevirtual 91, 3) := by decide +kernel
theorem dL_law_771 : decode cL_law 771 = .ok (.if_icmp .eq 327, 3) := by decide +kernel
theorem dL_law_774 : decode cL_law 774 = .ok (.iconst 0, 1) := by decide +kernel
theorem dL_law_775 : decode cL_law 775 = .ok (.ireturn, 1) := by decide +kernel
theorem dL_law_776 : decode cL_law 776 = .ok (.aload_n 1, 1) := by decide +kernel
theorem dL_law_777 : decode cL_law 777 = .ok (.aload_n 0, 1) := by decide +kernel
theorem dL_law_778 : decode cL_law 778 = .ok (.iload_n 3, 1) := by decide +kernel
theorem dL_law_779 : decode cL_law 779 = .ok (.iconst 1, 1) := by decide +kernel
theorem dL_law_780 : decode cL_law 780 = .ok (.iadd, 1) := by decide +kernel
theorem dL_law_781 : decode cL_law 781 = .ok (.iaload, 1) := by decide +kernel
theorem dL_law_782 : decode cL_law 782 = .ok (.invokevirtual 92, 3) := by decide +kernel
theorem dL_law_785 : decode cL_law 785 = .ok (.aload_n 2, 1) := by decide +kernel
theorem dL_law_786 : decode cL_law 786 = .ok (.aload_n 0, 1) := by decide +kernel
theorem dL_law_787 : decode cL_law 787 = .ok (.iload_n 3, 1) := by decide +kernel
theorem dL_law_788 : decode cL_law 788 = .ok (.iconst 1, 1) := by decide +kernel
theorem dL_law_789 : decode cL_law 789 = .ok (.iadd, 1) := by decide +kernel
theorem dL_law_790 : decode cL_law 790 = .ok (.iaload, 1) := by decide +kernel
theorem dL_law_791 : decode cL_law 791 = .ok (.invokevirtual 95, 3) := by decide +kernel
theorem dL_law_794 : decode cL_law 794 = .ok (.if_icmp .eq 304, 3) := by decide +kernel
theorem dL_law_797 : decode cL_law 797 = .ok (.iconst 0, 1) := by decide +kernel
theorem dL_law_798 : decode cL_law 798 = .ok (.ireturn, 1) := by decide +kernel
theorem dL_law_799 : decode cL_law 799 = .ok (.aload_n 1, 1) := by decide +kernel
theorem dL_law_800 : decode cL_law 800 = .ok (.aload_n 0, 1) := by decide +kernel
theorem dL_law_801 : decode cL_law 801 = .ok (.iload_n 3, 1) := by decide +kernel
theorem dL_law_802 : decode cL_law 802 = .ok (.iconst 1, 1) := by decide +kernel
theorem dL_law_803 : decode cL_law 803 = .ok (.iadd, 1) := by decide +kernel
theorem dL_law_804 : decode cL_law 804 = .ok (.iaload, 1) := by decide +kernel
theorem dL_law_805 : decode cL_law 805 = .ok (.invokevirtual 96, 3) := by decide +kernel
theorem dL_law_808 : decode cL_law 808 = .ok (.aload_n 2, 1) := by decide +kernel
theorem dL_law_809 : decode cL_law 809 = .ok (.aload_n 0, 1) := by decide +kernel
theorem dL_law_810 : decode cL_law 810 = .ok (.iload_n 3, 1) := by decide +kernel
theorem dL_law_811 : decode cL_law 811 = .ok (.iconst 1, 1) := by decide +kernel
theorem dL_law_812 : decode cL_law 812 = .ok (.iadd, 1) := by decide +kernel
theorem dL_law_813 : decode cL_law 813 = .ok (.iaload, 1) := by decide +kernel
theorem dL_law_814 : decode cL_law 814 = .ok (.invokevirtual 99, 3) := by decide +kernel
theorem dL_law_817 : decode cL_law 817 = .ok (.if_icmp .eq 281, 3) := by decide +kernel
theorem dL_law_820 : decode cL_law 820 = .ok (.iconst 0, 1) := by decide +kernel
theorem dL_law_821 : decode cL_law 821 = .ok (.ireturn, 1) := by decide +kernel
theorem dL_law_822 : decode cL_law 822 = .ok (.aload_n 1, 1) := by decide +kernel
theorem dL_law_823 : decode cL_law 823 = .ok (.aload_n 0, 1) := by decide +kernel
theorem dL_law_824 : decode cL_law 824 = .ok (.iload_n 3, 1) := by decide +kernel
theorem dL_law_825 : decode cL_law 825 = .ok (.iconst 1, 1) := by decide +kernel
theorem dL_law_826 : decode cL_law 826 = .ok (.iadd, 1) := by decide +kernel
theorem dL_law_827 : decode cL_law 827 = .ok (.iaload, 1) := by decide +kernel
theorem dL_law_828 : decode cL_law 828 = .ok (.invokevirtual 100, 3) := by decide +kernel
theorem dL_law_831 : decode cL_law 831 = .ok (.aload_n 2, 1) := by decide +kernel
theorem dL_law_832 : decode cL_law 832 = .ok (.aload_n 0, 1) := by decide +kernel
theorem dL_law_833 : decode cL_law 833 = .ok (.iload_n 3, 1) := by decide +kernel
theorem dL_law_834 : decode cL_law 834 = .ok (.iconst 1, 1) := by decide +kernel
theorem dL_law_835 : decode cL_law 835 = .ok (.iadd, 1) := by decide +kernel
theorem dL_law_836 : decode cL_law 836 = .ok (.iaload, 1) := by decide +kernel
theorem dL_law_837 : decode cL_law 837 = .ok (.invokevirtual 103, 3) := by decide +kernel
theorem dL_law_840 : decode cL_law 840 = .ok (.if_icmp .eq 258, 3) := by decide +kernel
theorem dL_law_843 : decode cL_law 843 = .ok (.iconst 0, 1) := by decide +kernel
theorem dL_law_844 : decode cL_law 844 = .ok (.ireturn, 1) := by decide +kernel
theorem dL_law_845 : decode cL_law 845 = .ok (.aload_n 1, 1) := by decide +kernel
theorem dL_law_846 : decode cL_law 846 = .ok (.invokevirtual 104, 3) := by decide +kernel
theorem dL_law_849 : decode cL_law 849 = .ok (.aload_n 2, 1) := by decide +kernel
theorem dL_law_850 : decode cL_law 850 = .ok (.invokevirtual 107, 3) := by decide +kernel
theorem dL_law_853 : decode cL_law 853 = .ok (.if_icmp .eq 245, 3) := by decide +kernel
theorem dL_law_856 : decode cL_law 856 = .ok (.iconst 0, 1) := by decide +kernel
theorem dL_law_857 : decode cL_law 857 = .ok (.ireturn, 1) := by decide +kernel
theorem dL_law_858 : decode cL_law 858 = .ok (.aload_n 1, 1) := by decide +kernel
theorem dL_law_859 : decode cL_law 859 = .ok (.aload_n 0, 1) := by decide +kernel
theorem dL_law_860 : decode cL_law 860 = .ok (.iload_n 3, 1) := by decide +kernel
theorem dL_law_861 : decode cL_law 861 = .ok (.iconst 1, 1) := by decide +kernel
theorem dL_law_862 : decode cL_law 862 = .ok (.iadd, 1) := by decide +kernel
theorem dL_law_863 : decode cL_law 863 = .ok (.iaload, 1) := by decide +kernel
theorem dL_law_864 : decode cL_law 864 = .ok (.aload_n 0, 1) := by decide +kernel
theorem dL_law_865 : decode cL_law 865 = .ok (.iload_n 3, 1) := by decide +kernel
theorem dL_law_866 : decode cL_law 866 = .ok (.iconst 2, 1) := by decide +kernel
theorem dL_law_867 : decode cL_law 867 = .ok (.iadd, 1) := by decide +kernel
theorem dL_law_868 : decode cL_law 868 = .ok (.iaload, 1) := by decide +kernel
theorem dL_law_869 : decode cL_law 869 = .ok (.invokevirtual 108, 3) := by decide +kernel
theorem dL_law_872 : decode cL_law 872 = .ok (.aload_n 2, 1) := by decide +kernel
theorem dL_law_873 : decode cL_law 873 = .ok (.aload_n 0, 1) := by decide +kernel
theorem dL_law_874 : decode cL_law 874 = .ok (.iload_n 3, 1) := by decide +kernel
theorem dL_law_875 : decode cL_law 875 = .ok (.iconst 1, 1) := by decide +kernel
theorem dL_law_876 : decode cL_law 876 = .ok (.iadd, 1) := by decide +kernel
theorem dL_law_877 : decode cL_law 877 = .ok (.iaload, 1) := by decide +kernel
theorem dL_law_878 : decode cL_law 878 = .ok (.aload_n 0, 1) := by decide +kernel
theorem dL_law_879 : decode cL_law 879 = .ok (.iload_n 3, 1) := by decide +kernel
theorem dL_law_880 : decode cL_law 880 = .ok (.iconst 2, 1) := by decide +kernel
theorem dL_law_881 : decode cL_law 881 = .ok (.iadd, 1) := by decide +kernel
theorem dL_law_882 : decode cL_law 882 = .ok (.iaload, 1) := by decide +kernel
theorem dL_law_883 : decode cL_law 883 = .ok (.invokevirtual 111, 3) := by decide +kernel
theorem dL_law_886 : decode cL_law 886 = .ok (.if_icmp .eq 212, 3) := by decide +kernel
theorem dL_law_889 : decode cL_law 889 = .ok (.iconst 0, 1) := by decide +kernel
theorem dL_law_890 : decode cL_law 890 = .ok (.ireturn, 1) := by decide +kernel
theorem dL_law_891 : decode cL_law 891 = .ok (.aload_n 1, 1) := by decide +kernel
theorem dL_law_892 : decode cL_law 892 = .ok (.aload_n 0, 1) := by decide +kernel
theorem dL_law_893 : decode cL_law 893 = .ok (.iload_n 3, 1) := by decide +kernel
theorem dL_law_894 : decode cL_law 894 = .ok (.iconst 1, 1) := by decide +kernel
theorem dL_law_895 : decode cL_law 895 = .ok (.iadd, 1) := by decide +kernel
theorem dL_law_896 : decode cL_law 896 = .ok (.iaload, 1) := by decide +kernel
theorem dL_law_897 : decode cL_law 897 = .ok (.invokevirtual 112, 3) := by decide +kernel
theorem dL_law_900 : decode cL_law 900 = .ok (.aload_n 2, 1) := by decide +kernel
theorem dL_law_901 : decode cL_law 901 = .ok (.aload_n 0, 1) := by decide +kernel
theorem dL_law_902 : decode cL_law 902 = .ok (.iload_n 3, 1) := by decide +kernel
theorem dL_law_903 : decode cL_law 903 = .ok (.iconst 1, 1) := by decide +kernel
theorem dL_law_904 : decode cL_law 904 = .ok (.iadd, 1) := by decide +kernel
theorem dL_law_905 : decode cL_law 905 = .ok (.iaload, 1) := by decide +kernel
theorem dL_law_906 : decode cL_law 906 = .ok (.invokevirtual 115, 3) := by decide +kernel
theorem dL_law_909 : decode cL_law 909 = .ok (.if_icmp .eq 189, 3) := by decide +kernel
theorem dL_law_912 : decode cL_law 912 = .ok (.iconst 0, 1) := by decide +kernel
theorem dL_law_913 : decode cL_law 913 = .ok (.ireturn, 1) := by decide +kernel
theorem dL_law_914 : decode cL_law 914 = .ok (.aload_n 1, 1) := by decide +kernel
theorem dL_law_915 : decode cL_law 915 = .ok (.aload_n 0, 1) := by decide +kernel
theorem dL_law_916 : decode cL_law 916 = .ok (.iload_n 3, 1) := by decide +kernel
theorem dL_law_917 : decode cL_law 917 = .ok (.iconst 1, 1) := by decide +kernel
theorem dL_law_918 : decode cL_law 918 = .ok (.iadd, 1) := by decide +kernel
theorem dL_law_919 : decode cL_law 919 = .ok (.iaload, 1) := by decide +kernel
theorem dL_law_920 : decode cL_law 920 = .ok (.invokevirtual 116, 3) := by decide +kernel
theorem dL_law_923 : decode cL_law 923 = .ok (.aload_n 2, 1) := by decide +kernel
theorem dL_law_924 : decode cL_law 924 = .ok (.aload_n 0, 1) := by decide +kernel
theorem dL_law_925 : decode cL_law 925 = .ok (.iload_n 3, 1) := by decide +kernel
theorem dL_law_926 : decode cL_law 926 = .ok (.iconst 1, 1) := by decide +kernel
theorem dL_law_927 : decode cL_law 927 = .ok (.iadd, 1) := by decide +kernel
theorem dL_law_928 : decode cL_law 928 = .ok (.iaload, 1) := by decide +kernel
theorem dL_law_929 : decode cL_law 929 = .ok (.invokevirtual 119, 3) := by decide +kernel
theorem dL_law_932 : decode cL_law 932 = .ok (.if_icmp .eq 166, 3) := by decide +kernel
theorem dL_law_935 : decode cL_law 935 = .ok (.iconst 0, 1) := by decide +kernel
theorem dL_law_936 : decode cL_law 936 = .ok (.ireturn, 1) := by decide +kernel
theorem dL_law_937 : decode cL_law 937 = .ok (.aload_n 1, 1) := by decide +kernel
theorem dL_law_938 : decode cL_law 938 = .ok (.invokevirtual 120, 3) := by decide +kernel
theorem dL_law_941 : decode cL_law 941 = .ok (.aload_n 2, 1) := by decide +kernel
theorem dL_law_942 : decode cL_law 942 = .ok (.invokevirtual 123, 3) := by decide +kernel
theorem dL_law_945 : decode cL_law 945 = .ok (.if_icmp .eq 153, 3) := by decide +kernel
theorem dL_law_948 : decode cL_law 948 = .ok (.iconst 0, 1) := by decide +kernel
theorem dL_law_949 : decode cL_law 949 = .ok (.ireturn, 1) := by decide +kernel
theorem dL_law_950 : decode cL_law 950 = .ok (.aload_n 1, 1) := by decide +kernel
theorem dL_law_951 : decode cL_law 951 = .ok (.invokevirtual 124, 3) := by decide +kernel
theorem dL_law_954 : decode cL_law 954 = .ok (.aload_n 2, 1) := by decide +kernel
theorem dL_law_955 : decode cL_law 955 = .ok (.invokevirtual 127, 3) := by decide +kernel
theorem dL_law_958 : decode cL_law 958 = .ok (.if_icmp .eq 140, 3) := by decide +kernel
theorem dL_law_961 : decode cL_law 961 = .ok (.iconst 0, 1) := by decide +kernel
theorem dL_law_962 : decode cL_law 962 = .ok (.ireturn, 1) := by decide +kernel
theorem dL_law_963 : decode cL_law 963 = .ok (.aload_n 1, 1) := by decide +kernel
theorem dL_law_964 : decode cL_law 964 = .ok (.aload_n 0, 1) := by decide +kernel
theorem dL_law_965 : decode cL_law 965 = .ok (.iload_n 3, 1) := by decide +kernel
theorem dL_law_966 : decode cL_law 966 = .ok (.iconst 1, 1) := by decide +kernel
theorem dL_law_967 : decode cL_law 967 = .ok (.iadd, 1) := by decide +kernel
theorem dL_law_968 : decode cL_law 968 = .ok (.iaload, 1) := by decide +kernel
theorem dL_law_969 : decode cL_law 969 = .ok (.invokevirtual 128, 3) := by decide +kernel
theorem dL_law_972 : decode cL_law 972 = .ok (.aload_n 2, 1) := by decide +kernel
theorem dL_law_973 : decode cL_law 973 = .ok (.aload_n 0, 1) := by decide +kernel
theorem dL_law_974 : decode cL_law 974 = .ok (.iload_n 3, 1) := by decide +kernel
theorem dL_law_975 : decode cL_law 975 = .ok (.iconst 1, 1) := by decide +kernel
theorem dL_law_976 : decode cL_law 976 = .ok (.iadd, 1) := by decide +kernel
theorem dL_law_977 : decode cL_law 977 = .ok (.iaload, 1) := by decide +kernel
theorem dL_law_978 : decode cL_law 978 = .ok (.invokevirtual 131, 3) := by decide +kernel
theorem dL_law_981 : decode cL_law 981 = .ok (.if_icmp .eq 117, 3) := by decide +kernel
theorem dL_law_984 : decode cL_law 984 = .ok (.iconst 0, 1) := by decide +kernel
theorem dL_law_985 : decode cL_law 985 = .ok (.ireturn, 1) := by decide +kernel
theorem dL_law_986 : decode cL_law 986 = .ok (.aload_n 1, 1) := by decide +kernel
theorem dL_law_987 : decode cL_law 987 = .ok (.aload_n 0, 1) := by decide +kernel
theorem dL_law_988 : decode cL_law 988 = .ok (.iload_n 3, 1) := by decide +kernel
theorem dL_law_989 : decode cL_law 989 = .ok (.iconst 1, 1) := by decide +kernel
theorem dL_law_990 : decode cL_law 990 = .ok (.iadd, 1) := by decide +kernel
theorem dL_law_991 : decode cL_law 991 = .ok (.iaload, 1) := by decide +kernel
theorem dL_law_992 : decode cL_law 992 = .ok (.invokevirtual 132, 3) := by decide +kernel
theorem dL_law_995 : decode cL_law 995 = .ok (.aload_n 2, 1) := by decide +kernel
theorem dL_law_996 : decode cL_law 996 = .ok (.aload_n 0, 1) := by decide +kernel
theorem dL_law_997 : decode cL_law 997 = .ok (.iload_n 3, 1) := by decide +kernel
theorem dL_law_998 : decode cL_law 998 = .ok (.iconst 1, 1) := by decide +kernel
theorem dL_law_999 : decode cL_law 999 = .ok (.iadd, 1) := by decide +kernel
theorem dL_law_1000 : decode cL_law 1000 = .ok (.iaload, 1) := by decide +kernel
theorem dL_law_1001 : decode cL_law 1001 = .ok (.invokevirtual 135, 3) := by decide +kernel
theorem dL_law_1004 : decode cL_law 1004 = .ok (.if_icmp .eq 94, 3) := by decide +kernel
theorem dL_law_1007 : decode cL_law 1007 = .ok (.iconst 0, 1) := by decide +kernel
theorem dL_law_1008 : decode cL_law 1008 = .ok (.ireturn, 1) := by decide +kernel
theorem dL_law_1009 : decode cL_law 1009 = .ok (.aload_n 1, 1) := by decide +kernel
theorem dL_law_1010 : decode cL_law 1010 = .ok (.aload_n 0, 1) := by decide +kernel
theorem dL_law_1011 : decode cL_law 1011 = .ok (.iload_n 3, 1) := by decide +kernel
theorem dL_law_1012 : decode cL_law 1012 = .ok (.iconst 1, 1) := by decide +kernel
theorem dL_law_1013 : decode cL_law 1013 = .ok (.iadd, 1) := by decide +kernel
theorem dL_law_1014 : decode cL_law 1014 = .ok (.iaload, 1) := by decide +kernel
theorem dL_law_1015 : decode cL_law 1015 = .ok (.aload_n 0, 1) := by decide +kernel
theorem dL_law_1016 : decode cL_law 1016 = .ok (.iload_n 3, 1) := by decide +kernel
theorem dL_law_1017 : decode cL_law 1017 = .ok (.iconst 2, 1) := by decide +kernel
theorem dL_law_1018 : decode cL_law 1018 = .ok (.iadd, 1) := by decide +kernel
theorem dL_law_1019 : decode cL_law 1019 = .ok (.iaload, 1) := by decide +kernel
theorem dL_law_1020 : decode cL_law 1020 = .ok (.aload_n 0, 1) := by decide +kernel
theorem dL_law_1021 : decode cL_law 1021 = .ok (.iload_n 3, 1) := by decide +kernel
theorem dL_law_1022 : decode cL_law 1022 = .ok (.iconst 3, 1) := by decide +kernel
theorem dL_law_1023 : decode cL_law 1023 = .ok (.iadd, 1) := by decide +kernel
theorem dL_law_1024 : decode cL_law 1024 = .ok (.iaload, 1) := by decide +kernel
theorem dL_law_1025 : decode cL_law 1025 = .ok (.invokevirtual 136, 3) := by decide +kernel
theorem dL_law_1028 : decode cL_law 1028 = .ok (.aload_n 2, 1) := by decide +kernel
theorem dL_law_1029 : decode cL_law 1029 = .ok (.aload_n 0, 1) := by decide +kernel
theorem dL_law_1030 : decode cL_law 1030 = .ok (.iload_n 3, 1) := by decide +kernel
theorem dL_law_1031 : decode cL_law 1031 = .ok (.iconst 1, 1) := by decide +kernel
theorem dL_law_1032 : decode cL_law 1032 = .ok (.iadd, 1) := by decide +kernel
theorem dL_law_1033 : decode cL_law 1033 = .ok (.iaload, 1) := by decide +kernel
theorem dL_law_1034 : decode cL_law 1034 = .ok (.aload_n 0, 1) := by decide +kernel
theorem dL_law_1035 : decode cL_law 1035 = .ok (.iload_n 3, 1) := by decide +kernel
theorem dL_law_1036 : decode cL_law 1036 = .ok (.iconst 2, 1) := by decide +kernel
theorem dL_law_1037 : decode cL_law 1037 = .ok (.iadd, 1) := by decide +kernel
theorem dL_law_1038 : decode cL_law 1038 = .ok (.iaload, 1) := by decide +kernel
theorem dL_law_1039 : decode cL_law 1039 = .ok (.aload_n 0, 1) := by decide +kernel
theorem dL_law_1040 : decode cL_law 1040 = .ok (.iload_n 3, 1) := by decide +kernel
theorem dL_law_1041 : decode cL_law 1041 = .ok (.iconst 3, 1) := by decide +kernel
theorem dL_law_1042 : decode cL_law 1042 = .ok (.iadd, 1) := by decide +kernel
theorem dL_law_1043 : decode cL_law 1043 = .ok (.iaload, 1) := by decide +kernel
theorem dL_law_1044 : decode cL_law 1044 = .ok (.invokevirtual 139, 3) := by decide +kernel
theorem dL_law_1047 : decode cL_law 1047 = .ok (.if_icmp .eq 51, 3) := by decide +kernel
theorem dL_law_1050 : decode cL_law 1050 = .ok (.iconst 0, 1) := by decide +kernel
theorem dL_law_1051 : decode cL_law 1051 = .ok (.ireturn, 1) := by decide +kernel
theorem dL_law_1052 : decode cL_law 1052 = .ok (.aload_n 1, 1) := by decide +kernel
theorem dL_law_1053 : decode cL_law 1053 = .ok (.aload_n 0, 1) := by decide +kernel
theorem dL_law_1054 : decode cL_law 1054 = .ok (.iload_n 3, 1) := by decide +kernel
theorem dL_law_1055 : decode cL_law 1055 = .ok (.iconst 1, 1) := by decide +kernel
theorem dL_law_1056 : decode cL_law 1056 = .ok (.iadd, 1) := by decide +kernel
theorem dL_law_1057 : decode cL_law 1057 = .ok (.iaload, 1) := by decide +kernel
theorem dL_law_1058 : decode cL_law 1058 = .ok (.invokevirtual 140, 3) := by decide +kernel
theorem dL_law_1061 : decode cL_law 1061 = .ok (.aload_n 2, 1) := by decide +kernel
theorem dL_law_1062 : decode cL_law 1062 = .ok (.aload_n 0, 1) := by decide +kernel
theorem dL_law_1063 : decode cL_law 1063 = .ok (.iload_n 3, 1) := by decide +kernel
theorem dL_law_1064 : decode cL_law 1064 = .ok (.iconst 1, 1) := by decide +kernel
theorem dL_law_1065 : decode cL_law 1065 = .ok (.iadd, 1) := by decide +kernel
theorem dL_law_1066 : decode cL_law 1066 = .ok (.iaload, 1) := by decide +kernel
theorem dL_law_1067 : decode cL_law 1067 = .ok (.invokevirtual 143, 3) := by decide +kernel
theorem dL_law_1070 : decode cL_law 1070 = .ok (.if_icmp .eq 28, 3) := by decide +kernel
theorem dL_law_1073 : decode cL_law 1073 = .ok (.iconst 0, 1) := by decide +kernel
theorem dL_law_1074 : decode cL_law 1074 = .ok (.ireturn, 1) := by decide +kernel
theorem dL_law_1075 : decode cL_law 1075 = .ok (.aload_n 1, 1) := by decide +kernel
theorem dL_law_1076 : decode cL_law 1076 = .ok (.aload_n 0, 1) := by decide +kernel
theorem dL_law_1077 : decode cL_law 1077 = .ok (.iload_n 3, 1) := by decide +kernel
theorem dL_law_1078 : decode cL_law 1078 = .ok (.iconst 1, 1) := by decide +kernel
theorem dL_law_1079 : decode cL_law 1079 = .ok (.iadd, 1) := by decide +kernel
theorem dL_law_1080 : decode cL_law 1080 = .ok (.iaload, 1) := by decide +kernel
theorem dL_law_1081 : decode cL_law 1081 = .ok (.invokevirtual 144, 3) := by decide +kernel
theorem dL_law_1084 : decode cL_law 1084 = .ok (.aload_n 2, 1) := by decide +kernel
theorem dL_law_1085 : decode cL_law 1085 = .ok (.aload_n 0, 1) := by decide +kernel
theorem dL_law_1086 : decode cL_law 1086 = .ok (.iload_n 3, 1) := by decide +kernel
theorem dL_law_1087 : decode cL_law 1087 = .ok (.iconst 1, 1) := by decide +kernel
theorem dL_law_1088 : decode cL_law 1088 = .ok (.iadd, 1) := by decide +kernel
theorem dL_law_1089 : decode cL_law 1089 = .ok (.iaload, 1) := by decide +kernel
theorem dL_law_1090 : decode cL_law 1090 = .ok (.invokevirtual 147, 3) := by decide +kernel
theorem dL_law_1093 : decode cL_law 1093 = .ok (.if_icmp .eq 5, 3) := by decide +kernel
theorem dL_law_1096 : decode cL_law 1096 = .ok (.iconst 0, 1) := by decide +kernel
theorem dL_law_1097 : decode cL_law 1097 = .ok (.ireturn, 1) := by decide +kernel
theorem dL_law_1098 : decode cL_law 1098 = .ok (.iinc 3 6, 3) := by decide +kernel
theorem dL_law_1101 : decode cL_law 1101 = .ok (.goto (-1083), 3) := by decide +kernel
theorem dL_law_1104 : decode cL_law 1104 = .ok (.iconst 1, 1) := by decide +kernel
theorem dL_law_1105 : decode cL_law 1105 = .ok (.ireturn, 1) := by decide +kernel
