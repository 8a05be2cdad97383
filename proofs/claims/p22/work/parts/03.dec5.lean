theorem dX7_addReport_86 : decode cX7_addReport 86 = .ok (.aload_n 0, 1) := by decide +kernel
theorem dX7_addReport_87 : decode cX7_addReport 87 = .ok (.dup, 1) := by decide +kernel
theorem dX7_addReport_88 : decode cX7_addReport 88 = .ok (.getfield 35, 3) := by decide +kernel
theorem dX7_addReport_91 : decode cX7_addReport 91 = .ok (.iconst 1, 1) := by decide +kernel
theorem dX7_addReport_92 : decode cX7_addReport 92 = .ok (.iadd, 1) := by decide +kernel
theorem dX7_addReport_93 : decode cX7_addReport 93 = .ok (.putfield 35, 3) := by decide +kernel
theorem dX7_addReport_96 : decode cX7_addReport 96 = .ok (.iload 7, 2) := by decide +kernel
theorem dX7_addReport_98 : decode cX7_addReport 98 = .ok (.ireturn, 1) := by decide +kernel
theorem dX7_addVoid_0 : decode cX7_addVoid 0 = .ok (.aload_n 0, 1) := by decide +kernel
theorem dX7_addVoid_1 : decode cX7_addVoid 1 = .ok (.iconst 4, 1) := by decide +kernel
theorem dX7_addVoid_2 : decode cX7_addVoid 2 = .ok (.iload_n 1, 1) := by decide +kernel
theorem dX7_addVoid_3 : decode cX7_addVoid 3 = .ok (.iconst 0, 1) := by decide +kernel
theorem dX7_addVoid_4 : decode cX7_addVoid 4 = .ok (.iconst 0, 1) := by decide +kernel
theorem dX7_addVoid_5 : decode cX7_addVoid 5 = .ok (.invokevirtual 38, 3) := by decide +kernel
theorem dX7_addVoid_8 : decode cX7_addVoid 8 = .ok (.istore_n 2, 1) := by decide +kernel
theorem dX7_addVoid_9 : decode cX7_addVoid 9 = .ok (.aload_n 0, 1) := by decide +kernel
theorem dX7_addVoid_10 : decode cX7_addVoid 10 = .ok (.getfield 25, 3) := by decide +kernel
theorem dX7_addVoid_13 : decode cX7_addVoid 13 = .ok (.iload_n 1, 1) := by decide +kernel
theorem dX7_addVoid_14 : decode cX7_addVoid 14 = .ok (.iload_n 2, 1) := by decide +kernel
theorem dX7_addVoid_15 : decode cX7_addVoid 15 = .ok (.iastore, 1) := by decide +kernel
theorem dX7_addVoid_16 : decode cX7_addVoid 16 = .ok (.iload_n 2, 1) := by decide +kernel
theorem dX7_addVoid_17 : decode cX7_addVoid 17 = .ok (.ireturn, 1) := by decide +kernel
theorem dX7_detailOf_0 : decode cX7_detailOf 0 = .ok (.aload_n 0, 1) := by decide +kernel
theorem dX7_detailOf_1 : decode cX7_detailOf 1 = .ok (.getfield 15, 3) := by decide +kernel
theorem dX7_detailOf_4 : decode cX7_detailOf 4 = .ok (.iload_n 1, 1) := by decide +kernel
theorem dX7_detailOf_5 : decode cX7_detailOf 5 = .ok (.iconst 5, 1) := by decide +kernel
theorem dX7_detailOf_6 : decode cX7_detailOf 6 = .ok (.imul, 1) := by decide +kernel
theorem dX7_detailOf_7 : decode cX7_detailOf 7 = .ok (.iload_n 2, 1) := by decide +kernel
theorem dX7_detailOf_8 : decode cX7_detailOf 8 = .ok (.iadd, 1) := by decide +kernel
theorem dX7_detailOf_9 : decode cX7_detailOf 9 = .ok (.iaload, 1) := by decide +kernel
theorem dX7_detailOf_10 : decode cX7_detailOf 10 = .ok (.ireturn, 1) := by decide +kernel
theorem dX7_empty_0 : decode cX7_empty 0 = .ok (.aload_n 0, 1) := by decide +kernel
theorem dX7_empty_1 : decode cX7_empty 1 = .ok (.iconst 0, 1) := by decide +kernel
theorem dX7_empty_2 : decode cX7_empty 2 = .ok (.putfield 31, 3) := by decide +kernel
theorem dX7_empty_5 : decode cX7_empty 5 = .ok (.aload_n 0, 1) := by decide +kernel
theorem dX7_empty_6 : decode cX7_empty 6 = .ok (.iconst 0, 1) := by decide +kernel
theorem dX7_empty_7 : decode cX7_empty 7 = .ok (.putfield 35, 3) := by decide +kernel
theorem dX7_empty_10 : decode cX7_empty 10 = .ok (.return_, 1) := by decide +kernel
theorem dX7_init_0 : decode cX7_init 0 = .ok (.aload_n 0, 1) := by decide +kernel
theorem dX7_init_1 : decode cX7_init 1 = .ok (.invokespecial 3, 3) := by decide +kernel
theorem dX7_init_4 : decode cX7_init 4 = .ok (.aload_n 0, 1) := by decide +kernel
theorem dX7_init_5 : decode cX7_init 5 = .ok (.sipush 201, 3) := by decide +kernel
theorem dX7_init_8 : decode cX7_init 8 = .ok (.newarray .int, 2) := by decide +kernel
theorem dX7_init_10 : decode cX7_init 10 = .ok (.putfield 9, 3) := by decide +kernel
theorem dX7_init_13 : decode cX7_init 13 = .ok (.aload_n 0, 1) := by decide +kernel
theorem dX7_init_14 : decode cX7_init 14 = .ok (.sipush 1005, 3) := by decide +kernel
theorem dX7_init_17 : decode cX7_init 17 = .ok (.newarray .int, 2) := by decide +kernel
theorem dX7_init_19 : decode cX7_init 19 = .ok (.putfield 15, 3) := by decide +kernel
theorem dX7_init_22 : decode cX7_init 22 = .ok (.aload_n 0, 1) := by decide +kernel
theorem dX7_init_23 : decode cX7_init 23 = .ok (.sipush 603, 3) := by decide +kernel
theorem dX7_init_26 : decode cX7_init 26 = .ok (.newarray .long, 2) := by decide +kernel
theorem dX7_init_28 : decode cX7_init 28 = .ok (.putfield 18, 3) := by decide +kernel
theorem dX7_init_31 : decode cX7_init 31 = .ok (.aload_n 0, 1) := by decide +kernel
theorem dX7_init_32 : decode cX7_init 32 = .ok (.sipush 201, 3) := by decide +kernel
theorem dX7_init_35 : decode cX7_init 35 = .ok (.newarray .int, 2) := by decide +kernel
theorem dX7_init_37 : decode cX7_init 37 = .ok (.putfield 22, 3) := by decide +kernel
theorem dX7_init_40 : decode cX7_init 40 = .ok (.aload_n 0, 1) := by decide +kernel
theorem dX7_init_41 : decode cX7_init 41 = .ok (.sipush 201, 3) := by decide +kernel
theorem dX7_init_44 : decode cX7_init 44 = .ok (.newarray .int, 2) := by decide +kernel
theorem dX7_init_46 : decode cX7_init 46 = .ok (.putfield 25, 3) := by decide +kernel
theorem dX7_init_49 : decode cX7_init 49 = .ok (.aload_n 0, 1) := by decide +kernel
theorem dX7_init_50 : decode cX7_init 50 = .ok (.iconst 3, 1) := by decide +kernel
theorem dX7_init_51 : decode cX7_init 51 = .ok (.newarray .long, 2) := by decide +kernel
theorem dX7_init_53 : decode cX7_init 53 = .ok (.putfield 28, 3) := by decide +kernel
theorem dX7_init_56 : decode cX7_init 56 = .ok (.return_, 1) := by decide +kernel
theorem dX7_isFull_0 : decode cX7_isFull 0 = .ok (.aload_n 0, 1) := by decide +kernel
theorem dX7_isFull_1 : decode cX7_isFull 1 = .ok (.getfield 31, 3) := by decide +kernel
theorem dX7_isFull_4 : decode cX7_isFull 4 = .ok (.sipush 200, 3) := by decide +kernel
theorem dX7_isFull_7 : decode cX7_isFull 7 = .ok (.if_icmp .lt 7, 3) := by decide +kernel
theorem dX7_isFull_10 : decode cX7_isFull 10 = .ok (.iconst 1, 1) := by decide +kernel
theorem dX7_isFull_11 : decode cX7_isFull 11 = .ok (.goto 4, 3) := by decide +kernel
theorem dX7_isFull_14 : decode cX7_isFull 14 = .ok (.iconst 0, 1) := by decide +kernel
theorem dX7_isFull_15 : decode cX7_isFull 15 = .ok (.ireturn, 1) := by decide +kernel
theorem dX7_isKnown_0 : decode cX7_isKnown 0 = .ok (.iload_n 1, 1) := by decide +kernel
theorem dX7_isKnown_1 : decode cX7_isKnown 1 = .ok (.iload_n 2, 1) := by decide +kernel
theorem dX7_isKnown_2 : decode cX7_isKnown 2 = .ok (.if_icmp .gt 26, 3) := by decide +kernel
theorem dX7_isKnown_5 : decode cX7_isKnown 5 = .ok (.aload_n 0, 1) := by decide +kernel
theorem dX7_isKnown_6 : decode cX7_isKnown 6 = .ok (.getfield 25, 3) := by decide +kernel
theorem dX7_isKnown_9 : decode cX7_isKnown 9 = .ok (.iload_n 1, 1) := by decide +kernel
theorem dX7_isKnown_10 : decode cX7_isKnown 10 = .ok (.iaload, 1) := by decide +kernel
theorem dX7_isKnown_11 : decode cX7_isKnown 11 = .ok (.ifCond .eq 13, 3) := by decide +kernel
theorem dX7_isKnown_14 : decode cX7_isKnown 14 = .ok (.aload_n 0, 1) := by decide +kernel
theorem dX7_isKnown_15 : decode cX7_isKnown 15 = .ok (.getfield 25, 3) := by decide +kernel
theorem dX7_isKnown_18 : decode cX7_isKnown 18 = .ok (.iload_n 1, 1) := by decide +kernel
theorem dX7_isKnown_19 : decode cX7_isKnown 19 = .ok (.iaload, 1) := by decide +kernel
theorem dX7_isKnown_20 : decode cX7_isKnown 20 = .ok (.iload_n 2, 1) := by decide +kernel
theorem dX7_isKnown_21 : decode cX7_isKnown 21 = .ok (.if_icmp .le 7, 3) := by decide +kernel
theorem dX7_isKnown_24 : decode cX7_isKnown 24 = .ok (.iconst 1, 1) := by decide +kernel
theorem dX7_isKnown_25 : decode cX7_isKnown 25 = .ok (.goto 4, 3) := by decide +kernel
theorem dX7_isKnown_28 : decode cX7_isKnown 28 = .ok (.iconst 0, 1) := by decide +kernel
theorem dX7_isKnown_29 : decode cX7_isKnown 29 = .ok (.ireturn, 1) := by decide +kernel
theorem dX8_comparison_0 : decode cX8_comparison 0 = .ok (.iload_n 0, 1) := by decide +kernel
theorem dX8_comparison_1 : decode cX8_comparison 1 = .ok (.bipush 60, 2) := by decide +kernel
theorem dX8_comparison_3 : decode cX8_comparison 3 = .ok (.if_icmp .ne 6, 3) := by decide +kernel
theorem dX8_comparison_6 : decode cX8_comparison 6 = .ok (.bipush 10, 2) := by decide +kernel
theorem dX8_comparison_8 : decode cX8_comparison 8 = .ok (.ireturn, 1) := by decide +kernel
theorem dX8_comparison_9 : decode cX8_comparison 9 = .ok (.iload_n 0, 1) := by decide +kernel
theorem dX8_comparison_10 : decode cX8_comparison 10 = .ok (.bipush 62, 2) := by decide +kernel
theorem dX8_comparison_12 : decode cX8_comparison 12 = .ok (.if_icmp .ne 6, 3) := by decide +kernel
theorem dX8_comparison_15 : decode cX8_comparison 15 = .ok (.bipush 11, 2) := by decide +kernel
theorem dX8_comparison_17 : decode cX8_comparison 17 = .ok (.ireturn, 1) := by decide +kernel
theorem dX8_comparison_18 : decode cX8_comparison 18 = .ok (.iload_n 0, 1) := by decide +kernel
theorem dX8_comparison_19 : decode cX8_comparison 19 = .ok (.bipush 61, 2) := by decide +kernel
theorem dX8_comparison_21 : decode cX8_comparison 21 = .ok (.if_icmp .ne 8, 3) := by decide +kernel
theorem dX8_comparison_24 : decode cX8_comparison 24 = .ok (.bipush 12, 2) := by decide +kernel
theorem dX8_comparison_26 : decode cX8_comparison 26 = .ok (.goto 4, 3) := by decide +kernel
theorem dX8_comparison_29 : decode cX8_comparison 29 = .ok (.iconst (-1), 1) := by decide +kernel
theorem dX8_comparison_30 : decode cX8_comparison 30 = .ok (.ireturn, 1) := by decide +kernel
theorem dX8_fails_0 : decode cX8_fails 0 = .ok (.aload_n 0, 1) := by decide +kernel
theorem dX8_fails_1 : decode cX8_fails 1 = .ok (.iload_n 1, 1) := by decide +kernel
theorem dX8_fails_2 : decode cX8_fails 2 = .ok (.putfield 23, 3) := by decide +kernel
theorem dX8_fails_5 : decode cX8_fails 5 = .ok (.aload_n 0, 1) := by decide +kernel
theorem dX8_fails_6 : decode cX8_fails 6 = .ok (.aload_n 0, 1) := by decide +kernel
theorem dX8_fails_7 : decode cX8_fails 7 = .ok (.getfield 15, 3) := by decide +kernel
theorem dX8_fails_10 : decode cX8_fails 10 = .ok (.getfield 53, 3) := by decide +kernel
theorem dX8_fails_13 : decode cX8_fails 13 = .ok (.putfield 9, 3) := by decide +kernel
theorem dX8_fails_16 : decode cX8_fails 16 = .ok (.iconst 0, 1) := by decide +kernel
theorem dX8_fails_17 : decode cX8_fails 17 = .ok (.ireturn, 1) := by decide +kernel
theorem dX8_init_0 : decode cX8_init 0 = .ok (.aload_n 0, 1) := by decide +kernel
theorem dX8_init_1 : decode cX8_init 1 = .ok (.invokespecial 3, 3) := by decide +kernel
theorem dX8_init_4 : decode cX8_init 4 = .ok (.aload_n 0, 1) := by decide +kernel
theorem dX8_init_5 : decode cX8_init 5 = .ok (.iconst (-1), 1) := by decide +kernel
theorem dX8_init_6 : decode cX8_init 6 = .ok (.putfield 9, 3) := by decide +kernel
theorem dX8_init_9 : decode cX8_init 9 = .ok (.aload_n 0, 1) := by decide +kernel
theorem dX8_init_10 : decode cX8_init 10 = .ok (.aload_n 1, 1) := by decide +kernel
theorem dX8_init_11 : decode cX8_init 11 = .ok (.putfield 15, 3) := by decide +kernel
theorem dX8_init_14 : decode cX8_init 14 = .ok (.aload_n 0, 1) := by decide +kernel
theorem dX8_init_15 : decode cX8_init 15 = .ok (.aload_n 2, 1) := by decide +kernel
theorem dX8_init_16 : decode cX8_init 16 = .ok (.putfield 19, 3) := by decide +kernel
theorem dX8_init_19 : decode cX8_init 19 = .ok (.return_, 1) := by decide +kernel
theorem dX8_opens_0 : decode cX8_opens 0 = .ok (.aload_n 0, 1) := by decide +kernel
theorem dX8_opens_1 : decode cX8_opens 1 = .ok (.getfield 26, 3) := by decide +kernel
theorem dX8_opens_4 : decode cX8_opens 4 = .ok (.bipush 8, 2) := by decide +kernel
theorem dX8_opens_6 : decode cX8_opens 6 = .ok (.if_icmp .lt 9, 3) := by decide +kernel
theorem dX8_opens_9 : decode cX8_opens 9 = .ok (.aload_n 0, 1) := by decide +kernel
theorem dX8_opens_10 : decode cX8_opens 10 = .ok (.iconst 5, 1) := by decide +kernel
theorem dX8_opens_11 : decode cX8_opens 11 = .ok (.invokevirtual 56, 3) := by decide +kernel
theorem dX8_opens_14 : decode cX8_opens 14 = .ok (.ireturn, 1) := by decide +kernel
theorem dX8_opens_15 : decode cX8_opens 15 = .ok (.aload_n 0, 1) := by decide +kernel
theorem dX8_opens_16 : decode cX8_opens 16 = .ok (.dup, 1) := by decide +kernel
theorem dX8_opens_17 : decode cX8_opens 17 = .ok (.getfield 26, 3) := by decide +kernel
theorem dX8_opens_20 : decode cX8_opens 20 = .ok (.iconst 1, 1) := by decide +kernel
theorem dX8_opens_21 : decode cX8_opens 21 = .ok (.iadd, 1) := by decide +kernel
theorem dX8_opens_22 : decode cX8_opens 22 = .ok (.putfield 26, 3) := by decide +kernel
theorem dX8_opens_25 : decode cX8_opens 25 = .ok (.aload_n 0, 1) := by decide +kernel
theorem dX8_opens_26 : decode cX8_opens 26 = .ok (.getfield 15, 3) := by decide +kernel
theorem dX8_opens_29 : decode cX8_opens 29 = .ok (.invokevirtual 59, 3) := by decide +kernel
theorem dX8_opens_32 : decode cX8_opens 32 = .ok (.iconst 1, 1) := by decide +kernel
theorem dX8_opens_33 : decode cX8_opens 33 = .ok (.ireturn, 1) := by decide +kernel
theorem dX8_passes_0 : decode cX8_passes 0 = .ok (.aload_n 0, 1) := by decide +kernel
theorem dX8_passes_1 : decode cX8_passes 1 = .ok (.getfield 15, 3) := by decide +kernel
theorem dX8_passes_4 : decode cX8_passes 4 = .ok (.getfield 39, 3) := by decide +kernel
theorem dX8_passes_7 : decode cX8_passes 7 = .ok (.iload_n 1, 1) := by decide +kernel
theorem dX8_passes_8 : decode cX8_passes 8 = .ok (.if_icmp .eq 9, 3) := by decide +kernel
theorem dX8_passes_11 : decode cX8_passes 11 = .ok (.aload_n 0, 1) := by decide +kernel
theorem dX8_passes_12 : decode cX8_passes 12 = .ok (.iconst 1, 1) := by decide +kernel
theorem dX8_passes_13 : decode cX8_passes 13 = .ok (.invokevirtual 56, 3) := by decide +kernel
theorem dX8_passes_16 : decode cX8_passes 16 = .ok (.ireturn, 1) := by decide +kernel
theorem dX8_passes_17 : decode cX8_passes 17 = .ok (.aload_n 0, 1) := by decide +kernel
theorem dX8_passes_18 : decode cX8_passes 18 = .ok (.getfield 15, 3) := by decide +kernel
theorem dX8_passes_21 : decode cX8_passes 21 = .ok (.invokevirtual 59, 3) := by decide +kernel
theorem dX8_passes_24 : decode cX8_passes 24 = .ok (.iconst 1, 1) := by decide +kernel
theorem dX8_passes_25 : decode cX8_passes 25 = .ok (.ireturn, 1) := by decide +kernel
theorem dX8_passesComparison_0 : decode cX8_passesComparison 0 = .ok (.iload_n 1, 1) := by decide +kernel
theorem dX8_passesComparison_1 : decode cX8_passesComparison 1 = .ok (.iconst (-1), 1) := by decide +kernel
theorem dX8_passesComparison_2 : decode cX8_passesComparison 2 = .ok (.if_icmp .ne 9, 3) := by decide +kernel
theorem dX8_passesComparison_5 : decode cX8_passesComparison 5 = .ok (.aload_n 0, 1) := by decide +kernel
theorem dX8_passesComparison_6 : decode cX8_passesComparison 6 = .ok (.iconst 1, 1) := by decide +kernel
theorem dX8_passesComparison_7 : decode cX8_passesComparison 7 = .ok (.invokevirtual 56, 3) := by decide +kernel
theorem dX8_passesComparison_10 : decode cX8_passesComparison 10 = .ok (.ireturn, 1) := by decide +kernel
theorem dX8_passesComparison_11 : decode cX8_passesComparison 11 = .ok (.aload_n 0, 1) := by decide +kernel
theorem dX8_passesComparison_12 : decode cX8_passesComparison 12 = .ok (.getfield 15, 3) := by decide +kernel
theorem dX8_passesComparison_15 : decode cX8_passesComparison 15 = .ok (.invokevirtual 59, 3) := by decide +kernel
theorem dX8_passesComparison_18 : decode cX8_passesComparison 18 = .ok (.iconst 1, 1) := by decide +kernel
theorem dX8_passesComparison_19 : decode cX8_passesComparison 19 = .ok (.ireturn, 1) := by decide +kernel
theorem dX8_readsAll_0 : decode cX8_readsAll 0 = .ok (.aload_n 0, 1) := by decide +kernel
theorem dX8_readsAll_1 : decode cX8_readsAll 1 = .ok (.aload_n 1, 1) := by decide +kernel
theorem dX8_readsAll_2 : decode cX8_readsAll 2 = .ok (.putfield 19, 3) := by decide +kernel
theorem dX8_readsAll_5 : decode cX8_readsAll 5 = .ok (.aload_n 0, 1) := by decide +kernel
theorem dX8_readsAll_6 : decode cX8_readsAll 6 = .ok (.iconst 0, 1) := by decide +kernel
theorem dX8_readsAll_7 : decode cX8_readsAll 7 = .ok (.putfield 23, 3) := by decide +kernel
theorem dX8_readsAll_10 : decode cX8_readsAll 10 = .ok (.aload_n 0, 1) := by decide +kernel
theorem dX8_readsAll_11 : decode cX8_readsAll 11 = .ok (.iconst (-1), 1) := by decide +kernel
theorem dX8_readsAll_12 : decode cX8_readsAll 12 = .ok (.putfield 9, 3) := by decide +kernel
theorem dX8_readsAll_15 : decode cX8_readsAll 15 = .ok (.aload_n 0, 1) := by decide +kernel
theorem dX8_readsAll_16 : decode cX8_readsAll 16 = .ok (.iconst 0, 1) := by decide +kernel
theorem dX8_readsAll_17 : decode cX8_readsAll 17 = .ok (.putfield 26, 3) := by decide +kernel
theorem dX8_readsAll_20 : decode cX8_readsAll 20 = .ok (.aload_n 0, 1) := by decide +kernel
theorem dX8_readsAll_21 : decode cX8_readsAll 21 = .ok (.getfield 19, 3) := by decide +kernel
theorem dX8_readsAll_24 : decode cX8_readsAll 24 = .ok (.invokevirtual 29, 3) := by decide +kernel
theorem dX8_readsAll_27 : decode cX8_readsAll 27 = .ok (.aload_n 0, 1) := by decide +kernel
theorem dX8_readsAll_28 : decode cX8_readsAll 28 = .ok (.getfield 15, 3) := by decide +kernel
theorem dX8_readsAll_31 : decode cX8_readsAll 31 = .ok (.invokevirtual 34, 3) := by decide +kernel
theorem dX8_readsAll_34 : decode cX8_readsAll 34 = .ok (.iconst 0, 1) := by decide +kernel
theorem dX8_readsAll_35 : decode cX8_readsAll 35 = .ok (.istore_n 2, 1) := by decide +kernel
theorem dX8_readsAll_36 : decode cX8_readsAll 36 = .ok (.iload_n 2, 1) := by decide +kernel
theorem dX8_readsAll_37 : decode cX8_readsAll 37 = .ok (.sipush 1000, 3) := by decide +kernel
theorem dX8_readsAll_40 : decode cX8_readsAll 40 = .ok (.if_icmp .gt 86, 3) := by decide +kernel
theorem dX8_readsAll_43 : decode cX8_readsAll 43 = .ok (.aload_n 0, 1) := by decide +kernel
theorem dX8_readsAll_44 : decode cX8_readsAll 44 = .ok (.getfield 15, 3) := by decide +kernel
theorem dX8_readsAll_47 : decode cX8_readsAll 47 = .ok (.getfield 39, 3) := by decide +kernel
theorem dX8_readsAll_50 : decode cX8_readsAll 50 = .ok (.sipush 256, 3) := by decide +kernel
theorem dX8_readsAll_53 : decode cX8_readsAll 53 = .ok (.if_icmp .eq 73, 3) := by decide +kernel
theorem dX8_readsAll_56 : decode cX8_readsAll 56 = .ok (.aload_n 0, 1) := by decide +kernel
theorem dX8_readsAll_57 : decode cX8_readsAll 57 = .ok (.getfield 15, 3) := by decide +kernel
theorem dX8_readsAll_60 : decode cX8_readsAll 60 = .ok (.getfield 39, 3) := by decide +kernel
theorem dX8_readsAll_63 : decode cX8_readsAll 63 = .ok (.sipush 261, 3) := by decide +kernel
theorem dX8_readsAll_66 : decode cX8_readsAll 66 = .ok (.if_icmp .ne 11, 3) := by decide +kernel
theorem dX8_readsAll_69 : decode cX8_readsAll 69 = .ok (.aload_n 0, 1) := by decide +kernel
theorem dX8_readsAll_70 : decode cX8_readsAll 70 = .ok (.invokevirtual 42, 3) := by decide +kernel
theorem dX8_readsAll_73 : decode cX8_readsAll 73 = .ok (.istore_n 3, 1) := by decide +kernel
theorem dX8_readsAll_74 : decode cX8_readsAll 74 = .ok (.goto 40, 3) := by decide +kernel
theorem dX8_readsAll_77 : decode cX8_readsAll 77 = .ok (.aload_n 0, 1) := by decide +kernel
theorem dX8_readsAll_78 : decode cX8_readsAll 78 = .ok (.getfield 15, 3) := by decide +kernel
theorem dX8_readsAll_81 : decode cX8_readsAll 81 = .ok (.getfield 39, 3) := by decide +kernel
theorem dX8_readsAll_84 : decode cX8_readsAll 84 = .ok (.sipush 271, 3) := by decide +kernel
theorem dX8_readsAll_87 : decode cX8_readsAll 87 = .ok (.if_icmp .ne 11, 3) := by decide +kernel
theorem dX8_readsAll_90 : decode cX8_readsAll 90 = .ok (.aload_n 0, 1) := by decide +kernel
theorem dX8_readsAll_91 : decode cX8_readsAll 91 = .ok (.invokevirtual 46, 3) := by decide +kernel
theorem dX8_readsAll_94 : decode cX8_readsAll 94 = .ok (.istore_n 3, 1) := by decide +kernel
theorem dX8_readsAll_95 : decode cX8_readsAll 95 = .ok (.goto 19, 3) := by decide +kernel
theorem dX8_readsAll_98 : decode cX8_readsAll 98 = .ok (.aload_n 0, 1) := by decide +kernel
theorem dX8_readsAll_99 : decode cX8_readsAll 99 = .ok (.aload_n 0, 1) := by decide +kernel
theorem dX8_readsAll_100 : decode cX8_readsAll 100 = .ok (.getfield 15, 3) := by decide +kernel
theorem dX8_readsAll_103 : decode cX8_readsAll 103 = .ok (.getfield 39, 3) := by decide +kernel
theorem dX8_readsAll_106 : decode cX8_readsAll 106 = .ok (.sipush 260, 3) := by decide +kernel
theorem dX8_readsAll_109 : decode cX8_readsAll 109 = .ok (.isub, 1) := by decide +kernel
theorem dX8_readsAll_110 : decode cX8_readsAll 110 = .ok (.invokevirtual 49, 3) := by decide +kernel
theorem dX8_readsAll_113 : decode cX8_readsAll 113 = .ok (.istore_n 3, 1) := by decide +kernel
theorem dX8_readsAll_114 : decode cX8_readsAll 114 = .ok (.iload_n 3, 1) := by decide +kernel
theorem dX8_readsAll_115 : decode cX8_readsAll 115 = .ok (.ifCond .ne 5, 3) := by decide +kernel
theorem dX8_readsAll_118 : decode cX8_readsAll 118 = .ok (.iconst 0, 1) := by decide +kernel
theorem dX8_readsAll_119 : decode cX8_readsAll 119 = .ok (.ireturn, 1) := by decide +kernel
theorem dX8_readsAll_120 : decode cX8_readsAll 120 = .ok (.iinc 2 1, 3) := by decide +kernel
theorem dX8_readsAll_123 : decode cX8_readsAll 123 = .ok (.goto (-87), 3) := by decide +kernel
theorem dX8_readsAll_126 : decode cX8_readsAll 126 = .ok (.iconst 1, 1) := by decide +kernel
theorem dX8_readsAll_127 : decode cX8_readsAll 127 = .ok (.ireturn, 1) := by decide +kernel
theorem dX8_readsBoth_0 : decode cX8_readsBoth 0 = .ok (.aload_n 0, 1) := by decide +kernel
theorem dX8_readsBoth_1 : decode cX8_readsBoth 1 = .ok (.iload_n 1, 1) := by decide +kernel
theorem dX8_readsBoth_2 : decode cX8_readsBoth 2 = .ok (.invokevirtual 150, 3) := by decide +kernel
theorem dX8_readsBoth_5 : decode cX8_readsBoth 5 = .ok (.ifCond .ne 5, 3) := by decide +kernel
theorem dX8_readsBoth_8 : decode cX8_readsBoth 8 = .ok (.iconst 0, 1) := by decide +kernel
theorem dX8_readsBoth_9 : decode cX8_readsBoth 9 = .ok (.ireturn, 1) := by decide +kernel
theorem dX8_readsBoth_10 : decode cX8_readsBoth 10 = .ok (.iconst 0, 1) := by decide +kernel
theorem dX8_readsBoth_11 : decode cX8_readsBoth 11 = .ok (.istore_n 2, 1) := by decide +kernel
theorem dX8_readsBoth_12 : decode cX8_readsBoth 12 = .ok (.iload_n 2, 1) := by decide +kernel
theorem dX8_readsBoth_13 : decode cX8_readsBoth 13 = .ok (.sipush 1000, 3) := by decide +kernel
theorem dX8_readsBoth_16 : decode cX8_readsBoth 16 = .ok (.if_icmp .gt 49, 3) := by decide +kernel
theorem dX8_readsBoth_19 : decode cX8_readsBoth 19 = .ok (.aload_n 0, 1) := by decide +kernel
theorem dX8_readsBoth_20 : decode cX8_readsBoth 20 = .ok (.getfield 15, 3) := by decide +kernel
theorem dX8_readsBoth_23 : decode cX8_readsBoth 23 = .ok (.getfield 39, 3) := by decide +kernel
theorem dX8_readsBoth_26 : decode cX8_readsBoth 26 = .ok (.sipush 273, 3) := by decide +kernel
theorem dX8_readsBoth_29 : decode cX8_readsBoth 29 = .ok (.if_icmp .ne 36, 3) := by decide +kernel
theorem dX8_readsBoth_32 : decode cX8_readsBoth 32 = .ok (.aload_n 0, 1) := by decide +kernel
theorem dX8_readsBoth_33 : decode cX8_readsBoth 33 = .ok (.getfield 15, 3) := by decide +kernel
theorem dX8_readsBoth_36 : decode cX8_readsBoth 36 = .ok (.invokevirtual 59, 3) := by decide +kernel
theorem dX8_readsBoth_39 : decode cX8_readsBoth 39 = .ok (.aload_n 0, 1) := by decide +kernel
theorem dX8_readsBoth_40 : decode cX8_readsBoth 40 = .ok (.iload_n 1, 1) := by decide +kernel
theorem dX8_readsBoth_41 : decode cX8_readsBoth 41 = .ok (.invokevirtual 150, 3) := by decide +kernel
theorem dX8_readsBoth_44 : decode cX8_readsBoth 44 = .ok (.ifCond .ne 5, 3) := by decide +kernel
theorem dX8_readsBoth_47 : decode cX8_readsBoth 47 = .ok (.iconst 0, 1) := by decide +kernel
theorem dX8_readsBoth_48 : decode cX8_readsBoth 48 = .ok (.ireturn, 1) := by decide +kernel
theorem dX8_readsBoth_49 : decode cX8_readsBoth 49 = .ok (.aload_n 0, 1) := by decide +kernel
theorem dX8_readsBoth_50 : decode cX8_readsBoth 50 = .ok (.getfield 19, 3) := by decide +kernel
theorem dX8_readsBoth_53 : decode cX8_readsBoth 53 = .ok (.bipush 8, 2) := by decide +kernel
theorem dX8_readsBoth_55 : decode cX8_readsBoth 55 = .ok (.iconst 0, 1) := by decide +kernel
theorem dX8_readsBoth_56 : decode cX8_readsBoth 56 = .ok (.invokevirtual 146, 3) := by decide +kernel
theorem dX8_readsBoth_59 : decode cX8_readsBoth 59 = .ok (.iinc 2 1, 3) := by decide +kernel
theorem dX8_readsBoth_62 : decode cX8_readsBoth 62 = .ok (.goto (-50), 3) := by decide +kernel
theorem dX8_readsBoth_65 : decode cX8_readsBoth 65 = .ok (.iconst 1, 1) := by decide +kernel
theorem dX8_readsBoth_66 : decode cX8_readsBoth 66 = .ok (.ireturn, 1) := by decide +kernel
theorem dX8_readsClause_0 : decode cX8_readsClause 0 = .ok (.iload_n 1, 1) := by decide +kernel
theorem dX8_readsClause_1 : decode cX8_readsClause 1 = .ok (.bipush 6, 2) := by decide +kernel
theorem dX8_readsClause_3 : decode cX8_readsClause 3 = .ok (.if_icmp .eq 21, 3) := by decide +kernel
theorem dX8_readsClause_6 : decode cX8_readsClause 6 = .ok (.iload_n 1, 1) := by decide +kernel
theorem dX8_readsClause_7 : decode cX8_readsClause 7 = .ok (.bipush 8, 2) := by decide +kernel
theorem dX8_readsClause_9 : decode cX8_readsClause 9 = .ok (.if_icmp .eq 15, 3) := by decide +kernel
theorem dX8_readsClause_12 : decode cX8_readsClause 12 = .ok (.iload_n 1, 1) := by decide +kernel
theorem dX8_readsClause_13 : decode cX8_readsClause 13 = .ok (.bipush 10, 2) := by decide +kernel
theorem dX8_readsClause_15 : decode cX8_readsClause 15 = .ok (.if_icmp .eq 9, 3) := by decide +kernel
theorem dX8_readsClause_18 : decode cX8_readsClause 18 = .ok (.aload_n 0, 1) := by decide +kernel
theorem dX8_readsClause_19 : decode cX8_readsClause 19 = .ok (.iconst 1, 1) := by decide +kernel
theorem dX8_readsClause_20 : decode cX8_readsClause 20 = .ok (.invokevirtual 56, 3) := by decide +kernel
theorem dX8_readsClause_23 : decode cX8_readsClause 23 = .ok (.ireturn, 1) := by decide +kernel
theorem dX8_readsClause_24 : decode cX8_readsClause 24 = .ok (.aload_n 0, 1) := by decide +kernel
theorem dX8_readsClause_25 : decode cX8_readsClause 25 = .ok (.getfield 19, 3) := by decide +kernel
theorem dX8_readsClause_28 : decode cX8_readsClause 28 = .ok (.getfield 120, 3) := by decide +kernel
theorem dX8_readsClause_31 : decode cX8_readsClause 31 = .ok (.bipush 24, 2) := by decide +kernel
theorem dX8_readsClause_33 : decode cX8_readsClause 33 = .ok (.if_icmp .lt 9, 3) := by decide +kernel
theorem dX8_readsClause_36 : decode cX8_readsClause 36 = .ok (.aload_n 0, 1) := by decide +kernel
theorem dX8_readsClause_37 : decode cX8_readsClause 37 = .ok (.iconst 5, 1) := by decide +kernel
theorem dX8_readsClause_38 : decode cX8_readsClause 38 = .ok (.invokevirtual 56, 3) := by decide +kernel
theorem dX8_readsClause_41 : decode cX8_readsClause 41 = .ok (.ireturn, 1) := by decide +kernel
theorem dX8_readsClause_42 : decode cX8_readsClause 42 = .ok (.aload_n 0, 1) := by decide +kernel
theorem dX8_readsClause_43 : decode cX8_readsClause 43 = .ok (.getfield 15, 3) := by decide +kernel
theorem dX8_readsClause_46 : decode cX8_readsClause 46 = .ok (.invokevirtual 59, 3) := by decide +kernel
theorem dX8_readsClause_49 : decode cX8_readsClause 49 = .ok (.aload_n 0, 1) := by decide +kernel
theorem dX8_readsClause_50 : decode cX8_readsClause 50 = .ok (.getfield 19, 3) := by decide +kernel
theorem dX8_readsClause_53 : decode cX8_readsClause 53 = .ok (.getfield 129, 3) := by decide +kernel
theorem dX8_readsClause_56 : decode cX8_readsClause 56 = .ok (.istore_n 2, 1) := by decide +kernel
theorem dX8_readsClause_57 : decode cX8_readsClause 57 = .ok (.iload_n 1, 1) := by decide +kernel
theorem dX8_readsClause_58 : decode cX8_readsClause 58 = .ok (.bipush 6, 2) := by decide +kernel
theorem dX8_readsClause_60 : decode cX8_readsClause 60 = .ok (.if_icmp .eq 12, 3) := by decide +kernel
theorem dX8_readsClause_63 : decode cX8_readsClause 63 = .ok (.aload_n 0, 1) := by decide +kernel
theorem dX8_readsClause_64 : decode cX8_readsClause 64 = .ok (.invokevirtual 136, 3) := by decide +kernel
theorem dX8_readsClause_67 : decode cX8_readsClause 67 = .ok (.ifCond .ne 5, 3) := by decide +kernel
theorem dX8_readsClause_70 : decode cX8_readsClause 70 = .ok (.iconst 0, 1) := by decide +kernel
theorem dX8_readsClause_71 : decode cX8_readsClause 71 = .ok (.ireturn, 1) := by decide +kernel
theorem dX8_readsClause_72 : decode cX8_readsClause 72 = .ok (.aload_n 0, 1) := by decide +kernel
theorem dX8_readsClause_73 : decode cX8_readsClause 73 = .ok (.getfield 19, 3) := by decide +kernel
theorem dX8_readsClause_76 : decode cX8_readsClause 76 = .ok (.getfield 129, 3) := by decide +kernel
theorem dX8_readsClause_79 : decode cX8_readsClause 79 = .ok (.istore_n 3, 1) := by decide +kernel
theorem dX8_readsClause_80 : decode cX8_readsClause 80 = .ok (.iload_n 1, 1) := by decide +kernel
theorem dX8_readsClause_81 : decode cX8_readsClause 81 = .ok (.bipush 8, 2) := by decide +kernel
theorem dX8_readsClause_83 : decode cX8_readsClause 83 = .ok (.if_icmp .ne 15, 3) := by decide +kernel
theorem dX8_readsClause_86 : decode cX8_readsClause 86 = .ok (.aload_n 0, 1) := by decide +kernel
theorem dX8_readsClause_87 : decode cX8_readsClause 87 = .ok (.sipush 269, 3) := by decide +kernel
theorem dX8_readsClause_90 : decode cX8_readsClause 90 = .ok (.invokevirtual 97, 3) := by decide +kernel
theorem dX8_readsClause_93 : decode cX8_readsClause 93 = .ok (.ifCond .ne 5, 3) := by decide +kernel
theorem dX8_readsClause_96 : decode cX8_readsClause 96 = .ok (.iconst 0, 1) := by decide +kernel
theorem dX8_readsClause_97 : decode cX8_readsClause 97 = .ok (.ireturn, 1) := by decide +kernel
theorem dX8_readsClause_98 : decode cX8_readsClause 98 = .ok (.iload_n 1, 1) := by decide +kernel
theorem dX8_readsClause_99 : decode cX8_readsClause 99 = .ok (.bipush 10, 2) := by decide +kernel
theorem dX8_readsClause_101 : decode cX8_readsClause 101 = .ok (.if_icmp .eq 13, 3) := by decide +kernel
theorem dX8_readsClause_104 : decode cX8_readsClause 104 = .ok (.aload_n 0, 1) := by decide +kernel
theorem dX8_readsClause_105 : decode cX8_readsClause 105 = .ok (.iconst 1, 1) := by decide +kernel
theorem dX8_readsClause_106 : decode cX8_readsClause 106 = .ok (.invokevirtual 139, 3) := by decide +kernel
theorem dX8_readsClause_109 : decode cX8_readsClause 109 = .ok (.ifCond .ne 5, 3) := by decide +kernel
theorem dX8_readsClause_112 : decode cX8_readsClause 112 = .ok (.iconst 0, 1) := by decide +kernel
theorem dX8_readsClause_113 : decode cX8_readsClause 113 = .ok (.ireturn, 1) := by decide +kernel
theorem dX8_readsClause_114 : decode cX8_readsClause 114 = .ok (.aload_n 0, 1) := by decide +kernel
theorem dX8_readsClause_115 : decode cX8_readsClause 115 = .ok (.getfield 19, 3) := by decide +kernel
theorem dX8_readsClause_118 : decode cX8_readsClause 118 = .ok (.getfield 129, 3) := by decide +kernel
theorem dX8_readsClause_121 : decode cX8_readsClause 121 = .ok (.istore 4, 2) := by decide +kernel
theorem dX8_readsClause_123 : decode cX8_readsClause 123 = .ok (.aload_n 0, 1) := by decide +kernel
theorem dX8_readsClause_124 : decode cX8_readsClause 124 = .ok (.sipush 267, 3) := by decide +kernel
theorem dX8_readsClause_127 : decode cX8_readsClause 127 = .ok (.invokevirtual 97, 3) := by decide +kernel
theorem dX8_readsClause_130 : decode cX8_readsClause 130 = .ok (.ifCond .eq 11, 3) := by decide +kernel
theorem dX8_readsClause_133 : decode cX8_readsClause 133 = .ok (.aload_n 0, 1) := by decide +kernel
theorem dX8_readsClause_134 : decode cX8_readsClause 134 = .ok (.iconst 0, 1) := by decide +kernel
theorem dX8_readsClause_135 : decode cX8_readsClause 135 = .ok (.invokevirtual 139, 3) := by decide +kernel
theorem dX8_readsClause_138 : decode cX8_readsClause 138 = .ok (.ifCond .ne 5, 3) := by decide +kernel
theorem dX8_readsClause_141 : decode cX8_readsClause 141 = .ok (.iconst 0, 1) := by decide +kernel
theorem dX8_readsClause_142 : decode cX8_readsClause 142 = .ok (.ireturn, 1) := by decide +kernel
theorem dX8_readsClause_143 : decode cX8_readsClause 143 = .ok (.aload_n 0, 1) := by decide +kernel
theorem dX8_readsClause_144 : decode cX8_readsClause 144 = .ok (.getfield 19, 3) := by decide +kernel
theorem dX8_readsClause_147 : decode cX8_readsClause 147 = .ok (.iload_n 1, 1) := by decide +kernel
theorem dX8_readsClause_148 : decode cX8_readsClause 148 = .ok (.iload_n 2, 1) := by decide +kernel
theorem dX8_readsClause_149 : decode cX8_readsClause 149 = .ok (.iload_n 3, 1) := by decide +kernel
theorem dX8_readsClause_150 : decode cX8_readsClause 150 = .ok (.iload 4, 2) := by decide +kernel
theorem dX8_readsClause_152 : decode cX8_readsClause 152 = .ok (.invokevirtual 132, 3) := by decide +kernel
theorem dX8_readsClause_155 : decode cX8_readsClause 155 = .ok (.aload_n 0, 1) := by decide +kernel
theorem dX8_readsClause_156 : decode cX8_readsClause 156 = .ok (.bipush 59, 2) := by decide +kernel
theorem dX8_readsClause_158 : decode cX8_readsClause 158 = .ok (.invokevirtual 97, 3) := by decide +kernel
theorem dX8_readsClause_161 : decode cX8_readsClause 161 = .ok (.ireturn, 1) := by decide +kernel
theorem dX8_readsEither_0 : decode cX8_readsEither 0 = .ok (.aload_n 0, 1) := by decide +kernel
theorem dX8_readsEither_1 : decode cX8_readsEither 1 = .ok (.iload_n 1, 1) := by decide +kernel
theorem dX8_readsEither_2 : decode cX8_readsEither 2 = .ok (.invokevirtual 143, 3) := by decide +kernel
theorem dX8_readsEither_5 : decode cX8_readsEither 5 = .ok (.ifCond .ne 5, 3) := by decide +kernel
theorem dX8_readsEither_8 : decode cX8_readsEither 8 = .ok (.iconst 0, 1) := by decide +kernel
theorem dX8_readsEither_9 : decode cX8_readsEither 9 = .ok (.ireturn, 1) := by decide +kernel
theorem dX8_readsEither_10 : decode cX8_readsEither 10 = .ok (.iconst 0, 1) := by decide +kernel
theorem dX8_readsEither_11 : decode cX8_readsEither 11 = .ok (.istore_n 2, 1) := by decide +kernel
theorem dX8_readsEither_12 : decode cX8_readsEither 12 = .ok (.iload_n 2, 1) := by decide +kernel
theorem dX8_readsEither_13 : decode cX8_readsEither 13 = .ok (.sipush 1000, 3) := by decide +kernel
theorem dX8_readsEither_16 : decode cX8_readsEither 16 = .ok (.if_icmp .gt 49, 3) := by decide +kernel
theorem dX8_readsEither_19 : decode cX8_readsEither 19 = .ok (.aload_n 0, 1) := by decide +kernel
theorem dX8_readsEither_20 : decode cX8_readsEither 20 = .ok (.getfield 15, 3) := by decide +kernel
theorem dX8_readsEither_23 : decode cX8_readsEither 23 = .ok (.getfield 39, 3) := by decide +kernel
theorem dX8_readsEither_26 : decode cX8_readsEither 26 = .ok (.sipush 272, 3) := by decide +kernel
theorem dX8_readsEither_29 : decode cX8_readsEither 29 = .ok (.if_icmp .ne 36, 3) := by decide +kernel
theorem dX8_readsEither_32 : decode cX8_readsEither 32 = .ok (.aload_n 0, 1) := by decide +kernel
theorem dX8_readsEither_33 : decode cX8_readsEither 33 = .ok (.getfield 15, 3) := by decide +kernel
theorem dX8_readsEither_36 : decode cX8_readsEither 36 = .ok (.invokevirtual 59, 3) := by decide +kernel
theorem dX8_readsEither_39 : decode cX8_readsEither 39 = .ok (.aload_n 0, 1) := by decide +kernel
theorem dX8_readsEither_40 : decode cX8_readsEither 40 = .ok (.iload_n 1, 1) := by decide +kernel
theorem dX8_readsEither_41 : decode cX8_readsEither 41 = .ok (.invokevirtual 143, 3) := by decide +kernel
theorem dX8_readsEither_44 : decode cX8_readsEither 44 = .ok (.ifCond .ne 5, 3) := by decide +kernel
theorem dX8_readsEither_47 : decode cX8_readsEither 47 = .ok (.iconst 0, 1) := by decide +kernel
theorem dX8_readsEither_48 : decode cX8_readsEither 48 = .ok (.ireturn, 1) := by decide +kernel
theorem dX8_readsEither_49 : decode cX8_readsEither 49 = .ok (.aload_n 0, 1) := by decide +kernel
theorem dX8_readsEither_50 : decode cX8_readsEither 50 = .ok (.getfield 19, 3) := by decide +kernel
theorem dX8_readsEither_53 : decode cX8_readsEither 53 = .ok (.bipush 9, 2) := by decide +kernel
theorem dX8_readsEither_55 : decode cX8_readsEither 55 = .ok (.iconst 0, 1) := by decide +kernel
theorem dX8_readsEither_56 : decode cX8_readsEither 56 = .ok (.invokevirtual 146, 3) := by decide +kernel
theorem dX8_readsEither_59 : decode cX8_readsEither 59 = .ok (.iinc 2 1, 3) := by decide +kernel
theorem dX8_readsEither_62 : decode cX8_readsEither 62 = .ok (.goto (-50), 3) := by decide +kernel
theorem dX8_readsEither_65 : decode cX8_readsEither 65 = .ok (.iconst 1, 1) := by decide +kernel
theorem dX8_readsEither_66 : decode cX8_readsEither 66 = .ok (.ireturn, 1) := by decide +kernel
theorem dX8_readsEven_0 : decode cX8_readsEven 0 = .ok (.aload_n 0, 1) := by decide +kernel
theorem dX8_readsEven_1 : decode cX8_readsEven 1 = .ok (.getfield 19, 3) := by decide +kernel
theorem dX8_readsEven_4 : decode cX8_readsEven 4 = .ok (.getfield 120, 3) := by decide +kernel
theorem dX8_readsEven_7 : decode cX8_readsEven 7 = .ok (.bipush 24, 2) := by decide +kernel
theorem dX8_readsEven_9 : decode cX8_readsEven 9 = .ok (.if_icmp .lt 9, 3) := by decide +kernel
theorem dX8_readsEven_12 : decode cX8_readsEven 12 = .ok (.aload_n 0, 1) := by decide +kernel
theorem dX8_readsEven_13 : decode cX8_readsEven 13 = .ok (.iconst 5, 1) := by decide +kernel
theorem dX8_readsEven_14 : decode cX8_readsEven 14 = .ok (.invokevirtual 56, 3) := by decide +kernel
theorem dX8_readsEven_17 : decode cX8_readsEven 17 = .ok (.ireturn, 1) := by decide +kernel
theorem dX8_readsEven_18 : decode cX8_readsEven 18 = .ok (.aload_n 0, 1) := by decide +kernel
theorem dX8_readsEven_19 : decode cX8_readsEven 19 = .ok (.bipush 11, 2) := by decide +kernel
theorem dX8_readsEven_21 : decode cX8_readsEven 21 = .ok (.iconst 0, 1) := by decide +kernel
theorem dX8_readsEven_22 : decode cX8_readsEven 22 = .ok (.sipush 1000, 3) := by decide +kernel
theorem dX8_readsEven_25 : decode cX8_readsEven 25 = .ok (.aload_n 0, 1) := by decide +kernel
theorem dX8_readsEven_26 : decode cX8_readsEven 26 = .ok (.getfield 19, 3) := by decide +kernel
theorem dX8_readsEven_29 : decode cX8_readsEven 29 = .ok (.getfield 123, 3) := by decide +kernel
theorem dX8_readsEven_32 : decode cX8_readsEven 32 = .ok (.aload_n 0, 1) := by decide +kernel
theorem dX8_readsEven_33 : decode cX8_readsEven 33 = .ok (.getfield 19, 3) := by decide +kernel
theorem dX8_readsEven_36 : decode cX8_readsEven 36 = .ok (.getfield 120, 3) := by decide +kernel
theorem dX8_readsEven_39 : decode cX8_readsEven 39 = .ok (.invokevirtual 84, 3) := by decide +kernel
theorem dX8_readsEven_42 : decode cX8_readsEven 42 = .ok (.ifCond .ne 5, 3) := by decide +kernel
theorem dX8_readsEven_45 : decode cX8_readsEven 45 = .ok (.iconst 0, 1) := by decide +kernel
theorem dX8_readsEven_46 : decode cX8_readsEven 46 = .ok (.ireturn, 1) := by decide +kernel
theorem dX8_readsEven_47 : decode cX8_readsEven 47 = .ok (.aload_n 0, 1) := by decide +kernel
theorem dX8_readsEven_48 : decode cX8_readsEven 48 = .ok (.getfield 19, 3) := by decide +kernel
theorem dX8_readsEven_51 : decode cX8_readsEven 51 = .ok (.aload_n 0, 1) := by decide +kernel
theorem dX8_readsEven_52 : decode cX8_readsEven 52 = .ok (.getfield 19, 3) := by decide +kernel
theorem dX8_readsEven_55 : decode cX8_readsEven 55 = .ok (.getfield 123, 3) := by decide +kernel
theorem dX8_readsEven_58 : decode cX8_readsEven 58 = .ok (.aload_n 0, 1) := by decide +kernel
theorem dX8_readsEven_59 : decode cX8_readsEven 59 = .ok (.getfield 19, 3) := by decide +kernel
theorem dX8_readsEven_62 : decode cX8_readsEven 62 = .ok (.getfield 120, 3) := by decide +kernel
theorem dX8_readsEven_65 : decode cX8_readsEven 65 = .ok (.iaload, 1) := by decide +kernel
theorem dX8_readsEven_66 : decode cX8_readsEven 66 = .ok (.putfield 126, 3) := by decide +kernel
theorem dX8_readsEven_69 : decode cX8_readsEven 69 = .ok (.aload_n 0, 1) := by decide +kernel
theorem dX8_readsEven_70 : decode cX8_readsEven 70 = .ok (.getfield 19, 3) := by decide +kernel
theorem dX8_readsEven_73 : decode cX8_readsEven 73 = .ok (.bipush 11, 2) := by decide +kernel
theorem dX8_readsEven_75 : decode cX8_readsEven 75 = .ok (.aload_n 0, 1) := by decide +kernel
theorem dX8_readsEven_76 : decode cX8_readsEven 76 = .ok (.getfield 19, 3) := by decide +kernel
theorem dX8_readsEven_79 : decode cX8_readsEven 79 = .ok (.getfield 129, 3) := by decide +kernel
theorem dX8_readsEven_82 : decode cX8_readsEven 82 = .ok (.aload_n 0, 1) := by decide +kernel
theorem dX8_readsEven_83 : decode cX8_readsEven 83 = .ok (.getfield 19, 3) := by decide +kernel
theorem dX8_readsEven_86 : decode cX8_readsEven 86 = .ok (.getfield 129, 3) := by decide +kernel
theorem dX8_readsEven_89 : decode cX8_readsEven 89 = .ok (.aload_n 0, 1) := by decide +kernel
theorem dX8_readsEven_90 : decode cX8_readsEven 90 = .ok (.getfield 19, 3) := by decide +kernel
theorem dX8_readsEven_93 : decode cX8_readsEven 93 = .ok (.getfield 129, 3) := by decide +kernel
theorem dX8_readsEven_96 : decode cX8_readsEven 96 = .ok (.invokevirtual 132, 3) := by decide +kernel
theorem dX8_readsEven_99 : decode cX8_readsEven 99 = .ok (.aload_n 0, 1) := by decide +kernel
theorem dX8_readsEven_100 : decode cX8_readsEven 100 = .ok (.bipush 59, 2) := by decide +kernel
theorem dX8_readsEven_102 : decode cX8_readsEven 102 = .ok (.invokevirtual 97, 3) := by decide +kernel
theorem dX8_readsEven_105 : decode cX8_readsEven 105 = .ok (.ireturn, 1) := by decide +kernel
theorem dX8_readsFact_0 : decode cX8_readsFact 0 = .ok (.aload_n 0, 1) := by decide +kernel
theorem dX8_readsFact_1 : decode cX8_readsFact 1 = .ok (.getfield 15, 3) := by decide +kernel
theorem dX8_readsFact_4 : decode cX8_readsFact 4 = .ok (.getfield 39, 3) := by decide +kernel
theorem dX8_readsFact_7 : decode cX8_readsFact 7 = .ok (.sipush 276, 3) := by decide +kernel
theorem dX8_readsFact_10 : decode cX8_readsFact 10 = .ok (.if_icmp .ne 15, 3) := by decide +kernel
theorem dX8_readsFact_13 : decode cX8_readsFact 13 = .ok (.aload_n 0, 1) := by decide +kernel
theorem dX8_readsFact_14 : decode cX8_readsFact 14 = .ok (.getfield 19, 3) := by decide +kernel
theorem dX8_readsFact_17 : decode cX8_readsFact 17 = .ok (.iconst 3, 1) := by decide +kernel
theorem dX8_readsFact_18 : decode cX8_readsFact 18 = .ok (.iconst 0, 1) := by decide +kernel
theorem dX8_readsFact_19 : decode cX8_readsFact 19 = .ok (.invokevirtual 146, 3) := by decide +kernel
theorem dX8_readsFact_22 : decode cX8_readsFact 22 = .ok (.goto 43, 3) := by decide +kernel
theorem dX8_readsFact_25 : decode cX8_readsFact 25 = .ok (.aload_n 0, 1) := by decide +kernel
theorem dX8_readsFact_26 : decode cX8_readsFact 26 = .ok (.getfield 15, 3) := by decide +kernel
theorem dX8_readsFact_29 : decode cX8_readsFact 29 = .ok (.invokevirtual 59, 3) := by decide +kernel
theorem dX8_readsFact_32 : decode cX8_readsFact 32 = .ok (.aload_n 0, 1) := by decide +kernel
theorem dX8_readsFact_33 : decode cX8_readsFact 33 = .ok (.getfield 15, 3) := by decide +kernel
theorem dX8_readsFact_36 : decode cX8_readsFact 36 = .ok (.getfield 39, 3) := by decide +kernel
theorem dX8_readsFact_39 : decode cX8_readsFact 39 = .ok (.sipush 258, 3) := by decide +kernel
theorem dX8_readsFact_42 : decode cX8_readsFact 42 = .ok (.if_icmp .eq 9, 3) := by decide +kernel
theorem dX8_readsFact_45 : decode cX8_readsFact 45 = .ok (.aload_n 0, 1) := by decide +kernel
theorem dX8_readsFact_46 : decode cX8_readsFact 46 = .ok (.iconst 1, 1) := by decide +kernel
theorem dX8_readsFact_47 : decode cX8_readsFact 47 = .ok (.invokevirtual 56, 3) := by decide +kernel
theorem dX8_readsFact_50 : decode cX8_readsFact 50 = .ok (.ireturn, 1) := by decide +kernel
theorem dX8_readsFact_51 : decode cX8_readsFact 51 = .ok (.aload_n 0, 1) := by decide +kernel
theorem dX8_readsFact_52 : decode cX8_readsFact 52 = .ok (.getfield 19, 3) := by decide +kernel
theorem dX8_readsFact_55 : decode cX8_readsFact 55 = .ok (.aload_n 0, 1) := by decide +kernel
theorem dX8_readsFact_56 : decode cX8_readsFact 56 = .ok (.getfield 15, 3) := by decide +kernel
theorem dX8_readsFact_59 : decode cX8_readsFact 59 = .ok (.getfield 65, 3) := by decide +kernel
theorem dX8_readsFact_62 : decode cX8_readsFact 62 = .ok (.invokevirtual 169, 3) := by decide +kernel
theorem dX8_readsFact_65 : decode cX8_readsFact 65 = .ok (.aload_n 0, 1) := by decide +kernel
theorem dX8_readsFact_66 : decode cX8_readsFact 66 = .ok (.getfield 15, 3) := by decide +kernel
theorem dX8_readsFact_69 : decode cX8_readsFact 69 = .ok (.invokevirtual 59, 3) := by decide +kernel
theorem dX8_readsFact_72 : decode cX8_readsFact 72 = .ok (.iconst 1, 1) := by decide +kernel
theorem dX8_readsFact_73 : decode cX8_readsFact 73 = .ok (.ireturn, 1) := by decide +kernel
theorem dX8_readsKind_0 : decode cX8_readsKind 0 = .ok (.aload_n 0, 1) := by decide +kernel
theorem dX8_readsKind_1 : decode cX8_readsKind 1 = .ok (.getfield 19, 3) := by decide +kernel
theorem dX8_readsKind_4 : decode cX8_readsKind 4 = .ok (.getfield 62, 3) := by decide +kernel
theorem dX8_readsKind_7 : decode cX8_readsKind 7 = .ok (.bipush 10, 2) := by decide +kernel
theorem dX8_readsKind_9 : decode cX8_readsKind 9 = .ok (.if_icmp .lt 9, 3) := by decide +kernel
theorem dX8_readsKind_12 : decode cX8_readsKind 12 = .ok (.aload_n 0, 1) := by decide +kernel
theorem dX8_readsKind_13 : decode cX8_readsKind 13 = .ok (.iconst 5, 1) := by decide +kernel
theorem dX8_readsKind_14 : decode cX8_readsKind 14 = .ok (.invokevirtual 56, 3) := by decide +kernel
theorem dX8_readsKind_17 : decode cX8_readsKind 17 = .ok (.ireturn, 1) := by decide +kernel
theorem dX8_readsKind_18 : decode cX8_readsKind 18 = .ok (.aload_n 0, 1) := by decide +kernel
theorem dX8_readsKind_19 : decode cX8_readsKind 19 = .ok (.getfield 15, 3) := by decide +kernel
theorem dX8_readsKind_22 : decode cX8_readsKind 22 = .ok (.invokevirtual 59, 3) := by decide +kernel
theorem dX8_readsKind_25 : decode cX8_readsKind 25 = .ok (.aload_n 0, 1) := by decide +kernel
theorem dX8_readsKind_26 : decode cX8_readsKind 26 = .ok (.getfield 15, 3) := by decide +kernel
theorem dX8_readsKind_29 : decode cX8_readsKind 29 = .ok (.getfield 39, 3) := by decide +kernel
theorem dX8_readsKind_32 : decode cX8_readsKind 32 = .ok (.sipush 258, 3) := by decide +kernel
theorem dX8_readsKind_35 : decode cX8_readsKind 35 = .ok (.if_icmp .eq 9, 3) := by decide +kernel
theorem dX8_readsKind_38 : decode cX8_readsKind 38 = .ok (.aload_n 0, 1) := by decide +kernel
theorem dX8_readsKind_39 : decode cX8_readsKind 39 = .ok (.iconst 1, 1) := by decide +kernel
theorem dX8_readsKind_40 : decode cX8_readsKind 40 = .ok (.invokevirtual 56, 3) := by decide +kernel
theorem dX8_readsKind_43 : decode cX8_readsKind 43 = .ok (.ireturn, 1) := by decide +kernel
theorem dX8_readsKind_44 : decode cX8_readsKind 44 = .ok (.aload_n 0, 1) := by decide +kernel
theorem dX8_readsKind_45 : decode cX8_readsKind 45 = .ok (.getfield 19, 3) := by decide +kernel
theorem dX8_readsKind_48 : decode cX8_readsKind 48 = .ok (.aload_n 0, 1) := by decide +kernel
theorem dX8_readsKind_49 : decode cX8_readsKind 49 = .ok (.getfield 15, 3) := by decide +kernel
theorem dX8_readsKind_52 : decode cX8_readsKind 52 = .ok (.getfield 65, 3) := by decide +kernel
theorem dX8_readsKind_55 : decode cX8_readsKind 55 = .ok (.invokevirtual 69, 3) := by decide +kernel
theorem dX8_readsKind_58 : decode cX8_readsKind 58 = .ok (.iconst (-1), 1) := by decide +kernel
theorem dX8_readsKind_59 : decode cX8_readsKind 59 = .ok (.if_icmp .ne 21, 3) := by decide +kernel
theorem dX8_readsKind_62 : decode cX8_readsKind 62 = .ok (.aload_n 0, 1) := by decide +kernel
theorem dX8_readsKind_63 : decode cX8_readsKind 63 = .ok (.getfield 19, 3) := by decide +kernel
theorem dX8_readsKind_66 : decode cX8_readsKind 66 = .ok (.aload_n 0, 1) := by decide +kernel
theorem dX8_readsKind_67 : decode cX8_readsKind 67 = .ok (.getfield 15, 3) := by decide +kernel
theorem dX8_readsKind_70 : decode cX8_readsKind 70 = .ok (.getfield 65, 3) := by decide +kernel
theorem dX8_readsKind_73 : decode cX8_readsKind 73 = .ok (.invokevirtual 73, 3) := by decide +kernel
theorem dX8_readsKind_76 : decode cX8_readsKind 76 = .ok (.iconst (-1), 1) := by decide +kernel
theorem dX8_readsKind_77 : decode cX8_readsKind 77 = .ok (.if_icmp .eq 9, 3) := by decide +kernel
theorem dX8_readsKind_80 : decode cX8_readsKind 80 = .ok (.aload_n 0, 1) := by decide +kernel
theorem dX8_readsKind_81 : decode cX8_readsKind 81 = .ok (.iconst 2, 1) := by decide +kernel
theorem dX8_readsKind_82 : decode cX8_readsKind 82 = .ok (.invokevirtual 56, 3) := by decide +kernel
theorem dX8_readsKind_85 : decode cX8_readsKind 85 = .ok (.ireturn, 1) := by decide +kernel
theorem dX8_readsKind_86 : decode cX8_readsKind 86 = .ok (.aload_n 0, 1) := by decide +kernel
theorem dX8_readsKind_87 : decode cX8_readsKind 87 = .ok (.getfield 19, 3) := by decide +kernel
theorem dX8_readsKind_90 : decode cX8_readsKind 90 = .ok (.getfield 62, 3) := by decide +kernel
theorem dX8_readsKind_93 : decode cX8_readsKind 93 = .ok (.istore_n 1, 1) := by decide +kernel
theorem dX8_readsKind_94 : decode cX8_readsKind 94 = .ok (.aload_n 0, 1) := by decide +kernel
theorem dX8_readsKind_95 : decode cX8_readsKind 95 = .ok (.getfield 19, 3) := by decide +kernel
theorem dX8_readsKind_98 : decode cX8_readsKind 98 = .ok (.getfield 76, 3) := by decide +kernel
theorem dX8_readsKind_101 : decode cX8_readsKind 101 = .ok (.iload_n 1, 1) := by decide +kernel
theorem dX8_readsKind_102 : decode cX8_readsKind 102 = .ok (.aload_n 0, 1) := by decide +kernel
theorem dX8_readsKind_103 : decode cX8_readsKind 103 = .ok (.getfield 15, 3) := by decide +kernel
theorem dX8_readsKind_106 : decode cX8_readsKind 106 = .ok (.getfield 65, 3) := by decide +kernel
theorem dX8_readsKind_109 : decode cX8_readsKind 109 = .ok (.lastore, 1) := by decide +kernel
theorem dX8_readsKind_110 : decode cX8_readsKind 110 = .ok (.aload_n 0, 1) := by decide +kernel
theorem dX8_readsKind_111 : decode cX8_readsKind 111 = .ok (.getfield 19, 3) := by decide +kernel
theorem dX8_readsKind_114 : decode cX8_readsKind 114 = .ok (.dup, 1) := by decide +kernel
theorem dX8_readsKind_115 : decode cX8_readsKind 115 = .ok (.getfield 62, 3) := by decide +kernel
theorem dX8_readsKind_118 : decode cX8_readsKind 118 = .ok (.iconst 1, 1) := by decide +kernel
theorem dX8_readsKind_119 : decode cX8_readsKind 119 = .ok (.iadd, 1) := by decide +kernel
theorem dX8_readsKind_120 : decode cX8_readsKind 120 = .ok (.putfield 62, 3) := by decide +kernel
theorem dX8_readsKind_123 : decode cX8_readsKind 123 = .ok (.aload_n 0, 1) := by decide +kernel
theorem dX8_readsKind_124 : decode cX8_readsKind 124 = .ok (.getfield 15, 3) := by decide +kernel
theorem dX8_readsKind_127 : decode cX8_readsKind 127 = .ok (.invokevirtual 59, 3) := by decide +kernel
theorem dX8_readsKind_130 : decode cX8_readsKind 130 = .ok (.aload_n 0, 1) := by decide +kernel
theorem dX8_readsKind_131 : decode cX8_readsKind 131 = .ok (.iconst 2, 1) := by decide +kernel
theorem dX8_readsKind_132 : decode cX8_readsKind 132 = .ok (.iconst 1, 1) := by decide +kernel
theorem dX8_readsKind_133 : decode cX8_readsKind 133 = .ok (.sipush 500, 3) := by decide +kernel
theorem dX8_readsKind_136 : decode cX8_readsKind 136 = .ok (.aload_n 0, 1) := by decide +kernel
theorem dX8_readsKind_137 : decode cX8_readsKind 137 = .ok (.getfield 19, 3) := by decide +kernel
theorem dX8_readsKind_140 : decode cX8_readsKind 140 = .ok (.getfield 80, 3) := by decide +kernel
theorem dX8_readsKind_143 : decode cX8_readsKind 143 = .ok (.iload_n 1, 1) := by decide +kernel
theorem dX8_readsKind_144 : decode cX8_readsKind 144 = .ok (.invokevirtual 84, 3) := by decide +kernel
theorem dX8_readsKind_147 : decode cX8_readsKind 147 = .ok (.ifCond .eq 64, 3) := by decide +kernel
theorem dX8_readsKind_150 : decode cX8_readsKind 150 = .ok (.aload_n 0, 1) := by decide +kernel
theorem dX8_readsKind_151 : decode cX8_readsKind 151 = .ok (.iconst 3, 1) := by decide +kernel
theorem dX8_readsKind_152 : decode cX8_readsKind 152 = .ok (.iconst 0, 1) := by decide +kernel
theorem dX8_readsKind_153 : decode cX8_readsKind 153 = .ok (.sipush 1000, 3) := by decide +kernel
theorem dX8_readsKind_156 : decode cX8_readsKind 156 = .ok (.aload_n 0, 1) := by decide +kernel
theorem dX8_readsKind_157 : decode cX8_readsKind 157 = .ok (.getfield 19, 3) := by decide +kernel
theorem dX8_readsKind_160 : decode cX8_readsKind 160 = .ok (.getfield 88, 3) := by decide +kernel
theorem dX8_readsKind_163 : decode cX8_readsKind 163 = .ok (.iload_n 1, 1) := by decide +kernel
theorem dX8_readsKind_164 : decode cX8_readsKind 164 = .ok (.invokevirtual 84, 3) := by decide +kernel
theorem dX8_readsKind_167 : decode cX8_readsKind 167 = .ok (.ifCond .eq 44, 3) := by decide +kernel
theorem dX8_readsKind_170 : decode cX8_readsKind 170 = .ok (.aload_n 0, 1) := by decide +kernel
theorem dX8_readsKind_171 : decode cX8_readsKind 171 = .ok (.iconst 4, 1) := by decide +kernel
theorem dX8_readsKind_172 : decode cX8_readsKind 172 = .ok (.iconst 0, 1) := by decide +kernel
theorem dX8_readsKind_173 : decode cX8_readsKind 173 = .ok (.sipush 200, 3) := by decide +kernel
theorem dX8_readsKind_176 : decode cX8_readsKind 176 = .ok (.aload_n 0, 1) := by decide +kernel
theorem dX8_readsKind_177 : decode cX8_readsKind 177 = .ok (.getfield 19, 3) := by decide +kernel
theorem dX8_readsKind_180 : decode cX8_readsKind 180 = .ok (.getfield 91, 3) := by decide +kernel
theorem dX8_readsKind_183 : decode cX8_readsKind 183 = .ok (.iload_n 1, 1) := by decide +kernel
theorem dX8_readsKind_184 : decode cX8_readsKind 184 = .ok (.invokevirtual 84, 3) := by decide +kernel
theorem dX8_readsKind_187 : decode cX8_readsKind 187 = .ok (.ifCond .eq 24, 3) := by decide +kernel
theorem dX8_readsKind_190 : decode cX8_readsKind 190 = .ok (.aload_n 0, 1) := by decide +kernel
theorem dX8_readsKind_191 : decode cX8_readsKind 191 = .ok (.iload_n 1, 1) := by decide +kernel
theorem dX8_readsKind_192 : decode cX8_readsKind 192 = .ok (.invokevirtual 94, 3) := by decide +kernel
theorem dX8_readsKind_195 : decode cX8_readsKind 195 = .ok (.ifCond .eq 16, 3) := by decide +kernel
theorem dX8_readsKind_198 : decode cX8_readsKind 198 = .ok (.aload_n 0, 1) := by decide +kernel
theorem dX8_readsKind_199 : decode cX8_readsKind 199 = .ok (.bipush 59, 2) := by decide +kernel
theorem dX8_readsKind_201 : decode cX8_readsKind 201 = .ok (.invokevirtual 97, 3) := by decide +kernel
theorem dX8_readsKind_204 : decode cX8_readsKind 204 = .ok (.ifCond .eq 7, 3) := by decide +kernel
theorem dX8_readsKind_207 : decode cX8_readsKind 207 = .ok (.iconst 1, 1) := by decide +kernel
theorem dX8_readsKind_208 : decode cX8_readsKind 208 = .ok (.goto 4, 3) := by decide +kernel
theorem dX8_readsKind_211 : decode cX8_readsKind 211 = .ok (.iconst 0, 1) := by decide +kernel
theorem dX8_readsKind_212 : decode cX8_readsKind 212 = .ok (.ireturn, 1) := by decide +kernel
theorem dX8_readsKinds_0 : decode cX8_readsKinds 0 = .ok (.aload_n 0, 1) := by decide +kernel
theorem dX8_readsKinds_1 : decode cX8_readsKinds 1 = .ok (.getfield 15, 3) := by decide +kernel
theorem dX8_readsKinds_4 : decode cX8_readsKinds 4 = .ok (.getfield 39, 3) := by decide +kernel
theorem dX8_readsKinds_7 : decode cX8_readsKinds 7 = .ok (.sipush 275, 3) := by decide +kernel
theorem dX8_readsKinds_10 : decode cX8_readsKinds 10 = .ok (.if_icmp .ne 15, 3) := by decide +kernel
theorem dX8_readsKinds_13 : decode cX8_readsKinds 13 = .ok (.aload_n 0, 1) := by decide +kernel
theorem dX8_readsKinds_14 : decode cX8_readsKinds 14 = .ok (.getfield 19, 3) := by decide +kernel
theorem dX8_readsKinds_17 : decode cX8_readsKinds 17 = .ok (.iconst 3, 1) := by decide +kernel
theorem dX8_readsKinds_18 : decode cX8_readsKinds 18 = .ok (.iconst 0, 1) := by decide +kernel
theorem dX8_readsKinds_19 : decode cX8_readsKinds 19 = .ok (.invokevirtual 146, 3) := by decide +kernel
theorem dX8_readsKinds_22 : decode cX8_readsKinds 22 = .ok (.goto 99, 3) := by decide +kernel
theorem dX8_readsKinds_25 : decode cX8_readsKinds 25 = .ok (.aload_n 0, 1) := by decide +kernel
theorem dX8_readsKinds_26 : decode cX8_readsKinds 26 = .ok (.getfield 15, 3) := by decide +kernel
theorem dX8_readsKinds_29 : decode cX8_readsKinds 29 = .ok (.getfield 39, 3) := by decide +kernel
theorem dX8_readsKinds_32 : decode cX8_readsKinds 32 = .ok (.sipush 258, 3) := by decide +kernel
theorem dX8_readsKinds_35 : decode cX8_readsKinds 35 = .ok (.if_icmp .ne 80, 3) := by decide +kernel
theorem dX8_readsKinds_38 : decode cX8_readsKinds 38 = .ok (.aload_n 0, 1) := by decide +kernel
theorem dX8_readsKinds_39 : decode cX8_readsKinds 39 = .ok (.getfield 19, 3) := by decide +kernel
theorem dX8_readsKinds_42 : decode cX8_readsKinds 42 = .ok (.aload_n 0, 1) := by decide +kernel
theorem dX8_readsKinds_43 : decode cX8_readsKinds 43 = .ok (.getfield 15, 3) := by decide +kernel
theorem dX8_readsKinds_46 : decode cX8_readsKinds 46 = .ok (.getfield 65, 3) := by decide +kernel
theorem dX8_readsKinds_49 : decode cX8_readsKinds 49 = .ok (.invokevirtual 69, 3) := by decide +kernel
theorem dX8_readsKinds_52 : decode cX8_readsKinds 52 = .ok (.istore_n 1, 1) := by decide +kernel
theorem dX8_readsKinds_53 : decode cX8_readsKinds 53 = .ok (.aload_n 0, 1) := by decide +kernel
theorem dX8_readsKinds_54 : decode cX8_readsKinds 54 = .ok (.getfield 19, 3) := by decide +kernel
theorem dX8_readsKinds_57 : decode cX8_readsKinds 57 = .ok (.aload_n 0, 1) := by decide +kernel
theorem dX8_readsKinds_58 : decode cX8_readsKinds 58 = .ok (.getfield 15, 3) := by decide +kernel
theorem dX8_readsKinds_61 : decode cX8_readsKinds 61 = .ok (.getfield 65, 3) := by decide +kernel
theorem dX8_readsKinds_64 : decode cX8_readsKinds 64 = .ok (.invokevirtual 73, 3) := by decide +kernel
theorem dX8_readsKinds_67 : decode cX8_readsKinds 67 = .ok (.istore_n 2, 1) := by decide +kernel
theorem dX8_readsKinds_68 : decode cX8_readsKinds 68 = .ok (.iload_n 1, 1) := by decide +kernel
theorem dX8_readsKinds_69 : decode cX8_readsKinds 69 = .ok (.iconst (-1), 1) := by decide +kernel
theorem dX8_readsKinds_70 : decode cX8_readsKinds 70 = .ok (.if_icmp .ne 14, 3) := by decide +kernel
theorem dX8_readsKinds_73 : decode cX8_readsKinds 73 = .ok (.iload_n 2, 1) := by decide +kernel
theorem dX8_readsKinds_74 : decode cX8_readsKinds 74 = .ok (.iconst (-1), 1) := by decide +kernel
theorem dX8_readsKinds_75 : decode cX8_readsKinds 75 = .ok (.if_icmp .ne 9, 3) := by decide +kernel
theorem dX8_readsKinds_78 : decode cX8_readsKinds 78 = .ok (.aload_n 0, 1) := by decide +kernel
theorem dX8_readsKinds_79 : decode cX8_readsKinds 79 = .ok (.iconst 3, 1) := by decide +kernel
theorem dX8_readsKinds_80 : decode cX8_readsKinds 80 = .ok (.invokevirtual 56, 3) := by decide +kernel
theorem dX8_readsKinds_83 : decode cX8_readsKinds 83 = .ok (.ireturn, 1) := by decide +kernel
theorem dX8_readsKinds_84 : decode cX8_readsKinds 84 = .ok (.aload_n 0, 1) := by decide +kernel
theorem dX8_readsKinds_85 : decode cX8_readsKinds 85 = .ok (.getfield 19, 3) := by decide +kernel
theorem dX8_readsKinds_88 : decode cX8_readsKinds 88 = .ok (.iload_n 1, 1) := by decide +kernel
theorem dX8_readsKinds_89 : decode cX8_readsKinds 89 = .ok (.iconst (-1), 1) := by decide +kernel
theorem dX8_readsKinds_90 : decode cX8_readsKinds 90 = .ok (.if_icmp .eq 7, 3) := by decide +kernel
theorem dX8_readsKinds_93 : decode cX8_readsKinds 93 = .ok (.iconst 5, 1) := by decide +kernel
theorem dX8_readsKinds_94 : decode cX8_readsKinds 94 = .ok (.goto 5, 3) := by decide +kernel
theorem dX8_readsKinds_97 : decode cX8_readsKinds 97 = .ok (.bipush 6, 2) := by decide +kernel
theorem dX8_readsKinds_99 : decode cX8_readsKinds 99 = .ok (.iload_n 1, 1) := by decide +kernel
theorem dX8_readsKinds_100 : decode cX8_readsKinds 100 = .ok (.iconst (-1), 1) := by decide +kernel
theorem dX8_readsKinds_101 : decode cX8_readsKinds 101 = .ok (.if_icmp .eq 7, 3) := by decide +kernel
theorem dX8_readsKinds_104 : decode cX8_readsKinds 104 = .ok (.iload_n 1, 1) := by decide +kernel
theorem dX8_readsKinds_105 : decode cX8_readsKinds 105 = .ok (.goto 4, 3) := by decide +kernel
theorem dX8_readsKinds_108 : decode cX8_readsKinds 108 = .ok (.iload_n 2, 1) := by decide +kernel
theorem dX8_readsKinds_109 : decode cX8_readsKinds 109 = .ok (.invokevirtual 146, 3) := by decide +kernel
theorem dX8_readsKinds_112 : decode cX8_readsKinds 112 = .ok (.goto 9, 3) := by decide +kernel
theorem dX8_readsKinds_115 : decode cX8_readsKinds 115 = .ok (.aload_n 0, 1) := by decide +kernel
theorem dX8_readsKinds_116 : decode cX8_readsKinds 116 = .ok (.iconst 1, 1) := by decide +kernel
theorem dX8_readsKinds_117 : decode cX8_readsKinds 117 = .ok (.invokevirtual 56, 3) := by decide +kernel
theorem dX8_readsKinds_120 : decode cX8_readsKinds 120 = .ok (.ireturn, 1) := by decide +kernel
theorem dX8_readsKinds_121 : decode cX8_readsKinds 121 = .ok (.aload_n 0, 1) := by decide +kernel
theorem dX8_readsKinds_122 : decode cX8_readsKinds 122 = .ok (.getfield 15, 3) := by decide +kernel
theorem dX8_readsKinds_125 : decode cX8_readsKinds 125 = .ok (.invokevirtual 59, 3) := by decide +kernel
theorem dX8_readsKinds_128 : decode cX8_readsKinds 128 = .ok (.iconst 1, 1) := by decide +kernel
theorem dX8_readsKinds_129 : decode cX8_readsKinds 129 = .ok (.ireturn, 1) := by decide +kernel
theorem dX8_readsMark_0 : decode cX8_readsMark 0 = .ok (.aload_n 0, 1) := by decide +kernel
theorem dX8_readsMark_1 : decode cX8_readsMark 1 = .ok (.getfield 15, 3) := by decide +kernel
theorem dX8_readsMark_4 : decode cX8_readsMark 4 = .ok (.getfield 39, 3) := by decide +kernel
theorem dX8_readsMark_7 : decode cX8_readsMark 7 = .ok (.sipush 258, 3) := by decide +kernel
theorem dX8_readsMark_10 : decode cX8_readsMark 10 = .ok (.if_icmp .eq 9, 3) := by decide +kernel
theorem dX8_readsMark_13 : decode cX8_readsMark 13 = .ok (.aload_n 0, 1) := by decide +kernel
theorem dX8_readsMark_14 : decode cX8_readsMark 14 = .ok (.iconst 1, 1) := by decide +kernel
theorem dX8_readsMark_15 : decode cX8_readsMark 15 = .ok (.invokevirtual 56, 3) := by decide +kernel
theorem dX8_readsMark_18 : decode cX8_readsMark 18 = .ok (.ireturn, 1) := by decide +kernel
theorem dX8_readsMark_19 : decode cX8_readsMark 19 = .ok (.aload_n 0, 1) := by decide +kernel
theorem dX8_readsMark_20 : decode cX8_readsMark 20 = .ok (.getfield 19, 3) := by decide +kernel
theorem dX8_readsMark_23 : decode cX8_readsMark 23 = .ok (.aload_n 0, 1) := by decide +kernel
theorem dX8_readsMark_24 : decode cX8_readsMark 24 = .ok (.getfield 15, 3) := by decide +kernel
theorem dX8_readsMark_27 : decode cX8_readsMark 27 = .ok (.getfield 65, 3) := by decide +kernel
theorem dX8_readsMark_30 : decode cX8_readsMark 30 = .ok (.invokevirtual 69, 3) := by decide +kernel
theorem dX8_readsMark_33 : decode cX8_readsMark 33 = .ok (.iconst (-1), 1) := by decide +kernel
theorem dX8_readsMark_34 : decode cX8_readsMark 34 = .ok (.if_icmp .eq 9, 3) := by decide +kernel
theorem dX8_readsMark_37 : decode cX8_readsMark 37 = .ok (.aload_n 0, 1) := by decide +kernel
theorem dX8_readsMark_38 : decode cX8_readsMark 38 = .ok (.iconst 2, 1) := by decide +kernel
theorem dX8_readsMark_39 : decode cX8_readsMark 39 = .ok (.invokevirtual 56, 3) := by decide +kernel
theorem dX8_readsMark_42 : decode cX8_readsMark 42 = .ok (.ireturn, 1) := by decide +kernel
theorem dX8_readsMark_43 : decode cX8_readsMark 43 = .ok (.aload_n 0, 1) := by decide +kernel
theorem dX8_readsMark_44 : decode cX8_readsMark 44 = .ok (.getfield 19, 3) := by decide +kernel
theorem dX8_readsMark_47 : decode cX8_readsMark 47 = .ok (.aload_n 0, 1) := by decide +kernel
theorem dX8_readsMark_48 : decode cX8_readsMark 48 = .ok (.getfield 15, 3) := by decide +kernel
theorem dX8_readsMark_51 : decode cX8_readsMark 51 = .ok (.getfield 65, 3) := by decide +kernel
theorem dX8_readsMark_54 : decode cX8_readsMark 54 = .ok (.invokevirtual 73, 3) := by decide +kernel
theorem dX8_readsMark_57 : decode cX8_readsMark 57 = .ok (.istore_n 2, 1) := by decide +kernel
theorem dX8_readsMark_58 : decode cX8_readsMark 58 = .ok (.iload_n 2, 1) := by decide +kernel
theorem dX8_readsMark_59 : decode cX8_readsMark 59 = .ok (.iconst (-1), 1) := by decide +kernel
theorem dX8_readsMark_60 : decode cX8_readsMark 60 = .ok (.if_icmp .ne 46, 3) := by decide +kernel
theorem dX8_readsMark_63 : decode cX8_readsMark 63 = .ok (.aload_n 0, 1) := by decide +kernel
theorem dX8_readsMark_64 : decode cX8_readsMark 64 = .ok (.getfield 19, 3) := by decide +kernel
theorem dX8_readsMark_67 : decode cX8_readsMark 67 = .ok (.getfield 110, 3) := by decide +kernel
theorem dX8_readsMark_70 : decode cX8_readsMark 70 = .ok (.bipush 8, 2) := by decide +kernel
theorem dX8_readsMark_72 : decode cX8_readsMark 72 = .ok (.if_icmp .lt 9, 3) := by decide +kernel
theorem dX8_readsMark_75 : decode cX8_readsMark 75 = .ok (.aload_n 0, 1) := by decide +kernel
theorem dX8_readsMark_76 : decode cX8_readsMark 76 = .ok (.iconst 5, 1) := by decide +kernel
theorem dX8_readsMark_77 : decode cX8_readsMark 77 = .ok (.invokevirtual 56, 3) := by decide +kernel
theorem dX8_readsMark_80 : decode cX8_readsMark 80 = .ok (.ireturn, 1) := by decide +kernel
theorem dX8_readsMark_81 : decode cX8_readsMark 81 = .ok (.aload_n 0, 1) := by decide +kernel
theorem dX8_readsMark_82 : decode cX8_readsMark 82 = .ok (.getfield 19, 3) := by decide +kernel
theorem dX8_readsMark_85 : decode cX8_readsMark 85 = .ok (.getfield 110, 3) := by decide +kernel
theorem dX8_readsMark_88 : decode cX8_readsMark 88 = .ok (.istore_n 2, 1) := by decide +kernel
theorem dX8_readsMark_89 : decode cX8_readsMark 89 = .ok (.aload_n 0, 1) := by decide +kernel
theorem dX8_readsMark_90 : decode cX8_readsMark 90 = .ok (.getfield 19, 3) := by decide +kernel
theorem dX8_readsMark_93 : decode cX8_readsMark 93 = .ok (.aload_n 0, 1) := by decide +kernel
theorem dX8_readsMark_94 : decode cX8_readsMark 94 = .ok (.getfield 15, 3) := by decide +kernel
theorem dX8_readsMark_97 : decode cX8_readsMark 97 = .ok (.getfield 65, 3) := by decide +kernel
theorem dX8_readsMark_100 : decode cX8_readsMark 100 = .ok (.invokevirtual 113, 3) := by decide +kernel
theorem dX8_readsMark_103 : decode cX8_readsMark 103 = .ok (.goto 25, 3) := by decide +kernel
theorem dX8_readsMark_106 : decode cX8_readsMark 106 = .ok (.aload_n 0, 1) := by decide +kernel
theorem dX8_readsMark_107 : decode cX8_readsMark 107 = .ok (.getfield 19, 3) := by decide +kernel
theorem dX8_readsMark_110 : decode cX8_readsMark 110 = .ok (.getfield 117, 3) := by decide +kernel
theorem dX8_readsMark_113 : decode cX8_readsMark 113 = .ok (.iload_n 2, 1) := by decide +kernel
theorem dX8_readsMark_114 : decode cX8_readsMark 114 = .ok (.iaload, 1) := by decide +kernel
theorem dX8_readsMark_115 : decode cX8_readsMark 115 = .ok (.iload_n 1, 1) := by decide +kernel
theorem dX8_readsMark_116 : decode cX8_readsMark 116 = .ok (.ishr, 1) := by decide +kernel
theorem dX8_readsMark_117 : decode cX8_readsMark 117 = .ok (.iconst 1, 1) := by decide +kernel
theorem dX8_readsMark_118 : decode cX8_readsMark 118 = .ok (.iand, 1) := by decide +kernel
theorem dX8_readsMark_119 : decode cX8_readsMark 119 = .ok (.ifCond .eq 9, 3) := by decide +kernel
theorem dX8_readsMark_122 : decode cX8_readsMark 122 = .ok (.aload_n 0, 1) := by decide +kernel
theorem dX8_readsMark_123 : decode cX8_readsMark 123 = .ok (.iconst 2, 1) := by decide +kernel
theorem dX8_readsMark_124 : decode cX8_readsMark 124 = .ok (.invokevirtual 56, 3) := by decide +kernel
theorem dX8_readsMark_127 : decode cX8_readsMark 127 = .ok (.ireturn, 1) := by decide +kernel
theorem dX8_readsMark_128 : decode cX8_readsMark 128 = .ok (.aload_n 0, 1) := by decide +kernel
theorem dX8_readsMark_129 : decode cX8_readsMark 129 = .ok (.getfield 19, 3) := by decide +kernel
theorem dX8_readsMark_132 : decode cX8_readsMark 132 = .ok (.getfield 117, 3) := by decide +kernel
theorem dX8_readsMark_135 : decode cX8_readsMark 135 = .ok (.iload_n 2, 1) := by decide +kernel
theorem dX8_readsMark_136 : decode cX8_readsMark 136 = .ok (.dup2, 1) := by decide +kernel
theorem dX8_readsMark_137 : decode cX8_readsMark 137 = .ok (.iaload, 1) := by decide +kernel
theorem dX8_readsMark_138 : decode cX8_readsMark 138 = .ok (.iconst 1, 1) := by decide +kernel
theorem dX8_readsMark_139 : decode cX8_readsMark 139 = .ok (.iload_n 1, 1) := by decide +kernel
theorem dX8_readsMark_140 : decode cX8_readsMark 140 = .ok (.ishl, 1) := by decide +kernel
theorem dX8_readsMark_141 : decode cX8_readsMark 141 = .ok (.ior, 1) := by decide +kernel
theorem dX8_readsMark_142 : decode cX8_readsMark 142 = .ok (.iastore, 1) := by decide +kernel
theorem dX8_readsMark_143 : decode cX8_readsMark 143 = .ok (.aload_n 0, 1) := by decide +kernel
theorem dX8_readsMark_144 : decode cX8_readsMark 144 = .ok (.getfield 15, 3) := by decide +kernel
theorem dX8_readsMark_147 : decode cX8_readsMark 147 = .ok (.invokevirtual 59, 3) := by decide +kernel
theorem dX8_readsMark_150 : decode cX8_readsMark 150 = .ok (.iconst 1, 1) := by decide +kernel
theorem dX8_readsMark_151 : decode cX8_readsMark 151 = .ok (.ireturn, 1) := by decide +kernel
theorem dX8_readsMarks_0 : decode cX8_readsMarks 0 = .ok (.aload_n 0, 1) := by decide +kernel
theorem dX8_readsMarks_1 : decode cX8_readsMarks 1 = .ok (.getfield 15, 3) := by decide +kernel
theorem dX8_readsMarks_4 : decode cX8_readsMarks 4 = .ok (.getfield 39, 3) := by decide +kernel
theorem dX8_readsMarks_7 : decode cX8_readsMarks 7 = .ok (.sipush 265, 3) := by decide +kernel
theorem dX8_readsMarks_10 : decode cX8_readsMarks 10 = .ok (.if_icmp .eq 5, 3) := by decide +kernel
theorem dX8_readsMarks_13 : decode cX8_readsMarks 13 = .ok (.iconst 1, 1) := by decide +kernel
theorem dX8_readsMarks_14 : decode cX8_readsMarks 14 = .ok (.ireturn, 1) := by decide +kernel
theorem dX8_readsMarks_15 : decode cX8_readsMarks 15 = .ok (.iconst 0, 1) := by decide +kernel
theorem dX8_readsMarks_16 : decode cX8_readsMarks 16 = .ok (.istore_n 2, 1) := by decide +kernel
theorem dX8_readsMarks_17 : decode cX8_readsMarks 17 = .ok (.iload_n 2, 1) := by decide +kernel
theorem dX8_readsMarks_18 : decode cX8_readsMarks 18 = .ok (.sipush 1000, 3) := by decide +kernel
theorem dX8_readsMarks_21 : decode cX8_readsMarks 21 = .ok (.if_icmp .gt 40, 3) := by decide +kernel
theorem dX8_readsMarks_24 : decode cX8_readsMarks 24 = .ok (.aload_n 0, 1) := by decide +kernel
theorem dX8_readsMarks_25 : decode cX8_readsMarks 25 = .ok (.getfield 15, 3) := by decide +kernel
theorem dX8_readsMarks_28 : decode cX8_readsMarks 28 = .ok (.invokevirtual 59, 3) := by decide +kernel
theorem dX8_readsMarks_31 : decode cX8_readsMarks 31 = .ok (.aload_n 0, 1) := by decide +kernel
theorem dX8_readsMarks_32 : decode cX8_readsMarks 32 = .ok (.iload_n 1, 1) := by decide +kernel
theorem dX8_readsMarks_33 : decode cX8_readsMarks 33 = .ok (.invokevirtual 107, 3) := by decide +kernel
theorem dX8_readsMarks_36 : decode cX8_readsMarks 36 = .ok (.ifCond .ne 5, 3) := by decide +kernel
theorem dX8_readsMarks_39 : decode cX8_readsMarks 39 = .ok (.iconst 0, 1) := by decide +kernel
theorem dX8_readsMarks_40 : decode cX8_readsMarks 40 = .ok (.ireturn, 1) := by decide +kernel
theorem dX8_readsMarks_41 : decode cX8_readsMarks 41 = .ok (.aload_n 0, 1) := by decide +kernel
theorem dX8_readsMarks_42 : decode cX8_readsMarks 42 = .ok (.getfield 15, 3) := by decide +kernel
theorem dX8_readsMarks_45 : decode cX8_readsMarks 45 = .ok (.getfield 39, 3) := by decide +kernel
theorem dX8_readsMarks_48 : decode cX8_readsMarks 48 = .ok (.bipush 44, 2) := by decide +kernel
theorem dX8_readsMarks_50 : decode cX8_readsMarks 50 = .ok (.if_icmp .eq 5, 3) := by decide +kernel
theorem dX8_readsMarks_53 : decode cX8_readsMarks 53 = .ok (.iconst 1, 1) := by decide +kernel
theorem dX8_readsMarks_54 : decode cX8_readsMarks 54 = .ok (.ireturn, 1) := by decide +kernel
theorem dX8_readsMarks_55 : decode cX8_readsMarks 55 = .ok (.iinc 2 1, 3) := by decide +kernel
theorem dX8_readsMarks_58 : decode cX8_readsMarks 58 = .ok (.goto (-41), 3) := by decide +kernel
theorem dX8_readsMarks_61 : decode cX8_readsMarks 61 = .ok (.iconst 1, 1) := by decide +kernel
theorem dX8_readsMarks_62 : decode cX8_readsMarks 62 = .ok (.ireturn, 1) := by decide +kernel
theorem dX8_readsNumber_0 : decode cX8_readsNumber 0 = .ok (.aload_n 0, 1) := by decide +kernel
theorem dX8_readsNumber_1 : decode cX8_readsNumber 1 = .ok (.sipush 260, 3) := by decide +kernel
theorem dX8_readsNumber_4 : decode cX8_readsNumber 4 = .ok (.iload_n 1, 1) := by decide +kernel
theorem dX8_readsNumber_5 : decode cX8_readsNumber 5 = .ok (.iadd, 1) := by decide +kernel
theorem dX8_readsNumber_6 : decode cX8_readsNumber 6 = .ok (.invokevirtual 97, 3) := by decide +kernel
theorem dX8_readsNumber_9 : decode cX8_readsNumber 9 = .ok (.ifCond .ne 5, 3) := by decide +kernel
theorem dX8_readsNumber_12 : decode cX8_readsNumber 12 = .ok (.iconst 0, 1) := by decide +kernel
theorem dX8_readsNumber_13 : decode cX8_readsNumber 13 = .ok (.ireturn, 1) := by decide +kernel
theorem dX8_readsNumber_14 : decode cX8_readsNumber 14 = .ok (.aload_n 0, 1) := by decide +kernel
theorem dX8_readsNumber_15 : decode cX8_readsNumber 15 = .ok (.getfield 15, 3) := by decide +kernel
theorem dX8_readsNumber_18 : decode cX8_readsNumber 18 = .ok (.getfield 39, 3) := by decide +kernel
theorem dX8_readsNumber_21 : decode cX8_readsNumber 21 = .ok (.sipush 259, 3) := by decide +kernel
theorem dX8_readsNumber_24 : decode cX8_readsNumber 24 = .ok (.if_icmp .eq 9, 3) := by decide +kernel
theorem dX8_readsNumber_27 : decode cX8_readsNumber 27 = .ok (.aload_n 0, 1) := by decide +kernel
theorem dX8_readsNumber_28 : decode cX8_readsNumber 28 = .ok (.iconst 1, 1) := by decide +kernel
theorem dX8_readsNumber_29 : decode cX8_readsNumber 29 = .ok (.invokevirtual 56, 3) := by decide +kernel
theorem dX8_readsNumber_32 : decode cX8_readsNumber 32 = .ok (.ireturn, 1) := by decide +kernel
theorem dX8_readsNumber_33 : decode cX8_readsNumber 33 = .ok (.aload_n 0, 1) := by decide +kernel
theorem dX8_readsNumber_34 : decode cX8_readsNumber 34 = .ok (.getfield 15, 3) := by decide +kernel
theorem dX8_readsNumber_37 : decode cX8_readsNumber 37 = .ok (.getfield 100, 3) := by decide +kernel
theorem dX8_readsNumber_40 : decode cX8_readsNumber 40 = .ok (.iload_n 2, 1) := by decide +kernel
theorem dX8_readsNumber_41 : decode cX8_readsNumber 41 = .ok (.iload_n 3, 1) := by decide +kernel
theorem dX8_readsNumber_42 : decode cX8_readsNumber 42 = .ok (.invokestatic 103, 3) := by decide +kernel
theorem dX8_readsNumber_45 : decode cX8_readsNumber 45 = .ok (.ifCond .ne 9, 3) := by decide +kernel
theorem dX8_readsNumber_48 : decode cX8_readsNumber 48 = .ok (.aload_n 0, 1) := by decide +kernel
theorem dX8_readsNumber_49 : decode cX8_readsNumber 49 = .ok (.iconst 4, 1) := by decide +kernel
theorem dX8_readsNumber_50 : decode cX8_readsNumber 50 = .ok (.invokevirtual 56, 3) := by decide +kernel
theorem dX8_readsNumber_53 : decode cX8_readsNumber 53 = .ok (.ireturn, 1) := by decide +kernel
theorem dX8_readsNumber_54 : decode cX8_readsNumber 54 = .ok (.aload 4, 2) := by decide +kernel
theorem dX8_readsNumber_56 : decode cX8_readsNumber 56 = .ok (.iload 5, 2) := by decide +kernel
theorem dX8_readsNumber_58 : decode cX8_readsNumber 58 = .ok (.aload_n 0, 1) := by decide +kernel
theorem dX8_readsNumber_59 : decode cX8_readsNumber 59 = .ok (.getfield 15, 3) := by decide +kernel
theorem dX8_readsNumber_62 : decode cX8_readsNumber 62 = .ok (.getfield 100, 3) := by decide +kernel
theorem dX8_readsNumber_65 : decode cX8_readsNumber 65 = .ok (.iastore, 1) := by decide +kernel
theorem dX8_readsNumber_66 : decode cX8_readsNumber 66 = .ok (.aload_n 0, 1) := by decide +kernel
theorem dX8_readsNumber_67 : decode cX8_readsNumber 67 = .ok (.getfield 15, 3) := by decide +kernel
theorem dX8_readsNumber_70 : decode cX8_readsNumber 70 = .ok (.invokevirtual 59, 3) := by decide +kernel
theorem dX8_readsNumber_73 : decode cX8_readsNumber 73 = .ok (.iconst 1, 1) := by decide +kernel
theorem dX8_readsNumber_74 : decode cX8_readsNumber 74 = .ok (.ireturn, 1) := by decide +kernel
theorem dX8_readsPart_0 : decode cX8_readsPart 0 = .ok (.aload_n 0, 1) := by decide +kernel
theorem dX8_readsPart_1 : decode cX8_readsPart 1 = .ok (.getfield 15, 3) := by decide +kernel
theorem dX8_readsPart_4 : decode cX8_readsPart 4 = .ok (.getfield 39, 3) := by decide +kernel
theorem dX8_readsPart_7 : decode cX8_readsPart 7 = .ok (.bipush 40, 2) := by decide +kernel
theorem dX8_readsPart_9 : decode cX8_readsPart 9 = .ok (.if_icmp .ne 44, 3) := by decide +kernel
theorem dX8_readsPart_12 : decode cX8_readsPart 12 = .ok (.aload_n 0, 1) := by decide +kernel
theorem dX8_readsPart_13 : decode cX8_readsPart 13 = .ok (.invokevirtual 153, 3) := by decide +kernel
theorem dX8_readsPart_16 : decode cX8_readsPart 16 = .ok (.ifCond .eq 23, 3) := by decide +kernel
theorem dX8_readsPart_19 : decode cX8_readsPart 19 = .ok (.aload_n 0, 1) := by decide +kernel
theorem dX8_readsPart_20 : decode cX8_readsPart 20 = .ok (.invokevirtual 136, 3) := by decide +kernel
theorem dX8_readsPart_23 : decode cX8_readsPart 23 = .ok (.ifCond .eq 16, 3) := by decide +kernel
theorem dX8_readsPart_26 : decode cX8_readsPart 26 = .ok (.aload_n 0, 1) := by decide +kernel
theorem dX8_readsPart_27 : decode cX8_readsPart 27 = .ok (.bipush 41, 2) := by decide +kernel
theorem dX8_readsPart_29 : decode cX8_readsPart 29 = .ok (.invokevirtual 97, 3) := by decide +kernel
theorem dX8_readsPart_32 : decode cX8_readsPart 32 = .ok (.ifCond .eq 7, 3) := by decide +kernel
theorem dX8_readsPart_35 : decode cX8_readsPart 35 = .ok (.iconst 1, 1) := by decide +kernel
theorem dX8_readsPart_36 : decode cX8_readsPart 36 = .ok (.goto 4, 3) := by decide +kernel
theorem dX8_readsPart_39 : decode cX8_readsPart 39 = .ok (.iconst 0, 1) := by decide +kernel
theorem dX8_readsPart_40 : decode cX8_readsPart 40 = .ok (.istore_n 1, 1) := by decide +kernel
theorem dX8_readsPart_41 : decode cX8_readsPart 41 = .ok (.aload_n 0, 1) := by decide +kernel
theorem dX8_readsPart_42 : decode cX8_readsPart 42 = .ok (.dup, 1) := by decide +kernel
theorem dX8_readsPart_43 : decode cX8_readsPart 43 = .ok (.getfield 26, 3) := by decide +kernel
theorem dX8_readsPart_46 : decode cX8_readsPart 46 = .ok (.iconst 1, 1) := by decide +kernel
theorem dX8_readsPart_47 : decode cX8_readsPart 47 = .ok (.isub, 1) := by decide +kernel
theorem dX8_readsPart_48 : decode cX8_readsPart 48 = .ok (.putfield 26, 3) := by decide +kernel
theorem dX8_readsPart_51 : decode cX8_readsPart 51 = .ok (.iload_n 1, 1) := by decide +kernel
theorem dX8_readsPart_52 : decode cX8_readsPart 52 = .ok (.ireturn, 1) := by decide +kernel
theorem dX8_readsPart_53 : decode cX8_readsPart 53 = .ok (.aload_n 0, 1) := by decide +kernel
theorem dX8_readsPart_54 : decode cX8_readsPart 54 = .ok (.getfield 15, 3) := by decide +kernel
theorem dX8_readsPart_57 : decode cX8_readsPart 57 = .ok (.getfield 39, 3) := by decide +kernel
theorem dX8_readsPart_60 : decode cX8_readsPart 60 = .ok (.sipush 259, 3) := by decide +kernel
theorem dX8_readsPart_63 : decode cX8_readsPart 63 = .ok (.if_icmp .ne 21, 3) := by decide +kernel
theorem dX8_readsPart_66 : decode cX8_readsPart 66 = .ok (.aload_n 0, 1) := by decide +kernel
theorem dX8_readsPart_67 : decode cX8_readsPart 67 = .ok (.getfield 19, 3) := by decide +kernel
theorem dX8_readsPart_70 : decode cX8_readsPart 70 = .ok (.iconst 1, 1) := by decide +kernel
theorem dX8_readsPart_71 : decode cX8_readsPart 71 = .ok (.aload_n 0, 1) := by decide +kernel
theorem dX8_readsPart_72 : decode cX8_readsPart 72 = .ok (.getfield 15, 3) := by decide +kernel
theorem dX8_readsPart_75 : decode cX8_readsPart 75 = .ok (.getfield 100, 3) := by decide +kernel
theorem dX8_readsPart_78 : decode cX8_readsPart 78 = .ok (.invokevirtual 146, 3) := by decide +kernel
theorem dX8_readsPart_81 : decode cX8_readsPart 81 = .ok (.goto 53, 3) := by decide +kernel
theorem dX8_readsPart_84 : decode cX8_readsPart 84 = .ok (.aload_n 0, 1) := by decide +kernel
theorem dX8_readsPart_85 : decode cX8_readsPart 85 = .ok (.getfield 15, 3) := by decide +kernel
theorem dX8_readsPart_88 : decode cX8_readsPart 88 = .ok (.getfield 39, 3) := by decide +kernel
theorem dX8_readsPart_91 : decode cX8_readsPart 91 = .ok (.sipush 278, 3) := by decide +kernel
theorem dX8_readsPart_94 : decode cX8_readsPart 94 = .ok (.sipush 282, 3) := by decide +kernel
theorem dX8_readsPart_97 : decode cX8_readsPart 97 = .ok (.invokestatic 103, 3) := by decide +kernel
theorem dX8_readsPart_100 : decode cX8_readsPart 100 = .ok (.ifCond .eq 28, 3) := by decide +kernel
theorem dX8_readsPart_103 : decode cX8_readsPart 103 = .ok (.aload_n 0, 1) := by decide +kernel
theorem dX8_readsPart_104 : decode cX8_readsPart 104 = .ok (.getfield 19, 3) := by decide +kernel
theorem dX8_readsPart_107 : decode cX8_readsPart 107 = .ok (.iconst 2, 1) := by decide +kernel
theorem dX8_readsPart_108 : decode cX8_readsPart 108 = .ok (.aload_n 0, 1) := by decide +kernel
theorem dX8_readsPart_109 : decode cX8_readsPart 109 = .ok (.getfield 15, 3) := by decide +kernel
theorem dX8_readsPart_112 : decode cX8_readsPart 112 = .ok (.getfield 39, 3) := by decide +kernel
theorem dX8_readsPart_115 : decode cX8_readsPart 115 = .ok (.sipush 260, 3) := by decide +kernel
theorem dX8_readsPart_118 : decode cX8_readsPart 118 = .ok (.isub, 1) := by decide +kernel
theorem dX8_readsPart_119 : decode cX8_readsPart 119 = .ok (.bipush 18, 2) := by decide +kernel
theorem dX8_readsPart_121 : decode cX8_readsPart 121 = .ok (.isub, 1) := by decide +kernel
theorem dX8_readsPart_122 : decode cX8_readsPart 122 = .ok (.invokevirtual 146, 3) := by decide +kernel
theorem dX8_readsPart_125 : decode cX8_readsPart 125 = .ok (.goto 9, 3) := by decide +kernel
theorem dX8_readsPart_128 : decode cX8_readsPart 128 = .ok (.aload_n 0, 1) := by decide +kernel
theorem dX8_readsPart_129 : decode cX8_readsPart 129 = .ok (.iconst 1, 1) := by decide +kernel
theorem dX8_readsPart_130 : decode cX8_readsPart 130 = .ok (.invokevirtual 56, 3) := by decide +kernel
theorem dX8_readsPart_133 : decode cX8_readsPart 133 = .ok (.ireturn, 1) := by decide +kernel
theorem dX8_readsPart_134 : decode cX8_readsPart 134 = .ok (.aload_n 0, 1) := by decide +kernel
theorem dX8_readsPart_135 : decode cX8_readsPart 135 = .ok (.getfield 15, 3) := by decide +kernel
theorem dX8_readsPart_138 : decode cX8_readsPart 138 = .ok (.invokevirtual 59, 3) := by decide +kernel
theorem dX8_readsPart_141 : decode cX8_readsPart 141 = .ok (.iconst 1, 1) := by decide +kernel
theorem dX8_readsPart_142 : decode cX8_readsPart 142 = .ok (.ireturn, 1) := by decide +kernel
theorem dX8_readsSingle_0 : decode cX8_readsSingle 0 = .ok (.iconst 0, 1) := by decide +kernel
theorem dX8_readsSingle_1 : decode cX8_readsSingle 1 = .ok (.istore_n 2, 1) := by decide +kernel
theorem dX8_readsSingle_2 : decode cX8_readsSingle 2 = .ok (.iconst 0, 1) := by decide +kernel
theorem dX8_readsSingle_3 : decode cX8_readsSingle 3 = .ok (.istore_n 3, 1) := by decide +kernel
theorem dX8_readsSingle_4 : decode cX8_readsSingle 4 = .ok (.iload_n 3, 1) := by decide +kernel
theorem dX8_readsSingle_5 : decode cX8_readsSingle 5 = .ok (.sipush 1000, 3) := by decide +kernel
theorem dX8_readsSingle_8 : decode cX8_readsSingle 8 = .ok (.if_icmp .gt 39, 3) := by decide +kernel
theorem dX8_readsSingle_11 : decode cX8_readsSingle 11 = .ok (.aload_n 0, 1) := by decide +kernel
theorem dX8_readsSingle_12 : decode cX8_readsSingle 12 = .ok (.getfield 15, 3) := by decide +kernel
theorem dX8_readsSingle_15 : decode cX8_readsSingle 15 = .ok (.getfield 39, 3) := by decide +kernel
theorem dX8_readsSingle_18 : decode cX8_readsSingle 18 = .ok (.sipush 274, 3) := by decide +kernel
theorem dX8_readsSingle_21 : decode cX8_readsSingle 21 = .ok (.if_icmp .ne 26, 3) := by decide +kernel
theorem dX8_readsSingle_24 : decode cX8_readsSingle 24 = .ok (.iload_n 2, 1) := by decide +kernel
theorem dX8_readsSingle_25 : decode cX8_readsSingle 25 = .ok (.ifCond .ne 7, 3) := by decide +kernel
theorem dX8_readsSingle_28 : decode cX8_readsSingle 28 = .ok (.iconst 1, 1) := by decide +kernel
theorem dX8_readsSingle_29 : decode cX8_readsSingle 29 = .ok (.goto 4, 3) := by decide +kernel
theorem dX8_readsSingle_32 : decode cX8_readsSingle 32 = .ok (.iconst 0, 1) := by decide +kernel
theorem dX8_readsSingle_33 : decode cX8_readsSingle 33 = .ok (.istore_n 2, 1) := by decide +kernel
theorem dX8_readsSingle_34 : decode cX8_readsSingle 34 = .ok (.aload_n 0, 1) := by decide +kernel
theorem dX8_readsSingle_35 : decode cX8_readsSingle 35 = .ok (.getfield 15, 3) := by decide +kernel
theorem dX8_readsSingle_38 : decode cX8_readsSingle 38 = .ok (.invokevirtual 59, 3) := by decide +kernel
theorem dX8_readsSingle_41 : decode cX8_readsSingle 41 = .ok (.iinc 3 1, 3) := by decide +kernel
theorem dX8_readsSingle_44 : decode cX8_readsSingle 44 = .ok (.goto (-40), 3) := by decide +kernel
theorem dX8_readsSingle_47 : decode cX8_readsSingle 47 = .ok (.aload_n 0, 1) := by decide +kernel
theorem dX8_readsSingle_48 : decode cX8_readsSingle 48 = .ok (.getfield 15, 3) := by decide +kernel
theorem dX8_readsSingle_51 : decode cX8_readsSingle 51 = .ok (.getfield 39, 3) := by decide +kernel
theorem dX8_readsSingle_54 : decode cX8_readsSingle 54 = .ok (.bipush 91, 2) := by decide +kernel
theorem dX8_readsSingle_56 : decode cX8_readsSingle 56 = .ok (.if_icmp .ne 46, 3) := by decide +kernel
theorem dX8_readsSingle_59 : decode cX8_readsSingle 59 = .ok (.aload_n 0, 1) := by decide +kernel
theorem dX8_readsSingle_60 : decode cX8_readsSingle 60 = .ok (.invokevirtual 153, 3) := by decide +kernel
theorem dX8_readsSingle_63 : decode cX8_readsSingle 63 = .ok (.ifCond .eq 24, 3) := by decide +kernel
theorem dX8_readsSingle_66 : decode cX8_readsSingle 66 = .ok (.aload_n 0, 1) := by decide +kernel
theorem dX8_readsSingle_67 : decode cX8_readsSingle 67 = .ok (.iload_n 1, 1) := by decide +kernel
theorem dX8_readsSingle_68 : decode cX8_readsSingle 68 = .ok (.invokevirtual 139, 3) := by decide +kernel
theorem dX8_readsSingle_71 : decode cX8_readsSingle 71 = .ok (.ifCond .eq 16, 3) := by decide +kernel
theorem dX8_readsSingle_74 : decode cX8_readsSingle 74 = .ok (.aload_n 0, 1) := by decide +kernel
theorem dX8_readsSingle_75 : decode cX8_readsSingle 75 = .ok (.bipush 93, 2) := by decide +kernel
theorem dX8_readsSingle_77 : decode cX8_readsSingle 77 = .ok (.invokevirtual 97, 3) := by decide +kernel
theorem dX8_readsSingle_80 : decode cX8_readsSingle 80 = .ok (.ifCond .eq 7, 3) := by decide +kernel
theorem dX8_readsSingle_83 : decode cX8_readsSingle 83 = .ok (.iconst 1, 1) := by decide +kernel
theorem dX8_readsSingle_84 : decode cX8_readsSingle 84 = .ok (.goto 4, 3) := by decide +kernel
theorem dX8_readsSingle_87 : decode cX8_readsSingle 87 = .ok (.iconst 0, 1) := by decide +kernel
theorem dX8_readsSingle_88 : decode cX8_readsSingle 88 = .ok (.istore_n 3, 1) := by decide +kernel
theorem dX8_readsSingle_89 : decode cX8_readsSingle 89 = .ok (.aload_n 0, 1) := by decide +kernel
theorem dX8_readsSingle_90 : decode cX8_readsSingle 90 = .ok (.dup, 1) := by decide +kernel
theorem dX8_readsSingle_91 : decode cX8_readsSingle 91 = .ok (.getfield 26, 3) := by decide +kernel
theorem dX8_readsSingle_94 : decode cX8_readsSingle 94 = .ok (.iconst 1, 1) := by decide +kernel
theorem dX8_readsSingle_95 : decode cX8_readsSingle 95 = .ok (.isub, 1) := by decide +kernel
theorem dX8_readsSingle_96 : decode cX8_readsSingle 96 = .ok (.putfield 26, 3) := by decide +kernel
theorem dX8_readsSingle_99 : decode cX8_readsSingle 99 = .ok (.goto 102, 3) := by decide +kernel
theorem dX8_readsSingle_102 : decode cX8_readsSingle 102 = .ok (.iload_n 1, 1) := by decide +kernel
theorem dX8_readsSingle_103 : decode cX8_readsSingle 103 = .ok (.ifCond .eq 11, 3) := by decide +kernel
theorem dX8_readsSingle_106 : decode cX8_readsSingle 106 = .ok (.aload_n 0, 1) := by decide +kernel
theorem dX8_readsSingle_107 : decode cX8_readsSingle 107 = .ok (.invokevirtual 156, 3) := by decide +kernel
theorem dX8_readsSingle_110 : decode cX8_readsSingle 110 = .ok (.istore_n 3, 1) := by decide +kernel
theorem dX8_readsSingle_111 : decode cX8_readsSingle 111 = .ok (.goto 90, 3) := by decide +kernel
theorem dX8_readsSingle_114 : decode cX8_readsSingle 114 = .ok (.aload_n 0, 1) := by decide +kernel
theorem dX8_readsSingle_115 : decode cX8_readsSingle 115 = .ok (.getfield 15, 3) := by decide +kernel
theorem dX8_readsSingle_118 : decode cX8_readsSingle 118 = .ok (.getfield 39, 3) := by decide +kernel
theorem dX8_readsSingle_121 : decode cX8_readsSingle 121 = .ok (.sipush 276, 3) := by decide +kernel
theorem dX8_readsSingle_124 : decode cX8_readsSingle 124 = .ok (.if_icmp .eq 16, 3) := by decide +kernel
theorem dX8_readsSingle_127 : decode cX8_readsSingle 127 = .ok (.aload_n 0, 1) := by decide +kernel
theorem dX8_readsSingle_128 : decode cX8_readsSingle 128 = .ok (.getfield 15, 3) := by decide +kernel
theorem dX8_readsSingle_131 : decode cX8_readsSingle 131 = .ok (.getfield 39, 3) := by decide +kernel
theorem dX8_readsSingle_134 : decode cX8_readsSingle 134 = .ok (.sipush 277, 3) := by decide +kernel
theorem dX8_readsSingle_137 : decode cX8_readsSingle 137 = .ok (.if_icmp .ne 11, 3) := by decide +kernel
theorem dX8_readsSingle_140 : decode cX8_readsSingle 140 = .ok (.aload_n 0, 1) := by decide +kernel
theorem dX8_readsSingle_141 : decode cX8_readsSingle 141 = .ok (.invokevirtual 159, 3) := by decide +kernel
theorem dX8_readsSingle_144 : decode cX8_readsSingle 144 = .ok (.istore_n 3, 1) := by decide +kernel
theorem dX8_readsSingle_145 : decode cX8_readsSingle 145 = .ok (.goto 56, 3) := by decide +kernel
theorem dX8_readsSingle_148 : decode cX8_readsSingle 148 = .ok (.aload_n 0, 1) := by decide +kernel
theorem dX8_readsSingle_149 : decode cX8_readsSingle 149 = .ok (.invokevirtual 136, 3) := by decide +kernel
theorem dX8_readsSingle_152 : decode cX8_readsSingle 152 = .ok (.istore_n 3, 1) := by decide +kernel
theorem dX8_readsSingle_153 : decode cX8_readsSingle 153 = .ok (.aload_n 0, 1) := by decide +kernel
theorem dX8_readsSingle_154 : decode cX8_readsSingle 154 = .ok (.getfield 15, 3) := by decide +kernel
theorem dX8_readsSingle_157 : decode cX8_readsSingle 157 = .ok (.getfield 39, 3) := by decide +kernel
theorem dX8_readsSingle_160 : decode cX8_readsSingle 160 = .ok (.invokestatic 162, 3) := by decide +kernel
theorem dX8_readsSingle_163 : decode cX8_readsSingle 163 = .ok (.istore 4, 2) := by decide +kernel
theorem dX8_readsSingle_165 : decode cX8_readsSingle 165 = .ok (.iload_n 3, 1) := by decide +kernel
theorem dX8_readsSingle_166 : decode cX8_readsSingle 166 = .ok (.ifCond .eq 23, 3) := by decide +kernel
theorem dX8_readsSingle_169 : decode cX8_readsSingle 169 = .ok (.aload_n 0, 1) := by decide +kernel
theorem dX8_readsSingle_170 : decode cX8_readsSingle 170 = .ok (.iload 4, 2) := by decide +kernel
theorem dX8_readsSingle_172 : decode cX8_readsSingle 172 = .ok (.invokevirtual 166, 3) := by decide +kernel
theorem dX8_readsSingle_175 : decode cX8_readsSingle 175 = .ok (.ifCond .eq 14, 3) := by decide +kernel
theorem dX8_readsSingle_178 : decode cX8_readsSingle 178 = .ok (.aload_n 0, 1) := by decide +kernel
theorem dX8_readsSingle_179 : decode cX8_readsSingle 179 = .ok (.invokevirtual 136, 3) := by decide +kernel
theorem dX8_readsSingle_182 : decode cX8_readsSingle 182 = .ok (.ifCond .eq 7, 3) := by decide +kernel
theorem dX8_readsSingle_185 : decode cX8_readsSingle 185 = .ok (.iconst 1, 1) := by decide +kernel
theorem dX8_readsSingle_186 : decode cX8_readsSingle 186 = .ok (.goto 4, 3) := by decide +kernel
theorem dX8_readsSingle_189 : decode cX8_readsSingle 189 = .ok (.iconst 0, 1) := by decide +kernel
theorem dX8_readsSingle_190 : decode cX8_readsSingle 190 = .ok (.istore_n 3, 1) := by decide +kernel
theorem dX8_readsSingle_191 : decode cX8_readsSingle 191 = .ok (.aload_n 0, 1) := by decide +kernel
theorem dX8_readsSingle_192 : decode cX8_readsSingle 192 = .ok (.getfield 19, 3) := by decide +kernel
theorem dX8_readsSingle_195 : decode cX8_readsSingle 195 = .ok (.iload 4, 2) := by decide +kernel
theorem dX8_readsSingle_197 : decode cX8_readsSingle 197 = .ok (.iconst 0, 1) := by decide +kernel
theorem dX8_readsSingle_198 : decode cX8_readsSingle 198 = .ok (.invokevirtual 146, 3) := by decide +kernel
theorem dX8_readsSingle_201 : decode cX8_readsSingle 201 = .ok (.iload_n 2, 1) := by decide +kernel
theorem dX8_readsSingle_202 : decode cX8_readsSingle 202 = .ok (.ifCond .eq 13, 3) := by decide +kernel
theorem dX8_readsSingle_205 : decode cX8_readsSingle 205 = .ok (.aload_n 0, 1) := by decide +kernel
theorem dX8_readsSingle_206 : decode cX8_readsSingle 206 = .ok (.getfield 19, 3) := by decide +kernel
theorem dX8_readsSingle_209 : decode cX8_readsSingle 209 = .ok (.bipush 7, 2) := by decide +kernel
theorem dX8_readsSingle_211 : decode cX8_readsSingle 211 = .ok (.iconst 0, 1) := by decide +kernel
theorem dX8_readsSingle_212 : decode cX8_readsSingle 212 = .ok (.invokevirtual 146, 3) := by decide +kernel
theorem dX8_readsSingle_215 : decode cX8_readsSingle 215 = .ok (.iload_n 3, 1) := by decide +kernel
theorem dX8_readsSingle_216 : decode cX8_readsSingle 216 = .ok (.ireturn, 1) := by decide +kernel
theorem dX8_readsSum_0 : decode cX8_readsSum 0 = .ok (.aload_n 0, 1) := by decide +kernel
theorem dX8_readsSum_1 : decode cX8_readsSum 1 = .ok (.invokevirtual 172, 3) := by decide +kernel
theorem dX8_readsSum_4 : decode cX8_readsSum 4 = .ok (.ifCond .ne 5, 3) := by decide +kernel
theorem dX8_readsSum_7 : decode cX8_readsSum 7 = .ok (.iconst 0, 1) := by decide +kernel
theorem dX8_readsSum_8 : decode cX8_readsSum 8 = .ok (.ireturn, 1) := by decide +kernel
theorem dX8_readsSum_9 : decode cX8_readsSum 9 = .ok (.iconst 0, 1) := by decide +kernel
theorem dX8_readsSum_10 : decode cX8_readsSum 10 = .ok (.istore_n 1, 1) := by decide +kernel
theorem dX8_readsSum_11 : decode cX8_readsSum 11 = .ok (.iload_n 1, 1) := by decide +kernel
theorem dX8_readsSum_12 : decode cX8_readsSum 12 = .ok (.sipush 1000, 3) := by decide +kernel
theorem dX8_readsSum_15 : decode cX8_readsSum 15 = .ok (.if_icmp .gt 85, 3) := by decide +kernel
theorem dX8_readsSum_18 : decode cX8_readsSum 18 = .ok (.aload_n 0, 1) := by decide +kernel
theorem dX8_readsSum_19 : decode cX8_readsSum 19 = .ok (.getfield 15, 3) := by decide +kernel
theorem dX8_readsSum_22 : decode cX8_readsSum 22 = .ok (.getfield 39, 3) := by decide +kernel
theorem dX8_readsSum_25 : decode cX8_readsSum 25 = .ok (.istore_n 2, 1) := by decide +kernel
theorem dX8_readsSum_26 : decode cX8_readsSum 26 = .ok (.iload_n 2, 1) := by decide +kernel
theorem dX8_readsSum_27 : decode cX8_readsSum 27 = .ok (.bipush 43, 2) := by decide +kernel
theorem dX8_readsSum_29 : decode cX8_readsSum 29 = .ok (.if_icmp .eq 17, 3) := by decide +kernel
theorem dX8_readsSum_32 : decode cX8_readsSum 32 = .ok (.iload_n 2, 1) := by decide +kernel
theorem dX8_readsSum_33 : decode cX8_readsSum 33 = .ok (.bipush 45, 2) := by decide +kernel
theorem dX8_readsSum_35 : decode cX8_readsSum 35 = .ok (.if_icmp .eq 11, 3) := by decide +kernel
theorem dX8_readsSum_38 : decode cX8_readsSum 38 = .ok (.iload_n 2, 1) := by decide +kernel
theorem dX8_readsSum_39 : decode cX8_readsSum 39 = .ok (.bipush 42, 2) := by decide +kernel
theorem dX8_readsSum_41 : decode cX8_readsSum 41 = .ok (.if_icmp .eq 5, 3) := by decide +kernel
theorem dX8_readsSum_44 : decode cX8_readsSum 44 = .ok (.iconst 1, 1) := by decide +kernel
theorem dX8_readsSum_45 : decode cX8_readsSum 45 = .ok (.ireturn, 1) := by decide +kernel
theorem dX8_readsSum_46 : decode cX8_readsSum 46 = .ok (.aload_n 0, 1) := by decide +kernel
theorem dX8_readsSum_47 : decode cX8_readsSum 47 = .ok (.getfield 15, 3) := by decide +kernel
theorem dX8_readsSum_50 : decode cX8_readsSum 50 = .ok (.invokevirtual 59, 3) := by decide +kernel
theorem dX8_readsSum_53 : decode cX8_readsSum 53 = .ok (.aload_n 0, 1) := by decide +kernel
theorem dX8_readsSum_54 : decode cX8_readsSum 54 = .ok (.invokevirtual 172, 3) := by decide +kernel
theorem dX8_readsSum_57 : decode cX8_readsSum 57 = .ok (.ifCond .ne 5, 3) := by decide +kernel
theorem dX8_readsSum_60 : decode cX8_readsSum 60 = .ok (.iconst 0, 1) := by decide +kernel
theorem dX8_readsSum_61 : decode cX8_readsSum 61 = .ok (.ireturn, 1) := by decide +kernel
theorem dX8_readsSum_62 : decode cX8_readsSum 62 = .ok (.aload_n 0, 1) := by decide +kernel
theorem dX8_readsSum_63 : decode cX8_readsSum 63 = .ok (.getfield 19, 3) := by decide +kernel
theorem dX8_readsSum_66 : decode cX8_readsSum 66 = .ok (.iload_n 2, 1) := by decide +kernel
theorem dX8_readsSum_67 : decode cX8_readsSum 67 = .ok (.bipush 43, 2) := by decide +kernel
theorem dX8_readsSum_69 : decode cX8_readsSum 69 = .ok (.if_icmp .ne 8, 3) := by decide +kernel
theorem dX8_readsSum_72 : decode cX8_readsSum 72 = .ok (.bipush 13, 2) := by decide +kernel
theorem dX8_readsSum_74 : decode cX8_readsSum 74 = .ok (.goto 16, 3) := by decide +kernel
theorem dX8_readsSum_77 : decode cX8_readsSum 77 = .ok (.iload_n 2, 1) := by decide +kernel
theorem dX8_readsSum_78 : decode cX8_readsSum 78 = .ok (.bipush 45, 2) := by decide +kernel
theorem dX8_readsSum_80 : decode cX8_readsSum 80 = .ok (.if_icmp .ne 8, 3) := by decide +kernel
theorem dX8_readsSum_83 : decode cX8_readsSum 83 = .ok (.bipush 14, 2) := by decide +kernel
theorem dX8_readsSum_85 : decode cX8_readsSum 85 = .ok (.goto 5, 3) := by decide +kernel
theorem dX8_readsSum_88 : decode cX8_readsSum 88 = .ok (.bipush 15, 2) := by decide +kernel
theorem dX8_readsSum_90 : decode cX8_readsSum 90 = .ok (.iconst 0, 1) := by decide +kernel
theorem dX8_readsSum_91 : decode cX8_readsSum 91 = .ok (.invokevirtual 146, 3) := by decide +kernel
theorem dX8_readsSum_94 : decode cX8_readsSum 94 = .ok (.iinc 1 1, 3) := by decide +kernel
theorem dX8_readsSum_97 : decode cX8_readsSum 97 = .ok (.goto (-86), 3) := by decide +kernel
theorem dX8_readsSum_100 : decode cX8_readsSum 100 = .ok (.iconst 1, 1) := by decide +kernel
theorem dX8_readsSum_101 : decode cX8_readsSum 101 = .ok (.ireturn, 1) := by decide +kernel
theorem dX9_canChange_0 : decode cX9_canChange 0 = .ok (.aload_n 0, 1) := by decide +kernel
theorem dX9_canChange_1 : decode cX9_canChange 1 = .ok (.getfield 30, 3) := by decide +kernel
theorem dX9_canChange_4 : decode cX9_canChange 4 = .ok (.getfield 90, 3) := by decide +kernel
theorem dX9_canChange_7 : decode cX9_canChange 7 = .ok (.iload_n 1, 1) := by decide +kernel
theorem dX9_canChange_8 : decode cX9_canChange 8 = .ok (.iaload, 1) := by decide +kernel
theorem dX9_canChange_9 : decode cX9_canChange 9 = .ok (.aload_n 0, 1) := by decide +kernel
theorem dX9_canChange_10 : decode cX9_canChange 10 = .ok (.getfield 30, 3) := by decide +kernel
theorem dX9_canChange_13 : decode cX9_canChange 13 = .ok (.getfield 93, 3) := by decide +kernel
theorem dX9_canChange_16 : decode cX9_canChange 16 = .ok (.iload_n 1, 1) := by decide +kernel
theorem dX9_canChange_17 : decode cX9_canChange 17 = .ok (.iaload, 1) := by decide +kernel
theorem dX9_canChange_18 : decode cX9_canChange 18 = .ok (.if_icmp .lt 24, 3) := by decide +kernel
theorem dX9_canChange_21 : decode cX9_canChange 21 = .ok (.aload_n 0, 1) := by decide +kernel
theorem dX9_canChange_22 : decode cX9_canChange 22 = .ok (.getfield 30, 3) := by decide +kernel
theorem dX9_canChange_25 : decode cX9_canChange 25 = .ok (.getfield 77, 3) := by decide +kernel
theorem dX9_canChange_28 : decode cX9_canChange 28 = .ok (.iload_n 1, 1) := by decide +kernel
theorem dX9_canChange_29 : decode cX9_canChange 29 = .ok (.iaload, 1) := by decide +kernel
theorem dX9_canChange_30 : decode cX9_canChange 30 = .ok (.aload_n 0, 1) := by decide +kernel
theorem dX9_canChange_31 : decode cX9_canChange 31 = .ok (.getfield 9, 3) := by decide +kernel
theorem dX9_canChange_34 : decode cX9_canChange 34 = .ok (.iload_n 1, 1) := by decide +kernel
theorem dX9_canChange_35 : decode cX9_canChange 35 = .ok (.iaload, 1) := by decide +kernel
theorem dX9_canChange_36 : decode cX9_canChange 36 = .ok (.iconst (-1), 1) := by decide +kernel
theorem dX9_canChange_37 : decode cX9_canChange 37 = .ok (.ixor, 1) := by decide +kernel
theorem dX9_canChange_38 : decode cX9_canChange 38 = .ok (.iand, 1) := by decide +kernel
theorem dX9_canChange_39 : decode cX9_canChange 39 = .ok (.ifCond .eq 7, 3) := by decide +kernel
theorem dX9_canChange_42 : decode cX9_canChange 42 = .ok (.iconst 1, 1) := by decide +kernel
theorem dX9_canChange_43 : decode cX9_canChange 43 = .ok (.goto 4, 3) := by decide +kernel
theorem dX9_canChange_46 : decode cX9_canChange 46 = .ok (.iconst 0, 1) := by decide +kernel
theorem dX9_canChange_47 : decode cX9_canChange 47 = .ok (.ireturn, 1) := by decide +kernel
theorem dX9_deal_0 : decode cX9_deal 0 = .ok (.aload_n 0, 1) := by decide +kernel
theorem dX9_deal_1 : decode cX9_deal 1 = .ok (.getfield 30, 3) := by decide +kernel
theorem dX9_deal_4 : decode cX9_deal 4 = .ok (.getfield 38, 3) := by decide +kernel
theorem dX9_deal_7 : decode cX9_deal 7 = .ok (.ifCond .ne 4, 3) := by decide +kernel
theorem dX9_deal_10 : decode cX9_deal 10 = .ok (.return_, 1) := by decide +kernel
theorem dX9_deal_11 : decode cX9_deal 11 = .ok (.aload_n 0, 1) := by decide +kernel
theorem dX9_deal_12 : decode cX9_deal 12 = .ok (.getfield 34, 3) := by decide +kernel
theorem dX9_deal_15 : decode cX9_deal 15 = .ok (.invokevirtual 44, 3) := by decide +kernel
theorem dX9_deal_18 : decode cX9_deal 18 = .ok (.aload_n 0, 1) := by decide +kernel
theorem dX9_deal_19 : decode cX9_deal 19 = .ok (.getfield 34, 3) := by decide +kernel
theorem dX9_deal_22 : decode cX9_deal 22 = .ok (.invokevirtual 49, 3) := by decide +kernel
theorem dX9_deal_25 : decode cX9_deal 25 = .ok (.aload_n 0, 1) := by decide +kernel
theorem dX9_deal_26 : decode cX9_deal 26 = .ok (.getfield 9, 3) := by decide +kernel
theorem dX9_deal_29 : decode cX9_deal 29 = .ok (.iconst 0, 1) := by decide +kernel
theorem dX9_deal_30 : decode cX9_deal 30 = .ok (.invokestatic 52, 3) := by decide +kernel
theorem dX9_deal_33 : decode cX9_deal 33 = .ok (.iconst 0, 1) := by decide +kernel
theorem dX9_deal_34 : decode cX9_deal 34 = .ok (.istore_n 1, 1) := by decide +kernel
theorem dX9_deal_35 : decode cX9_deal 35 = .ok (.iload_n 1, 1) := by decide +kernel
theorem dX9_deal_36 : decode cX9_deal 36 = .ok (.bipush 40, 2) := by decide +kernel
theorem dX9_deal_38 : decode cX9_deal 38 = .ok (.if_icmp .ge 35, 3) := by decide +kernel
theorem dX9_deal_41 : decode cX9_deal 41 = .ok (.aload_n 0, 1) := by decide +kernel
theorem dX9_deal_42 : decode cX9_deal 42 = .ok (.getfield 30, 3) := by decide +kernel
theorem dX9_deal_45 : decode cX9_deal 45 = .ok (.getfield 57, 3) := by decide +kernel
theorem dX9_deal_48 : decode cX9_deal 48 = .ok (.iload_n 1, 1) := by decide +kernel
theorem dX9_deal_49 : decode cX9_deal 49 = .ok (.iaload, 1) := by decide +kernel
theorem dX9_deal_50 : decode cX9_deal 50 = .ok (.iconst (-1), 1) := by decide +kernel
theorem dX9_deal_51 : decode cX9_deal 51 = .ok (.if_icmp .eq 16, 3) := by decide +kernel
theorem dX9_deal_54 : decode cX9_deal 54 = .ok (.aload_n 0, 1) := by decide +kernel
theorem dX9_deal_55 : decode cX9_deal 55 = .ok (.aload_n 0, 1) := by decide +kernel
theorem dX9_deal_56 : decode cX9_deal 56 = .ok (.getfield 30, 3) := by decide +kernel
theorem dX9_deal_59 : decode cX9_deal 59 = .ok (.getfield 57, 3) := by decide +kernel
theorem dX9_deal_62 : decode cX9_deal 62 = .ok (.iload_n 1, 1) := by decide +kernel
theorem dX9_deal_63 : decode cX9_deal 63 = .ok (.iaload, 1) := by decide +kernel
theorem dX9_deal_64 : decode cX9_deal 64 = .ok (.invokevirtual 60, 3) := by decide +kernel
theorem dX9_deal_67 : decode cX9_deal 67 = .ok (.iinc 1 1, 3) := by decide +kernel
theorem dX9_deal_70 : decode cX9_deal 70 = .ok (.goto (-35), 3) := by decide +kernel
theorem dX9_deal_73 : decode cX9_deal 73 = .ok (.return_, 1) := by decide +kernel
theorem dX9_finds_0 : decode cX9_finds 0 = .ok (.aload_n 0, 1) := by decide +kernel
theorem dX9_finds_1 : decode cX9_finds 1 = .ok (.aload_n 0, 1) := by decide +kernel
theorem dX9_finds_2 : decode cX9_finds 2 = .ok (.getfield 64, 3) := by decide +kernel
theorem dX9_finds_5 : decode cX9_finds 5 = .ok (.iload_n 1, 1) := by decide +kernel
theorem dX9_finds_6 : decode cX9_finds 6 = .ok (.aload_n 0, 1) := by decide +kernel
theorem dX9_finds_7 : decode cX9_finds 7 = .ok (.getfield 30, 3) := by decide +kernel
theorem dX9_finds_10 : decode cX9_finds 10 = .ok (.getfield 118, 3) := by decide +kernel
theorem dX9_finds_13 : decode cX9_finds 13 = .ok (.aload_n 0, 1) := by decide +kernel
theorem dX9_finds_14 : decode cX9_finds 14 = .ok (.getfield 64, 3) := by decide +kernel
theorem dX9_finds_17 : decode cX9_finds 17 = .ok (.iaload, 1) := by decide +kernel
theorem dX9_finds_18 : decode cX9_finds 18 = .ok (.invokevirtual 135, 3) := by decide +kernel
theorem dX9_finds_21 : decode cX9_finds 21 = .ok (.iconst 0, 1) := by decide +kernel
theorem dX9_finds_22 : decode cX9_finds 22 = .ok (.istore_n 2, 1) := by decide +kernel
theorem dX9_finds_23 : decode cX9_finds 23 = .ok (.iload_n 2, 1) := by decide +kernel
theorem dX9_finds_24 : decode cX9_finds 24 = .ok (.ldc 139, 2) := by decide +kernel
theorem dX9_finds_26 : decode cX9_finds 26 = .ok (.if_icmp .ge 118, 3) := by decide +kernel
theorem dX9_finds_29 : decode cX9_finds 29 = .ok (.aload_n 0, 1) := by decide +kernel
theorem dX9_finds_30 : decode cX9_finds 30 = .ok (.getfield 15, 3) := by decide +kernel
theorem dX9_finds_33 : decode cX9_finds 33 = .ok (.aload_n 0, 1) := by decide +kernel
theorem dX9_finds_34 : decode cX9_finds 34 = .ok (.getfield 64, 3) := by decide +kernel
theorem dX9_finds_37 : decode cX9_finds 37 = .ok (.iaload, 1) := by decide +kernel
theorem dX9_finds_38 : decode cX9_finds 38 = .ok (.aload_n 0, 1) := by decide +kernel
theorem dX9_finds_39 : decode cX9_finds 39 = .ok (.getfield 96, 3) := by decide +kernel
theorem dX9_finds_42 : decode cX9_finds 42 = .ok (.if_icmp .eq 102, 3) := by decide +kernel
theorem dX9_finds_45 : decode cX9_finds 45 = .ok (.aload_n 0, 1) := by decide +kernel
theorem dX9_finds_46 : decode cX9_finds 46 = .ok (.getfield 99, 3) := by decide +kernel
theorem dX9_finds_49 : decode cX9_finds 49 = .ok (.aload_n 0, 1) := by decide +kernel
theorem dX9_finds_50 : decode cX9_finds 50 = .ok (.getfield 102, 3) := by decide +kernel
theorem dX9_finds_53 : decode cX9_finds 53 = .ok (.if_icmp .ge 29, 3) := by decide +kernel
theorem dX9_finds_56 : decode cX9_finds 56 = .ok (.aload_n 0, 1) := by decide +kernel
theorem dX9_finds_57 : decode cX9_finds 57 = .ok (.aload_n 0, 1) := by decide +kernel
theorem dX9_finds_58 : decode cX9_finds 58 = .ok (.getfield 27, 3) := by decide +kernel
theorem dX9_finds_61 : decode cX9_finds 61 = .ok (.aload_n 0, 1) := by decide +kernel
theorem dX9_finds_62 : decode cX9_finds 62 = .ok (.getfield 99, 3) := by decide +kernel
theorem dX9_finds_65 : decode cX9_finds 65 = .ok (.iaload, 1) := by decide +kernel
theorem dX9_finds_66 : decode cX9_finds 66 = .ok (.invokevirtual 140, 3) := by decide +kernel
theorem dX9_finds_69 : decode cX9_finds 69 = .ok (.aload_n 0, 1) := by decide +kernel
theorem dX9_finds_70 : decode cX9_finds 70 = .ok (.dup, 1) := by decide +kernel
theorem dX9_finds_71 : decode cX9_finds 71 = .ok (.getfield 99, 3) := by decide +kernel
theorem dX9_finds_74 : decode cX9_finds 74 = .ok (.iconst 1, 1) := by decide +kernel
theorem dX9_finds_75 : decode cX9_finds 75 = .ok (.iadd, 1) := by decide +kernel
theorem dX9_finds_76 : decode cX9_finds 76 = .ok (.putfield 99, 3) := by decide +kernel
theorem dX9_finds_79 : decode cX9_finds 79 = .ok (.goto 59, 3) := by decide +kernel
theorem dX9_finds_82 : decode cX9_finds 82 = .ok (.aload_n 0, 1) := by decide +kernel
theorem dX9_finds_83 : decode cX9_finds 83 = .ok (.getfield 105, 3) := by decide +kernel
theorem dX9_finds_86 : decode cX9_finds 86 = .ok (.iconst (-1), 1) := by decide +kernel
theorem dX9_finds_87 : decode cX9_finds 87 = .ok (.if_icmp .eq 22, 3) := by decide +kernel
theorem dX9_finds_90 : decode cX9_finds 90 = .ok (.aload_n 0, 1) := by decide +kernel
theorem dX9_finds_91 : decode cX9_finds 91 = .ok (.getfield 111, 3) := by decide +kernel
theorem dX9_finds_94 : decode cX9_finds 94 = .ok (.ifCond .ne 15, 3) := by decide +kernel
theorem dX9_finds_97 : decode cX9_finds 97 = .ok (.aload_n 0, 1) := by decide +kernel
theorem dX9_finds_98 : decode cX9_finds 98 = .ok (.iconst 1, 1) := by decide +kernel
theorem dX9_finds_99 : decode cX9_finds 99 = .ok (.putfield 111, 3) := by decide +kernel
theorem dX9_finds_102 : decode cX9_finds 102 = .ok (.aload_n 0, 1) := by decide +kernel
theorem dX9_finds_103 : decode cX9_finds 103 = .ok (.invokevirtual 143, 3) := by decide +kernel
theorem dX9_finds_106 : decode cX9_finds 106 = .ok (.goto 32, 3) := by decide +kernel
theorem dX9_finds_109 : decode cX9_finds 109 = .ok (.aload_n 0, 1) := by decide +kernel
theorem dX9_finds_110 : decode cX9_finds 110 = .ok (.getfield 108, 3) := by decide +kernel
theorem dX9_finds_113 : decode cX9_finds 113 = .ok (.iconst (-1), 1) := by decide +kernel
theorem dX9_finds_114 : decode cX9_finds 114 = .ok (.if_icmp .eq 22, 3) := by decide +kernel
theorem dX9_finds_117 : decode cX9_finds 117 = .ok (.aload_n 0, 1) := by decide +kernel
theorem dX9_finds_118 : decode cX9_finds 118 = .ok (.getfield 115, 3) := by decide +kernel
theorem dX9_finds_121 : decode cX9_finds 121 = .ok (.ifCond .ne 15, 3) := by decide +kernel
theorem dX9_finds_124 : decode cX9_finds 124 = .ok (.aload_n 0, 1) := by decide +kernel
theorem dX9_finds_125 : decode cX9_finds 125 = .ok (.iconst 1, 1) := by decide +kernel
theorem dX9_finds_126 : decode cX9_finds 126 = .ok (.putfield 115, 3) := by decide +kernel
theorem dX9_finds_129 : decode cX9_finds 129 = .ok (.aload_n 0, 1) := by decide +kernel
theorem dX9_finds_130 : decode cX9_finds 130 = .ok (.invokevirtual 146, 3) := by decide +kernel
theorem dX9_finds_133 : decode cX9_finds 133 = .ok (.goto 5, 3) := by decide +kernel
theorem dX9_finds_136 : decode cX9_finds 136 = .ok (.iconst 0, 1) := by decide +kernel
theorem dX9_finds_137 : decode cX9_finds 137 = .ok (.ireturn, 1) := by decide +kernel
theorem dX9_finds_138 : decode cX9_finds 138 = .ok (.iinc 2 1, 3) := by decide +kernel
theorem dX9_finds_141 : decode cX9_finds 141 = .ok (.goto (-118), 3) := by decide +kernel
theorem dX9_finds_144 : decode cX9_finds 144 = .ok (.aload_n 0, 1) := by decide +kernel
theorem dX9_finds_145 : decode cX9_finds 145 = .ok (.getfield 15, 3) := by decide +kernel
theorem dX9_finds_148 : decode cX9_finds 148 = .ok (.aload_n 0, 1) := by decide +kernel
theorem dX9_finds_149 : decode cX9_finds 149 = .ok (.getfield 64, 3) := by decide +kernel
theorem dX9_finds_152 : decode cX9_finds 152 = .ok (.iaload, 1) := by decide +kernel
theorem dX9_finds_153 : decode cX9_finds 153 = .ok (.aload_n 0, 1) := by decide +kernel
theorem dX9_finds_154 : decode cX9_finds 154 = .ok (.getfield 96, 3) := by decide +kernel
theorem dX9_finds_157 : decode cX9_finds 157 = .ok (.if_icmp .ne 7, 3) := by decide +kernel
theorem dX9_finds_160 : decode cX9_finds 160 = .ok (.iconst 1, 1) := by decide +kernel
theorem dX9_finds_161 : decode cX9_finds 161 = .ok (.goto 4, 3) := by decide +kernel
theorem dX9_finds_164 : decode cX9_finds 164 = .ok (.iconst 0, 1) := by decide +kernel
theorem dX9_finds_165 : decode cX9_finds 165 = .ok (.ireturn, 1) := by decide +kernel
theorem dX9_freshSearch_0 : decode cX9_freshSearch 0 = .ok (.aload_n 0, 1) := by decide +kernel
theorem dX9_freshSearch_1 : decode cX9_freshSearch 1 = .ok (.dup, 1) := by decide +kernel
theorem dX9_freshSearch_2 : decode cX9_freshSearch 2 = .ok (.getfield 96, 3) := by decide +kernel
theorem dX9_freshSearch_5 : decode cX9_freshSearch 5 = .ok (.iconst 1, 1) := by decide +kernel
theorem dX9_freshSearch_6 : decode cX9_freshSearch 6 = .ok (.iadd, 1) := by decide +kernel
theorem dX9_freshSearch_7 : decode cX9_freshSearch 7 = .ok (.putfield 96, 3) := by decide +kernel
theorem dX9_freshSearch_10 : decode cX9_freshSearch 10 = .ok (.aload_n 0, 1) := by decide +kernel
theorem dX9_freshSearch_11 : decode cX9_freshSearch 11 = .ok (.iconst 0, 1) := by decide +kernel
theorem dX9_freshSearch_12 : decode cX9_freshSearch 12 = .ok (.putfield 99, 3) := by decide +kernel
theorem dX9_freshSearch_15 : decode cX9_freshSearch 15 = .ok (.aload_n 0, 1) := by decide +kernel
theorem dX9_freshSearch_16 : decode cX9_freshSearch 16 = .ok (.iconst 0, 1) := by decide +kernel
theorem dX9_freshSearch_17 : decode cX9_freshSearch 17 = .ok (.putfield 102, 3) := by decide +kernel
theorem dX9_freshSearch_20 : decode cX9_freshSearch 20 = .ok (.aload_n 0, 1) := by decide +kernel
theorem dX9_freshSearch_21 : decode cX9_freshSearch 21 = .ok (.iconst (-1), 1) := by decide +kernel
theorem dX9_freshSearch_22 : decode cX9_freshSearch 22 = .ok (.putfield 105, 3) := by decide +kernel
theorem dX9_freshSearch_25 : decode cX9_freshSearch 25 = .ok (.aload_n 0, 1) := by decide +kernel
theorem dX9_freshSearch_26 : decode cX9_freshSearch 26 = .ok (.iconst (-1), 1) := by decide +kernel
theorem dX9_freshSearch_27 : decode cX9_freshSearch 27 = .ok (.putfield 108, 3) := by decide +kernel
theorem dX9_freshSearch_30 : decode cX9_freshSearch 30 = .ok (.aload_n 0, 1) := by decide +kernel
theorem dX9_freshSearch_31 : decode cX9_freshSearch 31 = .ok (.iconst 0, 1) := by decide +kernel
theorem dX9_freshSearch_32 : decode cX9_freshSearch 32 = .ok (.putfield 111, 3) := by decide +kernel
theorem dX9_freshSearch_35 : decode cX9_freshSearch 35 = .ok (.aload_n 0, 1) := by decide +kernel
theorem dX9_freshSearch_36 : decode cX9_freshSearch 36 = .ok (.iconst 0, 1) := by decide +kernel
theorem dX9_freshSearch_37 : decode cX9_freshSearch 37 = .ok (.putfield 115, 3) := by decide +kernel
theorem dX9_freshSearch_40 : decode cX9_freshSearch 40 = .ok (.return_, 1) := by decide +kernel
theorem dX9_init_0 : decode cX9_init 0 = .ok (.aload_n 0, 1) := by decide +kernel
theorem dX9_init_1 : decode cX9_init 1 = .ok (.invokespecial 3, 3) := by decide +kernel
theorem dX9_init_4 : decode cX9_init 4 = .ok (.aload_n 0, 1) := by decide +kernel
theorem dX9_init_5 : decode cX9_init 5 = .ok (.bipush 40, 2) := by decide +kernel
theorem dX9_init_7 : decode cX9_init 7 = .ok (.newarray .int, 2) := by decide +kernel
theorem dX9_init_9 : decode cX9_init 9 = .ok (.putfield 9, 3) := by decide +kernel
theorem dX9_init_12 : decode cX9_init 12 = .ok (.aload_n 0, 1) := by decide +kernel
theorem dX9_init_13 : decode cX9_init 13 = .ok (.bipush 40, 2) := by decide +kernel
theorem dX9_init_15 : decode cX9_init 15 = .ok (.newarray .int, 2) := by decide +kernel
theorem dX9_init_17 : decode cX9_init 17 = .ok (.putfield 15, 3) := by decide +kernel
theorem dX9_init_20 : decode cX9_init 20 = .ok (.aload_n 0, 1) := by decide +kernel
theorem dX9_init_21 : decode cX9_init 21 = .ok (.bipush 40, 2) := by decide +kernel
theorem dX9_init_23 : decode cX9_init 23 = .ok (.newarray .int, 2) := by decide +kernel
theorem dX9_init_25 : decode cX9_init 25 = .ok (.putfield 18, 3) := by decide +kernel
theorem dX9_init_28 : decode cX9_init 28 = .ok (.aload_n 0, 1) := by decide +kernel
theorem dX9_init_29 : decode cX9_init 29 = .ok (.sipush 240, 3) := by decide +kernel
theorem dX9_init_32 : decode cX9_init 32 = .ok (.newarray .int, 2) := by decide +kernel
theorem dX9_init_34 : decode cX9_init 34 = .ok (.putfield 21, 3) := by decide +kernel
theorem dX9_init_37 : decode cX9_init 37 = .ok (.aload_n 0, 1) := by decide +kernel
theorem dX9_init_38 : decode cX9_init 38 = .ok (.sipush 240, 3) := by decide +kernel
theorem dX9_init_41 : decode cX9_init 41 = .ok (.newarray .int, 2) := by decide +kernel
theorem dX9_init_43 : decode cX9_init 43 = .ok (.putfield 24, 3) := by decide +kernel
theorem dX9_init_46 : decode cX9_init 46 = .ok (.aload_n 0, 1) := by decide +kernel
theorem dX9_init_47 : decode cX9_init 47 = .ok (.bipush 40, 2) := by decide +kernel
theorem dX9_init_49 : decode cX9_init 49 = .ok (.newarray .int, 2) := by decide +kernel
theorem dX9_init_51 : decode cX9_init 51 = .ok (.putfield 27, 3) := by decide +kernel
theorem dX9_init_54 : decode cX9_init 54 = .ok (.aload_n 0, 1) := by decide +kernel
theorem dX9_init_55 : decode cX9_init 55 = .ok (.aload_n 1, 1) := by decide +kernel
theorem dX9_init_56 : decode cX9_init 56 = .ok (.putfield 30, 3) := by decide +kernel
theorem dX9_init_59 : decode cX9_init 59 = .ok (.aload_n 0, 1) := by decide +kernel
theorem dX9_init_60 : decode cX9_init 60 = .ok (.aload_n 2, 1) := by decide +kernel
theorem dX9_init_61 : decode cX9_init 61 = .ok (.putfield 34, 3) := by decide +kernel
theorem dX9_init_64 : decode cX9_init 64 = .ok (.return_, 1) := by decide +kernel
theorem dX9_isFree_0 : decode cX9_isFree 0 = .ok (.aload_n 0, 1) := by decide +kernel
theorem dX9_isFree_1 : decode cX9_isFree 1 = .ok (.getfield 21, 3) := by decide +kernel
theorem dX9_isFree_4 : decode cX9_isFree 4 = .ok (.iload_n 1, 1) := by decide +kernel
theorem dX9_isFree_5 : decode cX9_isFree 5 = .ok (.iaload, 1) := by decide +kernel
theorem dX9_isFree_6 : decode cX9_isFree 6 = .ok (.aload_n 0, 1) := by decide +kernel
theorem dX9_isFree_7 : decode cX9_isFree 7 = .ok (.getfield 96, 3) := by decide +kernel
theorem dX9_isFree_10 : decode cX9_isFree 10 = .ok (.if_icmp .eq 21, 3) := by decide +kernel
theorem dX9_isFree_13 : decode cX9_isFree 13 = .ok (.aload_n 0, 1) := by decide +kernel
theorem dX9_isFree_14 : decode cX9_isFree 14 = .ok (.getfield 34, 3) := by decide +kernel
theorem dX9_isFree_17 : decode cX9_isFree 17 = .ok (.getfield 124, 3) := by decide +kernel
theorem dX9_isFree_20 : decode cX9_isFree 20 = .ok (.iload_n 1, 1) := by decide +kernel
theorem dX9_isFree_21 : decode cX9_isFree 21 = .ok (.laload, 1) := by decide +kernel
theorem dX9_isFree_22 : decode cX9_isFree 22 = .ok (.lload_n 2, 1) := by decide +kernel
theorem dX9_isFree_23 : decode cX9_isFree 23 = .ok (.lcmp, 1) := by decide +kernel
theorem dX9_isFree_24 : decode cX9_isFree 24 = .ok (.ifCond .ne 7, 3) := by decide +kernel
theorem dX9_isFree_27 : decode cX9_isFree 27 = .ok (.iconst 1, 1) := by decide +kernel
theorem dX9_isFree_28 : decode cX9_isFree 28 = .ok (.goto 4, 3) := by decide +kernel
theorem dX9_isFree_31 : decode cX9_isFree 31 = .ok (.iconst 0, 1) := by decide +kernel
theorem dX9_isFree_32 : decode cX9_isFree 32 = .ok (.ireturn, 1) := by decide +kernel
theorem dX9_mayTake_0 : decode cX9_mayTake 0 = .ok (.iload_n 2, 1) := by decide +kernel
theorem dX9_mayTake_1 : decode cX9_mayTake 1 = .ok (.bipush 24, 2) := by decide +kernel
theorem dX9_mayTake_3 : decode cX9_mayTake 3 = .ok (.imul, 1) := by decide +kernel
theorem dX9_mayTake_4 : decode cX9_mayTake 4 = .ok (.aload_n 0, 1) := by decide +kernel
theorem dX9_mayTake_5 : decode cX9_mayTake 5 = .ok (.getfield 30, 3) := by decide +kernel
theorem dX9_mayTake_8 : decode cX9_mayTake 8 = .ok (.getfield 118, 3) := by decide +kernel
theorem dX9_mayTake_11 : decode cX9_mayTake 11 = .ok (.iload_n 1, 1) := by decide +kernel
theorem dX9_mayTake_12 : decode cX9_mayTake 12 = .ok (.iaload, 1) := by decide +kernel
theorem dX9_mayTake_13 : decode cX9_mayTake 13 = .ok (.iadd, 1) := by decide +kernel
theorem dX9_mayTake_14 : decode cX9_mayTake 14 = .ok (.istore_n 3, 1) := by decide +kernel
theorem dX9_mayTake_15 : decode cX9_mayTake 15 = .ok (.aload_n 0, 1) := by decide +kernel
theorem dX9_mayTake_16 : decode cX9_mayTake 16 = .ok (.getfield 30, 3) := by decide +kernel
theorem dX9_mayTake_19 : decode cX9_mayTake 19 = .ok (.getfield 121, 3) := by decide +kernel
theorem dX9_mayTake_22 : decode cX9_mayTake 22 = .ok (.iload_n 1, 1) := by decide +kernel
theorem dX9_mayTake_23 : decode cX9_mayTake 23 = .ok (.iaload, 1) := by decide +kernel
theorem dX9_mayTake_24 : decode cX9_mayTake 24 = .ok (.iload_n 2, 1) := by decide +kernel
theorem dX9_mayTake_25 : decode cX9_mayTake 25 = .ok (.ishr, 1) := by decide +kernel
theorem dX9_mayTake_26 : decode cX9_mayTake 26 = .ok (.iconst 1, 1) := by decide +kernel
theorem dX9_mayTake_27 : decode cX9_mayTake 27 = .ok (.iand, 1) := by decide +kernel
theorem dX9_mayTake_28 : decode cX9_mayTake 28 = .ok (.ifCond .eq 53, 3) := by decide +kernel
theorem dX9_mayTake_31 : decode cX9_mayTake 31 = .ok (.aload_n 0, 1) := by decide +kernel
theorem dX9_mayTake_32 : decode cX9_mayTake 32 = .ok (.getfield 21, 3) := by decide +kernel
theorem dX9_mayTake_35 : decode cX9_mayTake 35 = .ok (.iload_n 3, 1) := by decide +kernel
theorem dX9_mayTake_36 : decode cX9_mayTake 36 = .ok (.iaload, 1) := by decide +kernel
theorem dX9_mayTake_37 : decode cX9_mayTake 37 = .ok (.aload_n 0, 1) := by decide +kernel
theorem dX9_mayTake_38 : decode cX9_mayTake 38 = .ok (.getfield 96, 3) := by decide +kernel
theorem dX9_mayTake_41 : decode cX9_mayTake 41 = .ok (.if_icmp .eq 40, 3) := by decide +kernel
theorem dX9_mayTake_44 : decode cX9_mayTake 44 = .ok (.aload_n 0, 1) := by decide +kernel
theorem dX9_mayTake_45 : decode cX9_mayTake 45 = .ok (.getfield 34, 3) := by decide +kernel
theorem dX9_mayTake_48 : decode cX9_mayTake 48 = .ok (.getfield 124, 3) := by decide +kernel
theorem dX9_mayTake_51 : decode cX9_mayTake 51 = .ok (.iload_n 3, 1) := by decide +kernel
theorem dX9_mayTake_52 : decode cX9_mayTake 52 = .ok (.laload, 1) := by decide +kernel
theorem dX9_mayTake_53 : decode cX9_mayTake 53 = .ok (.aload_n 0, 1) := by decide +kernel
theorem dX9_mayTake_54 : decode cX9_mayTake 54 = .ok (.getfield 34, 3) := by decide +kernel
theorem dX9_mayTake_57 : decode cX9_mayTake 57 = .ok (.getfield 128, 3) := by decide +kernel
theorem dX9_mayTake_60 : decode cX9_mayTake 60 = .ok (.iload_n 1, 1) := by decide +kernel
theorem dX9_mayTake_61 : decode cX9_mayTake 61 = .ok (.laload, 1) := by decide +kernel
theorem dX9_mayTake_62 : decode cX9_mayTake 62 = .ok (.aload_n 0, 1) := by decide +kernel
theorem dX9_mayTake_63 : decode cX9_mayTake 63 = .ok (.getfield 30, 3) := by decide +kernel
theorem dX9_mayTake_66 : decode cX9_mayTake 66 = .ok (.iload_n 1, 1) := by decide +kernel
theorem dX9_mayTake_67 : decode cX9_mayTake 67 = .ok (.iload_n 2, 1) := by decide +kernel
theorem dX9_mayTake_68 : decode cX9_mayTake 68 = .ok (.invokevirtual 131, 3) := by decide +kernel
theorem dX9_mayTake_71 : decode cX9_mayTake 71 = .ok (.i2l, 1) := by decide +kernel
theorem dX9_mayTake_72 : decode cX9_mayTake 72 = .ok (.lsub, 1) := by decide +kernel
theorem dX9_mayTake_73 : decode cX9_mayTake 73 = .ok (.lcmp, 1) := by decide +kernel
theorem dX9_mayTake_74 : decode cX9_mayTake 74 = .ok (.ifCond .ne 7, 3) := by decide +kernel
theorem dX9_mayTake_77 : decode cX9_mayTake 77 = .ok (.iconst 1, 1) := by decide +kernel
theorem dX9_mayTake_78 : decode cX9_mayTake 78 = .ok (.goto 4, 3) := by decide +kernel
theorem dX9_mayTake_81 : decode cX9_mayTake 81 = .ok (.iconst 0, 1) := by decide +kernel
theorem dX9_mayTake_82 : decode cX9_mayTake 82 = .ok (.ireturn, 1) := by decide +kernel
theorem dX9_rankRow_0 : decode cX9_rankRow 0 = .ok (.aload_n 0, 1) := by decide +kernel
theorem dX9_rankRow_1 : decode cX9_rankRow 1 = .ok (.iload_n 1, 1) := by decide +kernel
theorem dX9_rankRow_2 : decode cX9_rankRow 2 = .ok (.putfield 64, 3) := by decide +kernel
theorem dX9_rankRow_5 : decode cX9_rankRow 5 = .ok (.aload_n 0, 1) := by decide +kernel
theorem dX9_rankRow_6 : decode cX9_rankRow 6 = .ok (.invokevirtual 67, 3) := by decide +kernel
theorem dX9_rankRow_9 : decode cX9_rankRow 9 = .ok (.iconst 0, 1) := by decide +kernel
theorem dX9_rankRow_10 : decode cX9_rankRow 10 = .ok (.istore_n 2, 1) := by decide +kernel
theorem dX9_rankRow_11 : decode cX9_rankRow 11 = .ok (.iload_n 2, 1) := by decide +kernel
theorem dX9_rankRow_12 : decode cX9_rankRow 12 = .ok (.aload_n 0, 1) := by decide +kernel
theorem dX9_rankRow_13 : decode cX9_rankRow 13 = .ok (.getfield 30, 3) := by decide +kernel
theorem dX9_rankRow_16 : decode cX9_rankRow 16 = .ok (.getfield 70, 3) := by decide +kernel
theorem dX9_rankRow_19 : decode cX9_rankRow 19 = .ok (.if_icmp .ge 70, 3) := by decide +kernel
theorem dX9_rankRow_22 : decode cX9_rankRow 22 = .ok (.aload_n 0, 1) := by decide +kernel
theorem dX9_rankRow_23 : decode cX9_rankRow 23 = .ok (.iload_n 1, 1) := by decide +kernel
theorem dX9_rankRow_24 : decode cX9_rankRow 24 = .ok (.invokevirtual 73, 3) := by decide +kernel
theorem dX9_rankRow_27 : decode cX9_rankRow 27 = .ok (.ifCond .eq 62, 3) := by decide +kernel
theorem dX9_rankRow_30 : decode cX9_rankRow 30 = .ok (.aload_n 0, 1) := by decide +kernel
theorem dX9_rankRow_31 : decode cX9_rankRow 31 = .ok (.getfield 9, 3) := by decide +kernel
theorem dX9_rankRow_34 : decode cX9_rankRow 34 = .ok (.iload_n 1, 1) := by decide +kernel
theorem dX9_rankRow_35 : decode cX9_rankRow 35 = .ok (.dup2, 1) := by decide +kernel
theorem dX9_rankRow_36 : decode cX9_rankRow 36 = .ok (.iaload, 1) := by decide +kernel
theorem dX9_rankRow_37 : decode cX9_rankRow 37 = .ok (.iconst 1, 1) := by decide +kernel
theorem dX9_rankRow_38 : decode cX9_rankRow 38 = .ok (.iload_n 2, 1) := by decide +kernel
theorem dX9_rankRow_39 : decode cX9_rankRow 39 = .ok (.ishl, 1) := by decide +kernel
theorem dX9_rankRow_40 : decode cX9_rankRow 40 = .ok (.ior, 1) := by decide +kernel
theorem dX9_rankRow_41 : decode cX9_rankRow 41 = .ok (.iastore, 1) := by decide +kernel
theorem dX9_rankRow_42 : decode cX9_rankRow 42 = .ok (.aload_n 0, 1) := by decide +kernel
theorem dX9_rankRow_43 : decode cX9_rankRow 43 = .ok (.getfield 30, 3) := by decide +kernel
theorem dX9_rankRow_46 : decode cX9_rankRow 46 = .ok (.getfield 77, 3) := by decide +kernel
theorem dX9_rankRow_49 : decode cX9_rankRow 49 = .ok (.iload_n 1, 1) := by decide +kernel
theorem dX9_rankRow_50 : decode cX9_rankRow 50 = .ok (.iaload, 1) := by decide +kernel
theorem dX9_rankRow_51 : decode cX9_rankRow 51 = .ok (.iload_n 2, 1) := by decide +kernel
theorem dX9_rankRow_52 : decode cX9_rankRow 52 = .ok (.ishr, 1) := by decide +kernel
theorem dX9_rankRow_53 : decode cX9_rankRow 53 = .ok (.iconst 1, 1) := by decide +kernel
theorem dX9_rankRow_54 : decode cX9_rankRow 54 = .ok (.iand, 1) := by decide +kernel
theorem dX9_rankRow_55 : decode cX9_rankRow 55 = .ok (.ifCond .ne 28, 3) := by decide +kernel
theorem dX9_rankRow_58 : decode cX9_rankRow 58 = .ok (.aload_n 0, 1) := by decide +kernel
theorem dX9_rankRow_59 : decode cX9_rankRow 59 = .ok (.iload_n 1, 1) := by decide +kernel
theorem dX9_rankRow_60 : decode cX9_rankRow 60 = .ok (.iload_n 2, 1) := by decide +kernel
theorem dX9_rankRow_61 : decode cX9_rankRow 61 = .ok (.invokevirtual 80, 3) := by decide +kernel
theorem dX9_rankRow_64 : decode cX9_rankRow 64 = .ok (.ifCond .eq 19, 3) := by decide +kernel
theorem dX9_rankRow_67 : decode cX9_rankRow 67 = .ok (.aload_n 0, 1) := by decide +kernel
theorem dX9_rankRow_68 : decode cX9_rankRow 68 = .ok (.iload_n 2, 1) := by decide +kernel
theorem dX9_rankRow_69 : decode cX9_rankRow 69 = .ok (.invokevirtual 84, 3) := by decide +kernel
theorem dX9_rankRow_72 : decode cX9_rankRow 72 = .ok (.ifCond .eq 11, 3) := by decide +kernel
theorem dX9_rankRow_75 : decode cX9_rankRow 75 = .ok (.aload_n 0, 1) := by decide +kernel
theorem dX9_rankRow_76 : decode cX9_rankRow 76 = .ok (.invokevirtual 87, 3) := by decide +kernel
theorem dX9_rankRow_79 : decode cX9_rankRow 79 = .ok (.aload_n 0, 1) := by decide +kernel
theorem dX9_rankRow_80 : decode cX9_rankRow 80 = .ok (.invokevirtual 67, 3) := by decide +kernel
theorem dX9_rankRow_83 : decode cX9_rankRow 83 = .ok (.iinc 2 1, 3) := by decide +kernel
theorem dX9_rankRow_86 : decode cX9_rankRow 86 = .ok (.goto (-75), 3) := by decide +kernel
theorem dX9_rankRow_89 : decode cX9_rankRow 89 = .ok (.aload_n 0, 1) := by decide +kernel
theorem dX9_rankRow_90 : decode cX9_rankRow 90 = .ok (.getfield 9, 3) := by decide +kernel
theorem dX9_rankRow_93 : decode cX9_rankRow 93 = .ok (.iload_n 1, 1) := by decide +kernel
theorem dX9_rankRow_94 : decode cX9_rankRow 94 = .ok (.iconst 1, 1) := by decide +kernel
theorem dX9_rankRow_95 : decode cX9_rankRow 95 = .ok (.aload_n 0, 1) := by decide +kernel
theorem dX9_rankRow_96 : decode cX9_rankRow 96 = .ok (.getfield 30, 3) := by decide +kernel
theorem dX9_rankRow_99 : decode cX9_rankRow 99 = .ok (.getfield 70, 3) := by decide +kernel
theorem dX9_rankRow_102 : decode cX9_rankRow 102 = .ok (.ishl, 1) := by decide +kernel
theorem dX9_rankRow_103 : decode cX9_rankRow 103 = .ok (.iconst 1, 1) := by decide +kernel
theorem dX9_rankRow_104 : decode cX9_rankRow 104 = .ok (.isub, 1) := by decide +kernel
theorem dX9_rankRow_105 : decode cX9_rankRow 105 = .ok (.iastore, 1) := by decide +kernel
theorem dX9_rankRow_106 : decode cX9_rankRow 106 = .ok (.return_, 1) := by decide +kernel
theorem dX9_see_0 : decode cX9_see 0 = .ok (.iload_n 2, 1) := by decide +kernel
theorem dX9_see_1 : decode cX9_see 1 = .ok (.bipush 24, 2) := by decide +kernel
theorem dX9_see_3 : decode cX9_see 3 = .ok (.imul, 1) := by decide +kernel
theorem dX9_see_4 : decode cX9_see 4 = .ok (.iload_n 3, 1) := by decide +kernel
theorem dX9_see_5 : decode cX9_see 5 = .ok (.iadd, 1) := by decide +kernel
theorem dX9_see_6 : decode cX9_see 6 = .ok (.istore 4, 2) := by decide +kernel
theorem dX9_see_8 : decode cX9_see 8 = .ok (.aload_n 0, 1) := by decide +kernel
theorem dX9_see_9 : decode cX9_see 9 = .ok (.getfield 34, 3) := by decide +kernel
theorem dX9_see_12 : decode cX9_see 12 = .ok (.getfield 124, 3) := by decide +kernel
theorem dX9_see_15 : decode cX9_see 15 = .ok (.iload 4, 2) := by decide +kernel
theorem dX9_see_17 : decode cX9_see 17 = .ok (.laload, 1) := by decide +kernel
theorem dX9_see_18 : decode cX9_see 18 = .ok (.lstore 5, 2) := by decide +kernel
theorem dX9_see_20 : decode cX9_see 20 = .ok (.aload_n 0, 1) := by decide +kernel
theorem dX9_see_21 : decode cX9_see 21 = .ok (.getfield 21, 3) := by decide +kernel
theorem dX9_see_24 : decode cX9_see 24 = .ok (.iload 4, 2) := by decide +kernel
theorem dX9_see_26 : decode cX9_see 26 = .ok (.aload_n 0, 1) := by decide +kernel
theorem dX9_see_27 : decode cX9_see 27 = .ok (.getfield 96, 3) := by decide +kernel
theorem dX9_see_30 : decode cX9_see 30 = .ok (.iastore, 1) := by decide +kernel
theorem dX9_see_31 : decode cX9_see 31 = .ok (.aload_n 0, 1) := by decide +kernel
theorem dX9_see_32 : decode cX9_see 32 = .ok (.getfield 24, 3) := by decide +kernel
theorem dX9_see_35 : decode cX9_see 35 = .ok (.iload 4, 2) := by decide +kernel
theorem dX9_see_37 : decode cX9_see 37 = .ok (.iload_n 1, 1) := by decide +kernel
theorem dX9_see_38 : decode cX9_see 38 = .ok (.iastore, 1) := by decide +kernel
theorem dX9_see_39 : decode cX9_see 39 = .ok (.iload_n 3, 1) := by decide +kernel
theorem dX9_see_40 : decode cX9_see 40 = .ok (.aload_n 0, 1) := by decide +kernel
theorem dX9_see_41 : decode cX9_see 41 = .ok (.getfield 30, 3) := by decide +kernel
theorem dX9_see_44 : decode cX9_see 44 = .ok (.getfield 156, 3) := by decide +kernel
theorem dX9_see_47 : decode cX9_see 47 = .ok (.iconst 1, 1) := by decide +kernel
theorem dX9_see_48 : decode cX9_see 48 = .ok (.isub, 1) := by decide +kernel
theorem dX9_see_49 : decode cX9_see 49 = .ok (.if_icmp .ne 42, 3) := by decide +kernel
theorem dX9_see_52 : decode cX9_see 52 = .ok (.aload_n 0, 1) := by decide +kernel
theorem dX9_see_53 : decode cX9_see 53 = .ok (.getfield 108, 3) := by decide +kernel
theorem dX9_see_56 : decode cX9_see 56 = .ok (.iconst (-1), 1) := by decide +kernel
theorem dX9_see_57 : decode cX9_see 57 = .ok (.if_icmp .ne 34, 3) := by decide +kernel
theorem dX9_see_60 : decode cX9_see 60 = .ok (.aload_n 0, 1) := by decide +kernel
theorem dX9_see_61 : decode cX9_see 61 = .ok (.getfield 30, 3) := by decide +kernel
theorem dX9_see_64 : decode cX9_see 64 = .ok (.getfield 159, 3) := by decide +kernel
theorem dX9_see_67 : decode cX9_see 67 = .ok (.iload 4, 2) := by decide +kernel
theorem dX9_see_69 : decode cX9_see 69 = .ok (.iaload, 1) := by decide +kernel
theorem dX9_see_70 : decode cX9_see 70 = .ok (.ifCond .le 21, 3) := by decide +kernel
theorem dX9_see_73 : decode cX9_see 73 = .ok (.lload 5, 2) := by decide +kernel
theorem dX9_see_75 : decode cX9_see 75 = .ok (.aload_n 0, 1) := by decide +kernel
theorem dX9_see_76 : decode cX9_see 76 = .ok (.getfield 34, 3) := by decide +kernel
theorem dX9_see_79 : decode cX9_see 79 = .ok (.getfield 162, 3) := by decide +kernel
theorem dX9_see_82 : decode cX9_see 82 = .ok (.lcmp, 1) := by decide +kernel
theorem dX9_see_83 : decode cX9_see 83 = .ok (.ifCond .ne 8, 3) := by decide +kernel
theorem dX9_see_86 : decode cX9_see 86 = .ok (.aload_n 0, 1) := by decide +kernel
theorem dX9_see_87 : decode cX9_see 87 = .ok (.iload_n 2, 1) := by decide +kernel
theorem dX9_see_88 : decode cX9_see 88 = .ok (.putfield 108, 3) := by decide +kernel
theorem dX9_see_91 : decode cX9_see 91 = .ok (.aload_n 0, 1) := by decide +kernel
theorem dX9_see_92 : decode cX9_see 92 = .ok (.getfield 30, 3) := by decide +kernel
theorem dX9_see_95 : decode cX9_see 95 = .ok (.getfield 166, 3) := by decide +kernel
theorem dX9_see_98 : decode cX9_see 98 = .ok (.iload_n 3, 1) := by decide +kernel
theorem dX9_see_99 : decode cX9_see 99 = .ok (.iaload, 1) := by decide +kernel
theorem dX9_see_100 : decode cX9_see 100 = .ok (.istore 7, 2) := by decide +kernel
theorem dX9_see_102 : decode cX9_see 102 = .ok (.iload 7, 2) := by decide +kernel
theorem dX9_see_104 : decode cX9_see 104 = .ok (.aload_n 0, 1) := by decide +kernel
theorem dX9_see_105 : decode cX9_see 105 = .ok (.getfield 30, 3) := by decide +kernel
theorem dX9_see_108 : decode cX9_see 108 = .ok (.getfield 166, 3) := by decide +kernel
theorem dX9_see_111 : decode cX9_see 111 = .ok (.iload_n 3, 1) := by decide +kernel
theorem dX9_see_112 : decode cX9_see 112 = .ok (.iconst 1, 1) := by decide +kernel
theorem dX9_see_113 : decode cX9_see 113 = .ok (.iadd, 1) := by decide +kernel
theorem dX9_see_114 : decode cX9_see 114 = .ok (.iaload, 1) := by decide +kernel
theorem dX9_see_115 : decode cX9_see 115 = .ok (.if_icmp .ge 97, 3) := by decide +kernel
theorem dX9_see_118 : decode cX9_see 118 = .ok (.aload_n 0, 1) := by decide +kernel
theorem dX9_see_119 : decode cX9_see 119 = .ok (.getfield 30, 3) := by decide +kernel
theorem dX9_see_122 : decode cX9_see 122 = .ok (.getfield 77, 3) := by decide +kernel
theorem dX9_see_125 : decode cX9_see 125 = .ok (.iload 7, 2) := by decide +kernel
theorem dX9_see_127 : decode cX9_see 127 = .ok (.iaload, 1) := by decide +kernel
theorem dX9_see_128 : decode cX9_see 128 = .ok (.aload_n 0, 1) := by decide +kernel
theorem dX9_see_129 : decode cX9_see 129 = .ok (.getfield 9, 3) := by decide +kernel
theorem dX9_see_132 : decode cX9_see 132 = .ok (.iload 7, 2) := by decide +kernel
theorem dX9_see_134 : decode cX9_see 134 = .ok (.iaload, 1) := by decide +kernel
theorem dX9_see_135 : decode cX9_see 135 = .ok (.iconst (-1), 1) := by decide +kernel
theorem dX9_see_136 : decode cX9_see 136 = .ok (.ixor, 1) := by decide +kernel
theorem dX9_see_137 : decode cX9_see 137 = .ok (.iand, 1) := by decide +kernel
theorem dX9_see_138 : decode cX9_see 138 = .ok (.iconst 1, 1) := by decide +kernel
theorem dX9_see_139 : decode cX9_see 139 = .ok (.iload_n 2, 1) := by decide +kernel
theorem dX9_see_140 : decode cX9_see 140 = .ok (.ishl, 1) := by decide +kernel
theorem dX9_see_141 : decode cX9_see 141 = .ok (.iand, 1) := by decide +kernel
theorem dX9_see_142 : decode cX9_see 142 = .ok (.ifCond .eq 7, 3) := by decide +kernel
theorem dX9_see_145 : decode cX9_see 145 = .ok (.iconst 1, 1) := by decide +kernel
theorem dX9_see_146 : decode cX9_see 146 = .ok (.goto 4, 3) := by decide +kernel
theorem dX9_see_149 : decode cX9_see 149 = .ok (.iconst 0, 1) := by decide +kernel
theorem dX9_see_150 : decode cX9_see 150 = .ok (.istore 8, 2) := by decide +kernel
theorem dX9_see_152 : decode cX9_see 152 = .ok (.iload 8, 2) := by decide +kernel
theorem dX9_see_154 : decode cX9_see 154 = .ok (.ifCond .eq 52, 3) := by decide +kernel
theorem dX9_see_157 : decode cX9_see 157 = .ok (.aload_n 0, 1) := by decide +kernel
theorem dX9_see_158 : decode cX9_see 158 = .ok (.getfield 15, 3) := by decide +kernel
theorem dX9_see_161 : decode cX9_see 161 = .ok (.iload 7, 2) := by decide +kernel
theorem dX9_see_163 : decode cX9_see 163 = .ok (.iaload, 1) := by decide +kernel
theorem dX9_see_164 : decode cX9_see 164 = .ok (.aload_n 0, 1) := by decide +kernel
theorem dX9_see_165 : decode cX9_see 165 = .ok (.getfield 96, 3) := by decide +kernel
theorem dX9_see_168 : decode cX9_see 168 = .ok (.if_icmp .eq 38, 3) := by decide +kernel
theorem dX9_see_171 : decode cX9_see 171 = .ok (.aload_n 0, 1) := by decide +kernel
theorem dX9_see_172 : decode cX9_see 172 = .ok (.getfield 34, 3) := by decide +kernel
theorem dX9_see_175 : decode cX9_see 175 = .ok (.getfield 128, 3) := by decide +kernel
theorem dX9_see_178 : decode cX9_see 178 = .ok (.iload 7, 2) := by decide +kernel
theorem dX9_see_180 : decode cX9_see 180 = .ok (.laload, 1) := by decide +kernel
theorem dX9_see_181 : decode cX9_see 181 = .ok (.lload 5, 2) := by decide +kernel
theorem dX9_see_183 : decode cX9_see 183 = .ok (.aload_n 0, 1) := by decide +kernel
theorem dX9_see_184 : decode cX9_see 184 = .ok (.getfield 30, 3) := by decide +kernel
theorem dX9_see_187 : decode cX9_see 187 = .ok (.iload 7, 2) := by decide +kernel
theorem dX9_see_189 : decode cX9_see 189 = .ok (.iload_n 2, 1) := by decide +kernel
theorem dX9_see_190 : decode cX9_see 190 = .ok (.invokevirtual 131, 3) := by decide +kernel
theorem dX9_see_193 : decode cX9_see 193 = .ok (.i2l, 1) := by decide +kernel
theorem dX9_see_194 : decode cX9_see 194 = .ok (.ladd, 1) := by decide +kernel
theorem dX9_see_195 : decode cX9_see 195 = .ok (.lcmp, 1) := by decide +kernel
theorem dX9_see_196 : decode cX9_see 196 = .ok (.ifCond .ne 10, 3) := by decide +kernel
theorem dX9_see_199 : decode cX9_see 199 = .ok (.aload_n 0, 1) := by decide +kernel
theorem dX9_see_200 : decode cX9_see 200 = .ok (.iload 7, 2) := by decide +kernel
theorem dX9_see_202 : decode cX9_see 202 = .ok (.iload_n 2, 1) := by decide +kernel
theorem dX9_see_203 : decode cX9_see 203 = .ok (.invokevirtual 169, 3) := by decide +kernel
theorem dX9_see_206 : decode cX9_see 206 = .ok (.iinc 7 1, 3) := by decide +kernel
theorem dX9_see_209 : decode cX9_see 209 = .ok (.goto (-107), 3) := by decide +kernel
theorem dX9_see_212 : decode cX9_see 212 = .ok (.return_, 1) := by decide +kernel
theorem dX9_seeRow_0 : decode cX9_seeRow 0 = .ok (.aload_n 0, 1) := by decide +kernel
theorem dX9_seeRow_1 : decode cX9_seeRow 1 = .ok (.getfield 15, 3) := by decide +kernel
theorem dX9_seeRow_4 : decode cX9_seeRow 4 = .ok (.iload_n 1, 1) := by decide +kernel
theorem dX9_seeRow_5 : decode cX9_seeRow 5 = .ok (.aload_n 0, 1) := by decide +kernel
theorem dX9_seeRow_6 : decode cX9_seeRow 6 = .ok (.getfield 96, 3) := by decide +kernel
theorem dX9_seeRow_9 : decode cX9_seeRow 9 = .ok (.iastore, 1) := by decide +kernel
theorem dX9_seeRow_10 : decode cX9_seeRow 10 = .ok (.aload_n 0, 1) := by decide +kernel
theorem dX9_seeRow_11 : decode cX9_seeRow 11 = .ok (.getfield 18, 3) := by decide +kernel
theorem dX9_seeRow_14 : decode cX9_seeRow 14 = .ok (.iload_n 1, 1) := by decide +kernel
theorem dX9_seeRow_15 : decode cX9_seeRow 15 = .ok (.iload_n 2, 1) := by decide +kernel
theorem dX9_seeRow_16 : decode cX9_seeRow 16 = .ok (.iastore, 1) := by decide +kernel
theorem dX9_seeRow_17 : decode cX9_seeRow 17 = .ok (.aload_n 0, 1) := by decide +kernel
theorem dX9_seeRow_18 : decode cX9_seeRow 18 = .ok (.getfield 27, 3) := by decide +kernel
theorem dX9_seeRow_21 : decode cX9_seeRow 21 = .ok (.aload_n 0, 1) := by decide +kernel
theorem dX9_seeRow_22 : decode cX9_seeRow 22 = .ok (.getfield 102, 3) := by decide +kernel
theorem dX9_seeRow_25 : decode cX9_seeRow 25 = .ok (.iload_n 1, 1) := by decide +kernel
theorem dX9_seeRow_26 : decode cX9_seeRow 26 = .ok (.iastore, 1) := by decide +kernel
theorem dX9_seeRow_27 : decode cX9_seeRow 27 = .ok (.aload_n 0, 1) := by decide +kernel
theorem dX9_seeRow_28 : decode cX9_seeRow 28 = .ok (.dup, 1) := by decide +kernel
theorem dX9_seeRow_29 : decode cX9_seeRow 29 = .ok (.getfield 102, 3) := by decide +kernel
theorem dX9_seeRow_32 : decode cX9_seeRow 32 = .ok (.iconst 1, 1) := by decide +kernel
theorem dX9_seeRow_33 : decode cX9_seeRow 33 = .ok (.iadd, 1) := by decide +kernel
theorem dX9_seeRow_34 : decode cX9_seeRow 34 = .ok (.putfield 102, 3) := by decide +kernel
theorem dX9_seeRow_37 : decode cX9_seeRow 37 = .ok (.aload_n 0, 1) := by decide +kernel
theorem dX9_seeRow_38 : decode cX9_seeRow 38 = .ok (.getfield 105, 3) := by decide +kernel
theorem dX9_seeRow_41 : decode cX9_seeRow 41 = .ok (.iconst (-1), 1) := by decide +kernel
theorem dX9_seeRow_42 : decode cX9_seeRow 42 = .ok (.if_icmp .ne 34, 3) := by decide +kernel
theorem dX9_seeRow_45 : decode cX9_seeRow 45 = .ok (.iload_n 2, 1) := by decide +kernel
theorem dX9_seeRow_46 : decode cX9_seeRow 46 = .ok (.bipush (-3), 2) := by decide +kernel
theorem dX9_seeRow_48 : decode cX9_seeRow 48 = .ok (.if_icmp .eq 28, 3) := by decide +kernel
theorem dX9_seeRow_51 : decode cX9_seeRow 51 = .ok (.aload_n 0, 1) := by decide +kernel
theorem dX9_seeRow_52 : decode cX9_seeRow 52 = .ok (.getfield 34, 3) := by decide +kernel
theorem dX9_seeRow_55 : decode cX9_seeRow 55 = .ok (.getfield 128, 3) := by decide +kernel
theorem dX9_seeRow_58 : decode cX9_seeRow 58 = .ok (.iload_n 1, 1) := by decide +kernel
theorem dX9_seeRow_59 : decode cX9_seeRow 59 = .ok (.laload, 1) := by decide +kernel
theorem dX9_seeRow_60 : decode cX9_seeRow 60 = .ok (.aload_n 0, 1) := by decide +kernel
theorem dX9_seeRow_61 : decode cX9_seeRow 61 = .ok (.getfield 34, 3) := by decide +kernel
theorem dX9_seeRow_64 : decode cX9_seeRow 64 = .ok (.getfield 173, 3) := by decide +kernel
theorem dX9_seeRow_67 : decode cX9_seeRow 67 = .ok (.lcmp, 1) := by decide +kernel
theorem dX9_seeRow_68 : decode cX9_seeRow 68 = .ok (.ifCond .ne 8, 3) := by decide +kernel
theorem dX9_seeRow_71 : decode cX9_seeRow 71 = .ok (.aload_n 0, 1) := by decide +kernel
theorem dX9_seeRow_72 : decode cX9_seeRow 72 = .ok (.iload_n 1, 1) := by decide +kernel
theorem dX9_seeRow_73 : decode cX9_seeRow 73 = .ok (.putfield 105, 3) := by decide +kernel
theorem dX9_seeRow_76 : decode cX9_seeRow 76 = .ok (.return_, 1) := by decide +kernel
theorem dX9_spread_0 : decode cX9_spread 0 = .ok (.iload_n 2, 1) := by decide +kernel
theorem dX9_spread_1 : decode cX9_spread 1 = .ok (.bipush 24, 2) := by decide +kernel
theorem dX9_spread_3 : decode cX9_spread 3 = .ok (.imul, 1) := by decide +kernel
theorem dX9_spread_4 : decode cX9_spread 4 = .ok (.istore 4, 2) := by decide +kernel
theorem dX9_spread_6 : decode cX9_spread 6 = .ok (.aload_n 0, 1) := by decide +kernel
theorem dX9_spread_7 : decode cX9_spread 7 = .ok (.getfield 34, 3) := by decide +kernel
theorem dX9_spread_10 : decode cX9_spread 10 = .ok (.getfield 124, 3) := by decide +kernel
theorem dX9_spread_13 : decode cX9_spread 13 = .ok (.iload 4, 2) := by decide +kernel
theorem dX9_spread_15 : decode cX9_spread 15 = .ok (.iload_n 3, 1) := by decide +kernel
theorem dX9_spread_16 : decode cX9_spread 16 = .ok (.iadd, 1) := by decide +kernel
theorem dX9_spread_17 : decode cX9_spread 17 = .ok (.laload, 1) := by decide +kernel
theorem dX9_spread_18 : decode cX9_spread 18 = .ok (.lstore 5, 2) := by decide +kernel
theorem dX9_spread_20 : decode cX9_spread 20 = .ok (.iload_n 3, 1) := by decide +kernel
theorem dX9_spread_21 : decode cX9_spread 21 = .ok (.istore 7, 2) := by decide +kernel
theorem dX9_spread_23 : decode cX9_spread 23 = .ok (.iload 7, 2) := by decide +kernel
theorem dX9_spread_25 : decode cX9_spread 25 = .ok (.ifCond .lt 31, 3) := by decide +kernel
theorem dX9_spread_28 : decode cX9_spread 28 = .ok (.aload_n 0, 1) := by decide +kernel
theorem dX9_spread_29 : decode cX9_spread 29 = .ok (.iload 4, 2) := by decide +kernel
theorem dX9_spread_31 : decode cX9_spread 31 = .ok (.iload 7, 2) := by decide +kernel
theorem dX9_spread_33 : decode cX9_spread 33 = .ok (.iadd, 1) := by decide +kernel
theorem dX9_spread_34 : decode cX9_spread 34 = .ok (.lload 5, 2) := by decide +kernel
theorem dX9_spread_36 : decode cX9_spread 36 = .ok (.invokevirtual 149, 3) := by decide +kernel
theorem dX9_spread_39 : decode cX9_spread 39 = .ok (.ifCond .eq 17, 3) := by decide +kernel
theorem dX9_spread_42 : decode cX9_spread 42 = .ok (.aload_n 0, 1) := by decide +kernel
theorem dX9_spread_43 : decode cX9_spread 43 = .ok (.iload_n 1, 1) := by decide +kernel
theorem dX9_spread_44 : decode cX9_spread 44 = .ok (.iload_n 2, 1) := by decide +kernel
theorem dX9_spread_45 : decode cX9_spread 45 = .ok (.iload 7, 2) := by decide +kernel
theorem dX9_spread_47 : decode cX9_spread 47 = .ok (.invokevirtual 153, 3) := by decide +kernel
theorem dX9_spread_50 : decode cX9_spread 50 = .ok (.iinc 7 (-1), 3) := by decide +kernel
theorem dX9_spread_53 : decode cX9_spread 53 = .ok (.goto (-30), 3) := by decide +kernel
theorem dX9_spread_56 : decode cX9_spread 56 = .ok (.iload_n 3, 1) := by decide +kernel
theorem dX9_spread_57 : decode cX9_spread 57 = .ok (.iconst 1, 1) := by decide +kernel
theorem dX9_spread_58 : decode cX9_spread 58 = .ok (.iadd, 1) := by decide +kernel
theorem dX9_spread_59 : decode cX9_spread 59 = .ok (.istore 7, 2) := by decide +kernel
theorem dX9_spread_61 : decode cX9_spread 61 = .ok (.iload 7, 2) := by decide +kernel
theorem dX9_spread_63 : decode cX9_spread 63 = .ok (.aload_n 0, 1) := by decide +kernel
theorem dX9_spread_64 : decode cX9_spread 64 = .ok (.getfield 30, 3) := by decide +kernel
theorem dX9_spread_67 : decode cX9_spread 67 = .ok (.getfield 156, 3) := by decide +kernel
theorem dX9_spread_70 : decode cX9_spread 70 = .ok (.if_icmp .ge 49, 3) := by decide +kernel
theorem dX9_spread_73 : decode cX9_spread 73 = .ok (.aload_n 0, 1) := by decide +kernel
theorem dX9_spread_74 : decode cX9_spread 74 = .ok (.getfield 30, 3) := by decide +kernel
theorem dX9_spread_77 : decode cX9_spread 77 = .ok (.getfield 159, 3) := by decide +kernel
theorem dX9_spread_80 : decode cX9_spread 80 = .ok (.iload 4, 2) := by decide +kernel
theorem dX9_spread_82 : decode cX9_spread 82 = .ok (.iload 7, 2) := by decide +kernel
theorem dX9_spread_84 : decode cX9_spread 84 = .ok (.iadd, 1) := by decide +kernel
theorem dX9_spread_85 : decode cX9_spread 85 = .ok (.iconst 1, 1) := by decide +kernel
theorem dX9_spread_86 : decode cX9_spread 86 = .ok (.isub, 1) := by decide +kernel
theorem dX9_spread_87 : decode cX9_spread 87 = .ok (.iaload, 1) := by decide +kernel
theorem dX9_spread_88 : decode cX9_spread 88 = .ok (.ifCond .le 31, 3) := by decide +kernel
theorem dX9_spread_91 : decode cX9_spread 91 = .ok (.aload_n 0, 1) := by decide +kernel
theorem dX9_spread_92 : decode cX9_spread 92 = .ok (.iload 4, 2) := by decide +kernel
theorem dX9_spread_94 : decode cX9_spread 94 = .ok (.iload 7, 2) := by decide +kernel
theorem dX9_spread_96 : decode cX9_spread 96 = .ok (.iadd, 1) := by decide +kernel
theorem dX9_spread_97 : decode cX9_spread 97 = .ok (.lload 5, 2) := by decide +kernel
theorem dX9_spread_99 : decode cX9_spread 99 = .ok (.invokevirtual 149, 3) := by decide +kernel
theorem dX9_spread_102 : decode cX9_spread 102 = .ok (.ifCond .eq 17, 3) := by decide +kernel
theorem dX9_spread_105 : decode cX9_spread 105 = .ok (.aload_n 0, 1) := by decide +kernel
theorem dX9_spread_106 : decode cX9_spread 106 = .ok (.iload_n 1, 1) := by decide +kernel
theorem dX9_spread_107 : decode cX9_spread 107 = .ok (.iload_n 2, 1) := by decide +kernel
theorem dX9_spread_108 : decode cX9_spread 108 = .ok (.iload 7, 2) := by decide +kernel
theorem dX9_spread_110 : decode cX9_spread 110 = .ok (.invokevirtual 153, 3) := by decide +kernel
theorem dX9_spread_113 : decode cX9_spread 113 = .ok (.iinc 7 1, 3) := by decide +kernel
theorem dX9_spread_116 : decode cX9_spread 116 = .ok (.goto (-55), 3) := by decide +kernel
theorem dX9_spread_119 : decode cX9_spread 119 = .ok (.return_, 1) := by decide +kernel
theorem dX9_spreadDue_0 : decode cX9_spreadDue 0 = .ok (.iconst 0, 1) := by decide +kernel
theorem dX9_spreadDue_1 : decode cX9_spreadDue 1 = .ok (.istore_n 1, 1) := by decide +kernel
theorem dX9_spreadDue_2 : decode cX9_spreadDue 2 = .ok (.iload_n 1, 1) := by decide +kernel
theorem dX9_spreadDue_3 : decode cX9_spreadDue 3 = .ok (.aload_n 0, 1) := by decide +kernel
theorem dX9_spreadDue_4 : decode cX9_spreadDue 4 = .ok (.getfield 30, 3) := by decide +kernel
theorem dX9_spreadDue_7 : decode cX9_spreadDue 7 = .ok (.getfield 38, 3) := by decide +kernel
theorem dX9_spreadDue_10 : decode cX9_spreadDue 10 = .ok (.if_icmp .ge 70, 3) := by decide +kernel
theorem dX9_spreadDue_13 : decode cX9_spreadDue 13 = .ok (.aload_n 0, 1) := by decide +kernel
theorem dX9_spreadDue_14 : decode cX9_spreadDue 14 = .ok (.getfield 30, 3) := by decide +kernel
theorem dX9_spreadDue_17 : decode cX9_spreadDue 17 = .ok (.getfield 90, 3) := by decide +kernel
theorem dX9_spreadDue_20 : decode cX9_spreadDue 20 = .ok (.iload_n 1, 1) := by decide +kernel
theorem dX9_spreadDue_21 : decode cX9_spreadDue 21 = .ok (.iaload, 1) := by decide +kernel
theorem dX9_spreadDue_22 : decode cX9_spreadDue 22 = .ok (.aload_n 0, 1) := by decide +kernel
theorem dX9_spreadDue_23 : decode cX9_spreadDue 23 = .ok (.getfield 30, 3) := by decide +kernel
theorem dX9_spreadDue_26 : decode cX9_spreadDue 26 = .ok (.getfield 93, 3) := by decide +kernel
theorem dX9_spreadDue_29 : decode cX9_spreadDue 29 = .ok (.iload_n 1, 1) := by decide +kernel
theorem dX9_spreadDue_30 : decode cX9_spreadDue 30 = .ok (.iaload, 1) := by decide +kernel
theorem dX9_spreadDue_31 : decode cX9_spreadDue 31 = .ok (.if_icmp .ge 43, 3) := by decide +kernel
theorem dX9_spreadDue_34 : decode cX9_spreadDue 34 = .ok (.aload_n 0, 1) := by decide +kernel
theorem dX9_spreadDue_35 : decode cX9_spreadDue 35 = .ok (.getfield 15, 3) := by decide +kernel
theorem dX9_spreadDue_38 : decode cX9_spreadDue 38 = .ok (.iload_n 1, 1) := by decide +kernel
theorem dX9_spreadDue_39 : decode cX9_spreadDue 39 = .ok (.iaload, 1) := by decide +kernel
theorem dX9_spreadDue_40 : decode cX9_spreadDue 40 = .ok (.aload_n 0, 1) := by decide +kernel
theorem dX9_spreadDue_41 : decode cX9_spreadDue 41 = .ok (.getfield 96, 3) := by decide +kernel
theorem dX9_spreadDue_44 : decode cX9_spreadDue 44 = .ok (.if_icmp .eq 30, 3) := by decide +kernel
theorem dX9_spreadDue_47 : decode cX9_spreadDue 47 = .ok (.aload_n 0, 1) := by decide +kernel
theorem dX9_spreadDue_48 : decode cX9_spreadDue 48 = .ok (.getfield 34, 3) := by decide +kernel
theorem dX9_spreadDue_51 : decode cX9_spreadDue 51 = .ok (.getfield 128, 3) := by decide +kernel
theorem dX9_spreadDue_54 : decode cX9_spreadDue 54 = .ok (.iload_n 1, 1) := by decide +kernel
theorem dX9_spreadDue_55 : decode cX9_spreadDue 55 = .ok (.laload, 1) := by decide +kernel
theorem dX9_spreadDue_56 : decode cX9_spreadDue 56 = .ok (.aload_n 0, 1) := by decide +kernel
theorem dX9_spreadDue_57 : decode cX9_spreadDue 57 = .ok (.getfield 34, 3) := by decide +kernel
theorem dX9_spreadDue_60 : decode cX9_spreadDue 60 = .ok (.getfield 173, 3) := by decide +kernel
theorem dX9_spreadDue_63 : decode cX9_spreadDue 63 = .ok (.lcmp, 1) := by decide +kernel
theorem dX9_spreadDue_64 : decode cX9_spreadDue 64 = .ok (.ifCond .ne 10, 3) := by decide +kernel
theorem dX9_spreadDue_67 : decode cX9_spreadDue 67 = .ok (.aload_n 0, 1) := by decide +kernel
theorem dX9_spreadDue_68 : decode cX9_spreadDue 68 = .ok (.iload_n 1, 1) := by decide +kernel
theorem dX9_spreadDue_69 : decode cX9_spreadDue 69 = .ok (.bipush (-3), 2) := by decide +kernel
theorem dX9_spreadDue_71 : decode cX9_spreadDue 71 = .ok (.invokevirtual 169, 3) := by decide +kernel
theorem dX9_spreadDue_74 : decode cX9_spreadDue 74 = .ok (.iinc 1 1, 3) := by decide +kernel
theorem dX9_spreadDue_77 : decode cX9_spreadDue 77 = .ok (.goto (-75), 3) := by decide +kernel
theorem dX9_spreadDue_80 : decode cX9_spreadDue 80 = .ok (.return_, 1) := by decide +kernel
theorem dX9_spreadLeft_0 : decode cX9_spreadLeft 0 = .ok (.aload_n 0, 1) := by decide +kernel
theorem dX9_spreadLeft_1 : decode cX9_spreadLeft 1 = .ok (.getfield 30, 3) := by decide +kernel
theorem dX9_spreadLeft_4 : decode cX9_spreadLeft 4 = .ok (.getfield 156, 3) := by decide +kernel
theorem dX9_spreadLeft_7 : decode cX9_spreadLeft 7 = .ok (.iconst 1, 1) := by decide +kernel
theorem dX9_spreadLeft_8 : decode cX9_spreadLeft 8 = .ok (.isub, 1) := by decide +kernel
theorem dX9_spreadLeft_9 : decode cX9_spreadLeft 9 = .ok (.istore_n 1, 1) := by decide +kernel
theorem dX9_spreadLeft_10 : decode cX9_spreadLeft 10 = .ok (.iconst 0, 1) := by decide +kernel
theorem dX9_spreadLeft_11 : decode cX9_spreadLeft 11 = .ok (.istore_n 2, 1) := by decide +kernel
theorem dX9_spreadLeft_12 : decode cX9_spreadLeft 12 = .ok (.iload_n 2, 1) := by decide +kernel
theorem dX9_spreadLeft_13 : decode cX9_spreadLeft 13 = .ok (.aload_n 0, 1) := by decide +kernel
theorem dX9_spreadLeft_14 : decode cX9_spreadLeft 14 = .ok (.getfield 30, 3) := by decide +kernel
theorem dX9_spreadLeft_17 : decode cX9_spreadLeft 17 = .ok (.getfield 70, 3) := by decide +kernel
theorem dX9_spreadLeft_20 : decode cX9_spreadLeft 20 = .ok (.if_icmp .ge 37, 3) := by decide +kernel
theorem dX9_spreadLeft_23 : decode cX9_spreadLeft 23 = .ok (.aload_n 0, 1) := by decide +kernel
theorem dX9_spreadLeft_24 : decode cX9_spreadLeft 24 = .ok (.iload_n 2, 1) := by decide +kernel
theorem dX9_spreadLeft_25 : decode cX9_spreadLeft 25 = .ok (.bipush 24, 2) := by decide +kernel
theorem dX9_spreadLeft_27 : decode cX9_spreadLeft 27 = .ok (.imul, 1) := by decide +kernel
theorem dX9_spreadLeft_28 : decode cX9_spreadLeft 28 = .ok (.iload_n 1, 1) := by decide +kernel
theorem dX9_spreadLeft_29 : decode cX9_spreadLeft 29 = .ok (.iadd, 1) := by decide +kernel
theorem dX9_spreadLeft_30 : decode cX9_spreadLeft 30 = .ok (.aload_n 0, 1) := by decide +kernel
theorem dX9_spreadLeft_31 : decode cX9_spreadLeft 31 = .ok (.getfield 34, 3) := by decide +kernel
theorem dX9_spreadLeft_34 : decode cX9_spreadLeft 34 = .ok (.getfield 162, 3) := by decide +kernel
theorem dX9_spreadLeft_37 : decode cX9_spreadLeft 37 = .ok (.invokevirtual 149, 3) := by decide +kernel
theorem dX9_spreadLeft_40 : decode cX9_spreadLeft 40 = .ok (.ifCond .eq 11, 3) := by decide +kernel
theorem dX9_spreadLeft_43 : decode cX9_spreadLeft 43 = .ok (.aload_n 0, 1) := by decide +kernel
theorem dX9_spreadLeft_44 : decode cX9_spreadLeft 44 = .ok (.bipush (-2), 2) := by decide +kernel
theorem dX9_spreadLeft_46 : decode cX9_spreadLeft 46 = .ok (.iload_n 2, 1) := by decide +kernel
theorem dX9_spreadLeft_47 : decode cX9_spreadLeft 47 = .ok (.iload_n 1, 1) := by decide +kernel
theorem dX9_spreadLeft_48 : decode cX9_spreadLeft 48 = .ok (.invokevirtual 135, 3) := by decide +kernel
theorem dX9_spreadLeft_51 : decode cX9_spreadLeft 51 = .ok (.iinc 2 1, 3) := by decide +kernel
theorem dX9_spreadLeft_54 : decode cX9_spreadLeft 54 = .ok (.goto (-42), 3) := by decide +kernel
theorem dX9_spreadLeft_57 : decode cX9_spreadLeft 57 = .ok (.return_, 1) := by decide +kernel
theorem dX9_turn_0 : decode cX9_turn 0 = .ok (.aload_n 0, 1) := by decide +kernel
theorem dX9_turn_1 : decode cX9_turn 1 = .ok (.getfield 64, 3) := by decide +kernel
theorem dX9_turn_4 : decode cX9_turn 4 = .ok (.istore_n 1, 1) := by decide +kernel
theorem dX9_turn_5 : decode cX9_turn 5 = .ok (.iconst 0, 1) := by decide +kernel
theorem dX9_turn_6 : decode cX9_turn 6 = .ok (.istore_n 2, 1) := by decide +kernel
theorem dX9_turn_7 : decode cX9_turn 7 = .ok (.iload_n 2, 1) := by decide +kernel
theorem dX9_turn_8 : decode cX9_turn 8 = .ok (.ldc 139, 2) := by decide +kernel
theorem dX9_turn_10 : decode cX9_turn 10 = .ok (.if_icmp .ge 117, 3) := by decide +kernel
theorem dX9_turn_13 : decode cX9_turn 13 = .ok (.aload_n 0, 1) := by decide +kernel
theorem dX9_turn_14 : decode cX9_turn 14 = .ok (.getfield 18, 3) := by decide +kernel
theorem dX9_turn_17 : decode cX9_turn 17 = .ok (.iload_n 1, 1) := by decide +kernel
theorem dX9_turn_18 : decode cX9_turn 18 = .ok (.iaload, 1) := by decide +kernel
theorem dX9_turn_19 : decode cX9_turn 19 = .ok (.bipush (-3), 2) := by decide +kernel
theorem dX9_turn_21 : decode cX9_turn 21 = .ok (.if_icmp .ne 8, 3) := by decide +kernel
theorem dX9_turn_24 : decode cX9_turn 24 = .ok (.aload_n 0, 1) := by decide +kernel
theorem dX9_turn_25 : decode cX9_turn 25 = .ok (.getfield 105, 3) := by decide +kernel
theorem dX9_turn_28 : decode cX9_turn 28 = .ok (.istore_n 1, 1) := by decide +kernel
theorem dX9_turn_29 : decode cX9_turn 29 = .ok (.aload_n 0, 1) := by decide +kernel
theorem dX9_turn_30 : decode cX9_turn 30 = .ok (.getfield 18, 3) := by decide +kernel
theorem dX9_turn_33 : decode cX9_turn 33 = .ok (.iload_n 1, 1) := by decide +kernel
theorem dX9_turn_34 : decode cX9_turn 34 = .ok (.iaload, 1) := by decide +kernel
theorem dX9_turn_35 : decode cX9_turn 35 = .ok (.istore_n 3, 1) := by decide +kernel
theorem dX9_turn_36 : decode cX9_turn 36 = .ok (.aload_n 0, 1) := by decide +kernel
theorem dX9_turn_37 : decode cX9_turn 37 = .ok (.getfield 24, 3) := by decide +kernel
theorem dX9_turn_40 : decode cX9_turn 40 = .ok (.iload_n 3, 1) := by decide +kernel
theorem dX9_turn_41 : decode cX9_turn 41 = .ok (.bipush 24, 2) := by decide +kernel
theorem dX9_turn_43 : decode cX9_turn 43 = .ok (.imul, 1) := by decide +kernel
theorem dX9_turn_44 : decode cX9_turn 44 = .ok (.aload_n 0, 1) := by decide +kernel
theorem dX9_turn_45 : decode cX9_turn 45 = .ok (.getfield 30, 3) := by decide +kernel
theorem dX9_turn_48 : decode cX9_turn 48 = .ok (.getfield 118, 3) := by decide +kernel
theorem dX9_turn_51 : decode cX9_turn 51 = .ok (.iload_n 1, 1) := by decide +kernel
theorem dX9_turn_52 : decode cX9_turn 52 = .ok (.iaload, 1) := by decide +kernel
theorem dX9_turn_53 : decode cX9_turn 53 = .ok (.iadd, 1) := by decide +kernel
theorem dX9_turn_54 : decode cX9_turn 54 = .ok (.iaload, 1) := by decide +kernel
theorem dX9_turn_55 : decode cX9_turn 55 = .ok (.istore 4, 2) := by decide +kernel
theorem dX9_turn_57 : decode cX9_turn 57 = .ok (.aload_n 0, 1) := by decide +kernel
theorem dX9_turn_58 : decode cX9_turn 58 = .ok (.getfield 30, 3) := by decide +kernel
theorem dX9_turn_61 : decode cX9_turn 61 = .ok (.iload_n 1, 1) := by decide +kernel
theorem dX9_turn_62 : decode cX9_turn 62 = .ok (.iload_n 3, 1) := by decide +kernel
theorem dX9_turn_63 : decode cX9_turn 63 = .ok (.invokevirtual 176, 3) := by decide +kernel
theorem dX9_turn_66 : decode cX9_turn 66 = .ok (.iload 4, 2) := by decide +kernel
theorem dX9_turn_68 : decode cX9_turn 68 = .ok (.bipush (-2), 2) := by decide +kernel
theorem dX9_turn_70 : decode cX9_turn 70 = .ok (.if_icmp .ne 29, 3) := by decide +kernel
theorem dX9_turn_73 : decode cX9_turn 73 = .ok (.aload_n 0, 1) := by decide +kernel
theorem dX9_turn_74 : decode cX9_turn 74 = .ok (.getfield 108, 3) := by decide +kernel
theorem dX9_turn_77 : decode cX9_turn 77 = .ok (.istore_n 3, 1) := by decide +kernel
theorem dX9_turn_78 : decode cX9_turn 78 = .ok (.aload_n 0, 1) := by decide +kernel
theorem dX9_turn_79 : decode cX9_turn 79 = .ok (.getfield 24, 3) := by decide +kernel
theorem dX9_turn_82 : decode cX9_turn 82 = .ok (.iload_n 3, 1) := by decide +kernel
theorem dX9_turn_83 : decode cX9_turn 83 = .ok (.bipush 24, 2) := by decide +kernel
theorem dX9_turn_85 : decode cX9_turn 85 = .ok (.imul, 1) := by decide +kernel
theorem dX9_turn_86 : decode cX9_turn 86 = .ok (.aload_n 0, 1) := by decide +kernel
theorem dX9_turn_87 : decode cX9_turn 87 = .ok (.getfield 30, 3) := by decide +kernel
theorem dX9_turn_90 : decode cX9_turn 90 = .ok (.getfield 156, 3) := by decide +kernel
theorem dX9_turn_93 : decode cX9_turn 93 = .ok (.iadd, 1) := by decide +kernel
theorem dX9_turn_94 : decode cX9_turn 94 = .ok (.iconst 1, 1) := by decide +kernel
theorem dX9_turn_95 : decode cX9_turn 95 = .ok (.isub, 1) := by decide +kernel
theorem dX9_turn_96 : decode cX9_turn 96 = .ok (.iaload, 1) := by decide +kernel
theorem dX9_turn_97 : decode cX9_turn 97 = .ok (.istore 4, 2) := by decide +kernel
theorem dX9_turn_99 : decode cX9_turn 99 = .ok (.aload_n 0, 1) := by decide +kernel
theorem dX9_turn_100 : decode cX9_turn 100 = .ok (.getfield 30, 3) := by decide +kernel
theorem dX9_turn_103 : decode cX9_turn 103 = .ok (.iload 4, 2) := by decide +kernel
theorem dX9_turn_105 : decode cX9_turn 105 = .ok (.iload_n 3, 1) := by decide +kernel
theorem dX9_turn_106 : decode cX9_turn 106 = .ok (.invokevirtual 179, 3) := by decide +kernel
theorem dX9_turn_109 : decode cX9_turn 109 = .ok (.iload 4, 2) := by decide +kernel
theorem dX9_turn_111 : decode cX9_turn 111 = .ok (.istore_n 1, 1) := by decide +kernel
theorem dX9_turn_112 : decode cX9_turn 112 = .ok (.iload_n 1, 1) := by decide +kernel
theorem dX9_turn_113 : decode cX9_turn 113 = .ok (.aload_n 0, 1) := by decide +kernel
theorem dX9_turn_114 : decode cX9_turn 114 = .ok (.getfield 64, 3) := by decide +kernel
theorem dX9_turn_117 : decode cX9_turn 117 = .ok (.if_icmp .ne 4, 3) := by decide +kernel
theorem dX9_turn_120 : decode cX9_turn 120 = .ok (.return_, 1) := by decide +kernel
theorem dX9_turn_121 : decode cX9_turn 121 = .ok (.iinc 2 1, 3) := by decide +kernel
theorem dX9_turn_124 : decode cX9_turn 124 = .ok (.goto (-117), 3) := by decide +kernel
theorem dX9_turn_127 : decode cX9_turn 127 = .ok (.return_, 1) := by decide +kernel
theorem dX9_widen_0 : decode cX9_widen 0 = .ok (.aload_n 0, 1) := by decide +kernel
theorem dX9_widen_1 : decode cX9_widen 1 = .ok (.getfield 30, 3) := by decide +kernel
theorem dX9_widen_4 : decode cX9_widen 4 = .ok (.getfield 77, 3) := by decide +kernel
theorem dX9_widen_7 : decode cX9_widen 7 = .ok (.iload_n 1, 1) := by decide +kernel
theorem dX9_widen_8 : decode cX9_widen 8 = .ok (.iaload, 1) := by decide +kernel
theorem dX9_widen_9 : decode cX9_widen 9 = .ok (.iconst (-1), 1) := by decide +kernel
theorem dX9_widen_10 : decode cX9_widen 10 = .ok (.ixor, 1) := by decide +kernel
theorem dX9_widen_11 : decode cX9_widen 11 = .ok (.aload_n 0, 1) := by decide +kernel
theorem dX9_widen_12 : decode cX9_widen 12 = .ok (.getfield 9, 3) := by decide +kernel
theorem dX9_widen_15 : decode cX9_widen 15 = .ok (.iload_n 1, 1) := by decide +kernel
theorem dX9_widen_16 : decode cX9_widen 16 = .ok (.iaload, 1) := by decide +kernel
theorem dX9_widen_17 : decode cX9_widen 17 = .ok (.iconst (-1), 1) := by decide +kernel
theorem dX9_widen_18 : decode cX9_widen 18 = .ok (.ixor, 1) := by decide +kernel
theorem dX9_widen_19 : decode cX9_widen 19 = .ok (.iand, 1) := by decide +kernel
theorem dX9_widen_20 : decode cX9_widen 20 = .ok (.istore_n 2, 1) := by decide +kernel
theorem dX9_widen_21 : decode cX9_widen 21 = .ok (.iconst 0, 1) := by decide +kernel
theorem dX9_widen_22 : decode cX9_widen 22 = .ok (.istore_n 3, 1) := by decide +kernel
theorem dX9_widen_23 : decode cX9_widen 23 = .ok (.iload_n 3, 1) := by decide +kernel
theorem dX9_widen_24 : decode cX9_widen 24 = .ok (.aload_n 0, 1) := by decide +kernel
theorem dX9_widen_25 : decode cX9_widen 25 = .ok (.getfield 30, 3) := by decide +kernel
theorem dX9_widen_28 : decode cX9_widen 28 = .ok (.getfield 70, 3) := by decide +kernel
theorem dX9_widen_31 : decode cX9_widen 31 = .ok (.if_icmp .ge 41, 3) := by decide +kernel
theorem dX9_widen_34 : decode cX9_widen 34 = .ok (.iload_n 2, 1) := by decide +kernel
theorem dX9_widen_35 : decode cX9_widen 35 = .ok (.iload_n 3, 1) := by decide +kernel
theorem dX9_widen_36 : decode cX9_widen 36 = .ok (.ishr, 1) := by decide +kernel
theorem dX9_widen_37 : decode cX9_widen 37 = .ok (.iconst 1, 1) := by decide +kernel
theorem dX9_widen_38 : decode cX9_widen 38 = .ok (.iand, 1) := by decide +kernel
theorem dX9_widen_39 : decode cX9_widen 39 = .ok (.ifCond .eq 27, 3) := by decide +kernel
theorem dX9_widen_42 : decode cX9_widen 42 = .ok (.aload_n 0, 1) := by decide +kernel
theorem dX9_widen_43 : decode cX9_widen 43 = .ok (.iload_n 1, 1) := by decide +kernel
theorem dX9_widen_44 : decode cX9_widen 44 = .ok (.iload_n 3, 1) := by decide +kernel
theorem dX9_widen_45 : decode cX9_widen 45 = .ok (.invokevirtual 80, 3) := by decide +kernel
theorem dX9_widen_48 : decode cX9_widen 48 = .ok (.ifCond .eq 18, 3) := by decide +kernel
theorem dX9_widen_51 : decode cX9_widen 51 = .ok (.aload_n 0, 1) := by decide +kernel
theorem dX9_widen_52 : decode cX9_widen 52 = .ok (.iload_n 1, 1) := by decide +kernel
theorem dX9_widen_53 : decode cX9_widen 53 = .ok (.iload_n 3, 1) := by decide +kernel
theorem dX9_widen_54 : decode cX9_widen 54 = .ok (.aload_n 0, 1) := by decide +kernel
theorem dX9_widen_55 : decode cX9_widen 55 = .ok (.getfield 30, 3) := by decide +kernel
theorem dX9_widen_58 : decode cX9_widen 58 = .ok (.getfield 118, 3) := by decide +kernel
theorem dX9_widen_61 : decode cX9_widen 61 = .ok (.iload_n 1, 1) := by decide +kernel
theorem dX9_widen_62 : decode cX9_widen 62 = .ok (.iaload, 1) := by decide +kernel
theorem dX9_widen_63 : decode cX9_widen 63 = .ok (.invokevirtual 135, 3) := by decide +kernel
theorem dX9_widen_66 : decode cX9_widen 66 = .ok (.iinc 3 1, 3) := by decide +kernel
theorem dX9_widen_69 : decode cX9_widen 69 = .ok (.goto (-46), 3) := by decide +kernel
theorem dX9_widen_72 : decode cX9_widen 72 = .ok (.return_, 1) := by decide +kernel
