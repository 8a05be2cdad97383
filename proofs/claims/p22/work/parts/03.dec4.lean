theorem dX2_change_29 : decode cX2_change 29 = .ok (.iload 5, 2) := by decide +kernel
theorem dX2_change_31 : decode cX2_change 31 = .ok (.bipush 24, 2) := by decide +kernel
theorem dX2_change_33 : decode cX2_change 33 = .ok (.imul, 1) := by decide +kernel
theorem dX2_change_34 : decode cX2_change 34 = .ok (.aload_n 0, 1) := by decide +kernel
theorem dX2_change_35 : decode cX2_change 35 = .ok (.getfield 31, 3) := by decide +kernel
theorem dX2_change_38 : decode cX2_change 38 = .ok (.getfield 90, 3) := by decide +kernel
theorem dX2_change_41 : decode cX2_change 41 = .ok (.iload_n 3, 1) := by decide +kernel
theorem dX2_change_42 : decode cX2_change 42 = .ok (.iaload, 1) := by decide +kernel
theorem dX2_change_43 : decode cX2_change 43 = .ok (.iadd, 1) := by decide +kernel
theorem dX2_change_44 : decode cX2_change 44 = .ok (.iaload, 1) := by decide +kernel
theorem dX2_change_45 : decode cX2_change 45 = .ok (.istore 6, 2) := by decide +kernel
theorem dX2_change_47 : decode cX2_change 47 = .ok (.aload_n 0, 1) := by decide +kernel
theorem dX2_change_48 : decode cX2_change 48 = .ok (.getfield 31, 3) := by decide +kernel
theorem dX2_change_51 : decode cX2_change 51 = .ok (.iload_n 3, 1) := by decide +kernel
theorem dX2_change_52 : decode cX2_change 52 = .ok (.iload 5, 2) := by decide +kernel
theorem dX2_change_54 : decode cX2_change 54 = .ok (.invokevirtual 93, 3) := by decide +kernel
theorem dX2_change_57 : decode cX2_change 57 = .ok (.aload_n 0, 1) := by decide +kernel
theorem dX2_change_58 : decode cX2_change 58 = .ok (.getfield 31, 3) := by decide +kernel
theorem dX2_change_61 : decode cX2_change 61 = .ok (.iload 6, 2) := by decide +kernel
theorem dX2_change_63 : decode cX2_change 63 = .ok (.iload 5, 2) := by decide +kernel
theorem dX2_change_65 : decode cX2_change 65 = .ok (.invokevirtual 73, 3) := by decide +kernel
theorem dX2_change_68 : decode cX2_change 68 = .ok (.iload 6, 2) := by decide +kernel
theorem dX2_change_70 : decode cX2_change 70 = .ok (.istore_n 3, 1) := by decide +kernel
theorem dX2_change_71 : decode cX2_change 71 = .ok (.iinc 4 1, 3) := by decide +kernel
theorem dX2_change_74 : decode cX2_change 74 = .ok (.goto (-69), 3) := by decide +kernel
theorem dX2_change_77 : decode cX2_change 77 = .ok (.return_, 1) := by decide +kernel
theorem dX2_cheapestLeft_0 : decode cX2_cheapestLeft 0 = .ok (.iconst (-1), 1) := by decide +kernel
theorem dX2_cheapestLeft_1 : decode cX2_cheapestLeft 1 = .ok (.istore_n 1, 1) := by decide +kernel
theorem dX2_cheapestLeft_2 : decode cX2_cheapestLeft 2 = .ok (.ldc2_w 48, 3) := by decide +kernel
theorem dX2_cheapestLeft_5 : decode cX2_cheapestLeft 5 = .ok (.lstore_n 2, 1) := by decide +kernel
theorem dX2_cheapestLeft_6 : decode cX2_cheapestLeft 6 = .ok (.iconst 0, 1) := by decide +kernel
theorem dX2_cheapestLeft_7 : decode cX2_cheapestLeft 7 = .ok (.istore 4, 2) := by decide +kernel
theorem dX2_cheapestLeft_9 : decode cX2_cheapestLeft 9 = .ok (.iload 4, 2) := by decide +kernel
theorem dX2_cheapestLeft_11 : decode cX2_cheapestLeft 11 = .ok (.aload_n 0, 1) := by decide +kernel
theorem dX2_cheapestLeft_12 : decode cX2_cheapestLeft 12 = .ok (.getfield 31, 3) := by decide +kernel
theorem dX2_cheapestLeft_15 : decode cX2_cheapestLeft 15 = .ok (.getfield 83, 3) := by decide +kernel
theorem dX2_cheapestLeft_18 : decode cX2_cheapestLeft 18 = .ok (.if_icmp .ge 62, 3) := by decide +kernel
theorem dX2_cheapestLeft_21 : decode cX2_cheapestLeft 21 = .ok (.iload 4, 2) := by decide +kernel
theorem dX2_cheapestLeft_23 : decode cX2_cheapestLeft 23 = .ok (.bipush 24, 2) := by decide +kernel
theorem dX2_cheapestLeft_25 : decode cX2_cheapestLeft 25 = .ok (.imul, 1) := by decide +kernel
theorem dX2_cheapestLeft_26 : decode cX2_cheapestLeft 26 = .ok (.aload_n 0, 1) := by decide +kernel
theorem dX2_cheapestLeft_27 : decode cX2_cheapestLeft 27 = .ok (.getfield 31, 3) := by decide +kernel
theorem dX2_cheapestLeft_30 : decode cX2_cheapestLeft 30 = .ok (.getfield 70, 3) := by decide +kernel
theorem dX2_cheapestLeft_33 : decode cX2_cheapestLeft 33 = .ok (.iadd, 1) := by decide +kernel
theorem dX2_cheapestLeft_34 : decode cX2_cheapestLeft 34 = .ok (.iconst 1, 1) := by decide +kernel
theorem dX2_cheapestLeft_35 : decode cX2_cheapestLeft 35 = .ok (.isub, 1) := by decide +kernel
theorem dX2_cheapestLeft_36 : decode cX2_cheapestLeft 36 = .ok (.istore 5, 2) := by decide +kernel
theorem dX2_cheapestLeft_38 : decode cX2_cheapestLeft 38 = .ok (.aload_n 0, 1) := by decide +kernel
theorem dX2_cheapestLeft_39 : decode cX2_cheapestLeft 39 = .ok (.getfield 31, 3) := by decide +kernel
theorem dX2_cheapestLeft_42 : decode cX2_cheapestLeft 42 = .ok (.getfield 86, 3) := by decide +kernel
theorem dX2_cheapestLeft_45 : decode cX2_cheapestLeft 45 = .ok (.iload 5, 2) := by decide +kernel
theorem dX2_cheapestLeft_47 : decode cX2_cheapestLeft 47 = .ok (.iaload, 1) := by decide +kernel
theorem dX2_cheapestLeft_48 : decode cX2_cheapestLeft 48 = .ok (.ifCond .le 26, 3) := by decide +kernel
theorem dX2_cheapestLeft_51 : decode cX2_cheapestLeft 51 = .ok (.aload_n 0, 1) := by decide +kernel
theorem dX2_cheapestLeft_52 : decode cX2_cheapestLeft 52 = .ok (.getfield 19, 3) := by decide +kernel
theorem dX2_cheapestLeft_55 : decode cX2_cheapestLeft 55 = .ok (.iload 5, 2) := by decide +kernel
theorem dX2_cheapestLeft_57 : decode cX2_cheapestLeft 57 = .ok (.laload, 1) := by decide +kernel
theorem dX2_cheapestLeft_58 : decode cX2_cheapestLeft 58 = .ok (.lload_n 2, 1) := by decide +kernel
theorem dX2_cheapestLeft_59 : decode cX2_cheapestLeft 59 = .ok (.lcmp, 1) := by decide +kernel
theorem dX2_cheapestLeft_60 : decode cX2_cheapestLeft 60 = .ok (.ifCond .ge 14, 3) := by decide +kernel
theorem dX2_cheapestLeft_63 : decode cX2_cheapestLeft 63 = .ok (.aload_n 0, 1) := by decide +kernel
theorem dX2_cheapestLeft_64 : decode cX2_cheapestLeft 64 = .ok (.getfield 19, 3) := by decide +kernel
theorem dX2_cheapestLeft_67 : decode cX2_cheapestLeft 67 = .ok (.iload 5, 2) := by decide +kernel
theorem dX2_cheapestLeft_69 : decode cX2_cheapestLeft 69 = .ok (.laload, 1) := by decide +kernel
theorem dX2_cheapestLeft_70 : decode cX2_cheapestLeft 70 = .ok (.lstore_n 2, 1) := by decide +kernel
theorem dX2_cheapestLeft_71 : decode cX2_cheapestLeft 71 = .ok (.iload 4, 2) := by decide +kernel
theorem dX2_cheapestLeft_73 : decode cX2_cheapestLeft 73 = .ok (.istore_n 1, 1) := by decide +kernel
theorem dX2_cheapestLeft_74 : decode cX2_cheapestLeft 74 = .ok (.iinc 4 1, 3) := by decide +kernel
theorem dX2_cheapestLeft_77 : decode cX2_cheapestLeft 77 = .ok (.goto (-68), 3) := by decide +kernel
theorem dX2_cheapestLeft_80 : decode cX2_cheapestLeft 80 = .ok (.iload_n 1, 1) := by decide +kernel
theorem dX2_cheapestLeft_81 : decode cX2_cheapestLeft 81 = .ok (.ireturn, 1) := by decide +kernel
theorem dX2_cheapestLoser_0 : decode cX2_cheapestLoser 0 = .ok (.iconst (-1), 1) := by decide +kernel
theorem dX2_cheapestLoser_1 : decode cX2_cheapestLoser 1 = .ok (.istore_n 1, 1) := by decide +kernel
theorem dX2_cheapestLoser_2 : decode cX2_cheapestLoser 2 = .ok (.lconst 0, 1) := by decide +kernel
theorem dX2_cheapestLoser_3 : decode cX2_cheapestLoser 3 = .ok (.lstore_n 2, 1) := by decide +kernel
theorem dX2_cheapestLoser_4 : decode cX2_cheapestLoser 4 = .ok (.iconst 0, 1) := by decide +kernel
theorem dX2_cheapestLoser_5 : decode cX2_cheapestLoser 5 = .ok (.istore 4, 2) := by decide +kernel
theorem dX2_cheapestLoser_7 : decode cX2_cheapestLoser 7 = .ok (.iload 4, 2) := by decide +kernel
theorem dX2_cheapestLoser_9 : decode cX2_cheapestLoser 9 = .ok (.aload_n 0, 1) := by decide +kernel
theorem dX2_cheapestLoser_10 : decode cX2_cheapestLoser 10 = .ok (.getfield 31, 3) := by decide +kernel
theorem dX2_cheapestLoser_13 : decode cX2_cheapestLoser 13 = .ok (.getfield 35, 3) := by decide +kernel
theorem dX2_cheapestLoser_16 : decode cX2_cheapestLoser 16 = .ok (.if_icmp .ge 32, 3) := by decide +kernel
theorem dX2_cheapestLoser_19 : decode cX2_cheapestLoser 19 = .ok (.aload_n 0, 1) := by decide +kernel
theorem dX2_cheapestLoser_20 : decode cX2_cheapestLoser 20 = .ok (.getfield 9, 3) := by decide +kernel
theorem dX2_cheapestLoser_23 : decode cX2_cheapestLoser 23 = .ok (.iload 4, 2) := by decide +kernel
theorem dX2_cheapestLoser_25 : decode cX2_cheapestLoser 25 = .ok (.laload, 1) := by decide +kernel
theorem dX2_cheapestLoser_26 : decode cX2_cheapestLoser 26 = .ok (.lload_n 2, 1) := by decide +kernel
theorem dX2_cheapestLoser_27 : decode cX2_cheapestLoser 27 = .ok (.lcmp, 1) := by decide +kernel
theorem dX2_cheapestLoser_28 : decode cX2_cheapestLoser 28 = .ok (.ifCond .ge 14, 3) := by decide +kernel
theorem dX2_cheapestLoser_31 : decode cX2_cheapestLoser 31 = .ok (.aload_n 0, 1) := by decide +kernel
theorem dX2_cheapestLoser_32 : decode cX2_cheapestLoser 32 = .ok (.getfield 9, 3) := by decide +kernel
theorem dX2_cheapestLoser_35 : decode cX2_cheapestLoser 35 = .ok (.iload 4, 2) := by decide +kernel
theorem dX2_cheapestLoser_37 : decode cX2_cheapestLoser 37 = .ok (.laload, 1) := by decide +kernel
theorem dX2_cheapestLoser_38 : decode cX2_cheapestLoser 38 = .ok (.lstore_n 2, 1) := by decide +kernel
theorem dX2_cheapestLoser_39 : decode cX2_cheapestLoser 39 = .ok (.iload 4, 2) := by decide +kernel
theorem dX2_cheapestLoser_41 : decode cX2_cheapestLoser 41 = .ok (.istore_n 1, 1) := by decide +kernel
theorem dX2_cheapestLoser_42 : decode cX2_cheapestLoser 42 = .ok (.iinc 4 1, 3) := by decide +kernel
theorem dX2_cheapestLoser_45 : decode cX2_cheapestLoser 45 = .ok (.goto (-38), 3) := by decide +kernel
theorem dX2_cheapestLoser_48 : decode cX2_cheapestLoser 48 = .ok (.iload_n 1, 1) := by decide +kernel
theorem dX2_cheapestLoser_49 : decode cX2_cheapestLoser 49 = .ok (.ireturn, 1) := by decide +kernel
theorem dX2_enqueue_0 : decode cX2_enqueue 0 = .ok (.aload_n 0, 1) := by decide +kernel
theorem dX2_enqueue_1 : decode cX2_enqueue 1 = .ok (.getfield 28, 3) := by decide +kernel
theorem dX2_enqueue_4 : decode cX2_enqueue 4 = .ok (.iload_n 1, 1) := by decide +kernel
theorem dX2_enqueue_5 : decode cX2_enqueue 5 = .ok (.iaload, 1) := by decide +kernel
theorem dX2_enqueue_6 : decode cX2_enqueue 6 = .ok (.ifCond .ne 33, 3) := by decide +kernel
theorem dX2_enqueue_9 : decode cX2_enqueue 9 = .ok (.aload_n 0, 1) := by decide +kernel
theorem dX2_enqueue_10 : decode cX2_enqueue 10 = .ok (.getfield 28, 3) := by decide +kernel
theorem dX2_enqueue_13 : decode cX2_enqueue 13 = .ok (.iload_n 1, 1) := by decide +kernel
theorem dX2_enqueue_14 : decode cX2_enqueue 14 = .ok (.iconst 1, 1) := by decide +kernel
theorem dX2_enqueue_15 : decode cX2_enqueue 15 = .ok (.iastore, 1) := by decide +kernel
theorem dX2_enqueue_16 : decode cX2_enqueue 16 = .ok (.aload_n 0, 1) := by decide +kernel
theorem dX2_enqueue_17 : decode cX2_enqueue 17 = .ok (.getfield 25, 3) := by decide +kernel
theorem dX2_enqueue_20 : decode cX2_enqueue 20 = .ok (.aload_n 0, 1) := by decide +kernel
theorem dX2_enqueue_21 : decode cX2_enqueue 21 = .ok (.getfield 99, 3) := by decide +kernel
theorem dX2_enqueue_24 : decode cX2_enqueue 24 = .ok (.bipush 63, 2) := by decide +kernel
theorem dX2_enqueue_26 : decode cX2_enqueue 26 = .ok (.iand, 1) := by decide +kernel
theorem dX2_enqueue_27 : decode cX2_enqueue 27 = .ok (.iload_n 1, 1) := by decide +kernel
theorem dX2_enqueue_28 : decode cX2_enqueue 28 = .ok (.iastore, 1) := by decide +kernel
theorem dX2_enqueue_29 : decode cX2_enqueue 29 = .ok (.aload_n 0, 1) := by decide +kernel
theorem dX2_enqueue_30 : decode cX2_enqueue 30 = .ok (.dup, 1) := by decide +kernel
theorem dX2_enqueue_31 : decode cX2_enqueue 31 = .ok (.getfield 99, 3) := by decide +kernel
theorem dX2_enqueue_34 : decode cX2_enqueue 34 = .ok (.iconst 1, 1) := by decide +kernel
theorem dX2_enqueue_35 : decode cX2_enqueue 35 = .ok (.iadd, 1) := by decide +kernel
theorem dX2_enqueue_36 : decode cX2_enqueue 36 = .ok (.putfield 99, 3) := by decide +kernel
theorem dX2_enqueue_39 : decode cX2_enqueue 39 = .ok (.return_, 1) := by decide +kernel
theorem dX2_fill_0 : decode cX2_fill 0 = .ok (.iconst 0, 1) := by decide +kernel
theorem dX2_fill_1 : decode cX2_fill 1 = .ok (.istore_n 1, 1) := by decide +kernel
theorem dX2_fill_2 : decode cX2_fill 2 = .ok (.iload_n 1, 1) := by decide +kernel
theorem dX2_fill_3 : decode cX2_fill 3 = .ok (.aload_n 0, 1) := by decide +kernel
theorem dX2_fill_4 : decode cX2_fill 4 = .ok (.getfield 31, 3) := by decide +kernel
theorem dX2_fill_7 : decode cX2_fill 7 = .ok (.getfield 35, 3) := by decide +kernel
theorem dX2_fill_10 : decode cX2_fill 10 = .ok (.if_icmp .ge 42, 3) := by decide +kernel
theorem dX2_fill_13 : decode cX2_fill 13 = .ok (.iconst 1, 1) := by decide +kernel
theorem dX2_fill_14 : decode cX2_fill 14 = .ok (.istore_n 2, 1) := by decide +kernel
theorem dX2_fill_15 : decode cX2_fill 15 = .ok (.iconst 0, 1) := by decide +kernel
theorem dX2_fill_16 : decode cX2_fill 16 = .ok (.istore_n 3, 1) := by decide +kernel
theorem dX2_fill_17 : decode cX2_fill 17 = .ok (.iload_n 3, 1) := by decide +kernel
theorem dX2_fill_18 : decode cX2_fill 18 = .ok (.aload_n 0, 1) := by decide +kernel
theorem dX2_fill_19 : decode cX2_fill 19 = .ok (.getfield 31, 3) := by decide +kernel
theorem dX2_fill_22 : decode cX2_fill 22 = .ok (.getfield 41, 3) := by decide +kernel
theorem dX2_fill_25 : decode cX2_fill 25 = .ok (.iload_n 1, 1) := by decide +kernel
theorem dX2_fill_26 : decode cX2_fill 26 = .ok (.iaload, 1) := by decide +kernel
theorem dX2_fill_27 : decode cX2_fill 27 = .ok (.if_icmp .ge 19, 3) := by decide +kernel
theorem dX2_fill_30 : decode cX2_fill 30 = .ok (.iload_n 2, 1) := by decide +kernel
theorem dX2_fill_31 : decode cX2_fill 31 = .ok (.ifCond .eq 15, 3) := by decide +kernel
theorem dX2_fill_34 : decode cX2_fill 34 = .ok (.aload_n 0, 1) := by decide +kernel
theorem dX2_fill_35 : decode cX2_fill 35 = .ok (.iload_n 1, 1) := by decide +kernel
theorem dX2_fill_36 : decode cX2_fill 36 = .ok (.invokevirtual 44, 3) := by decide +kernel
theorem dX2_fill_39 : decode cX2_fill 39 = .ok (.istore_n 2, 1) := by decide +kernel
theorem dX2_fill_40 : decode cX2_fill 40 = .ok (.iinc 3 1, 3) := by decide +kernel
theorem dX2_fill_43 : decode cX2_fill 43 = .ok (.goto (-26), 3) := by decide +kernel
theorem dX2_fill_46 : decode cX2_fill 46 = .ok (.iinc 1 1, 3) := by decide +kernel
theorem dX2_fill_49 : decode cX2_fill 49 = .ok (.goto (-47), 3) := by decide +kernel
theorem dX2_fill_52 : decode cX2_fill 52 = .ok (.return_, 1) := by decide +kernel
theorem dX2_init_0 : decode cX2_init 0 = .ok (.aload_n 0, 1) := by decide +kernel
theorem dX2_init_1 : decode cX2_init 1 = .ok (.invokespecial 3, 3) := by decide +kernel
theorem dX2_init_4 : decode cX2_init 4 = .ok (.aload_n 0, 1) := by decide +kernel
theorem dX2_init_5 : decode cX2_init 5 = .ok (.bipush 40, 2) := by decide +kernel
theorem dX2_init_7 : decode cX2_init 7 = .ok (.newarray .long, 2) := by decide +kernel
theorem dX2_init_9 : decode cX2_init 9 = .ok (.putfield 9, 3) := by decide +kernel
theorem dX2_init_12 : decode cX2_init 12 = .ok (.aload_n 0, 1) := by decide +kernel
theorem dX2_init_13 : decode cX2_init 13 = .ok (.bipush 40, 2) := by decide +kernel
theorem dX2_init_15 : decode cX2_init 15 = .ok (.newarray .int, 2) := by decide +kernel
theorem dX2_init_17 : decode cX2_init 17 = .ok (.putfield 15, 3) := by decide +kernel
theorem dX2_init_20 : decode cX2_init 20 = .ok (.aload_n 0, 1) := by decide +kernel
theorem dX2_init_21 : decode cX2_init 21 = .ok (.sipush 240, 3) := by decide +kernel
theorem dX2_init_24 : decode cX2_init 24 = .ok (.newarray .long, 2) := by decide +kernel
theorem dX2_init_26 : decode cX2_init 26 = .ok (.putfield 19, 3) := by decide +kernel
theorem dX2_init_29 : decode cX2_init 29 = .ok (.aload_n 0, 1) := by decide +kernel
theorem dX2_init_30 : decode cX2_init 30 = .ok (.sipush 240, 3) := by decide +kernel
theorem dX2_init_33 : decode cX2_init 33 = .ok (.newarray .int, 2) := by decide +kernel
theorem dX2_init_35 : decode cX2_init 35 = .ok (.putfield 22, 3) := by decide +kernel
theorem dX2_init_38 : decode cX2_init 38 = .ok (.aload_n 0, 1) := by decide +kernel
theorem dX2_init_39 : decode cX2_init 39 = .ok (.bipush 64, 2) := by decide +kernel
theorem dX2_init_41 : decode cX2_init 41 = .ok (.newarray .int, 2) := by decide +kernel
theorem dX2_init_43 : decode cX2_init 43 = .ok (.putfield 25, 3) := by decide +kernel
theorem dX2_init_46 : decode cX2_init 46 = .ok (.aload_n 0, 1) := by decide +kernel
theorem dX2_init_47 : decode cX2_init 47 = .ok (.bipush 40, 2) := by decide +kernel
theorem dX2_init_49 : decode cX2_init 49 = .ok (.newarray .int, 2) := by decide +kernel
theorem dX2_init_51 : decode cX2_init 51 = .ok (.putfield 28, 3) := by decide +kernel
theorem dX2_init_54 : decode cX2_init 54 = .ok (.aload_n 0, 1) := by decide +kernel
theorem dX2_init_55 : decode cX2_init 55 = .ok (.aload_n 1, 1) := by decide +kernel
theorem dX2_init_56 : decode cX2_init 56 = .ok (.putfield 31, 3) := by decide +kernel
theorem dX2_init_59 : decode cX2_init 59 = .ok (.return_, 1) := by decide +kernel
theorem dX2_level_0 : decode cX2_level 0 = .ok (.aload_n 0, 1) := by decide +kernel
theorem dX2_level_1 : decode cX2_level 1 = .ok (.getfield 9, 3) := by decide +kernel
theorem dX2_level_4 : decode cX2_level 4 = .ok (.lconst 0, 1) := by decide +kernel
theorem dX2_level_5 : decode cX2_level 5 = .ok (.invokestatic 50, 3) := by decide +kernel
theorem dX2_level_8 : decode cX2_level 8 = .ok (.aload_n 0, 1) := by decide +kernel
theorem dX2_level_9 : decode cX2_level 9 = .ok (.getfield 19, 3) := by decide +kernel
theorem dX2_level_12 : decode cX2_level 12 = .ok (.lconst 0, 1) := by decide +kernel
theorem dX2_level_13 : decode cX2_level 13 = .ok (.invokestatic 50, 3) := by decide +kernel
theorem dX2_level_16 : decode cX2_level 16 = .ok (.aload_n 0, 1) := by decide +kernel
theorem dX2_level_17 : decode cX2_level 17 = .ok (.lconst 0, 1) := by decide +kernel
theorem dX2_level_18 : decode cX2_level 18 = .ok (.putfield 125, 3) := by decide +kernel
theorem dX2_level_21 : decode cX2_level 21 = .ok (.aload_n 0, 1) := by decide +kernel
theorem dX2_level_22 : decode cX2_level 22 = .ok (.lconst 0, 1) := by decide +kernel
theorem dX2_level_23 : decode cX2_level 23 = .ok (.putfield 129, 3) := by decide +kernel
theorem dX2_level_26 : decode cX2_level 26 = .ok (.aload_n 0, 1) := by decide +kernel
theorem dX2_level_27 : decode cX2_level 27 = .ok (.invokevirtual 56, 3) := by decide +kernel
theorem dX2_level_30 : decode cX2_level 30 = .ok (.iconst 0, 1) := by decide +kernel
theorem dX2_level_31 : decode cX2_level 31 = .ok (.istore_n 1, 1) := by decide +kernel
theorem dX2_level_32 : decode cX2_level 32 = .ok (.iload_n 1, 1) := by decide +kernel
theorem dX2_level_33 : decode cX2_level 33 = .ok (.aload_n 0, 1) := by decide +kernel
theorem dX2_level_34 : decode cX2_level 34 = .ok (.getfield 31, 3) := by decide +kernel
theorem dX2_level_37 : decode cX2_level 37 = .ok (.getfield 35, 3) := by decide +kernel
theorem dX2_level_40 : decode cX2_level 40 = .ok (.if_icmp .ge 74, 3) := by decide +kernel
theorem dX2_level_43 : decode cX2_level 43 = .ok (.iconst 0, 1) := by decide +kernel
theorem dX2_level_44 : decode cX2_level 44 = .ok (.istore_n 2, 1) := by decide +kernel
theorem dX2_level_45 : decode cX2_level 45 = .ok (.iload_n 2, 1) := by decide +kernel
theorem dX2_level_46 : decode cX2_level 46 = .ok (.aload_n 0, 1) := by decide +kernel
theorem dX2_level_47 : decode cX2_level 47 = .ok (.getfield 31, 3) := by decide +kernel
theorem dX2_level_50 : decode cX2_level 50 = .ok (.getfield 83, 3) := by decide +kernel
theorem dX2_level_53 : decode cX2_level 53 = .ok (.if_icmp .ge 50, 3) := by decide +kernel
theorem dX2_level_56 : decode cX2_level 56 = .ok (.aload_n 0, 1) := by decide +kernel
theorem dX2_level_57 : decode cX2_level 57 = .ok (.getfield 31, 3) := by decide +kernel
theorem dX2_level_60 : decode cX2_level 60 = .ok (.getfield 108, 3) := by decide +kernel
theorem dX2_level_63 : decode cX2_level 63 = .ok (.iload_n 1, 1) := by decide +kernel
theorem dX2_level_64 : decode cX2_level 64 = .ok (.iaload, 1) := by decide +kernel
theorem dX2_level_65 : decode cX2_level 65 = .ok (.iload_n 2, 1) := by decide +kernel
theorem dX2_level_66 : decode cX2_level 66 = .ok (.ishr, 1) := by decide +kernel
theorem dX2_level_67 : decode cX2_level 67 = .ok (.iconst 1, 1) := by decide +kernel
theorem dX2_level_68 : decode cX2_level 68 = .ok (.iand, 1) := by decide +kernel
theorem dX2_level_69 : decode cX2_level 69 = .ok (.ifCond .eq 28, 3) := by decide +kernel
theorem dX2_level_72 : decode cX2_level 72 = .ok (.aload_n 0, 1) := by decide +kernel
theorem dX2_level_73 : decode cX2_level 73 = .ok (.getfield 9, 3) := by decide +kernel
theorem dX2_level_76 : decode cX2_level 76 = .ok (.iload_n 1, 1) := by decide +kernel
theorem dX2_level_77 : decode cX2_level 77 = .ok (.aload_n 0, 1) := by decide +kernel
theorem dX2_level_78 : decode cX2_level 78 = .ok (.getfield 9, 3) := by decide +kernel
theorem dX2_level_81 : decode cX2_level 81 = .ok (.iload_n 1, 1) := by decide +kernel
theorem dX2_level_82 : decode cX2_level 82 = .ok (.laload, 1) := by decide +kernel
theorem dX2_level_83 : decode cX2_level 83 = .ok (.aload_n 0, 1) := by decide +kernel
theorem dX2_level_84 : decode cX2_level 84 = .ok (.getfield 31, 3) := by decide +kernel
theorem dX2_level_87 : decode cX2_level 87 = .ok (.iload_n 1, 1) := by decide +kernel
theorem dX2_level_88 : decode cX2_level 88 = .ok (.iload_n 2, 1) := by decide +kernel
theorem dX2_level_89 : decode cX2_level 89 = .ok (.invokevirtual 111, 3) := by decide +kernel
theorem dX2_level_92 : decode cX2_level 92 = .ok (.i2l, 1) := by decide +kernel
theorem dX2_level_93 : decode cX2_level 93 = .ok (.invokestatic 132, 3) := by decide +kernel
theorem dX2_level_96 : decode cX2_level 96 = .ok (.lastore, 1) := by decide +kernel
theorem dX2_level_97 : decode cX2_level 97 = .ok (.iinc 2 1, 3) := by decide +kernel
theorem dX2_level_100 : decode cX2_level 100 = .ok (.goto (-55), 3) := by decide +kernel
theorem dX2_level_103 : decode cX2_level 103 = .ok (.aload_n 0, 1) := by decide +kernel
theorem dX2_level_104 : decode cX2_level 104 = .ok (.iload_n 1, 1) := by decide +kernel
theorem dX2_level_105 : decode cX2_level 105 = .ok (.invokevirtual 59, 3) := by decide +kernel
theorem dX2_level_108 : decode cX2_level 108 = .ok (.iinc 1 1, 3) := by decide +kernel
theorem dX2_level_111 : decode cX2_level 111 = .ok (.goto (-79), 3) := by decide +kernel
theorem dX2_level_114 : decode cX2_level 114 = .ok (.iconst 0, 1) := by decide +kernel
theorem dX2_level_115 : decode cX2_level 115 = .ok (.istore_n 1, 1) := by decide +kernel
theorem dX2_level_116 : decode cX2_level 116 = .ok (.iload_n 1, 1) := by decide +kernel
theorem dX2_level_117 : decode cX2_level 117 = .ok (.ldc 89, 2) := by decide +kernel
theorem dX2_level_119 : decode cX2_level 119 = .ok (.if_icmp .ge 32, 3) := by decide +kernel
theorem dX2_level_122 : decode cX2_level 122 = .ok (.aload_n 0, 1) := by decide +kernel
theorem dX2_level_123 : decode cX2_level 123 = .ok (.getfield 96, 3) := by decide +kernel
theorem dX2_level_126 : decode cX2_level 126 = .ok (.aload_n 0, 1) := by decide +kernel
theorem dX2_level_127 : decode cX2_level 127 = .ok (.getfield 99, 3) := by decide +kernel
theorem dX2_level_130 : decode cX2_level 130 = .ok (.if_icmp .eq 21, 3) := by decide +kernel
theorem dX2_level_133 : decode cX2_level 133 = .ok (.aload_n 0, 1) := by decide +kernel
theorem dX2_level_134 : decode cX2_level 134 = .ok (.invokevirtual 63, 3) := by decide +kernel
theorem dX2_level_137 : decode cX2_level 137 = .ok (.aload_n 0, 1) := by decide +kernel
theorem dX2_level_138 : decode cX2_level 138 = .ok (.invokevirtual 138, 3) := by decide +kernel
theorem dX2_level_141 : decode cX2_level 141 = .ok (.aload_n 0, 1) := by decide +kernel
theorem dX2_level_142 : decode cX2_level 142 = .ok (.invokevirtual 141, 3) := by decide +kernel
theorem dX2_level_145 : decode cX2_level 145 = .ok (.iinc 1 1, 3) := by decide +kernel
theorem dX2_level_148 : decode cX2_level 148 = .ok (.goto (-32), 3) := by decide +kernel
theorem dX2_level_151 : decode cX2_level 151 = .ok (.return_, 1) := by decide +kernel
theorem dX2_levelDue_0 : decode cX2_levelDue 0 = .ok (.iconst 0, 1) := by decide +kernel
theorem dX2_levelDue_1 : decode cX2_levelDue 1 = .ok (.istore_n 1, 1) := by decide +kernel
theorem dX2_levelDue_2 : decode cX2_levelDue 2 = .ok (.iload_n 1, 1) := by decide +kernel
theorem dX2_levelDue_3 : decode cX2_levelDue 3 = .ok (.aload_n 0, 1) := by decide +kernel
theorem dX2_levelDue_4 : decode cX2_levelDue 4 = .ok (.getfield 31, 3) := by decide +kernel
theorem dX2_levelDue_7 : decode cX2_levelDue 7 = .ok (.getfield 35, 3) := by decide +kernel
theorem dX2_levelDue_10 : decode cX2_levelDue 10 = .ok (.if_icmp .ge 38, 3) := by decide +kernel
theorem dX2_levelDue_13 : decode cX2_levelDue 13 = .ok (.aload_n 0, 1) := by decide +kernel
theorem dX2_levelDue_14 : decode cX2_levelDue 14 = .ok (.getfield 31, 3) := by decide +kernel
theorem dX2_levelDue_17 : decode cX2_levelDue 17 = .ok (.getfield 144, 3) := by decide +kernel
theorem dX2_levelDue_20 : decode cX2_levelDue 20 = .ok (.iload_n 1, 1) := by decide +kernel
theorem dX2_levelDue_21 : decode cX2_levelDue 21 = .ok (.iaload, 1) := by decide +kernel
theorem dX2_levelDue_22 : decode cX2_levelDue 22 = .ok (.ifCond .le 20, 3) := by decide +kernel
theorem dX2_levelDue_25 : decode cX2_levelDue 25 = .ok (.aload_n 0, 1) := by decide +kernel
theorem dX2_levelDue_26 : decode cX2_levelDue 26 = .ok (.aload_n 0, 1) := by decide +kernel
theorem dX2_levelDue_27 : decode cX2_levelDue 27 = .ok (.getfield 125, 3) := by decide +kernel
theorem dX2_levelDue_30 : decode cX2_levelDue 30 = .ok (.aload_n 0, 1) := by decide +kernel
theorem dX2_levelDue_31 : decode cX2_levelDue 31 = .ok (.getfield 9, 3) := by decide +kernel
theorem dX2_levelDue_34 : decode cX2_levelDue 34 = .ok (.iload_n 1, 1) := by decide +kernel
theorem dX2_levelDue_35 : decode cX2_levelDue 35 = .ok (.laload, 1) := by decide +kernel
theorem dX2_levelDue_36 : decode cX2_levelDue 36 = .ok (.invokestatic 132, 3) := by decide +kernel
theorem dX2_levelDue_39 : decode cX2_levelDue 39 = .ok (.putfield 125, 3) := by decide +kernel
theorem dX2_levelDue_42 : decode cX2_levelDue 42 = .ok (.iinc 1 1, 3) := by decide +kernel
theorem dX2_levelDue_45 : decode cX2_levelDue 45 = .ok (.goto (-43), 3) := by decide +kernel
theorem dX2_levelDue_48 : decode cX2_levelDue 48 = .ok (.iconst 0, 1) := by decide +kernel
theorem dX2_levelDue_49 : decode cX2_levelDue 49 = .ok (.istore_n 1, 1) := by decide +kernel
theorem dX2_levelDue_50 : decode cX2_levelDue 50 = .ok (.iload_n 1, 1) := by decide +kernel
theorem dX2_levelDue_51 : decode cX2_levelDue 51 = .ok (.aload_n 0, 1) := by decide +kernel
theorem dX2_levelDue_52 : decode cX2_levelDue 52 = .ok (.getfield 31, 3) := by decide +kernel
theorem dX2_levelDue_55 : decode cX2_levelDue 55 = .ok (.getfield 35, 3) := by decide +kernel
theorem dX2_levelDue_58 : decode cX2_levelDue 58 = .ok (.if_icmp .ge 59, 3) := by decide +kernel
theorem dX2_levelDue_61 : decode cX2_levelDue 61 = .ok (.aload_n 0, 1) := by decide +kernel
theorem dX2_levelDue_62 : decode cX2_levelDue 62 = .ok (.getfield 31, 3) := by decide +kernel
theorem dX2_levelDue_65 : decode cX2_levelDue 65 = .ok (.getfield 144, 3) := by decide +kernel
theorem dX2_levelDue_68 : decode cX2_levelDue 68 = .ok (.iload_n 1, 1) := by decide +kernel
theorem dX2_levelDue_69 : decode cX2_levelDue 69 = .ok (.iaload, 1) := by decide +kernel
theorem dX2_levelDue_70 : decode cX2_levelDue 70 = .ok (.aload_n 0, 1) := by decide +kernel
theorem dX2_levelDue_71 : decode cX2_levelDue 71 = .ok (.getfield 31, 3) := by decide +kernel
theorem dX2_levelDue_74 : decode cX2_levelDue 74 = .ok (.getfield 41, 3) := by decide +kernel
theorem dX2_levelDue_77 : decode cX2_levelDue 77 = .ok (.iload_n 1, 1) := by decide +kernel
theorem dX2_levelDue_78 : decode cX2_levelDue 78 = .ok (.iaload, 1) := by decide +kernel
theorem dX2_levelDue_79 : decode cX2_levelDue 79 = .ok (.if_icmp .ge 32, 3) := by decide +kernel
theorem dX2_levelDue_82 : decode cX2_levelDue 82 = .ok (.aload_n 0, 1) := by decide +kernel
theorem dX2_levelDue_83 : decode cX2_levelDue 83 = .ok (.getfield 9, 3) := by decide +kernel
theorem dX2_levelDue_86 : decode cX2_levelDue 86 = .ok (.iload_n 1, 1) := by decide +kernel
theorem dX2_levelDue_87 : decode cX2_levelDue 87 = .ok (.laload, 1) := by decide +kernel
theorem dX2_levelDue_88 : decode cX2_levelDue 88 = .ok (.aload_n 0, 1) := by decide +kernel
theorem dX2_levelDue_89 : decode cX2_levelDue 89 = .ok (.getfield 125, 3) := by decide +kernel
theorem dX2_levelDue_92 : decode cX2_levelDue 92 = .ok (.lcmp, 1) := by decide +kernel
theorem dX2_levelDue_93 : decode cX2_levelDue 93 = .ok (.ifCond .le 18, 3) := by decide +kernel
theorem dX2_levelDue_96 : decode cX2_levelDue 96 = .ok (.aload_n 0, 1) := by decide +kernel
theorem dX2_levelDue_97 : decode cX2_levelDue 97 = .ok (.getfield 9, 3) := by decide +kernel
theorem dX2_levelDue_100 : decode cX2_levelDue 100 = .ok (.iload_n 1, 1) := by decide +kernel
theorem dX2_levelDue_101 : decode cX2_levelDue 101 = .ok (.aload_n 0, 1) := by decide +kernel
theorem dX2_levelDue_102 : decode cX2_levelDue 102 = .ok (.getfield 125, 3) := by decide +kernel
theorem dX2_levelDue_105 : decode cX2_levelDue 105 = .ok (.lastore, 1) := by decide +kernel
theorem dX2_levelDue_106 : decode cX2_levelDue 106 = .ok (.aload_n 0, 1) := by decide +kernel
theorem dX2_levelDue_107 : decode cX2_levelDue 107 = .ok (.iload_n 1, 1) := by decide +kernel
theorem dX2_levelDue_108 : decode cX2_levelDue 108 = .ok (.invokevirtual 59, 3) := by decide +kernel
theorem dX2_levelDue_111 : decode cX2_levelDue 111 = .ok (.iinc 1 1, 3) := by decide +kernel
theorem dX2_levelDue_114 : decode cX2_levelDue 114 = .ok (.goto (-64), 3) := by decide +kernel
theorem dX2_levelDue_117 : decode cX2_levelDue 117 = .ok (.return_, 1) := by decide +kernel
theorem dX2_levelLeft_0 : decode cX2_levelLeft 0 = .ok (.aload_n 0, 1) := by decide +kernel
theorem dX2_levelLeft_1 : decode cX2_levelLeft 1 = .ok (.getfield 31, 3) := by decide +kernel
theorem dX2_levelLeft_4 : decode cX2_levelLeft 4 = .ok (.getfield 70, 3) := by decide +kernel
theorem dX2_levelLeft_7 : decode cX2_levelLeft 7 = .ok (.iconst 1, 1) := by decide +kernel
theorem dX2_levelLeft_8 : decode cX2_levelLeft 8 = .ok (.isub, 1) := by decide +kernel
theorem dX2_levelLeft_9 : decode cX2_levelLeft 9 = .ok (.istore_n 1, 1) := by decide +kernel
theorem dX2_levelLeft_10 : decode cX2_levelLeft 10 = .ok (.iconst 0, 1) := by decide +kernel
theorem dX2_levelLeft_11 : decode cX2_levelLeft 11 = .ok (.istore_n 2, 1) := by decide +kernel
theorem dX2_levelLeft_12 : decode cX2_levelLeft 12 = .ok (.iload_n 2, 1) := by decide +kernel
theorem dX2_levelLeft_13 : decode cX2_levelLeft 13 = .ok (.aload_n 0, 1) := by decide +kernel
theorem dX2_levelLeft_14 : decode cX2_levelLeft 14 = .ok (.getfield 31, 3) := by decide +kernel
theorem dX2_levelLeft_17 : decode cX2_levelLeft 17 = .ok (.getfield 83, 3) := by decide +kernel
theorem dX2_levelLeft_20 : decode cX2_levelLeft 20 = .ok (.if_icmp .ge 48, 3) := by decide +kernel
theorem dX2_levelLeft_23 : decode cX2_levelLeft 23 = .ok (.aload_n 0, 1) := by decide +kernel
theorem dX2_levelLeft_24 : decode cX2_levelLeft 24 = .ok (.getfield 31, 3) := by decide +kernel
theorem dX2_levelLeft_27 : decode cX2_levelLeft 27 = .ok (.getfield 86, 3) := by decide +kernel
theorem dX2_levelLeft_30 : decode cX2_levelLeft 30 = .ok (.iload_n 2, 1) := by decide +kernel
theorem dX2_levelLeft_31 : decode cX2_levelLeft 31 = .ok (.bipush 24, 2) := by decide +kernel
theorem dX2_levelLeft_33 : decode cX2_levelLeft 33 = .ok (.imul, 1) := by decide +kernel
theorem dX2_levelLeft_34 : decode cX2_levelLeft 34 = .ok (.iload_n 1, 1) := by decide +kernel
theorem dX2_levelLeft_35 : decode cX2_levelLeft 35 = .ok (.iadd, 1) := by decide +kernel
theorem dX2_levelLeft_36 : decode cX2_levelLeft 36 = .ok (.iaload, 1) := by decide +kernel
theorem dX2_levelLeft_37 : decode cX2_levelLeft 37 = .ok (.ifCond .le 25, 3) := by decide +kernel
theorem dX2_levelLeft_40 : decode cX2_levelLeft 40 = .ok (.aload_n 0, 1) := by decide +kernel
theorem dX2_levelLeft_41 : decode cX2_levelLeft 41 = .ok (.aload_n 0, 1) := by decide +kernel
theorem dX2_levelLeft_42 : decode cX2_levelLeft 42 = .ok (.getfield 129, 3) := by decide +kernel
theorem dX2_levelLeft_45 : decode cX2_levelLeft 45 = .ok (.aload_n 0, 1) := by decide +kernel
theorem dX2_levelLeft_46 : decode cX2_levelLeft 46 = .ok (.getfield 19, 3) := by decide +kernel
theorem dX2_levelLeft_49 : decode cX2_levelLeft 49 = .ok (.iload_n 2, 1) := by decide +kernel
theorem dX2_levelLeft_50 : decode cX2_levelLeft 50 = .ok (.bipush 24, 2) := by decide +kernel
theorem dX2_levelLeft_52 : decode cX2_levelLeft 52 = .ok (.imul, 1) := by decide +kernel
theorem dX2_levelLeft_53 : decode cX2_levelLeft 53 = .ok (.iload_n 1, 1) := by decide +kernel
theorem dX2_levelLeft_54 : decode cX2_levelLeft 54 = .ok (.iadd, 1) := by decide +kernel
theorem dX2_levelLeft_55 : decode cX2_levelLeft 55 = .ok (.laload, 1) := by decide +kernel
theorem dX2_levelLeft_56 : decode cX2_levelLeft 56 = .ok (.invokestatic 132, 3) := by decide +kernel
theorem dX2_levelLeft_59 : decode cX2_levelLeft 59 = .ok (.putfield 129, 3) := by decide +kernel
theorem dX2_levelLeft_62 : decode cX2_levelLeft 62 = .ok (.iinc 2 1, 3) := by decide +kernel
theorem dX2_levelLeft_65 : decode cX2_levelLeft 65 = .ok (.goto (-53), 3) := by decide +kernel
theorem dX2_levelLeft_68 : decode cX2_levelLeft 68 = .ok (.iconst 0, 1) := by decide +kernel
theorem dX2_levelLeft_69 : decode cX2_levelLeft 69 = .ok (.istore_n 2, 1) := by decide +kernel
theorem dX2_levelLeft_70 : decode cX2_levelLeft 70 = .ok (.iload_n 2, 1) := by decide +kernel
theorem dX2_levelLeft_71 : decode cX2_levelLeft 71 = .ok (.aload_n 0, 1) := by decide +kernel
theorem dX2_levelLeft_72 : decode cX2_levelLeft 72 = .ok (.getfield 31, 3) := by decide +kernel
theorem dX2_levelLeft_75 : decode cX2_levelLeft 75 = .ok (.getfield 83, 3) := by decide +kernel
theorem dX2_levelLeft_78 : decode cX2_levelLeft 78 = .ok (.if_icmp .ge 21, 3) := by decide +kernel
theorem dX2_levelLeft_81 : decode cX2_levelLeft 81 = .ok (.aload_n 0, 1) := by decide +kernel
theorem dX2_levelLeft_82 : decode cX2_levelLeft 82 = .ok (.bipush (-2), 2) := by decide +kernel
theorem dX2_levelLeft_84 : decode cX2_levelLeft 84 = .ok (.iload_n 2, 1) := by decide +kernel
theorem dX2_levelLeft_85 : decode cX2_levelLeft 85 = .ok (.iload_n 1, 1) := by decide +kernel
theorem dX2_levelLeft_86 : decode cX2_levelLeft 86 = .ok (.aload_n 0, 1) := by decide +kernel
theorem dX2_levelLeft_87 : decode cX2_levelLeft 87 = .ok (.getfield 129, 3) := by decide +kernel
theorem dX2_levelLeft_90 : decode cX2_levelLeft 90 = .ok (.invokevirtual 115, 3) := by decide +kernel
theorem dX2_levelLeft_93 : decode cX2_levelLeft 93 = .ok (.iinc 2 1, 3) := by decide +kernel
theorem dX2_levelLeft_96 : decode cX2_levelLeft 96 = .ok (.goto (-26), 3) := by decide +kernel
theorem dX2_levelLeft_99 : decode cX2_levelLeft 99 = .ok (.return_, 1) := by decide +kernel
theorem dX2_runQueue_0 : decode cX2_runQueue 0 = .ok (.iconst 0, 1) := by decide +kernel
theorem dX2_runQueue_1 : decode cX2_runQueue 1 = .ok (.istore_n 1, 1) := by decide +kernel
theorem dX2_runQueue_2 : decode cX2_runQueue 2 = .ok (.iload_n 1, 1) := by decide +kernel
theorem dX2_runQueue_3 : decode cX2_runQueue 3 = .ok (.ldc 89, 2) := by decide +kernel
theorem dX2_runQueue_5 : decode cX2_runQueue 5 = .ok (.if_icmp .ge 136, 3) := by decide +kernel
theorem dX2_runQueue_8 : decode cX2_runQueue 8 = .ok (.aload_n 0, 1) := by decide +kernel
theorem dX2_runQueue_9 : decode cX2_runQueue 9 = .ok (.getfield 96, 3) := by decide +kernel
theorem dX2_runQueue_12 : decode cX2_runQueue 12 = .ok (.aload_n 0, 1) := by decide +kernel
theorem dX2_runQueue_13 : decode cX2_runQueue 13 = .ok (.getfield 99, 3) := by decide +kernel
theorem dX2_runQueue_16 : decode cX2_runQueue 16 = .ok (.if_icmp .eq 125, 3) := by decide +kernel
theorem dX2_runQueue_19 : decode cX2_runQueue 19 = .ok (.aload_n 0, 1) := by decide +kernel
theorem dX2_runQueue_20 : decode cX2_runQueue 20 = .ok (.getfield 25, 3) := by decide +kernel
theorem dX2_runQueue_23 : decode cX2_runQueue 23 = .ok (.aload_n 0, 1) := by decide +kernel
theorem dX2_runQueue_24 : decode cX2_runQueue 24 = .ok (.getfield 96, 3) := by decide +kernel
theorem dX2_runQueue_27 : decode cX2_runQueue 27 = .ok (.bipush 63, 2) := by decide +kernel
theorem dX2_runQueue_29 : decode cX2_runQueue 29 = .ok (.iand, 1) := by decide +kernel
theorem dX2_runQueue_30 : decode cX2_runQueue 30 = .ok (.iaload, 1) := by decide +kernel
theorem dX2_runQueue_31 : decode cX2_runQueue 31 = .ok (.istore_n 2, 1) := by decide +kernel
theorem dX2_runQueue_32 : decode cX2_runQueue 32 = .ok (.aload_n 0, 1) := by decide +kernel
theorem dX2_runQueue_33 : decode cX2_runQueue 33 = .ok (.dup, 1) := by decide +kernel
theorem dX2_runQueue_34 : decode cX2_runQueue 34 = .ok (.getfield 96, 3) := by decide +kernel
theorem dX2_runQueue_37 : decode cX2_runQueue 37 = .ok (.iconst 1, 1) := by decide +kernel
theorem dX2_runQueue_38 : decode cX2_runQueue 38 = .ok (.iadd, 1) := by decide +kernel
theorem dX2_runQueue_39 : decode cX2_runQueue 39 = .ok (.putfield 96, 3) := by decide +kernel
theorem dX2_runQueue_42 : decode cX2_runQueue 42 = .ok (.aload_n 0, 1) := by decide +kernel
theorem dX2_runQueue_43 : decode cX2_runQueue 43 = .ok (.getfield 28, 3) := by decide +kernel
theorem dX2_runQueue_46 : decode cX2_runQueue 46 = .ok (.iload_n 2, 1) := by decide +kernel
theorem dX2_runQueue_47 : decode cX2_runQueue 47 = .ok (.iconst 0, 1) := by decide +kernel
theorem dX2_runQueue_48 : decode cX2_runQueue 48 = .ok (.iastore, 1) := by decide +kernel
theorem dX2_runQueue_49 : decode cX2_runQueue 49 = .ok (.aload_n 0, 1) := by decide +kernel
theorem dX2_runQueue_50 : decode cX2_runQueue 50 = .ok (.getfield 31, 3) := by decide +kernel
theorem dX2_runQueue_53 : decode cX2_runQueue 53 = .ok (.getfield 105, 3) := by decide +kernel
theorem dX2_runQueue_56 : decode cX2_runQueue 56 = .ok (.iload_n 2, 1) := by decide +kernel
theorem dX2_runQueue_57 : decode cX2_runQueue 57 = .ok (.iaload, 1) := by decide +kernel
theorem dX2_runQueue_58 : decode cX2_runQueue 58 = .ok (.aload_n 0, 1) := by decide +kernel
theorem dX2_runQueue_59 : decode cX2_runQueue 59 = .ok (.getfield 31, 3) := by decide +kernel
theorem dX2_runQueue_62 : decode cX2_runQueue 62 = .ok (.getfield 108, 3) := by decide +kernel
theorem dX2_runQueue_65 : decode cX2_runQueue 65 = .ok (.iload_n 2, 1) := by decide +kernel
theorem dX2_runQueue_66 : decode cX2_runQueue 66 = .ok (.iaload, 1) := by decide +kernel
theorem dX2_runQueue_67 : decode cX2_runQueue 67 = .ok (.iconst (-1), 1) := by decide +kernel
theorem dX2_runQueue_68 : decode cX2_runQueue 68 = .ok (.ixor, 1) := by decide +kernel
theorem dX2_runQueue_69 : decode cX2_runQueue 69 = .ok (.iand, 1) := by decide +kernel
theorem dX2_runQueue_70 : decode cX2_runQueue 70 = .ok (.istore_n 3, 1) := by decide +kernel
theorem dX2_runQueue_71 : decode cX2_runQueue 71 = .ok (.iconst 0, 1) := by decide +kernel
theorem dX2_runQueue_72 : decode cX2_runQueue 72 = .ok (.istore 4, 2) := by decide +kernel
theorem dX2_runQueue_74 : decode cX2_runQueue 74 = .ok (.iload 4, 2) := by decide +kernel
theorem dX2_runQueue_76 : decode cX2_runQueue 76 = .ok (.aload_n 0, 1) := by decide +kernel
theorem dX2_runQueue_77 : decode cX2_runQueue 77 = .ok (.getfield 31, 3) := by decide +kernel
theorem dX2_runQueue_80 : decode cX2_runQueue 80 = .ok (.getfield 83, 3) := by decide +kernel
theorem dX2_runQueue_83 : decode cX2_runQueue 83 = .ok (.if_icmp .ge 52, 3) := by decide +kernel
theorem dX2_runQueue_86 : decode cX2_runQueue 86 = .ok (.iload_n 3, 1) := by decide +kernel
theorem dX2_runQueue_87 : decode cX2_runQueue 87 = .ok (.iload 4, 2) := by decide +kernel
theorem dX2_runQueue_89 : decode cX2_runQueue 89 = .ok (.ishr, 1) := by decide +kernel
theorem dX2_runQueue_90 : decode cX2_runQueue 90 = .ok (.iconst 1, 1) := by decide +kernel
theorem dX2_runQueue_91 : decode cX2_runQueue 91 = .ok (.iand, 1) := by decide +kernel
theorem dX2_runQueue_92 : decode cX2_runQueue 92 = .ok (.ifCond .eq 37, 3) := by decide +kernel
theorem dX2_runQueue_95 : decode cX2_runQueue 95 = .ok (.aload_n 0, 1) := by decide +kernel
theorem dX2_runQueue_96 : decode cX2_runQueue 96 = .ok (.iload_n 2, 1) := by decide +kernel
theorem dX2_runQueue_97 : decode cX2_runQueue 97 = .ok (.iload 4, 2) := by decide +kernel
theorem dX2_runQueue_99 : decode cX2_runQueue 99 = .ok (.aload_n 0, 1) := by decide +kernel
theorem dX2_runQueue_100 : decode cX2_runQueue 100 = .ok (.getfield 31, 3) := by decide +kernel
theorem dX2_runQueue_103 : decode cX2_runQueue 103 = .ok (.getfield 90, 3) := by decide +kernel
theorem dX2_runQueue_106 : decode cX2_runQueue 106 = .ok (.iload_n 2, 1) := by decide +kernel
theorem dX2_runQueue_107 : decode cX2_runQueue 107 = .ok (.iaload, 1) := by decide +kernel
theorem dX2_runQueue_108 : decode cX2_runQueue 108 = .ok (.aload_n 0, 1) := by decide +kernel
theorem dX2_runQueue_109 : decode cX2_runQueue 109 = .ok (.getfield 9, 3) := by decide +kernel
theorem dX2_runQueue_112 : decode cX2_runQueue 112 = .ok (.iload_n 2, 1) := by decide +kernel
theorem dX2_runQueue_113 : decode cX2_runQueue 113 = .ok (.laload, 1) := by decide +kernel
theorem dX2_runQueue_114 : decode cX2_runQueue 114 = .ok (.aload_n 0, 1) := by decide +kernel
theorem dX2_runQueue_115 : decode cX2_runQueue 115 = .ok (.getfield 31, 3) := by decide +kernel
theorem dX2_runQueue_118 : decode cX2_runQueue 118 = .ok (.iload_n 2, 1) := by decide +kernel
theorem dX2_runQueue_119 : decode cX2_runQueue 119 = .ok (.iload 4, 2) := by decide +kernel
theorem dX2_runQueue_121 : decode cX2_runQueue 121 = .ok (.invokevirtual 111, 3) := by decide +kernel
theorem dX2_runQueue_124 : decode cX2_runQueue 124 = .ok (.i2l, 1) := by decide +kernel
theorem dX2_runQueue_125 : decode cX2_runQueue 125 = .ok (.lsub, 1) := by decide +kernel
theorem dX2_runQueue_126 : decode cX2_runQueue 126 = .ok (.invokevirtual 115, 3) := by decide +kernel
theorem dX2_runQueue_129 : decode cX2_runQueue 129 = .ok (.iinc 4 1, 3) := by decide +kernel
theorem dX2_runQueue_132 : decode cX2_runQueue 132 = .ok (.goto (-58), 3) := by decide +kernel
theorem dX2_runQueue_135 : decode cX2_runQueue 135 = .ok (.iinc 1 1, 3) := by decide +kernel
theorem dX2_runQueue_138 : decode cX2_runQueue 138 = .ok (.goto (-136), 3) := by decide +kernel
theorem dX2_runQueue_141 : decode cX2_runQueue 141 = .ok (.return_, 1) := by decide +kernel
theorem dX2_serves_0 : decode cX2_serves 0 = .ok (.aload_n 0, 1) := by decide +kernel
theorem dX2_serves_1 : decode cX2_serves 1 = .ok (.getfield 9, 3) := by decide +kernel
theorem dX2_serves_4 : decode cX2_serves 4 = .ok (.ldc2_w 48, 3) := by decide +kernel
theorem dX2_serves_7 : decode cX2_serves 7 = .ok (.invokestatic 50, 3) := by decide +kernel
theorem dX2_serves_10 : decode cX2_serves 10 = .ok (.aload_n 0, 1) := by decide +kernel
theorem dX2_serves_11 : decode cX2_serves 11 = .ok (.getfield 19, 3) := by decide +kernel
theorem dX2_serves_14 : decode cX2_serves 14 = .ok (.ldc2_w 48, 3) := by decide +kernel
theorem dX2_serves_17 : decode cX2_serves 17 = .ok (.invokestatic 50, 3) := by decide +kernel
theorem dX2_serves_20 : decode cX2_serves 20 = .ok (.aload_n 0, 1) := by decide +kernel
theorem dX2_serves_21 : decode cX2_serves 21 = .ok (.invokevirtual 56, 3) := by decide +kernel
theorem dX2_serves_24 : decode cX2_serves 24 = .ok (.aload_n 0, 1) := by decide +kernel
theorem dX2_serves_25 : decode cX2_serves 25 = .ok (.getfield 9, 3) := by decide +kernel
theorem dX2_serves_28 : decode cX2_serves 28 = .ok (.iload_n 1, 1) := by decide +kernel
theorem dX2_serves_29 : decode cX2_serves 29 = .ok (.lconst 0, 1) := by decide +kernel
theorem dX2_serves_30 : decode cX2_serves 30 = .ok (.lastore, 1) := by decide +kernel
theorem dX2_serves_31 : decode cX2_serves 31 = .ok (.aload_n 0, 1) := by decide +kernel
theorem dX2_serves_32 : decode cX2_serves 32 = .ok (.iload_n 1, 1) := by decide +kernel
theorem dX2_serves_33 : decode cX2_serves 33 = .ok (.invokevirtual 59, 3) := by decide +kernel
theorem dX2_serves_36 : decode cX2_serves 36 = .ok (.aload_n 0, 1) := by decide +kernel
theorem dX2_serves_37 : decode cX2_serves 37 = .ok (.invokevirtual 63, 3) := by decide +kernel
theorem dX2_serves_40 : decode cX2_serves 40 = .ok (.aload_n 0, 1) := by decide +kernel
theorem dX2_serves_41 : decode cX2_serves 41 = .ok (.invokevirtual 66, 3) := by decide +kernel
theorem dX2_serves_44 : decode cX2_serves 44 = .ok (.istore_n 2, 1) := by decide +kernel
theorem dX2_serves_45 : decode cX2_serves 45 = .ok (.iload_n 2, 1) := by decide +kernel
theorem dX2_serves_46 : decode cX2_serves 46 = .ok (.iconst (-1), 1) := by decide +kernel
theorem dX2_serves_47 : decode cX2_serves 47 = .ok (.if_icmp .eq 40, 3) := by decide +kernel
theorem dX2_serves_50 : decode cX2_serves 50 = .ok (.aload_n 0, 1) := by decide +kernel
theorem dX2_serves_51 : decode cX2_serves 51 = .ok (.getfield 22, 3) := by decide +kernel
theorem dX2_serves_54 : decode cX2_serves 54 = .ok (.iload_n 2, 1) := by decide +kernel
theorem dX2_serves_55 : decode cX2_serves 55 = .ok (.bipush 24, 2) := by decide +kernel
theorem dX2_serves_57 : decode cX2_serves 57 = .ok (.imul, 1) := by decide +kernel
theorem dX2_serves_58 : decode cX2_serves 58 = .ok (.aload_n 0, 1) := by decide +kernel
theorem dX2_serves_59 : decode cX2_serves 59 = .ok (.getfield 31, 3) := by decide +kernel
theorem dX2_serves_62 : decode cX2_serves 62 = .ok (.getfield 70, 3) := by decide +kernel
theorem dX2_serves_65 : decode cX2_serves 65 = .ok (.iadd, 1) := by decide +kernel
theorem dX2_serves_66 : decode cX2_serves 66 = .ok (.iconst 1, 1) := by decide +kernel
theorem dX2_serves_67 : decode cX2_serves 67 = .ok (.isub, 1) := by decide +kernel
theorem dX2_serves_68 : decode cX2_serves 68 = .ok (.iaload, 1) := by decide +kernel
theorem dX2_serves_69 : decode cX2_serves 69 = .ok (.istore_n 3, 1) := by decide +kernel
theorem dX2_serves_70 : decode cX2_serves 70 = .ok (.aload_n 0, 1) := by decide +kernel
theorem dX2_serves_71 : decode cX2_serves 71 = .ok (.getfield 31, 3) := by decide +kernel
theorem dX2_serves_74 : decode cX2_serves 74 = .ok (.iload_n 3, 1) := by decide +kernel
theorem dX2_serves_75 : decode cX2_serves 75 = .ok (.iload_n 2, 1) := by decide +kernel
theorem dX2_serves_76 : decode cX2_serves 76 = .ok (.invokevirtual 73, 3) := by decide +kernel
theorem dX2_serves_79 : decode cX2_serves 79 = .ok (.aload_n 0, 1) := by decide +kernel
theorem dX2_serves_80 : decode cX2_serves 80 = .ok (.iload_n 1, 1) := by decide +kernel
theorem dX2_serves_81 : decode cX2_serves 81 = .ok (.iload_n 3, 1) := by decide +kernel
theorem dX2_serves_82 : decode cX2_serves 82 = .ok (.invokevirtual 77, 3) := by decide +kernel
theorem dX2_serves_85 : decode cX2_serves 85 = .ok (.iconst 1, 1) := by decide +kernel
theorem dX2_serves_86 : decode cX2_serves 86 = .ok (.ireturn, 1) := by decide +kernel
theorem dX2_serves_87 : decode cX2_serves 87 = .ok (.aload_n 0, 1) := by decide +kernel
theorem dX2_serves_88 : decode cX2_serves 88 = .ok (.invokevirtual 80, 3) := by decide +kernel
theorem dX2_serves_91 : decode cX2_serves 91 = .ok (.istore_n 3, 1) := by decide +kernel
theorem dX2_serves_92 : decode cX2_serves 92 = .ok (.iload_n 3, 1) := by decide +kernel
theorem dX2_serves_93 : decode cX2_serves 93 = .ok (.iconst (-1), 1) := by decide +kernel
theorem dX2_serves_94 : decode cX2_serves 94 = .ok (.if_icmp .eq 9, 3) := by decide +kernel
theorem dX2_serves_97 : decode cX2_serves 97 = .ok (.aload_n 0, 1) := by decide +kernel
theorem dX2_serves_98 : decode cX2_serves 98 = .ok (.iload_n 1, 1) := by decide +kernel
theorem dX2_serves_99 : decode cX2_serves 99 = .ok (.iload_n 3, 1) := by decide +kernel
theorem dX2_serves_100 : decode cX2_serves 100 = .ok (.invokevirtual 77, 3) := by decide +kernel
theorem dX2_serves_103 : decode cX2_serves 103 = .ok (.iload_n 3, 1) := by decide +kernel
theorem dX2_serves_104 : decode cX2_serves 104 = .ok (.iconst (-1), 1) := by decide +kernel
theorem dX2_serves_105 : decode cX2_serves 105 = .ok (.if_icmp .eq 7, 3) := by decide +kernel
theorem dX2_serves_108 : decode cX2_serves 108 = .ok (.iconst 1, 1) := by decide +kernel
theorem dX2_serves_109 : decode cX2_serves 109 = .ok (.goto 4, 3) := by decide +kernel
theorem dX2_serves_112 : decode cX2_serves 112 = .ok (.iconst 0, 1) := by decide +kernel
theorem dX2_serves_113 : decode cX2_serves 113 = .ok (.ireturn, 1) := by decide +kernel
theorem dX2_settle_0 : decode cX2_settle 0 = .ok (.aload_n 0, 1) := by decide +kernel
theorem dX2_settle_1 : decode cX2_settle 1 = .ok (.getfield 19, 3) := by decide +kernel
theorem dX2_settle_4 : decode cX2_settle 4 = .ok (.iload_n 2, 1) := by decide +kernel
theorem dX2_settle_5 : decode cX2_settle 5 = .ok (.bipush 24, 2) := by decide +kernel
theorem dX2_settle_7 : decode cX2_settle 7 = .ok (.imul, 1) := by decide +kernel
theorem dX2_settle_8 : decode cX2_settle 8 = .ok (.iload_n 3, 1) := by decide +kernel
theorem dX2_settle_9 : decode cX2_settle 9 = .ok (.iadd, 1) := by decide +kernel
theorem dX2_settle_10 : decode cX2_settle 10 = .ok (.lload 4, 2) := by decide +kernel
theorem dX2_settle_12 : decode cX2_settle 12 = .ok (.lastore, 1) := by decide +kernel
theorem dX2_settle_13 : decode cX2_settle 13 = .ok (.aload_n 0, 1) := by decide +kernel
theorem dX2_settle_14 : decode cX2_settle 14 = .ok (.getfield 22, 3) := by decide +kernel
theorem dX2_settle_17 : decode cX2_settle 17 = .ok (.iload_n 2, 1) := by decide +kernel
theorem dX2_settle_18 : decode cX2_settle 18 = .ok (.bipush 24, 2) := by decide +kernel
theorem dX2_settle_20 : decode cX2_settle 20 = .ok (.imul, 1) := by decide +kernel
theorem dX2_settle_21 : decode cX2_settle 21 = .ok (.iload_n 3, 1) := by decide +kernel
theorem dX2_settle_22 : decode cX2_settle 22 = .ok (.iadd, 1) := by decide +kernel
theorem dX2_settle_23 : decode cX2_settle 23 = .ok (.iload_n 1, 1) := by decide +kernel
theorem dX2_settle_24 : decode cX2_settle 24 = .ok (.iastore, 1) := by decide +kernel
theorem dX2_settle_25 : decode cX2_settle 25 = .ok (.aload_n 0, 1) := by decide +kernel
theorem dX2_settle_26 : decode cX2_settle 26 = .ok (.getfield 31, 3) := by decide +kernel
theorem dX2_settle_29 : decode cX2_settle 29 = .ok (.getfield 122, 3) := by decide +kernel
theorem dX2_settle_32 : decode cX2_settle 32 = .ok (.iload_n 3, 1) := by decide +kernel
theorem dX2_settle_33 : decode cX2_settle 33 = .ok (.iaload, 1) := by decide +kernel
theorem dX2_settle_34 : decode cX2_settle 34 = .ok (.istore 6, 2) := by decide +kernel
theorem dX2_settle_36 : decode cX2_settle 36 = .ok (.iload 6, 2) := by decide +kernel
theorem dX2_settle_38 : decode cX2_settle 38 = .ok (.aload_n 0, 1) := by decide +kernel
theorem dX2_settle_39 : decode cX2_settle 39 = .ok (.getfield 31, 3) := by decide +kernel
theorem dX2_settle_42 : decode cX2_settle 42 = .ok (.getfield 122, 3) := by decide +kernel
theorem dX2_settle_45 : decode cX2_settle 45 = .ok (.iload_n 3, 1) := by decide +kernel
theorem dX2_settle_46 : decode cX2_settle 46 = .ok (.iconst 1, 1) := by decide +kernel
theorem dX2_settle_47 : decode cX2_settle 47 = .ok (.iadd, 1) := by decide +kernel
theorem dX2_settle_48 : decode cX2_settle 48 = .ok (.iaload, 1) := by decide +kernel
theorem dX2_settle_49 : decode cX2_settle 49 = .ok (.if_icmp .ge 78, 3) := by decide +kernel
theorem dX2_settle_52 : decode cX2_settle 52 = .ok (.aload_n 0, 1) := by decide +kernel
theorem dX2_settle_53 : decode cX2_settle 53 = .ok (.getfield 31, 3) := by decide +kernel
theorem dX2_settle_56 : decode cX2_settle 56 = .ok (.getfield 108, 3) := by decide +kernel
theorem dX2_settle_59 : decode cX2_settle 59 = .ok (.iload 6, 2) := by decide +kernel
theorem dX2_settle_61 : decode cX2_settle 61 = .ok (.iaload, 1) := by decide +kernel
theorem dX2_settle_62 : decode cX2_settle 62 = .ok (.iload_n 2, 1) := by decide +kernel
theorem dX2_settle_63 : decode cX2_settle 63 = .ok (.ishr, 1) := by decide +kernel
theorem dX2_settle_64 : decode cX2_settle 64 = .ok (.iconst 1, 1) := by decide +kernel
theorem dX2_settle_65 : decode cX2_settle 65 = .ok (.iand, 1) := by decide +kernel
theorem dX2_settle_66 : decode cX2_settle 66 = .ok (.ifCond .eq 55, 3) := by decide +kernel
theorem dX2_settle_69 : decode cX2_settle 69 = .ok (.lload 4, 2) := by decide +kernel
theorem dX2_settle_71 : decode cX2_settle 71 = .ok (.aload_n 0, 1) := by decide +kernel
theorem dX2_settle_72 : decode cX2_settle 72 = .ok (.getfield 31, 3) := by decide +kernel
theorem dX2_settle_75 : decode cX2_settle 75 = .ok (.iload 6, 2) := by decide +kernel
theorem dX2_settle_77 : decode cX2_settle 77 = .ok (.iload_n 2, 1) := by decide +kernel
theorem dX2_settle_78 : decode cX2_settle 78 = .ok (.invokevirtual 111, 3) := by decide +kernel
theorem dX2_settle_81 : decode cX2_settle 81 = .ok (.i2l, 1) := by decide +kernel
theorem dX2_settle_82 : decode cX2_settle 82 = .ok (.ladd, 1) := by decide +kernel
theorem dX2_settle_83 : decode cX2_settle 83 = .ok (.lstore 7, 2) := by decide +kernel
theorem dX2_settle_85 : decode cX2_settle 85 = .ok (.lload 7, 2) := by decide +kernel
theorem dX2_settle_87 : decode cX2_settle 87 = .ok (.aload_n 0, 1) := by decide +kernel
theorem dX2_settle_88 : decode cX2_settle 88 = .ok (.getfield 9, 3) := by decide +kernel
theorem dX2_settle_91 : decode cX2_settle 91 = .ok (.iload 6, 2) := by decide +kernel
theorem dX2_settle_93 : decode cX2_settle 93 = .ok (.laload, 1) := by decide +kernel
theorem dX2_settle_94 : decode cX2_settle 94 = .ok (.lcmp, 1) := by decide +kernel
theorem dX2_settle_95 : decode cX2_settle 95 = .ok (.ifCond .ge 26, 3) := by decide +kernel
theorem dX2_settle_98 : decode cX2_settle 98 = .ok (.aload_n 0, 1) := by decide +kernel
theorem dX2_settle_99 : decode cX2_settle 99 = .ok (.getfield 9, 3) := by decide +kernel
theorem dX2_settle_102 : decode cX2_settle 102 = .ok (.iload 6, 2) := by decide +kernel
theorem dX2_settle_104 : decode cX2_settle 104 = .ok (.lload 7, 2) := by decide +kernel
theorem dX2_settle_106 : decode cX2_settle 106 = .ok (.lastore, 1) := by decide +kernel
theorem dX2_settle_107 : decode cX2_settle 107 = .ok (.aload_n 0, 1) := by decide +kernel
theorem dX2_settle_108 : decode cX2_settle 108 = .ok (.getfield 15, 3) := by decide +kernel
theorem dX2_settle_111 : decode cX2_settle 111 = .ok (.iload 6, 2) := by decide +kernel
theorem dX2_settle_113 : decode cX2_settle 113 = .ok (.iload_n 2, 1) := by decide +kernel
theorem dX2_settle_114 : decode cX2_settle 114 = .ok (.iastore, 1) := by decide +kernel
theorem dX2_settle_115 : decode cX2_settle 115 = .ok (.aload_n 0, 1) := by decide +kernel
theorem dX2_settle_116 : decode cX2_settle 116 = .ok (.iload 6, 2) := by decide +kernel
theorem dX2_settle_118 : decode cX2_settle 118 = .ok (.invokevirtual 59, 3) := by decide +kernel
theorem dX2_settle_121 : decode cX2_settle 121 = .ok (.iinc 6 1, 3) := by decide +kernel
theorem dX2_settle_124 : decode cX2_settle 124 = .ok (.goto (-88), 3) := by decide +kernel
theorem dX2_settle_127 : decode cX2_settle 127 = .ok (.return_, 1) := by decide +kernel
theorem dX2_startQueue_0 : decode cX2_startQueue 0 = .ok (.aload_n 0, 1) := by decide +kernel
theorem dX2_startQueue_1 : decode cX2_startQueue 1 = .ok (.iconst 0, 1) := by decide +kernel
theorem dX2_startQueue_2 : decode cX2_startQueue 2 = .ok (.putfield 96, 3) := by decide +kernel
theorem dX2_startQueue_5 : decode cX2_startQueue 5 = .ok (.aload_n 0, 1) := by decide +kernel
theorem dX2_startQueue_6 : decode cX2_startQueue 6 = .ok (.iconst 0, 1) := by decide +kernel
theorem dX2_startQueue_7 : decode cX2_startQueue 7 = .ok (.putfield 99, 3) := by decide +kernel
theorem dX2_startQueue_10 : decode cX2_startQueue 10 = .ok (.aload_n 0, 1) := by decide +kernel
theorem dX2_startQueue_11 : decode cX2_startQueue 11 = .ok (.getfield 28, 3) := by decide +kernel
theorem dX2_startQueue_14 : decode cX2_startQueue 14 = .ok (.iconst 0, 1) := by decide +kernel
theorem dX2_startQueue_15 : decode cX2_startQueue 15 = .ok (.invokestatic 102, 3) := by decide +kernel
theorem dX2_startQueue_18 : decode cX2_startQueue 18 = .ok (.return_, 1) := by decide +kernel
theorem dX2_want_0 : decode cX2_want 0 = .ok (.iload_n 2, 1) := by decide +kernel
theorem dX2_want_1 : decode cX2_want 1 = .ok (.bipush 24, 2) := by decide +kernel
theorem dX2_want_3 : decode cX2_want 3 = .ok (.imul, 1) := by decide +kernel
theorem dX2_want_4 : decode cX2_want 4 = .ok (.istore 6, 2) := by decide +kernel
theorem dX2_want_6 : decode cX2_want 6 = .ok (.iload_n 3, 1) := by decide +kernel
theorem dX2_want_7 : decode cX2_want 7 = .ok (.istore 7, 2) := by decide +kernel
theorem dX2_want_9 : decode cX2_want 9 = .ok (.iload 7, 2) := by decide +kernel
theorem dX2_want_11 : decode cX2_want 11 = .ok (.ifCond .lt 35, 3) := by decide +kernel
theorem dX2_want_14 : decode cX2_want 14 = .ok (.aload_n 0, 1) := by decide +kernel
theorem dX2_want_15 : decode cX2_want 15 = .ok (.getfield 19, 3) := by decide +kernel
theorem dX2_want_18 : decode cX2_want 18 = .ok (.iload 6, 2) := by decide +kernel
theorem dX2_want_20 : decode cX2_want 20 = .ok (.iload 7, 2) := by decide +kernel
theorem dX2_want_22 : decode cX2_want 22 = .ok (.iadd, 1) := by decide +kernel
theorem dX2_want_23 : decode cX2_want 23 = .ok (.laload, 1) := by decide +kernel
theorem dX2_want_24 : decode cX2_want 24 = .ok (.lload 4, 2) := by decide +kernel
theorem dX2_want_26 : decode cX2_want 26 = .ok (.lcmp, 1) := by decide +kernel
theorem dX2_want_27 : decode cX2_want 27 = .ok (.ifCond .le 19, 3) := by decide +kernel
theorem dX2_want_30 : decode cX2_want 30 = .ok (.aload_n 0, 1) := by decide +kernel
theorem dX2_want_31 : decode cX2_want 31 = .ok (.iload_n 1, 1) := by decide +kernel
theorem dX2_want_32 : decode cX2_want 32 = .ok (.iload_n 2, 1) := by decide +kernel
theorem dX2_want_33 : decode cX2_want 33 = .ok (.iload 7, 2) := by decide +kernel
theorem dX2_want_35 : decode cX2_want 35 = .ok (.lload 4, 2) := by decide +kernel
theorem dX2_want_37 : decode cX2_want 37 = .ok (.invokevirtual 119, 3) := by decide +kernel
theorem dX2_want_40 : decode cX2_want 40 = .ok (.iinc 7 (-1), 3) := by decide +kernel
theorem dX2_want_43 : decode cX2_want 43 = .ok (.goto (-34), 3) := by decide +kernel
theorem dX2_want_46 : decode cX2_want 46 = .ok (.iload_n 3, 1) := by decide +kernel
theorem dX2_want_47 : decode cX2_want 47 = .ok (.iconst 1, 1) := by decide +kernel
theorem dX2_want_48 : decode cX2_want 48 = .ok (.iadd, 1) := by decide +kernel
theorem dX2_want_49 : decode cX2_want 49 = .ok (.istore 7, 2) := by decide +kernel
theorem dX2_want_51 : decode cX2_want 51 = .ok (.iload 7, 2) := by decide +kernel
theorem dX2_want_53 : decode cX2_want 53 = .ok (.aload_n 0, 1) := by decide +kernel
theorem dX2_want_54 : decode cX2_want 54 = .ok (.getfield 31, 3) := by decide +kernel
theorem dX2_want_57 : decode cX2_want 57 = .ok (.getfield 70, 3) := by decide +kernel
theorem dX2_want_60 : decode cX2_want 60 = .ok (.if_icmp .ge 53, 3) := by decide +kernel
theorem dX2_want_63 : decode cX2_want 63 = .ok (.aload_n 0, 1) := by decide +kernel
theorem dX2_want_64 : decode cX2_want 64 = .ok (.getfield 31, 3) := by decide +kernel
theorem dX2_want_67 : decode cX2_want 67 = .ok (.getfield 86, 3) := by decide +kernel
theorem dX2_want_70 : decode cX2_want 70 = .ok (.iload 6, 2) := by decide +kernel
theorem dX2_want_72 : decode cX2_want 72 = .ok (.iload 7, 2) := by decide +kernel
theorem dX2_want_74 : decode cX2_want 74 = .ok (.iadd, 1) := by decide +kernel
theorem dX2_want_75 : decode cX2_want 75 = .ok (.iconst 1, 1) := by decide +kernel
theorem dX2_want_76 : decode cX2_want 76 = .ok (.isub, 1) := by decide +kernel
theorem dX2_want_77 : decode cX2_want 77 = .ok (.iaload, 1) := by decide +kernel
theorem dX2_want_78 : decode cX2_want 78 = .ok (.ifCond .le 35, 3) := by decide +kernel
theorem dX2_want_81 : decode cX2_want 81 = .ok (.aload_n 0, 1) := by decide +kernel
theorem dX2_want_82 : decode cX2_want 82 = .ok (.getfield 19, 3) := by decide +kernel
theorem dX2_want_85 : decode cX2_want 85 = .ok (.iload 6, 2) := by decide +kernel
theorem dX2_want_87 : decode cX2_want 87 = .ok (.iload 7, 2) := by decide +kernel
theorem dX2_want_89 : decode cX2_want 89 = .ok (.iadd, 1) := by decide +kernel
theorem dX2_want_90 : decode cX2_want 90 = .ok (.laload, 1) := by decide +kernel
theorem dX2_want_91 : decode cX2_want 91 = .ok (.lload 4, 2) := by decide +kernel
theorem dX2_want_93 : decode cX2_want 93 = .ok (.lcmp, 1) := by decide +kernel
theorem dX2_want_94 : decode cX2_want 94 = .ok (.ifCond .le 19, 3) := by decide +kernel
theorem dX2_want_97 : decode cX2_want 97 = .ok (.aload_n 0, 1) := by decide +kernel
theorem dX2_want_98 : decode cX2_want 98 = .ok (.iload_n 1, 1) := by decide +kernel
theorem dX2_want_99 : decode cX2_want 99 = .ok (.iload_n 2, 1) := by decide +kernel
theorem dX2_want_100 : decode cX2_want 100 = .ok (.iload 7, 2) := by decide +kernel
theorem dX2_want_102 : decode cX2_want 102 = .ok (.lload 4, 2) := by decide +kernel
theorem dX2_want_104 : decode cX2_want 104 = .ok (.invokevirtual 119, 3) := by decide +kernel
theorem dX2_want_107 : decode cX2_want 107 = .ok (.iinc 7 1, 3) := by decide +kernel
theorem dX2_want_110 : decode cX2_want 110 = .ok (.goto (-59), 3) := by decide +kernel
theorem dX2_want_113 : decode cX2_want 113 = .ok (.return_, 1) := by decide +kernel
theorem dX3_addDay_0 : decode cX3_addDay 0 = .ok (.aload_n 0, 1) := by decide +kernel
theorem dX3_addDay_1 : decode cX3_addDay 1 = .ok (.getfield 43, 3) := by decide +kernel
theorem dX3_addDay_4 : decode cX3_addDay 4 = .ok (.istore 5, 2) := by decide +kernel
theorem dX3_addDay_6 : decode cX3_addDay 6 = .ok (.iconst 0, 1) := by decide +kernel
theorem dX3_addDay_7 : decode cX3_addDay 7 = .ok (.istore 6, 2) := by decide +kernel
theorem dX3_addDay_9 : decode cX3_addDay 9 = .ok (.iload 6, 2) := by decide +kernel
theorem dX3_addDay_11 : decode cX3_addDay 11 = .ok (.aload_n 1, 1) := by decide +kernel
theorem dX3_addDay_12 : decode cX3_addDay 12 = .ok (.getfield 55, 3) := by decide +kernel
theorem dX3_addDay_15 : decode cX3_addDay 15 = .ok (.if_icmp .ge 37, 3) := by decide +kernel
theorem dX3_addDay_18 : decode cX3_addDay 18 = .ok (.aload_n 1, 1) := by decide +kernel
theorem dX3_addDay_19 : decode cX3_addDay 19 = .ok (.getfield 60, 3) := by decide +kernel
theorem dX3_addDay_22 : decode cX3_addDay 22 = .ok (.iload 6, 2) := by decide +kernel
theorem dX3_addDay_24 : decode cX3_addDay 24 = .ok (.iaload, 1) := by decide +kernel
theorem dX3_addDay_25 : decode cX3_addDay 25 = .ok (.iload_n 3, 1) := by decide +kernel
theorem dX3_addDay_26 : decode cX3_addDay 26 = .ok (.if_icmp .ne 20, 3) := by decide +kernel
theorem dX3_addDay_29 : decode cX3_addDay 29 = .ok (.aload_n 2, 1) := by decide +kernel
theorem dX3_addDay_30 : decode cX3_addDay 30 = .ok (.getfield 63, 3) := by decide +kernel
theorem dX3_addDay_33 : decode cX3_addDay 33 = .ok (.iload 6, 2) := by decide +kernel
theorem dX3_addDay_35 : decode cX3_addDay 35 = .ok (.iaload, 1) := by decide +kernel
theorem dX3_addDay_36 : decode cX3_addDay 36 = .ok (.ifCond .le 10, 3) := by decide +kernel
theorem dX3_addDay_39 : decode cX3_addDay 39 = .ok (.aload_n 0, 1) := by decide +kernel
theorem dX3_addDay_40 : decode cX3_addDay 40 = .ok (.aload_n 2, 1) := by decide +kernel
theorem dX3_addDay_41 : decode cX3_addDay 41 = .ok (.iload 6, 2) := by decide +kernel
theorem dX3_addDay_43 : decode cX3_addDay 43 = .ok (.invokevirtual 66, 3) := by decide +kernel
theorem dX3_addDay_46 : decode cX3_addDay 46 = .ok (.iinc 6 1, 3) := by decide +kernel
theorem dX3_addDay_49 : decode cX3_addDay 49 = .ok (.goto (-40), 3) := by decide +kernel
theorem dX3_addDay_52 : decode cX3_addDay 52 = .ok (.aload_n 0, 1) := by decide +kernel
theorem dX3_addDay_53 : decode cX3_addDay 53 = .ok (.getfield 43, 3) := by decide +kernel
theorem dX3_addDay_56 : decode cX3_addDay 56 = .ok (.iload 5, 2) := by decide +kernel
theorem dX3_addDay_58 : decode cX3_addDay 58 = .ok (.if_icmp .le 73, 3) := by decide +kernel
theorem dX3_addDay_61 : decode cX3_addDay 61 = .ok (.aload_n 0, 1) := by decide +kernel
theorem dX3_addDay_62 : decode cX3_addDay 62 = .ok (.getfield 46, 3) := by decide +kernel
theorem dX3_addDay_65 : decode cX3_addDay 65 = .ok (.bipush 24, 2) := by decide +kernel
theorem dX3_addDay_67 : decode cX3_addDay 67 = .ok (.if_icmp .ge 64, 3) := by decide +kernel
theorem dX3_addDay_70 : decode cX3_addDay 70 = .ok (.iconst 0, 1) := by decide +kernel
theorem dX3_addDay_71 : decode cX3_addDay 71 = .ok (.istore 6, 2) := by decide +kernel
theorem dX3_addDay_73 : decode cX3_addDay 73 = .ok (.iload 6, 2) := by decide +kernel
theorem dX3_addDay_75 : decode cX3_addDay 75 = .ok (.aload_n 0, 1) := by decide +kernel
theorem dX3_addDay_76 : decode cX3_addDay 76 = .ok (.getfield 39, 3) := by decide +kernel
theorem dX3_addDay_79 : decode cX3_addDay 79 = .ok (.if_icmp .ge 29, 3) := by decide +kernel
theorem dX3_addDay_82 : decode cX3_addDay 82 = .ok (.aload_n 0, 1) := by decide +kernel
theorem dX3_addDay_83 : decode cX3_addDay 83 = .ok (.getfield 36, 3) := by decide +kernel
theorem dX3_addDay_86 : decode cX3_addDay 86 = .ok (.iload 6, 2) := by decide +kernel
theorem dX3_addDay_88 : decode cX3_addDay 88 = .ok (.bipush 24, 2) := by decide +kernel
theorem dX3_addDay_90 : decode cX3_addDay 90 = .ok (.imul, 1) := by decide +kernel
theorem dX3_addDay_91 : decode cX3_addDay 91 = .ok (.aload_n 0, 1) := by decide +kernel
theorem dX3_addDay_92 : decode cX3_addDay 92 = .ok (.getfield 46, 3) := by decide +kernel
theorem dX3_addDay_95 : decode cX3_addDay 95 = .ok (.iadd, 1) := by decide +kernel
theorem dX3_addDay_96 : decode cX3_addDay 96 = .ok (.aload 4, 2) := by decide +kernel
theorem dX3_addDay_98 : decode cX3_addDay 98 = .ok (.iload 6, 2) := by decide +kernel
theorem dX3_addDay_100 : decode cX3_addDay 100 = .ok (.iaload, 1) := by decide +kernel
theorem dX3_addDay_101 : decode cX3_addDay 101 = .ok (.iastore, 1) := by decide +kernel
theorem dX3_addDay_102 : decode cX3_addDay 102 = .ok (.iinc 6 1, 3) := by decide +kernel
theorem dX3_addDay_105 : decode cX3_addDay 105 = .ok (.goto (-32), 3) := by decide +kernel
theorem dX3_addDay_108 : decode cX3_addDay 108 = .ok (.aload_n 0, 1) := by decide +kernel
theorem dX3_addDay_109 : decode cX3_addDay 109 = .ok (.dup, 1) := by decide +kernel
theorem dX3_addDay_110 : decode cX3_addDay 110 = .ok (.getfield 46, 3) := by decide +kernel
theorem dX3_addDay_113 : decode cX3_addDay 113 = .ok (.iconst 1, 1) := by decide +kernel
theorem dX3_addDay_114 : decode cX3_addDay 114 = .ok (.iadd, 1) := by decide +kernel
theorem dX3_addDay_115 : decode cX3_addDay 115 = .ok (.putfield 46, 3) := by decide +kernel
theorem dX3_addDay_118 : decode cX3_addDay 118 = .ok (.aload_n 0, 1) := by decide +kernel
theorem dX3_addDay_119 : decode cX3_addDay 119 = .ok (.getfield 15, 3) := by decide +kernel
theorem dX3_addDay_122 : decode cX3_addDay 122 = .ok (.aload_n 0, 1) := by decide +kernel
theorem dX3_addDay_123 : decode cX3_addDay 123 = .ok (.getfield 46, 3) := by decide +kernel
theorem dX3_addDay_126 : decode cX3_addDay 126 = .ok (.aload_n 0, 1) := by decide +kernel
theorem dX3_addDay_127 : decode cX3_addDay 127 = .ok (.getfield 43, 3) := by decide +kernel
theorem dX3_addDay_130 : decode cX3_addDay 130 = .ok (.iastore, 1) := by decide +kernel
theorem dX3_addDay_131 : decode cX3_addDay 131 = .ok (.return_, 1) := by decide +kernel
theorem dX3_addRow_0 : decode cX3_addRow 0 = .ok (.aload_n 0, 1) := by decide +kernel
theorem dX3_addRow_1 : decode cX3_addRow 1 = .ok (.getfield 43, 3) := by decide +kernel
theorem dX3_addRow_4 : decode cX3_addRow 4 = .ok (.bipush 40, 2) := by decide +kernel
theorem dX3_addRow_6 : decode cX3_addRow 6 = .ok (.if_icmp .lt 4, 3) := by decide +kernel
theorem dX3_addRow_9 : decode cX3_addRow 9 = .ok (.return_, 1) := by decide +kernel
theorem dX3_addRow_10 : decode cX3_addRow 10 = .ok (.aload_n 0, 1) := by decide +kernel
theorem dX3_addRow_11 : decode cX3_addRow 11 = .ok (.getfield 9, 3) := by decide +kernel
theorem dX3_addRow_14 : decode cX3_addRow 14 = .ok (.aload_n 0, 1) := by decide +kernel
theorem dX3_addRow_15 : decode cX3_addRow 15 = .ok (.getfield 43, 3) := by decide +kernel
theorem dX3_addRow_18 : decode cX3_addRow 18 = .ok (.aload_n 0, 1) := by decide +kernel
theorem dX3_addRow_19 : decode cX3_addRow 19 = .ok (.getfield 46, 3) := by decide +kernel
theorem dX3_addRow_22 : decode cX3_addRow 22 = .ok (.iastore, 1) := by decide +kernel
theorem dX3_addRow_23 : decode cX3_addRow 23 = .ok (.aload_n 0, 1) := by decide +kernel
theorem dX3_addRow_24 : decode cX3_addRow 24 = .ok (.getfield 18, 3) := by decide +kernel
theorem dX3_addRow_27 : decode cX3_addRow 27 = .ok (.iload_n 2, 1) := by decide +kernel
theorem dX3_addRow_28 : decode cX3_addRow 28 = .ok (.aload_n 0, 1) := by decide +kernel
theorem dX3_addRow_29 : decode cX3_addRow 29 = .ok (.getfield 43, 3) := by decide +kernel
theorem dX3_addRow_32 : decode cX3_addRow 32 = .ok (.iastore, 1) := by decide +kernel
theorem dX3_addRow_33 : decode cX3_addRow 33 = .ok (.aload_n 0, 1) := by decide +kernel
theorem dX3_addRow_34 : decode cX3_addRow 34 = .ok (.getfield 21, 3) := by decide +kernel
theorem dX3_addRow_37 : decode cX3_addRow 37 = .ok (.aload_n 0, 1) := by decide +kernel
theorem dX3_addRow_38 : decode cX3_addRow 38 = .ok (.getfield 43, 3) := by decide +kernel
theorem dX3_addRow_41 : decode cX3_addRow 41 = .ok (.aload_n 1, 1) := by decide +kernel
theorem dX3_addRow_42 : decode cX3_addRow 42 = .ok (.getfield 63, 3) := by decide +kernel
theorem dX3_addRow_45 : decode cX3_addRow 45 = .ok (.iload_n 2, 1) := by decide +kernel
theorem dX3_addRow_46 : decode cX3_addRow 46 = .ok (.iaload, 1) := by decide +kernel
theorem dX3_addRow_47 : decode cX3_addRow 47 = .ok (.iastore, 1) := by decide +kernel
theorem dX3_addRow_48 : decode cX3_addRow 48 = .ok (.aload_n 0, 1) := by decide +kernel
theorem dX3_addRow_49 : decode cX3_addRow 49 = .ok (.getfield 24, 3) := by decide +kernel
theorem dX3_addRow_52 : decode cX3_addRow 52 = .ok (.aload_n 0, 1) := by decide +kernel
theorem dX3_addRow_53 : decode cX3_addRow 53 = .ok (.getfield 43, 3) := by decide +kernel
theorem dX3_addRow_56 : decode cX3_addRow 56 = .ok (.aload_n 1, 1) := by decide +kernel
theorem dX3_addRow_57 : decode cX3_addRow 57 = .ok (.getfield 70, 3) := by decide +kernel
theorem dX3_addRow_60 : decode cX3_addRow 60 = .ok (.iload_n 2, 1) := by decide +kernel
theorem dX3_addRow_61 : decode cX3_addRow 61 = .ok (.iaload, 1) := by decide +kernel
theorem dX3_addRow_62 : decode cX3_addRow 62 = .ok (.iastore, 1) := by decide +kernel
theorem dX3_addRow_63 : decode cX3_addRow 63 = .ok (.aload_n 0, 1) := by decide +kernel
theorem dX3_addRow_64 : decode cX3_addRow 64 = .ok (.getfield 27, 3) := by decide +kernel
theorem dX3_addRow_67 : decode cX3_addRow 67 = .ok (.aload_n 0, 1) := by decide +kernel
theorem dX3_addRow_68 : decode cX3_addRow 68 = .ok (.getfield 43, 3) := by decide +kernel
theorem dX3_addRow_71 : decode cX3_addRow 71 = .ok (.iconst 0, 1) := by decide +kernel
theorem dX3_addRow_72 : decode cX3_addRow 72 = .ok (.iastore, 1) := by decide +kernel
theorem dX3_addRow_73 : decode cX3_addRow 73 = .ok (.aload_n 0, 1) := by decide +kernel
theorem dX3_addRow_74 : decode cX3_addRow 74 = .ok (.getfield 30, 3) := by decide +kernel
theorem dX3_addRow_77 : decode cX3_addRow 77 = .ok (.aload_n 0, 1) := by decide +kernel
theorem dX3_addRow_78 : decode cX3_addRow 78 = .ok (.getfield 43, 3) := by decide +kernel
theorem dX3_addRow_81 : decode cX3_addRow 81 = .ok (.iconst 0, 1) := by decide +kernel
theorem dX3_addRow_82 : decode cX3_addRow 82 = .ok (.iastore, 1) := by decide +kernel
theorem dX3_addRow_83 : decode cX3_addRow 83 = .ok (.iconst 0, 1) := by decide +kernel
theorem dX3_addRow_84 : decode cX3_addRow 84 = .ok (.istore_n 3, 1) := by decide +kernel
theorem dX3_addRow_85 : decode cX3_addRow 85 = .ok (.iload_n 3, 1) := by decide +kernel
theorem dX3_addRow_86 : decode cX3_addRow 86 = .ok (.aload_n 0, 1) := by decide +kernel
theorem dX3_addRow_87 : decode cX3_addRow 87 = .ok (.getfield 39, 3) := by decide +kernel
theorem dX3_addRow_90 : decode cX3_addRow 90 = .ok (.if_icmp .ge 34, 3) := by decide +kernel
theorem dX3_addRow_93 : decode cX3_addRow 93 = .ok (.aload_n 0, 1) := by decide +kernel
theorem dX3_addRow_94 : decode cX3_addRow 94 = .ok (.getfield 33, 3) := by decide +kernel
theorem dX3_addRow_97 : decode cX3_addRow 97 = .ok (.aload_n 0, 1) := by decide +kernel
theorem dX3_addRow_98 : decode cX3_addRow 98 = .ok (.getfield 43, 3) := by decide +kernel
theorem dX3_addRow_101 : decode cX3_addRow 101 = .ok (.bipush 10, 2) := by decide +kernel
theorem dX3_addRow_103 : decode cX3_addRow 103 = .ok (.imul, 1) := by decide +kernel
theorem dX3_addRow_104 : decode cX3_addRow 104 = .ok (.iload_n 3, 1) := by decide +kernel
theorem dX3_addRow_105 : decode cX3_addRow 105 = .ok (.iadd, 1) := by decide +kernel
theorem dX3_addRow_106 : decode cX3_addRow 106 = .ok (.aload_n 1, 1) := by decide +kernel
theorem dX3_addRow_107 : decode cX3_addRow 107 = .ok (.getfield 71, 3) := by decide +kernel
theorem dX3_addRow_110 : decode cX3_addRow 110 = .ok (.iload_n 2, 1) := by decide +kernel
theorem dX3_addRow_111 : decode cX3_addRow 111 = .ok (.bipush 10, 2) := by decide +kernel
theorem dX3_addRow_113 : decode cX3_addRow 113 = .ok (.imul, 1) := by decide +kernel
theorem dX3_addRow_114 : decode cX3_addRow 114 = .ok (.iload_n 3, 1) := by decide +kernel
theorem dX3_addRow_115 : decode cX3_addRow 115 = .ok (.iadd, 1) := by decide +kernel
theorem dX3_addRow_116 : decode cX3_addRow 116 = .ok (.iaload, 1) := by decide +kernel
theorem dX3_addRow_117 : decode cX3_addRow 117 = .ok (.iastore, 1) := by decide +kernel
theorem dX3_addRow_118 : decode cX3_addRow 118 = .ok (.iinc 3 1, 3) := by decide +kernel
theorem dX3_addRow_121 : decode cX3_addRow 121 = .ok (.goto (-36), 3) := by decide +kernel
theorem dX3_addRow_124 : decode cX3_addRow 124 = .ok (.aload_n 0, 1) := by decide +kernel
theorem dX3_addRow_125 : decode cX3_addRow 125 = .ok (.dup, 1) := by decide +kernel
theorem dX3_addRow_126 : decode cX3_addRow 126 = .ok (.getfield 43, 3) := by decide +kernel
theorem dX3_addRow_129 : decode cX3_addRow 129 = .ok (.iconst 1, 1) := by decide +kernel
theorem dX3_addRow_130 : decode cX3_addRow 130 = .ok (.iadd, 1) := by decide +kernel
theorem dX3_addRow_131 : decode cX3_addRow 131 = .ok (.putfield 43, 3) := by decide +kernel
theorem dX3_addRow_134 : decode cX3_addRow 134 = .ok (.return_, 1) := by decide +kernel
theorem dX3_clear_0 : decode cX3_clear 0 = .ok (.aload_n 0, 1) := by decide +kernel
theorem dX3_clear_1 : decode cX3_clear 1 = .ok (.iload_n 1, 1) := by decide +kernel
theorem dX3_clear_2 : decode cX3_clear 2 = .ok (.putfield 39, 3) := by decide +kernel
theorem dX3_clear_5 : decode cX3_clear 5 = .ok (.aload_n 0, 1) := by decide +kernel
theorem dX3_clear_6 : decode cX3_clear 6 = .ok (.iconst 0, 1) := by decide +kernel
theorem dX3_clear_7 : decode cX3_clear 7 = .ok (.putfield 43, 3) := by decide +kernel
theorem dX3_clear_10 : decode cX3_clear 10 = .ok (.aload_n 0, 1) := by decide +kernel
theorem dX3_clear_11 : decode cX3_clear 11 = .ok (.iconst 0, 1) := by decide +kernel
theorem dX3_clear_12 : decode cX3_clear 12 = .ok (.putfield 46, 3) := by decide +kernel
theorem dX3_clear_15 : decode cX3_clear 15 = .ok (.aload_n 0, 1) := by decide +kernel
theorem dX3_clear_16 : decode cX3_clear 16 = .ok (.getfield 15, 3) := by decide +kernel
theorem dX3_clear_19 : decode cX3_clear 19 = .ok (.iconst 0, 1) := by decide +kernel
theorem dX3_clear_20 : decode cX3_clear 20 = .ok (.iconst 0, 1) := by decide +kernel
theorem dX3_clear_21 : decode cX3_clear 21 = .ok (.iastore, 1) := by decide +kernel
theorem dX3_clear_22 : decode cX3_clear 22 = .ok (.aload_n 0, 1) := by decide +kernel
theorem dX3_clear_23 : decode cX3_clear 23 = .ok (.getfield 18, 3) := by decide +kernel
theorem dX3_clear_26 : decode cX3_clear 26 = .ok (.iconst (-1), 1) := by decide +kernel
theorem dX3_clear_27 : decode cX3_clear 27 = .ok (.invokestatic 49, 3) := by decide +kernel
theorem dX3_clear_30 : decode cX3_clear 30 = .ok (.return_, 1) := by decide +kernel
theorem dX3_drop_0 : decode cX3_drop 0 = .ok (.aload_n 0, 1) := by decide +kernel
theorem dX3_drop_1 : decode cX3_drop 1 = .ok (.getfield 27, 3) := by decide +kernel
theorem dX3_drop_4 : decode cX3_drop 4 = .ok (.iload_n 1, 1) := by decide +kernel
theorem dX3_drop_5 : decode cX3_drop 5 = .ok (.dup2, 1) := by decide +kernel
theorem dX3_drop_6 : decode cX3_drop 6 = .ok (.iaload, 1) := by decide +kernel
theorem dX3_drop_7 : decode cX3_drop 7 = .ok (.iconst 1, 1) := by decide +kernel
theorem dX3_drop_8 : decode cX3_drop 8 = .ok (.iload_n 2, 1) := by decide +kernel
theorem dX3_drop_9 : decode cX3_drop 9 = .ok (.ishl, 1) := by decide +kernel
theorem dX3_drop_10 : decode cX3_drop 10 = .ok (.iconst (-1), 1) := by decide +kernel
theorem dX3_drop_11 : decode cX3_drop 11 = .ok (.ixor, 1) := by decide +kernel
theorem dX3_drop_12 : decode cX3_drop 12 = .ok (.iand, 1) := by decide +kernel
theorem dX3_drop_13 : decode cX3_drop 13 = .ok (.iastore, 1) := by decide +kernel
theorem dX3_drop_14 : decode cX3_drop 14 = .ok (.aload_n 0, 1) := by decide +kernel
theorem dX3_drop_15 : decode cX3_drop 15 = .ok (.getfield 30, 3) := by decide +kernel
theorem dX3_drop_18 : decode cX3_drop 18 = .ok (.iload_n 1, 1) := by decide +kernel
theorem dX3_drop_19 : decode cX3_drop 19 = .ok (.dup2, 1) := by decide +kernel
theorem dX3_drop_20 : decode cX3_drop 20 = .ok (.iaload, 1) := by decide +kernel
theorem dX3_drop_21 : decode cX3_drop 21 = .ok (.iconst 1, 1) := by decide +kernel
theorem dX3_drop_22 : decode cX3_drop 22 = .ok (.isub, 1) := by decide +kernel
theorem dX3_drop_23 : decode cX3_drop 23 = .ok (.iastore, 1) := by decide +kernel
theorem dX3_drop_24 : decode cX3_drop 24 = .ok (.aload_n 0, 1) := by decide +kernel
theorem dX3_drop_25 : decode cX3_drop 25 = .ok (.getfield 9, 3) := by decide +kernel
theorem dX3_drop_28 : decode cX3_drop 28 = .ok (.iload_n 1, 1) := by decide +kernel
theorem dX3_drop_29 : decode cX3_drop 29 = .ok (.iaload, 1) := by decide +kernel
theorem dX3_drop_30 : decode cX3_drop 30 = .ok (.istore_n 3, 1) := by decide +kernel
theorem dX3_drop_31 : decode cX3_drop 31 = .ok (.iload_n 3, 1) := by decide +kernel
theorem dX3_drop_32 : decode cX3_drop 32 = .ok (.aload_n 0, 1) := by decide +kernel
theorem dX3_drop_33 : decode cX3_drop 33 = .ok (.getfield 46, 3) := by decide +kernel
theorem dX3_drop_36 : decode cX3_drop 36 = .ok (.if_icmp .ge 24, 3) := by decide +kernel
theorem dX3_drop_39 : decode cX3_drop 39 = .ok (.aload_n 0, 1) := by decide +kernel
theorem dX3_drop_40 : decode cX3_drop 40 = .ok (.getfield 36, 3) := by decide +kernel
theorem dX3_drop_43 : decode cX3_drop 43 = .ok (.iload_n 2, 1) := by decide +kernel
theorem dX3_drop_44 : decode cX3_drop 44 = .ok (.bipush 24, 2) := by decide +kernel
theorem dX3_drop_46 : decode cX3_drop 46 = .ok (.imul, 1) := by decide +kernel
theorem dX3_drop_47 : decode cX3_drop 47 = .ok (.iload_n 3, 1) := by decide +kernel
theorem dX3_drop_48 : decode cX3_drop 48 = .ok (.iadd, 1) := by decide +kernel
theorem dX3_drop_49 : decode cX3_drop 49 = .ok (.dup2, 1) := by decide +kernel
theorem dX3_drop_50 : decode cX3_drop 50 = .ok (.iaload, 1) := by decide +kernel
theorem dX3_drop_51 : decode cX3_drop 51 = .ok (.iconst 1, 1) := by decide +kernel
theorem dX3_drop_52 : decode cX3_drop 52 = .ok (.iadd, 1) := by decide +kernel
theorem dX3_drop_53 : decode cX3_drop 53 = .ok (.iastore, 1) := by decide +kernel
theorem dX3_drop_54 : decode cX3_drop 54 = .ok (.iinc 3 1, 3) := by decide +kernel
theorem dX3_drop_57 : decode cX3_drop 57 = .ok (.goto (-26), 3) := by decide +kernel
theorem dX3_drop_60 : decode cX3_drop 60 = .ok (.return_, 1) := by decide +kernel
theorem dX3_init_0 : decode cX3_init 0 = .ok (.aload_n 0, 1) := by decide +kernel
theorem dX3_init_1 : decode cX3_init 1 = .ok (.invokespecial 3, 3) := by decide +kernel
theorem dX3_init_4 : decode cX3_init 4 = .ok (.aload_n 0, 1) := by decide +kernel
theorem dX3_init_5 : decode cX3_init 5 = .ok (.bipush 40, 2) := by decide +kernel
theorem dX3_init_7 : decode cX3_init 7 = .ok (.newarray .int, 2) := by decide +kernel
theorem dX3_init_9 : decode cX3_init 9 = .ok (.putfield 9, 3) := by decide +kernel
theorem dX3_init_12 : decode cX3_init 12 = .ok (.aload_n 0, 1) := by decide +kernel
theorem dX3_init_13 : decode cX3_init 13 = .ok (.bipush 25, 2) := by decide +kernel
theorem dX3_init_15 : decode cX3_init 15 = .ok (.newarray .int, 2) := by decide +kernel
theorem dX3_init_17 : decode cX3_init 17 = .ok (.putfield 15, 3) := by decide +kernel
theorem dX3_init_20 : decode cX3_init 20 = .ok (.aload_n 0, 1) := by decide +kernel
theorem dX3_init_21 : decode cX3_init 21 = .ok (.bipush 40, 2) := by decide +kernel
theorem dX3_init_23 : decode cX3_init 23 = .ok (.newarray .int, 2) := by decide +kernel
theorem dX3_init_25 : decode cX3_init 25 = .ok (.putfield 18, 3) := by decide +kernel
theorem dX3_init_28 : decode cX3_init 28 = .ok (.aload_n 0, 1) := by decide +kernel
theorem dX3_init_29 : decode cX3_init 29 = .ok (.bipush 40, 2) := by decide +kernel
theorem dX3_init_31 : decode cX3_init 31 = .ok (.newarray .int, 2) := by decide +kernel
theorem dX3_init_33 : decode cX3_init 33 = .ok (.putfield 21, 3) := by decide +kernel
theorem dX3_init_36 : decode cX3_init 36 = .ok (.aload_n 0, 1) := by decide +kernel
theorem dX3_init_37 : decode cX3_init 37 = .ok (.bipush 40, 2) := by decide +kernel
theorem dX3_init_39 : decode cX3_init 39 = .ok (.newarray .int, 2) := by decide +kernel
theorem dX3_init_41 : decode cX3_init 41 = .ok (.putfield 24, 3) := by decide +kernel
theorem dX3_init_44 : decode cX3_init 44 = .ok (.aload_n 0, 1) := by decide +kernel
theorem dX3_init_45 : decode cX3_init 45 = .ok (.bipush 40, 2) := by decide +kernel
theorem dX3_init_47 : decode cX3_init 47 = .ok (.newarray .int, 2) := by decide +kernel
theorem dX3_init_49 : decode cX3_init 49 = .ok (.putfield 27, 3) := by decide +kernel
theorem dX3_init_52 : decode cX3_init 52 = .ok (.aload_n 0, 1) := by decide +kernel
theorem dX3_init_53 : decode cX3_init 53 = .ok (.bipush 40, 2) := by decide +kernel
theorem dX3_init_55 : decode cX3_init 55 = .ok (.newarray .int, 2) := by decide +kernel
theorem dX3_init_57 : decode cX3_init 57 = .ok (.putfield 30, 3) := by decide +kernel
theorem dX3_init_60 : decode cX3_init 60 = .ok (.aload_n 0, 1) := by decide +kernel
theorem dX3_init_61 : decode cX3_init 61 = .ok (.sipush 400, 3) := by decide +kernel
theorem dX3_init_64 : decode cX3_init 64 = .ok (.newarray .int, 2) := by decide +kernel
theorem dX3_init_66 : decode cX3_init 66 = .ok (.putfield 33, 3) := by decide +kernel
theorem dX3_init_69 : decode cX3_init 69 = .ok (.aload_n 0, 1) := by decide +kernel
theorem dX3_init_70 : decode cX3_init 70 = .ok (.sipush 240, 3) := by decide +kernel
theorem dX3_init_73 : decode cX3_init 73 = .ok (.newarray .int, 2) := by decide +kernel
theorem dX3_init_75 : decode cX3_init 75 = .ok (.putfield 36, 3) := by decide +kernel
theorem dX3_init_78 : decode cX3_init 78 = .ok (.return_, 1) := by decide +kernel
theorem dX3_pointsOf_0 : decode cX3_pointsOf 0 = .ok (.aload_n 0, 1) := by decide +kernel
theorem dX3_pointsOf_1 : decode cX3_pointsOf 1 = .ok (.getfield 33, 3) := by decide +kernel
theorem dX3_pointsOf_4 : decode cX3_pointsOf 4 = .ok (.iload_n 1, 1) := by decide +kernel
theorem dX3_pointsOf_5 : decode cX3_pointsOf 5 = .ok (.bipush 10, 2) := by decide +kernel
theorem dX3_pointsOf_7 : decode cX3_pointsOf 7 = .ok (.imul, 1) := by decide +kernel
theorem dX3_pointsOf_8 : decode cX3_pointsOf 8 = .ok (.iload_n 2, 1) := by decide +kernel
theorem dX3_pointsOf_9 : decode cX3_pointsOf 9 = .ok (.iadd, 1) := by decide +kernel
theorem dX3_pointsOf_10 : decode cX3_pointsOf 10 = .ok (.iaload, 1) := by decide +kernel
theorem dX3_pointsOf_11 : decode cX3_pointsOf 11 = .ok (.ireturn, 1) := by decide +kernel
theorem dX3_take_0 : decode cX3_take 0 = .ok (.aload_n 0, 1) := by decide +kernel
theorem dX3_take_1 : decode cX3_take 1 = .ok (.getfield 27, 3) := by decide +kernel
theorem dX3_take_4 : decode cX3_take 4 = .ok (.iload_n 1, 1) := by decide +kernel
theorem dX3_take_5 : decode cX3_take 5 = .ok (.dup2, 1) := by decide +kernel
theorem dX3_take_6 : decode cX3_take 6 = .ok (.iaload, 1) := by decide +kernel
theorem dX3_take_7 : decode cX3_take 7 = .ok (.iconst 1, 1) := by decide +kernel
theorem dX3_take_8 : decode cX3_take 8 = .ok (.iload_n 2, 1) := by decide +kernel
theorem dX3_take_9 : decode cX3_take 9 = .ok (.ishl, 1) := by decide +kernel
theorem dX3_take_10 : decode cX3_take 10 = .ok (.ior, 1) := by decide +kernel
theorem dX3_take_11 : decode cX3_take 11 = .ok (.iastore, 1) := by decide +kernel
theorem dX3_take_12 : decode cX3_take 12 = .ok (.aload_n 0, 1) := by decide +kernel
theorem dX3_take_13 : decode cX3_take 13 = .ok (.getfield 30, 3) := by decide +kernel
theorem dX3_take_16 : decode cX3_take 16 = .ok (.iload_n 1, 1) := by decide +kernel
theorem dX3_take_17 : decode cX3_take 17 = .ok (.dup2, 1) := by decide +kernel
theorem dX3_take_18 : decode cX3_take 18 = .ok (.iaload, 1) := by decide +kernel
theorem dX3_take_19 : decode cX3_take 19 = .ok (.iconst 1, 1) := by decide +kernel
theorem dX3_take_20 : decode cX3_take 20 = .ok (.iadd, 1) := by decide +kernel
theorem dX3_take_21 : decode cX3_take 21 = .ok (.iastore, 1) := by decide +kernel
theorem dX3_take_22 : decode cX3_take 22 = .ok (.aload_n 0, 1) := by decide +kernel
theorem dX3_take_23 : decode cX3_take 23 = .ok (.getfield 9, 3) := by decide +kernel
theorem dX3_take_26 : decode cX3_take 26 = .ok (.iload_n 1, 1) := by decide +kernel
theorem dX3_take_27 : decode cX3_take 27 = .ok (.iaload, 1) := by decide +kernel
theorem dX3_take_28 : decode cX3_take 28 = .ok (.istore_n 3, 1) := by decide +kernel
theorem dX3_take_29 : decode cX3_take 29 = .ok (.iload_n 3, 1) := by decide +kernel
theorem dX3_take_30 : decode cX3_take 30 = .ok (.aload_n 0, 1) := by decide +kernel
theorem dX3_take_31 : decode cX3_take 31 = .ok (.getfield 46, 3) := by decide +kernel
theorem dX3_take_34 : decode cX3_take 34 = .ok (.if_icmp .ge 24, 3) := by decide +kernel
theorem dX3_take_37 : decode cX3_take 37 = .ok (.aload_n 0, 1) := by decide +kernel
theorem dX3_take_38 : decode cX3_take 38 = .ok (.getfield 36, 3) := by decide +kernel
theorem dX3_take_41 : decode cX3_take 41 = .ok (.iload_n 2, 1) := by decide +kernel
theorem dX3_take_42 : decode cX3_take 42 = .ok (.bipush 24, 2) := by decide +kernel
theorem dX3_take_44 : decode cX3_take 44 = .ok (.imul, 1) := by decide +kernel
theorem dX3_take_45 : decode cX3_take 45 = .ok (.iload_n 3, 1) := by decide +kernel
theorem dX3_take_46 : decode cX3_take 46 = .ok (.iadd, 1) := by decide +kernel
theorem dX3_take_47 : decode cX3_take 47 = .ok (.dup2, 1) := by decide +kernel
theorem dX3_take_48 : decode cX3_take 48 = .ok (.iaload, 1) := by decide +kernel
theorem dX3_take_49 : decode cX3_take 49 = .ok (.iconst 1, 1) := by decide +kernel
theorem dX3_take_50 : decode cX3_take 50 = .ok (.isub, 1) := by decide +kernel
theorem dX3_take_51 : decode cX3_take 51 = .ok (.iastore, 1) := by decide +kernel
theorem dX3_take_52 : decode cX3_take 52 = .ok (.iinc 3 1, 3) := by decide +kernel
theorem dX3_take_55 : decode cX3_take 55 = .ok (.goto (-26), 3) := by decide +kernel
theorem dX3_take_58 : decode cX3_take 58 = .ok (.return_, 1) := by decide +kernel
theorem dX3_takeRest_0 : decode cX3_takeRest 0 = .ok (.iconst 0, 1) := by decide +kernel
theorem dX3_takeRest_1 : decode cX3_takeRest 1 = .ok (.istore_n 2, 1) := by decide +kernel
theorem dX3_takeRest_2 : decode cX3_takeRest 2 = .ok (.iconst 0, 1) := by decide +kernel
theorem dX3_takeRest_3 : decode cX3_takeRest 3 = .ok (.istore_n 3, 1) := by decide +kernel
theorem dX3_takeRest_4 : decode cX3_takeRest 4 = .ok (.iload_n 3, 1) := by decide +kernel
theorem dX3_takeRest_5 : decode cX3_takeRest 5 = .ok (.aload_n 0, 1) := by decide +kernel
theorem dX3_takeRest_6 : decode cX3_takeRest 6 = .ok (.getfield 39, 3) := by decide +kernel
theorem dX3_takeRest_9 : decode cX3_takeRest 9 = .ok (.if_icmp .ge 37, 3) := by decide +kernel
theorem dX3_takeRest_12 : decode cX3_takeRest 12 = .ok (.iload_n 2, 1) := by decide +kernel
theorem dX3_takeRest_13 : decode cX3_takeRest 13 = .ok (.aload_n 1, 1) := by decide +kernel
theorem dX3_takeRest_14 : decode cX3_takeRest 14 = .ok (.iload_n 3, 1) := by decide +kernel
theorem dX3_takeRest_15 : decode cX3_takeRest 15 = .ok (.iaload, 1) := by decide +kernel
theorem dX3_takeRest_16 : decode cX3_takeRest 16 = .ok (.aload_n 0, 1) := by decide +kernel
theorem dX3_takeRest_17 : decode cX3_takeRest 17 = .ok (.getfield 36, 3) := by decide +kernel
theorem dX3_takeRest_20 : decode cX3_takeRest 20 = .ok (.iload_n 3, 1) := by decide +kernel
theorem dX3_takeRest_21 : decode cX3_takeRest 21 = .ok (.bipush 24, 2) := by decide +kernel
theorem dX3_takeRest_23 : decode cX3_takeRest 23 = .ok (.imul, 1) := by decide +kernel
theorem dX3_takeRest_24 : decode cX3_takeRest 24 = .ok (.iaload, 1) := by decide +kernel
theorem dX3_takeRest_25 : decode cX3_takeRest 25 = .ok (.isub, 1) := by decide +kernel
theorem dX3_takeRest_26 : decode cX3_takeRest 26 = .ok (.iadd, 1) := by decide +kernel
theorem dX3_takeRest_27 : decode cX3_takeRest 27 = .ok (.istore_n 2, 1) := by decide +kernel
theorem dX3_takeRest_28 : decode cX3_takeRest 28 = .ok (.aload_n 1, 1) := by decide +kernel
theorem dX3_takeRest_29 : decode cX3_takeRest 29 = .ok (.iload_n 3, 1) := by decide +kernel
theorem dX3_takeRest_30 : decode cX3_takeRest 30 = .ok (.aload_n 0, 1) := by decide +kernel
theorem dX3_takeRest_31 : decode cX3_takeRest 31 = .ok (.getfield 36, 3) := by decide +kernel
theorem dX3_takeRest_34 : decode cX3_takeRest 34 = .ok (.iload_n 3, 1) := by decide +kernel
theorem dX3_takeRest_35 : decode cX3_takeRest 35 = .ok (.bipush 24, 2) := by decide +kernel
theorem dX3_takeRest_37 : decode cX3_takeRest 37 = .ok (.imul, 1) := by decide +kernel
theorem dX3_takeRest_38 : decode cX3_takeRest 38 = .ok (.iaload, 1) := by decide +kernel
theorem dX3_takeRest_39 : decode cX3_takeRest 39 = .ok (.iastore, 1) := by decide +kernel
theorem dX3_takeRest_40 : decode cX3_takeRest 40 = .ok (.iinc 3 1, 3) := by decide +kernel
theorem dX3_takeRest_43 : decode cX3_takeRest 43 = .ok (.goto (-39), 3) := by decide +kernel
theorem dX3_takeRest_46 : decode cX3_takeRest 46 = .ok (.iload_n 2, 1) := by decide +kernel
theorem dX3_takeRest_47 : decode cX3_takeRest 47 = .ok (.ireturn, 1) := by decide +kernel
theorem dX4_buy_0 : decode cX4_buy 0 = .ok (.iconst 0, 1) := by decide +kernel
theorem dX4_buy_1 : decode cX4_buy 1 = .ok (.istore_n 3, 1) := by decide +kernel
theorem dX4_buy_2 : decode cX4_buy 2 = .ok (.iload_n 3, 1) := by decide +kernel
theorem dX4_buy_3 : decode cX4_buy 3 = .ok (.aload_n 0, 1) := by decide +kernel
theorem dX4_buy_4 : decode cX4_buy 4 = .ok (.getfield 64, 3) := by decide +kernel
theorem dX4_buy_7 : decode cX4_buy 7 = .ok (.if_icmp .ge 76, 3) := by decide +kernel
theorem dX4_buy_10 : decode cX4_buy 10 = .ok (.aload_n 0, 1) := by decide +kernel
theorem dX4_buy_11 : decode cX4_buy 11 = .ok (.iload_n 3, 1) := by decide +kernel
theorem dX4_buy_12 : decode cX4_buy 12 = .ok (.aload_n 2, 1) := by decide +kernel
theorem dX4_buy_13 : decode cX4_buy 13 = .ok (.invokevirtual 123, 3) := by decide +kernel
theorem dX4_buy_16 : decode cX4_buy 16 = .ok (.ifCond .eq 7, 3) := by decide +kernel
theorem dX4_buy_19 : decode cX4_buy 19 = .ok (.iconst (-1), 1) := by decide +kernel
theorem dX4_buy_20 : decode cX4_buy 20 = .ok (.goto 9, 3) := by decide +kernel
theorem dX4_buy_23 : decode cX4_buy 23 = .ok (.aload_n 0, 1) := by decide +kernel
theorem dX4_buy_24 : decode cX4_buy 24 = .ok (.iload_n 3, 1) := by decide +kernel
theorem dX4_buy_25 : decode cX4_buy 25 = .ok (.aload_n 2, 1) := by decide +kernel
theorem dX4_buy_26 : decode cX4_buy 26 = .ok (.invokevirtual 127, 3) := by decide +kernel
theorem dX4_buy_29 : decode cX4_buy 29 = .ok (.istore 4, 2) := by decide +kernel
theorem dX4_buy_31 : decode cX4_buy 31 = .ok (.aload_n 0, 1) := by decide +kernel
theorem dX4_buy_32 : decode cX4_buy 32 = .ok (.getfield 39, 3) := by decide +kernel
theorem dX4_buy_35 : decode cX4_buy 35 = .ok (.iload_n 3, 1) := by decide +kernel
theorem dX4_buy_36 : decode cX4_buy 36 = .ok (.iload 4, 2) := by decide +kernel
theorem dX4_buy_38 : decode cX4_buy 38 = .ok (.iconst (-1), 1) := by decide +kernel
theorem dX4_buy_39 : decode cX4_buy 39 = .ok (.if_icmp .ne 7, 3) := by decide +kernel
theorem dX4_buy_42 : decode cX4_buy 42 = .ok (.iconst (-1), 1) := by decide +kernel
theorem dX4_buy_43 : decode cX4_buy 43 = .ok (.goto 10, 3) := by decide +kernel
theorem dX4_buy_46 : decode cX4_buy 46 = .ok (.aload_n 0, 1) := by decide +kernel
theorem dX4_buy_47 : decode cX4_buy 47 = .ok (.getfield 48, 3) := by decide +kernel
theorem dX4_buy_50 : decode cX4_buy 50 = .ok (.iload 4, 2) := by decide +kernel
theorem dX4_buy_52 : decode cX4_buy 52 = .ok (.iaload, 1) := by decide +kernel
theorem dX4_buy_53 : decode cX4_buy 53 = .ok (.iastore, 1) := by decide +kernel
theorem dX4_buy_54 : decode cX4_buy 54 = .ok (.aload_n 0, 1) := by decide +kernel
theorem dX4_buy_55 : decode cX4_buy 55 = .ok (.getfield 36, 3) := by decide +kernel
theorem dX4_buy_58 : decode cX4_buy 58 = .ok (.iload_n 3, 1) := by decide +kernel
theorem dX4_buy_59 : decode cX4_buy 59 = .ok (.iload 4, 2) := by decide +kernel
theorem dX4_buy_61 : decode cX4_buy 61 = .ok (.iconst (-1), 1) := by decide +kernel
theorem dX4_buy_62 : decode cX4_buy 62 = .ok (.if_icmp .ne 7, 3) := by decide +kernel
theorem dX4_buy_65 : decode cX4_buy 65 = .ok (.iconst 0, 1) := by decide +kernel
theorem dX4_buy_66 : decode cX4_buy 66 = .ok (.goto 10, 3) := by decide +kernel
theorem dX4_buy_69 : decode cX4_buy 69 = .ok (.aload_n 0, 1) := by decide +kernel
theorem dX4_buy_70 : decode cX4_buy 70 = .ok (.getfield 42, 3) := by decide +kernel
theorem dX4_buy_73 : decode cX4_buy 73 = .ok (.iload 4, 2) := by decide +kernel
theorem dX4_buy_75 : decode cX4_buy 75 = .ok (.iaload, 1) := by decide +kernel
theorem dX4_buy_76 : decode cX4_buy 76 = .ok (.iastore, 1) := by decide +kernel
theorem dX4_buy_77 : decode cX4_buy 77 = .ok (.iinc 3 1, 3) := by decide +kernel
theorem dX4_buy_80 : decode cX4_buy 80 = .ok (.goto (-78), 3) := by decide +kernel
theorem dX4_buy_83 : decode cX4_buy 83 = .ok (.aload_n 0, 1) := by decide +kernel
theorem dX4_buy_84 : decode cX4_buy 84 = .ok (.iconst 0, 1) := by decide +kernel
theorem dX4_buy_85 : decode cX4_buy 85 = .ok (.putfield 55, 3) := by decide +kernel
theorem dX4_buy_88 : decode cX4_buy 88 = .ok (.iconst 0, 1) := by decide +kernel
theorem dX4_buy_89 : decode cX4_buy 89 = .ok (.istore_n 3, 1) := by decide +kernel
theorem dX4_buy_90 : decode cX4_buy 90 = .ok (.iload_n 3, 1) := by decide +kernel
theorem dX4_buy_91 : decode cX4_buy 91 = .ok (.aload_n 0, 1) := by decide +kernel
theorem dX4_buy_92 : decode cX4_buy 92 = .ok (.getfield 64, 3) := by decide +kernel
theorem dX4_buy_95 : decode cX4_buy 95 = .ok (.if_icmp .ge 80, 3) := by decide +kernel
theorem dX4_buy_98 : decode cX4_buy 98 = .ok (.aload_n 0, 1) := by decide +kernel
theorem dX4_buy_99 : decode cX4_buy 99 = .ok (.invokevirtual 141, 3) := by decide +kernel
theorem dX4_buy_102 : decode cX4_buy 102 = .ok (.istore 4, 2) := by decide +kernel
theorem dX4_buy_104 : decode cX4_buy 104 = .ok (.iload 4, 2) := by decide +kernel
theorem dX4_buy_106 : decode cX4_buy 106 = .ok (.iconst (-1), 1) := by decide +kernel
theorem dX4_buy_107 : decode cX4_buy 107 = .ok (.if_icmp .eq 19, 3) := by decide +kernel
theorem dX4_buy_110 : decode cX4_buy 110 = .ok (.aload_n 0, 1) := by decide +kernel
theorem dX4_buy_111 : decode cX4_buy 111 = .ok (.getfield 39, 3) := by decide +kernel
theorem dX4_buy_114 : decode cX4_buy 114 = .ok (.iload 4, 2) := by decide +kernel
theorem dX4_buy_116 : decode cX4_buy 116 = .ok (.iaload, 1) := by decide +kernel
theorem dX4_buy_117 : decode cX4_buy 117 = .ok (.iload_n 1, 1) := by decide +kernel
theorem dX4_buy_118 : decode cX4_buy 118 = .ok (.aload_n 0, 1) := by decide +kernel
theorem dX4_buy_119 : decode cX4_buy 119 = .ok (.getfield 55, 3) := by decide +kernel
theorem dX4_buy_122 : decode cX4_buy 122 = .ok (.isub, 1) := by decide +kernel
theorem dX4_buy_123 : decode cX4_buy 123 = .ok (.if_icmp .le 5, 3) := by decide +kernel
theorem dX4_buy_126 : decode cX4_buy 126 = .ok (.iload_n 3, 1) := by decide +kernel
theorem dX4_buy_127 : decode cX4_buy 127 = .ok (.ireturn, 1) := by decide +kernel
theorem dX4_buy_128 : decode cX4_buy 128 = .ok (.aload_n 0, 1) := by decide +kernel
theorem dX4_buy_129 : decode cX4_buy 129 = .ok (.dup, 1) := by decide +kernel
theorem dX4_buy_130 : decode cX4_buy 130 = .ok (.getfield 55, 3) := by decide +kernel
theorem dX4_buy_133 : decode cX4_buy 133 = .ok (.aload_n 0, 1) := by decide +kernel
theorem dX4_buy_134 : decode cX4_buy 134 = .ok (.getfield 39, 3) := by decide +kernel
theorem dX4_buy_137 : decode cX4_buy 137 = .ok (.iload 4, 2) := by decide +kernel
theorem dX4_buy_139 : decode cX4_buy 139 = .ok (.iaload, 1) := by decide +kernel
theorem dX4_buy_140 : decode cX4_buy 140 = .ok (.iadd, 1) := by decide +kernel
theorem dX4_buy_141 : decode cX4_buy 141 = .ok (.putfield 55, 3) := by decide +kernel
theorem dX4_buy_144 : decode cX4_buy 144 = .ok (.aload_n 0, 1) := by decide +kernel
theorem dX4_buy_145 : decode cX4_buy 145 = .ok (.getfield 30, 3) := by decide +kernel
theorem dX4_buy_148 : decode cX4_buy 148 = .ok (.iload 4, 2) := by decide +kernel
theorem dX4_buy_150 : decode cX4_buy 150 = .ok (.dup2, 1) := by decide +kernel
theorem dX4_buy_151 : decode cX4_buy 151 = .ok (.iaload, 1) := by decide +kernel
theorem dX4_buy_152 : decode cX4_buy 152 = .ok (.aload_n 0, 1) := by decide +kernel
theorem dX4_buy_153 : decode cX4_buy 153 = .ok (.getfield 36, 3) := by decide +kernel
theorem dX4_buy_156 : decode cX4_buy 156 = .ok (.iload 4, 2) := by decide +kernel
theorem dX4_buy_158 : decode cX4_buy 158 = .ok (.iaload, 1) := by decide +kernel
theorem dX4_buy_159 : decode cX4_buy 159 = .ok (.ior, 1) := by decide +kernel
theorem dX4_buy_160 : decode cX4_buy 160 = .ok (.iastore, 1) := by decide +kernel
theorem dX4_buy_161 : decode cX4_buy 161 = .ok (.aload_n 0, 1) := by decide +kernel
theorem dX4_buy_162 : decode cX4_buy 162 = .ok (.getfield 39, 3) := by decide +kernel
theorem dX4_buy_165 : decode cX4_buy 165 = .ok (.iload 4, 2) := by decide +kernel
theorem dX4_buy_167 : decode cX4_buy 167 = .ok (.iconst (-1), 1) := by decide +kernel
theorem dX4_buy_168 : decode cX4_buy 168 = .ok (.iastore, 1) := by decide +kernel
theorem dX4_buy_169 : decode cX4_buy 169 = .ok (.iinc 3 1, 3) := by decide +kernel
theorem dX4_buy_172 : decode cX4_buy 172 = .ok (.goto (-82), 3) := by decide +kernel
theorem dX4_buy_175 : decode cX4_buy 175 = .ok (.aload_n 0, 1) := by decide +kernel
theorem dX4_buy_176 : decode cX4_buy 176 = .ok (.getfield 64, 3) := by decide +kernel
theorem dX4_buy_179 : decode cX4_buy 179 = .ok (.ireturn, 1) := by decide +kernel
theorem dX4_cheapest_0 : decode cX4_cheapest 0 = .ok (.aload_n 0, 1) := by decide +kernel
theorem dX4_cheapest_1 : decode cX4_cheapest 1 = .ok (.iload_n 1, 1) := by decide +kernel
theorem dX4_cheapest_2 : decode cX4_cheapest 2 = .ok (.aload_n 2, 1) := by decide +kernel
theorem dX4_cheapest_3 : decode cX4_cheapest 3 = .ok (.invokevirtual 117, 3) := by decide +kernel
theorem dX4_cheapest_6 : decode cX4_cheapest 6 = .ok (.istore_n 3, 1) := by decide +kernel
theorem dX4_cheapest_7 : decode cX4_cheapest 7 = .ok (.aload_n 0, 1) := by decide +kernel
theorem dX4_cheapest_8 : decode cX4_cheapest 8 = .ok (.iload_n 1, 1) := by decide +kernel
theorem dX4_cheapest_9 : decode cX4_cheapest 9 = .ok (.aload_n 2, 1) := by decide +kernel
theorem dX4_cheapest_10 : decode cX4_cheapest 10 = .ok (.iload_n 3, 1) := by decide +kernel
theorem dX4_cheapest_11 : decode cX4_cheapest 11 = .ok (.ifCond .ne 9, 3) := by decide +kernel
theorem dX4_cheapest_14 : decode cX4_cheapest 14 = .ok (.sipush 5000, 3) := by decide +kernel
theorem dX4_cheapest_17 : decode cX4_cheapest 17 = .ok (.goto 4, 3) := by decide +kernel
theorem dX4_cheapest_20 : decode cX4_cheapest 20 = .ok (.iload_n 3, 1) := by decide +kernel
theorem dX4_cheapest_21 : decode cX4_cheapest 21 = .ok (.invokevirtual 130, 3) := by decide +kernel
theorem dX4_cheapest_24 : decode cX4_cheapest 24 = .ok (.istore 4, 2) := by decide +kernel
theorem dX4_cheapest_26 : decode cX4_cheapest 26 = .ok (.aload_n 0, 1) := by decide +kernel
theorem dX4_cheapest_27 : decode cX4_cheapest 27 = .ok (.getfield 21, 3) := by decide +kernel
theorem dX4_cheapest_30 : decode cX4_cheapest 30 = .ok (.iload_n 1, 1) := by decide +kernel
theorem dX4_cheapest_31 : decode cX4_cheapest 31 = .ok (.iaload, 1) := by decide +kernel
theorem dX4_cheapest_32 : decode cX4_cheapest 32 = .ok (.aload_n 0, 1) := by decide +kernel
theorem dX4_cheapest_33 : decode cX4_cheapest 33 = .ok (.getfield 30, 3) := by decide +kernel
theorem dX4_cheapest_36 : decode cX4_cheapest 36 = .ok (.iload_n 1, 1) := by decide +kernel
theorem dX4_cheapest_37 : decode cX4_cheapest 37 = .ok (.iaload, 1) := by decide +kernel
theorem dX4_cheapest_38 : decode cX4_cheapest 38 = .ok (.invokestatic 83, 3) := by decide +kernel
theorem dX4_cheapest_41 : decode cX4_cheapest 41 = .ok (.isub, 1) := by decide +kernel
theorem dX4_cheapest_42 : decode cX4_cheapest 42 = .ok (.istore 5, 2) := by decide +kernel
theorem dX4_cheapest_44 : decode cX4_cheapest 44 = .ok (.iconst (-1), 1) := by decide +kernel
theorem dX4_cheapest_45 : decode cX4_cheapest 45 = .ok (.istore 6, 2) := by decide +kernel
theorem dX4_cheapest_47 : decode cX4_cheapest 47 = .ok (.iconst 0, 1) := by decide +kernel
theorem dX4_cheapest_48 : decode cX4_cheapest 48 = .ok (.istore 7, 2) := by decide +kernel
theorem dX4_cheapest_50 : decode cX4_cheapest 50 = .ok (.iload 7, 2) := by decide +kernel
theorem dX4_cheapest_52 : decode cX4_cheapest 52 = .ok (.iload 4, 2) := by decide +kernel
theorem dX4_cheapest_54 : decode cX4_cheapest 54 = .ok (.if_icmp .ge 73, 3) := by decide +kernel
theorem dX4_cheapest_57 : decode cX4_cheapest 57 = .ok (.aload_n 0, 1) := by decide +kernel
theorem dX4_cheapest_58 : decode cX4_cheapest 58 = .ok (.getfield 45, 3) := by decide +kernel
theorem dX4_cheapest_61 : decode cX4_cheapest 61 = .ok (.iload 7, 2) := by decide +kernel
theorem dX4_cheapest_63 : decode cX4_cheapest 63 = .ok (.iaload, 1) := by decide +kernel
theorem dX4_cheapest_64 : decode cX4_cheapest 64 = .ok (.iload_n 3, 1) := by decide +kernel
theorem dX4_cheapest_65 : decode cX4_cheapest 65 = .ok (.aload_n 2, 1) := by decide +kernel
theorem dX4_cheapest_66 : decode cX4_cheapest 66 = .ok (.getfield 120, 3) := by decide +kernel
theorem dX4_cheapest_69 : decode cX4_cheapest 69 = .ok (.isub, 1) := by decide +kernel
theorem dX4_cheapest_70 : decode cX4_cheapest 70 = .ok (.if_icmp .lt 22, 3) := by decide +kernel
theorem dX4_cheapest_73 : decode cX4_cheapest 73 = .ok (.aload_n 0, 1) := by decide +kernel
theorem dX4_cheapest_74 : decode cX4_cheapest 74 = .ok (.getfield 42, 3) := by decide +kernel
theorem dX4_cheapest_77 : decode cX4_cheapest 77 = .ok (.iload 7, 2) := by decide +kernel
theorem dX4_cheapest_79 : decode cX4_cheapest 79 = .ok (.iaload, 1) := by decide +kernel
theorem dX4_cheapest_80 : decode cX4_cheapest 80 = .ok (.invokestatic 83, 3) := by decide +kernel
theorem dX4_cheapest_83 : decode cX4_cheapest 83 = .ok (.iload 5, 2) := by decide +kernel
theorem dX4_cheapest_85 : decode cX4_cheapest 85 = .ok (.if_icmp .lt 7, 3) := by decide +kernel
theorem dX4_cheapest_88 : decode cX4_cheapest 88 = .ok (.iconst 1, 1) := by decide +kernel
theorem dX4_cheapest_89 : decode cX4_cheapest 89 = .ok (.goto 4, 3) := by decide +kernel
theorem dX4_cheapest_92 : decode cX4_cheapest 92 = .ok (.iconst 0, 1) := by decide +kernel
theorem dX4_cheapest_93 : decode cX4_cheapest 93 = .ok (.istore 8, 2) := by decide +kernel
theorem dX4_cheapest_95 : decode cX4_cheapest 95 = .ok (.iload 8, 2) := by decide +kernel
theorem dX4_cheapest_97 : decode cX4_cheapest 97 = .ok (.ifCond .eq 24, 3) := by decide +kernel
theorem dX4_cheapest_100 : decode cX4_cheapest 100 = .ok (.iload 6, 2) := by decide +kernel
theorem dX4_cheapest_102 : decode cX4_cheapest 102 = .ok (.iconst (-1), 1) := by decide +kernel
theorem dX4_cheapest_103 : decode cX4_cheapest 103 = .ok (.if_icmp .eq 14, 3) := by decide +kernel
theorem dX4_cheapest_106 : decode cX4_cheapest 106 = .ok (.aload_n 0, 1) := by decide +kernel
theorem dX4_cheapest_107 : decode cX4_cheapest 107 = .ok (.iload 7, 2) := by decide +kernel
theorem dX4_cheapest_109 : decode cX4_cheapest 109 = .ok (.iload 6, 2) := by decide +kernel
theorem dX4_cheapest_111 : decode cX4_cheapest 111 = .ok (.invokevirtual 134, 3) := by decide +kernel
theorem dX4_cheapest_114 : decode cX4_cheapest 114 = .ok (.ifCond .eq 7, 3) := by decide +kernel
theorem dX4_cheapest_117 : decode cX4_cheapest 117 = .ok (.iload 7, 2) := by decide +kernel
theorem dX4_cheapest_119 : decode cX4_cheapest 119 = .ok (.istore 6, 2) := by decide +kernel
theorem dX4_cheapest_121 : decode cX4_cheapest 121 = .ok (.iinc 7 1, 3) := by decide +kernel
theorem dX4_cheapest_124 : decode cX4_cheapest 124 = .ok (.goto (-74), 3) := by decide +kernel
theorem dX4_cheapest_127 : decode cX4_cheapest 127 = .ok (.iload 6, 2) := by decide +kernel
theorem dX4_cheapest_129 : decode cX4_cheapest 129 = .ok (.ireturn, 1) := by decide +kernel
theorem dX4_cheapestOffer_0 : decode cX4_cheapestOffer 0 = .ok (.iconst (-1), 1) := by decide +kernel
theorem dX4_cheapestOffer_1 : decode cX4_cheapestOffer 1 = .ok (.istore_n 1, 1) := by decide +kernel
theorem dX4_cheapestOffer_2 : decode cX4_cheapestOffer 2 = .ok (.iconst 0, 1) := by decide +kernel
theorem dX4_cheapestOffer_3 : decode cX4_cheapestOffer 3 = .ok (.istore_n 2, 1) := by decide +kernel
theorem dX4_cheapestOffer_4 : decode cX4_cheapestOffer 4 = .ok (.iload_n 2, 1) := by decide +kernel
theorem dX4_cheapestOffer_5 : decode cX4_cheapestOffer 5 = .ok (.aload_n 0, 1) := by decide +kernel
theorem dX4_cheapestOffer_6 : decode cX4_cheapestOffer 6 = .ok (.getfield 64, 3) := by decide +kernel
theorem dX4_cheapestOffer_9 : decode cX4_cheapestOffer 9 = .ok (.if_icmp .ge 41, 3) := by decide +kernel
theorem dX4_cheapestOffer_12 : decode cX4_cheapestOffer 12 = .ok (.aload_n 0, 1) := by decide +kernel
theorem dX4_cheapestOffer_13 : decode cX4_cheapestOffer 13 = .ok (.getfield 39, 3) := by decide +kernel
theorem dX4_cheapestOffer_16 : decode cX4_cheapestOffer 16 = .ok (.iload_n 2, 1) := by decide +kernel
theorem dX4_cheapestOffer_17 : decode cX4_cheapestOffer 17 = .ok (.iaload, 1) := by decide +kernel
theorem dX4_cheapestOffer_18 : decode cX4_cheapestOffer 18 = .ok (.iconst (-1), 1) := by decide +kernel
theorem dX4_cheapestOffer_19 : decode cX4_cheapestOffer 19 = .ok (.if_icmp .eq 25, 3) := by decide +kernel
theorem dX4_cheapestOffer_22 : decode cX4_cheapestOffer 22 = .ok (.iload_n 1, 1) := by decide +kernel
theorem dX4_cheapestOffer_23 : decode cX4_cheapestOffer 23 = .ok (.iconst (-1), 1) := by decide +kernel
theorem dX4_cheapestOffer_24 : decode cX4_cheapestOffer 24 = .ok (.if_icmp .eq 18, 3) := by decide +kernel
theorem dX4_cheapestOffer_27 : decode cX4_cheapestOffer 27 = .ok (.aload_n 0, 1) := by decide +kernel
theorem dX4_cheapestOffer_28 : decode cX4_cheapestOffer 28 = .ok (.getfield 39, 3) := by decide +kernel
theorem dX4_cheapestOffer_31 : decode cX4_cheapestOffer 31 = .ok (.iload_n 2, 1) := by decide +kernel
theorem dX4_cheapestOffer_32 : decode cX4_cheapestOffer 32 = .ok (.iaload, 1) := by decide +kernel
theorem dX4_cheapestOffer_33 : decode cX4_cheapestOffer 33 = .ok (.aload_n 0, 1) := by decide +kernel
theorem dX4_cheapestOffer_34 : decode cX4_cheapestOffer 34 = .ok (.getfield 39, 3) := by decide +kernel
theorem dX4_cheapestOffer_37 : decode cX4_cheapestOffer 37 = .ok (.iload_n 1, 1) := by decide +kernel
theorem dX4_cheapestOffer_38 : decode cX4_cheapestOffer 38 = .ok (.iaload, 1) := by decide +kernel
theorem dX4_cheapestOffer_39 : decode cX4_cheapestOffer 39 = .ok (.if_icmp .ge 5, 3) := by decide +kernel
theorem dX4_cheapestOffer_42 : decode cX4_cheapestOffer 42 = .ok (.iload_n 2, 1) := by decide +kernel
theorem dX4_cheapestOffer_43 : decode cX4_cheapestOffer 43 = .ok (.istore_n 1, 1) := by decide +kernel
theorem dX4_cheapestOffer_44 : decode cX4_cheapestOffer 44 = .ok (.iinc 2 1, 3) := by decide +kernel
theorem dX4_cheapestOffer_47 : decode cX4_cheapestOffer 47 = .ok (.goto (-43), 3) := by decide +kernel
theorem dX4_cheapestOffer_50 : decode cX4_cheapestOffer 50 = .ok (.iload_n 1, 1) := by decide +kernel
theorem dX4_cheapestOffer_51 : decode cX4_cheapestOffer 51 = .ok (.ireturn, 1) := by decide +kernel
theorem dX4_costOf_0 : decode cX4_costOf 0 = .ok (.aload_n 0, 1) := by decide +kernel
theorem dX4_costOf_1 : decode cX4_costOf 1 = .ok (.iload_n 1, 1) := by decide +kernel
theorem dX4_costOf_2 : decode cX4_costOf 2 = .ok (.aload_n 2, 1) := by decide +kernel
theorem dX4_costOf_3 : decode cX4_costOf 3 = .ok (.invokevirtual 123, 3) := by decide +kernel
theorem dX4_costOf_6 : decode cX4_costOf 6 = .ok (.ifCond .eq 5, 3) := by decide +kernel
theorem dX4_costOf_9 : decode cX4_costOf 9 = .ok (.iconst 0, 1) := by decide +kernel
theorem dX4_costOf_10 : decode cX4_costOf 10 = .ok (.ireturn, 1) := by decide +kernel
theorem dX4_costOf_11 : decode cX4_costOf 11 = .ok (.aload_n 0, 1) := by decide +kernel
theorem dX4_costOf_12 : decode cX4_costOf 12 = .ok (.iload_n 1, 1) := by decide +kernel
theorem dX4_costOf_13 : decode cX4_costOf 13 = .ok (.aload_n 2, 1) := by decide +kernel
theorem dX4_costOf_14 : decode cX4_costOf 14 = .ok (.invokevirtual 127, 3) := by decide +kernel
theorem dX4_costOf_17 : decode cX4_costOf 17 = .ok (.istore_n 3, 1) := by decide +kernel
theorem dX4_costOf_18 : decode cX4_costOf 18 = .ok (.iload_n 3, 1) := by decide +kernel
theorem dX4_costOf_19 : decode cX4_costOf 19 = .ok (.iconst (-1), 1) := by decide +kernel
theorem dX4_costOf_20 : decode cX4_costOf 20 = .ok (.if_icmp .ne 7, 3) := by decide +kernel
theorem dX4_costOf_23 : decode cX4_costOf 23 = .ok (.iconst (-1), 1) := by decide +kernel
theorem dX4_costOf_24 : decode cX4_costOf 24 = .ok (.goto 9, 3) := by decide +kernel
theorem dX4_costOf_27 : decode cX4_costOf 27 = .ok (.aload_n 0, 1) := by decide +kernel
theorem dX4_costOf_28 : decode cX4_costOf 28 = .ok (.getfield 48, 3) := by decide +kernel
theorem dX4_costOf_31 : decode cX4_costOf 31 = .ok (.iload_n 3, 1) := by decide +kernel
theorem dX4_costOf_32 : decode cX4_costOf 32 = .ok (.iaload, 1) := by decide +kernel
theorem dX4_costOf_33 : decode cX4_costOf 33 = .ok (.ireturn, 1) := by decide +kernel
theorem dX4_countRight_0 : decode cX4_countRight 0 = .ok (.iconst 0, 1) := by decide +kernel
theorem dX4_countRight_1 : decode cX4_countRight 1 = .ok (.istore_n 2, 1) := by decide +kernel
theorem dX4_countRight_2 : decode cX4_countRight 2 = .ok (.iconst 0, 1) := by decide +kernel
theorem dX4_countRight_3 : decode cX4_countRight 3 = .ok (.istore_n 3, 1) := by decide +kernel
theorem dX4_countRight_4 : decode cX4_countRight 4 = .ok (.iload_n 3, 1) := by decide +kernel
theorem dX4_countRight_5 : decode cX4_countRight 5 = .ok (.aload_n 0, 1) := by decide +kernel
theorem dX4_countRight_6 : decode cX4_countRight 6 = .ok (.getfield 64, 3) := by decide +kernel
theorem dX4_countRight_9 : decode cX4_countRight 9 = .ok (.if_icmp .ge 26, 3) := by decide +kernel
theorem dX4_countRight_12 : decode cX4_countRight 12 = .ok (.iload_n 2, 1) := by decide +kernel
theorem dX4_countRight_13 : decode cX4_countRight 13 = .ok (.aload_n 0, 1) := by decide +kernel
theorem dX4_countRight_14 : decode cX4_countRight 14 = .ok (.iload_n 3, 1) := by decide +kernel
theorem dX4_countRight_15 : decode cX4_countRight 15 = .ok (.aload_n 1, 1) := by decide +kernel
theorem dX4_countRight_16 : decode cX4_countRight 16 = .ok (.invokevirtual 123, 3) := by decide +kernel
theorem dX4_countRight_19 : decode cX4_countRight 19 = .ok (.ifCond .eq 7, 3) := by decide +kernel
theorem dX4_countRight_22 : decode cX4_countRight 22 = .ok (.iconst 1, 1) := by decide +kernel
theorem dX4_countRight_23 : decode cX4_countRight 23 = .ok (.goto 4, 3) := by decide +kernel
theorem dX4_countRight_26 : decode cX4_countRight 26 = .ok (.iconst 0, 1) := by decide +kernel
theorem dX4_countRight_27 : decode cX4_countRight 27 = .ok (.iadd, 1) := by decide +kernel
theorem dX4_countRight_28 : decode cX4_countRight 28 = .ok (.istore_n 2, 1) := by decide +kernel
theorem dX4_countRight_29 : decode cX4_countRight 29 = .ok (.iinc 3 1, 3) := by decide +kernel
theorem dX4_countRight_32 : decode cX4_countRight 32 = .ok (.goto (-28), 3) := by decide +kernel
theorem dX4_countRight_35 : decode cX4_countRight 35 = .ok (.iload_n 2, 1) := by decide +kernel
theorem dX4_countRight_36 : decode cX4_countRight 36 = .ok (.ireturn, 1) := by decide +kernel
theorem dX4_greatest_0 : decode cX4_greatest 0 = .ok (.aload_n 0, 1) := by decide +kernel
theorem dX4_greatest_1 : decode cX4_greatest 1 = .ok (.iload_n 1, 1) := by decide +kernel
theorem dX4_greatest_2 : decode cX4_greatest 2 = .ok (.aload_n 2, 1) := by decide +kernel
theorem dX4_greatest_3 : decode cX4_greatest 3 = .ok (.invokevirtual 108, 3) := by decide +kernel
theorem dX4_greatest_6 : decode cX4_greatest 6 = .ok (.istore_n 3, 1) := by decide +kernel
theorem dX4_greatest_7 : decode cX4_greatest 7 = .ok (.aload_n 0, 1) := by decide +kernel
theorem dX4_greatest_8 : decode cX4_greatest 8 = .ok (.getfield 15, 3) := by decide +kernel
theorem dX4_greatest_11 : decode cX4_greatest 11 = .ok (.iload_n 1, 1) := by decide +kernel
theorem dX4_greatest_12 : decode cX4_greatest 12 = .ok (.iaload, 1) := by decide +kernel
theorem dX4_greatest_13 : decode cX4_greatest 13 = .ok (.ifCond .ne 5, 3) := by decide +kernel
theorem dX4_greatest_16 : decode cX4_greatest 16 = .ok (.iload_n 3, 1) := by decide +kernel
theorem dX4_greatest_17 : decode cX4_greatest 17 = .ok (.ireturn, 1) := by decide +kernel
theorem dX4_greatest_18 : decode cX4_greatest 18 = .ok (.iconst 0, 1) := by decide +kernel
theorem dX4_greatest_19 : decode cX4_greatest 19 = .ok (.istore 4, 2) := by decide +kernel
theorem dX4_greatest_21 : decode cX4_greatest 21 = .ok (.iload 4, 2) := by decide +kernel
theorem dX4_greatest_23 : decode cX4_greatest 23 = .ok (.aload_n 0, 1) := by decide +kernel
theorem dX4_greatest_24 : decode cX4_greatest 24 = .ok (.getfield 64, 3) := by decide +kernel
theorem dX4_greatest_27 : decode cX4_greatest 27 = .ok (.if_icmp .ge 37, 3) := by decide +kernel
theorem dX4_greatest_30 : decode cX4_greatest 30 = .ok (.aload_n 0, 1) := by decide +kernel
theorem dX4_greatest_31 : decode cX4_greatest 31 = .ok (.getfield 15, 3) := by decide +kernel
theorem dX4_greatest_34 : decode cX4_greatest 34 = .ok (.iload 4, 2) := by decide +kernel
theorem dX4_greatest_36 : decode cX4_greatest 36 = .ok (.iaload, 1) := by decide +kernel
theorem dX4_greatest_37 : decode cX4_greatest 37 = .ok (.aload_n 0, 1) := by decide +kernel
theorem dX4_greatest_38 : decode cX4_greatest 38 = .ok (.getfield 15, 3) := by decide +kernel
theorem dX4_greatest_41 : decode cX4_greatest 41 = .ok (.iload_n 1, 1) := by decide +kernel
theorem dX4_greatest_42 : decode cX4_greatest 42 = .ok (.iaload, 1) := by decide +kernel
theorem dX4_greatest_43 : decode cX4_greatest 43 = .ok (.if_icmp .ne 15, 3) := by decide +kernel
theorem dX4_greatest_46 : decode cX4_greatest 46 = .ok (.iload_n 3, 1) := by decide +kernel
theorem dX4_greatest_47 : decode cX4_greatest 47 = .ok (.aload_n 0, 1) := by decide +kernel
theorem dX4_greatest_48 : decode cX4_greatest 48 = .ok (.iload 4, 2) := by decide +kernel
theorem dX4_greatest_50 : decode cX4_greatest 50 = .ok (.aload_n 2, 1) := by decide +kernel
theorem dX4_greatest_51 : decode cX4_greatest 51 = .ok (.invokevirtual 108, 3) := by decide +kernel
theorem dX4_greatest_54 : decode cX4_greatest 54 = .ok (.invokestatic 112, 3) := by decide +kernel
theorem dX4_greatest_57 : decode cX4_greatest 57 = .ok (.istore_n 3, 1) := by decide +kernel
theorem dX4_greatest_58 : decode cX4_greatest 58 = .ok (.iinc 4 1, 3) := by decide +kernel
theorem dX4_greatest_61 : decode cX4_greatest 61 = .ok (.goto (-40), 3) := by decide +kernel
theorem dX4_greatest_64 : decode cX4_greatest 64 = .ok (.iload_n 3, 1) := by decide +kernel
theorem dX4_greatest_65 : decode cX4_greatest 65 = .ok (.ireturn, 1) := by decide +kernel
theorem dX4_init_0 : decode cX4_init 0 = .ok (.aload_n 0, 1) := by decide +kernel
theorem dX4_init_1 : decode cX4_init 1 = .ok (.invokespecial 3, 3) := by decide +kernel
theorem dX4_init_4 : decode cX4_init 4 = .ok (.aload_n 0, 1) := by decide +kernel
theorem dX4_init_5 : decode cX4_init 5 = .ok (.bipush 40, 2) := by decide +kernel
theorem dX4_init_7 : decode cX4_init 7 = .ok (.newarray .int, 2) := by decide +kernel
theorem dX4_init_9 : decode cX4_init 9 = .ok (.putfield 9, 3) := by decide +kernel
theorem dX4_init_12 : decode cX4_init 12 = .ok (.aload_n 0, 1) := by decide +kernel
theorem dX4_init_13 : decode cX4_init 13 = .ok (.bipush 40, 2) := by decide +kernel
theorem dX4_init_15 : decode cX4_init 15 = .ok (.newarray .int, 2) := by decide +kernel
theorem dX4_init_17 : decode cX4_init 17 = .ok (.putfield 15, 3) := by decide +kernel
theorem dX4_init_20 : decode cX4_init 20 = .ok (.aload_n 0, 1) := by decide +kernel
theorem dX4_init_21 : decode cX4_init 21 = .ok (.bipush 40, 2) := by decide +kernel
theorem dX4_init_23 : decode cX4_init 23 = .ok (.newarray .int, 2) := by decide +kernel
theorem dX4_init_25 : decode cX4_init 25 = .ok (.putfield 18, 3) := by decide +kernel
theorem dX4_init_28 : decode cX4_init 28 = .ok (.aload_n 0, 1) := by decide +kernel
theorem dX4_init_29 : decode cX4_init 29 = .ok (.bipush 40, 2) := by decide +kernel
theorem dX4_init_31 : decode cX4_init 31 = .ok (.newarray .int, 2) := by decide +kernel
theorem dX4_init_33 : decode cX4_init 33 = .ok (.putfield 21, 3) := by decide +kernel
theorem dX4_init_36 : decode cX4_init 36 = .ok (.aload_n 0, 1) := by decide +kernel
theorem dX4_init_37 : decode cX4_init 37 = .ok (.bipush 40, 2) := by decide +kernel
theorem dX4_init_39 : decode cX4_init 39 = .ok (.newarray .int, 2) := by decide +kernel
theorem dX4_init_41 : decode cX4_init 41 = .ok (.putfield 24, 3) := by decide +kernel
theorem dX4_init_44 : decode cX4_init 44 = .ok (.aload_n 0, 1) := by decide +kernel
theorem dX4_init_45 : decode cX4_init 45 = .ok (.bipush 40, 2) := by decide +kernel
theorem dX4_init_47 : decode cX4_init 47 = .ok (.newarray .int, 2) := by decide +kernel
theorem dX4_init_49 : decode cX4_init 49 = .ok (.putfield 27, 3) := by decide +kernel
theorem dX4_init_52 : decode cX4_init 52 = .ok (.aload_n 0, 1) := by decide +kernel
theorem dX4_init_53 : decode cX4_init 53 = .ok (.bipush 40, 2) := by decide +kernel
theorem dX4_init_55 : decode cX4_init 55 = .ok (.newarray .int, 2) := by decide +kernel
theorem dX4_init_57 : decode cX4_init 57 = .ok (.putfield 30, 3) := by decide +kernel
theorem dX4_init_60 : decode cX4_init 60 = .ok (.aload_n 0, 1) := by decide +kernel
theorem dX4_init_61 : decode cX4_init 61 = .ok (.bipush 10, 2) := by decide +kernel
theorem dX4_init_63 : decode cX4_init 63 = .ok (.newarray .int, 2) := by decide +kernel
theorem dX4_init_65 : decode cX4_init 65 = .ok (.putfield 33, 3) := by decide +kernel
theorem dX4_init_68 : decode cX4_init 68 = .ok (.aload_n 0, 1) := by decide +kernel
theorem dX4_init_69 : decode cX4_init 69 = .ok (.bipush 40, 2) := by decide +kernel
theorem dX4_init_71 : decode cX4_init 71 = .ok (.newarray .int, 2) := by decide +kernel
theorem dX4_init_73 : decode cX4_init 73 = .ok (.putfield 36, 3) := by decide +kernel
theorem dX4_init_76 : decode cX4_init 76 = .ok (.aload_n 0, 1) := by decide +kernel
theorem dX4_init_77 : decode cX4_init 77 = .ok (.bipush 40, 2) := by decide +kernel
theorem dX4_init_79 : decode cX4_init 79 = .ok (.newarray .int, 2) := by decide +kernel
theorem dX4_init_81 : decode cX4_init 81 = .ok (.putfield 39, 3) := by decide +kernel
theorem dX4_init_84 : decode cX4_init 84 = .ok (.aload_n 0, 1) := by decide +kernel
theorem dX4_init_85 : decode cX4_init 85 = .ok (.sipush 1024, 3) := by decide +kernel
theorem dX4_init_88 : decode cX4_init 88 = .ok (.newarray .int, 2) := by decide +kernel
theorem dX4_init_90 : decode cX4_init 90 = .ok (.putfield 42, 3) := by decide +kernel
theorem dX4_init_93 : decode cX4_init 93 = .ok (.aload_n 0, 1) := by decide +kernel
theorem dX4_init_94 : decode cX4_init 94 = .ok (.sipush 1024, 3) := by decide +kernel
theorem dX4_init_97 : decode cX4_init 97 = .ok (.newarray .int, 2) := by decide +kernel
theorem dX4_init_99 : decode cX4_init 99 = .ok (.putfield 45, 3) := by decide +kernel
theorem dX4_init_102 : decode cX4_init 102 = .ok (.aload_n 0, 1) := by decide +kernel
theorem dX4_init_103 : decode cX4_init 103 = .ok (.sipush 1024, 3) := by decide +kernel
theorem dX4_init_106 : decode cX4_init 106 = .ok (.newarray .int, 2) := by decide +kernel
theorem dX4_init_108 : decode cX4_init 108 = .ok (.putfield 48, 3) := by decide +kernel
theorem dX4_init_111 : decode cX4_init 111 = .ok (.return_, 1) := by decide +kernel
theorem dX4_isBetter_0 : decode cX4_isBetter 0 = .ok (.aload_n 0, 1) := by decide +kernel
theorem dX4_isBetter_1 : decode cX4_isBetter 1 = .ok (.getfield 48, 3) := by decide +kernel
theorem dX4_isBetter_4 : decode cX4_isBetter 4 = .ok (.iload_n 1, 1) := by decide +kernel
theorem dX4_isBetter_5 : decode cX4_isBetter 5 = .ok (.iaload, 1) := by decide +kernel
theorem dX4_isBetter_6 : decode cX4_isBetter 6 = .ok (.aload_n 0, 1) := by decide +kernel
theorem dX4_isBetter_7 : decode cX4_isBetter 7 = .ok (.getfield 48, 3) := by decide +kernel
theorem dX4_isBetter_10 : decode cX4_isBetter 10 = .ok (.iload_n 2, 1) := by decide +kernel
theorem dX4_isBetter_11 : decode cX4_isBetter 11 = .ok (.iaload, 1) := by decide +kernel
theorem dX4_isBetter_12 : decode cX4_isBetter 12 = .ok (.if_icmp .eq 24, 3) := by decide +kernel
theorem dX4_isBetter_15 : decode cX4_isBetter 15 = .ok (.aload_n 0, 1) := by decide +kernel
theorem dX4_isBetter_16 : decode cX4_isBetter 16 = .ok (.getfield 48, 3) := by decide +kernel
theorem dX4_isBetter_19 : decode cX4_isBetter 19 = .ok (.iload_n 1, 1) := by decide +kernel
theorem dX4_isBetter_20 : decode cX4_isBetter 20 = .ok (.iaload, 1) := by decide +kernel
theorem dX4_isBetter_21 : decode cX4_isBetter 21 = .ok (.aload_n 0, 1) := by decide +kernel
theorem dX4_isBetter_22 : decode cX4_isBetter 22 = .ok (.getfield 48, 3) := by decide +kernel
theorem dX4_isBetter_25 : decode cX4_isBetter 25 = .ok (.iload_n 2, 1) := by decide +kernel
theorem dX4_isBetter_26 : decode cX4_isBetter 26 = .ok (.iaload, 1) := by decide +kernel
theorem dX4_isBetter_27 : decode cX4_isBetter 27 = .ok (.if_icmp .ge 7, 3) := by decide +kernel
theorem dX4_isBetter_30 : decode cX4_isBetter 30 = .ok (.iconst 1, 1) := by decide +kernel
theorem dX4_isBetter_31 : decode cX4_isBetter 31 = .ok (.goto 4, 3) := by decide +kernel
theorem dX4_isBetter_34 : decode cX4_isBetter 34 = .ok (.iconst 0, 1) := by decide +kernel
theorem dX4_isBetter_35 : decode cX4_isBetter 35 = .ok (.ireturn, 1) := by decide +kernel
theorem dX4_isBetter_36 : decode cX4_isBetter 36 = .ok (.aload_n 0, 1) := by decide +kernel
theorem dX4_isBetter_37 : decode cX4_isBetter 37 = .ok (.getfield 42, 3) := by decide +kernel
theorem dX4_isBetter_40 : decode cX4_isBetter 40 = .ok (.iload_n 1, 1) := by decide +kernel
theorem dX4_isBetter_41 : decode cX4_isBetter 41 = .ok (.iaload, 1) := by decide +kernel
theorem dX4_isBetter_42 : decode cX4_isBetter 42 = .ok (.invokestatic 83, 3) := by decide +kernel
theorem dX4_isBetter_45 : decode cX4_isBetter 45 = .ok (.istore_n 3, 1) := by decide +kernel
theorem dX4_isBetter_46 : decode cX4_isBetter 46 = .ok (.aload_n 0, 1) := by decide +kernel
theorem dX4_isBetter_47 : decode cX4_isBetter 47 = .ok (.getfield 42, 3) := by decide +kernel
theorem dX4_isBetter_50 : decode cX4_isBetter 50 = .ok (.iload_n 2, 1) := by decide +kernel
theorem dX4_isBetter_51 : decode cX4_isBetter 51 = .ok (.iaload, 1) := by decide +kernel
theorem dX4_isBetter_52 : decode cX4_isBetter 52 = .ok (.invokestatic 83, 3) := by decide +kernel
theorem dX4_isBetter_55 : decode cX4_isBetter 55 = .ok (.istore 4, 2) := by decide +kernel
theorem dX4_isBetter_57 : decode cX4_isBetter 57 = .ok (.iload_n 3, 1) := by decide +kernel
theorem dX4_isBetter_58 : decode cX4_isBetter 58 = .ok (.iload 4, 2) := by decide +kernel
theorem dX4_isBetter_60 : decode cX4_isBetter 60 = .ok (.if_icmp .eq 15, 3) := by decide +kernel
theorem dX4_isBetter_63 : decode cX4_isBetter 63 = .ok (.iload_n 3, 1) := by decide +kernel
theorem dX4_isBetter_64 : decode cX4_isBetter 64 = .ok (.iload 4, 2) := by decide +kernel
theorem dX4_isBetter_66 : decode cX4_isBetter 66 = .ok (.if_icmp .ge 7, 3) := by decide +kernel
theorem dX4_isBetter_69 : decode cX4_isBetter 69 = .ok (.iconst 1, 1) := by decide +kernel
theorem dX4_isBetter_70 : decode cX4_isBetter 70 = .ok (.goto 4, 3) := by decide +kernel
theorem dX4_isBetter_73 : decode cX4_isBetter 73 = .ok (.iconst 0, 1) := by decide +kernel
theorem dX4_isBetter_74 : decode cX4_isBetter 74 = .ok (.ireturn, 1) := by decide +kernel
theorem dX4_isBetter_75 : decode cX4_isBetter 75 = .ok (.aload_n 0, 1) := by decide +kernel
theorem dX4_isBetter_76 : decode cX4_isBetter 76 = .ok (.getfield 42, 3) := by decide +kernel
theorem dX4_isBetter_79 : decode cX4_isBetter 79 = .ok (.iload_n 1, 1) := by decide +kernel
theorem dX4_isBetter_80 : decode cX4_isBetter 80 = .ok (.iaload, 1) := by decide +kernel
theorem dX4_isBetter_81 : decode cX4_isBetter 81 = .ok (.aload_n 0, 1) := by decide +kernel
theorem dX4_isBetter_82 : decode cX4_isBetter 82 = .ok (.getfield 42, 3) := by decide +kernel
theorem dX4_isBetter_85 : decode cX4_isBetter 85 = .ok (.iload_n 2, 1) := by decide +kernel
theorem dX4_isBetter_86 : decode cX4_isBetter 86 = .ok (.iaload, 1) := by decide +kernel
theorem dX4_isBetter_87 : decode cX4_isBetter 87 = .ok (.ixor, 1) := by decide +kernel
theorem dX4_isBetter_88 : decode cX4_isBetter 88 = .ok (.istore 5, 2) := by decide +kernel
theorem dX4_isBetter_90 : decode cX4_isBetter 90 = .ok (.aload_n 0, 1) := by decide +kernel
theorem dX4_isBetter_91 : decode cX4_isBetter 91 = .ok (.getfield 42, 3) := by decide +kernel
theorem dX4_isBetter_94 : decode cX4_isBetter 94 = .ok (.iload_n 1, 1) := by decide +kernel
theorem dX4_isBetter_95 : decode cX4_isBetter 95 = .ok (.iaload, 1) := by decide +kernel
theorem dX4_isBetter_96 : decode cX4_isBetter 96 = .ok (.iload 5, 2) := by decide +kernel
theorem dX4_isBetter_98 : decode cX4_isBetter 98 = .ok (.iand, 1) := by decide +kernel
theorem dX4_isBetter_99 : decode cX4_isBetter 99 = .ok (.iload 5, 2) := by decide +kernel
theorem dX4_isBetter_101 : decode cX4_isBetter 101 = .ok (.ineg, 1) := by decide +kernel
theorem dX4_isBetter_102 : decode cX4_isBetter 102 = .ok (.iand, 1) := by decide +kernel
theorem dX4_isBetter_103 : decode cX4_isBetter 103 = .ok (.ifCond .eq 7, 3) := by decide +kernel
theorem dX4_isBetter_106 : decode cX4_isBetter 106 = .ok (.iconst 1, 1) := by decide +kernel
theorem dX4_isBetter_107 : decode cX4_isBetter 107 = .ok (.goto 4, 3) := by decide +kernel
theorem dX4_isBetter_110 : decode cX4_isBetter 110 = .ok (.iconst 0, 1) := by decide +kernel
theorem dX4_isBetter_111 : decode cX4_isBetter 111 = .ok (.ireturn, 1) := by decide +kernel
theorem dX4_isChild_0 : decode cX4_isChild 0 = .ok (.aload_n 0, 1) := by decide +kernel
theorem dX4_isChild_1 : decode cX4_isChild 1 = .ok (.getfield 51, 3) := by decide +kernel
theorem dX4_isChild_4 : decode cX4_isChild 4 = .ok (.ifCond .eq 19, 3) := by decide +kernel
theorem dX4_isChild_7 : decode cX4_isChild 7 = .ok (.iload_n 1, 1) := by decide +kernel
theorem dX4_isChild_8 : decode cX4_isChild 8 = .ok (.ifCond .lt 15, 3) := by decide +kernel
theorem dX4_isChild_11 : decode cX4_isChild 11 = .ok (.iload_n 1, 1) := by decide +kernel
theorem dX4_isChild_12 : decode cX4_isChild 12 = .ok (.aload_n 0, 1) := by decide +kernel
theorem dX4_isChild_13 : decode cX4_isChild 13 = .ok (.getfield 64, 3) := by decide +kernel
theorem dX4_isChild_16 : decode cX4_isChild 16 = .ok (.if_icmp .ge 7, 3) := by decide +kernel
theorem dX4_isChild_19 : decode cX4_isChild 19 = .ok (.iconst 1, 1) := by decide +kernel
theorem dX4_isChild_20 : decode cX4_isChild 20 = .ok (.goto 4, 3) := by decide +kernel
theorem dX4_isChild_23 : decode cX4_isChild 23 = .ok (.iconst 0, 1) := by decide +kernel
theorem dX4_isChild_24 : decode cX4_isChild 24 = .ok (.ireturn, 1) := by decide +kernel
theorem dX4_isRight_0 : decode cX4_isRight 0 = .ok (.aload_n 0, 1) := by decide +kernel
theorem dX4_isRight_1 : decode cX4_isRight 1 = .ok (.getfield 30, 3) := by decide +kernel
theorem dX4_isRight_4 : decode cX4_isRight 4 = .ok (.iload_n 1, 1) := by decide +kernel
theorem dX4_isRight_5 : decode cX4_isRight 5 = .ok (.iaload, 1) := by decide +kernel
theorem dX4_isRight_6 : decode cX4_isRight 6 = .ok (.invokestatic 83, 3) := by decide +kernel
theorem dX4_isRight_9 : decode cX4_isRight 9 = .ok (.aload_n 0, 1) := by decide +kernel
theorem dX4_isRight_10 : decode cX4_isRight 10 = .ok (.getfield 21, 3) := by decide +kernel
theorem dX4_isRight_13 : decode cX4_isRight 13 = .ok (.iload_n 1, 1) := by decide +kernel
theorem dX4_isRight_14 : decode cX4_isRight 14 = .ok (.iaload, 1) := by decide +kernel
theorem dX4_isRight_15 : decode cX4_isRight 15 = .ok (.if_icmp .lt 27, 3) := by decide +kernel
theorem dX4_isRight_18 : decode cX4_isRight 18 = .ok (.aload_n 0, 1) := by decide +kernel
theorem dX4_isRight_19 : decode cX4_isRight 19 = .ok (.iload_n 1, 1) := by decide +kernel
theorem dX4_isRight_20 : decode cX4_isRight 20 = .ok (.aload_n 2, 1) := by decide +kernel
theorem dX4_isRight_21 : decode cX4_isRight 21 = .ok (.invokevirtual 108, 3) := by decide +kernel
theorem dX4_isRight_24 : decode cX4_isRight 24 = .ok (.aload_n 0, 1) := by decide +kernel
theorem dX4_isRight_25 : decode cX4_isRight 25 = .ok (.iload_n 1, 1) := by decide +kernel
theorem dX4_isRight_26 : decode cX4_isRight 26 = .ok (.aload_n 2, 1) := by decide +kernel
theorem dX4_isRight_27 : decode cX4_isRight 27 = .ok (.invokevirtual 117, 3) := by decide +kernel
theorem dX4_isRight_30 : decode cX4_isRight 30 = .ok (.aload_n 2, 1) := by decide +kernel
theorem dX4_isRight_31 : decode cX4_isRight 31 = .ok (.getfield 120, 3) := by decide +kernel
theorem dX4_isRight_34 : decode cX4_isRight 34 = .ok (.isub, 1) := by decide +kernel
theorem dX4_isRight_35 : decode cX4_isRight 35 = .ok (.if_icmp .lt 7, 3) := by decide +kernel
theorem dX4_isRight_38 : decode cX4_isRight 38 = .ok (.iconst 1, 1) := by decide +kernel
theorem dX4_isRight_39 : decode cX4_isRight 39 = .ok (.goto 4, 3) := by decide +kernel
theorem dX4_isRight_42 : decode cX4_isRight 42 = .ok (.iconst 0, 1) := by decide +kernel
theorem dX4_isRight_43 : decode cX4_isRight 43 = .ok (.ireturn, 1) := by decide +kernel
theorem dX4_keep_0 : decode cX4_keep 0 = .ok (.aload_n 0, 1) := by decide +kernel
theorem dX4_keep_1 : decode cX4_keep 1 = .ok (.iconst 1, 1) := by decide +kernel
theorem dX4_keep_2 : decode cX4_keep 2 = .ok (.putfield 51, 3) := by decide +kernel
theorem dX4_keep_5 : decode cX4_keep 5 = .ok (.aload_n 0, 1) := by decide +kernel
theorem dX4_keep_6 : decode cX4_keep 6 = .ok (.iconst (-1), 1) := by decide +kernel
theorem dX4_keep_7 : decode cX4_keep 7 = .ok (.putfield 55, 3) := by decide +kernel
theorem dX4_keep_10 : decode cX4_keep 10 = .ok (.aload_n 0, 1) := by decide +kernel
theorem dX4_keep_11 : decode cX4_keep 11 = .ok (.aload_n 2, 1) := by decide +kernel
theorem dX4_keep_12 : decode cX4_keep 12 = .ok (.getfield 59, 3) := by decide +kernel
theorem dX4_keep_15 : decode cX4_keep 15 = .ok (.putfield 64, 3) := by decide +kernel
theorem dX4_keep_18 : decode cX4_keep 18 = .ok (.aload_n 0, 1) := by decide +kernel
theorem dX4_keep_19 : decode cX4_keep 19 = .ok (.iconst 0, 1) := by decide +kernel
theorem dX4_keep_20 : decode cX4_keep 20 = .ok (.putfield 65, 3) := by decide +kernel
theorem dX4_keep_23 : decode cX4_keep 23 = .ok (.iconst 0, 1) := by decide +kernel
theorem dX4_keep_24 : decode cX4_keep 24 = .ok (.istore 6, 2) := by decide +kernel
theorem dX4_keep_26 : decode cX4_keep 26 = .ok (.iload 6, 2) := by decide +kernel
theorem dX4_keep_28 : decode cX4_keep 28 = .ok (.bipush 10, 2) := by decide +kernel
theorem dX4_keep_30 : decode cX4_keep 30 = .ok (.if_icmp .ge 21, 3) := by decide +kernel
theorem dX4_keep_33 : decode cX4_keep 33 = .ok (.aload_n 0, 1) := by decide +kernel
theorem dX4_keep_34 : decode cX4_keep 34 = .ok (.getfield 33, 3) := by decide +kernel
theorem dX4_keep_37 : decode cX4_keep 37 = .ok (.iload 6, 2) := by decide +kernel
theorem dX4_keep_39 : decode cX4_keep 39 = .ok (.aload 5, 2) := by decide +kernel
theorem dX4_keep_41 : decode cX4_keep 41 = .ok (.iload 6, 2) := by decide +kernel
theorem dX4_keep_43 : decode cX4_keep 43 = .ok (.iaload, 1) := by decide +kernel
theorem dX4_keep_44 : decode cX4_keep 44 = .ok (.iastore, 1) := by decide +kernel
theorem dX4_keep_45 : decode cX4_keep 45 = .ok (.iinc 6 1, 3) := by decide +kernel
theorem dX4_keep_48 : decode cX4_keep 48 = .ok (.goto (-22), 3) := by decide +kernel
theorem dX4_keep_51 : decode cX4_keep 51 = .ok (.iconst 0, 1) := by decide +kernel
theorem dX4_keep_52 : decode cX4_keep 52 = .ok (.istore 6, 2) := by decide +kernel
theorem dX4_keep_54 : decode cX4_keep 54 = .ok (.iconst 0, 1) := by decide +kernel
theorem dX4_keep_55 : decode cX4_keep 55 = .ok (.istore 7, 2) := by decide +kernel
theorem dX4_keep_57 : decode cX4_keep 57 = .ok (.iload 7, 2) := by decide +kernel
theorem dX4_keep_59 : decode cX4_keep 59 = .ok (.aload_n 0, 1) := by decide +kernel
theorem dX4_keep_60 : decode cX4_keep 60 = .ok (.getfield 64, 3) := by decide +kernel
theorem dX4_keep_63 : decode cX4_keep 63 = .ok (.if_icmp .ge 151, 3) := by decide +kernel
theorem dX4_keep_66 : decode cX4_keep 66 = .ok (.aload_n 0, 1) := by decide +kernel
theorem dX4_keep_67 : decode cX4_keep 67 = .ok (.getfield 9, 3) := by decide +kernel
theorem dX4_keep_70 : decode cX4_keep 70 = .ok (.iload 7, 2) := by decide +kernel
theorem dX4_keep_72 : decode cX4_keep 72 = .ok (.aload_n 2, 1) := by decide +kernel
theorem dX4_keep_73 : decode cX4_keep 73 = .ok (.getfield 68, 3) := by decide +kernel
theorem dX4_keep_76 : decode cX4_keep 76 = .ok (.iload 7, 2) := by decide +kernel
theorem dX4_keep_78 : decode cX4_keep 78 = .ok (.iaload, 1) := by decide +kernel
theorem dX4_keep_79 : decode cX4_keep 79 = .ok (.iastore, 1) := by decide +kernel
theorem dX4_keep_80 : decode cX4_keep 80 = .ok (.aload_n 0, 1) := by decide +kernel
theorem dX4_keep_81 : decode cX4_keep 81 = .ok (.getfield 15, 3) := by decide +kernel
theorem dX4_keep_84 : decode cX4_keep 84 = .ok (.iload 7, 2) := by decide +kernel
theorem dX4_keep_86 : decode cX4_keep 86 = .ok (.aload_n 2, 1) := by decide +kernel
theorem dX4_keep_87 : decode cX4_keep 87 = .ok (.getfield 69, 3) := by decide +kernel
theorem dX4_keep_90 : decode cX4_keep 90 = .ok (.iload 7, 2) := by decide +kernel
theorem dX4_keep_92 : decode cX4_keep 92 = .ok (.iaload, 1) := by decide +kernel
theorem dX4_keep_93 : decode cX4_keep 93 = .ok (.iastore, 1) := by decide +kernel
theorem dX4_keep_94 : decode cX4_keep 94 = .ok (.aload_n 0, 1) := by decide +kernel
theorem dX4_keep_95 : decode cX4_keep 95 = .ok (.getfield 18, 3) := by decide +kernel
theorem dX4_keep_98 : decode cX4_keep 98 = .ok (.iload 7, 2) := by decide +kernel
theorem dX4_keep_100 : decode cX4_keep 100 = .ok (.aload_n 2, 1) := by decide +kernel
theorem dX4_keep_101 : decode cX4_keep 101 = .ok (.getfield 70, 3) := by decide +kernel
theorem dX4_keep_104 : decode cX4_keep 104 = .ok (.iload 7, 2) := by decide +kernel
theorem dX4_keep_106 : decode cX4_keep 106 = .ok (.iaload, 1) := by decide +kernel
theorem dX4_keep_107 : decode cX4_keep 107 = .ok (.iastore, 1) := by decide +kernel
theorem dX4_keep_108 : decode cX4_keep 108 = .ok (.aload_n 0, 1) := by decide +kernel
theorem dX4_keep_109 : decode cX4_keep 109 = .ok (.getfield 21, 3) := by decide +kernel
theorem dX4_keep_112 : decode cX4_keep 112 = .ok (.iload 7, 2) := by decide +kernel
theorem dX4_keep_114 : decode cX4_keep 114 = .ok (.aload_n 3, 1) := by decide +kernel
theorem dX4_keep_115 : decode cX4_keep 115 = .ok (.getfield 71, 3) := by decide +kernel
theorem dX4_keep_118 : decode cX4_keep 118 = .ok (.iload 7, 2) := by decide +kernel
theorem dX4_keep_120 : decode cX4_keep 120 = .ok (.iaload, 1) := by decide +kernel
theorem dX4_keep_121 : decode cX4_keep 121 = .ok (.iastore, 1) := by decide +kernel
theorem dX4_keep_122 : decode cX4_keep 122 = .ok (.aload_n 0, 1) := by decide +kernel
theorem dX4_keep_123 : decode cX4_keep 123 = .ok (.getfield 24, 3) := by decide +kernel
theorem dX4_keep_126 : decode cX4_keep 126 = .ok (.iload 7, 2) := by decide +kernel
theorem dX4_keep_128 : decode cX4_keep 128 = .ok (.aload_n 3, 1) := by decide +kernel
theorem dX4_keep_129 : decode cX4_keep 129 = .ok (.getfield 74, 3) := by decide +kernel
theorem dX4_keep_132 : decode cX4_keep 132 = .ok (.iload 7, 2) := by decide +kernel
theorem dX4_keep_134 : decode cX4_keep 134 = .ok (.iaload, 1) := by decide +kernel
theorem dX4_keep_135 : decode cX4_keep 135 = .ok (.iastore, 1) := by decide +kernel
theorem dX4_keep_136 : decode cX4_keep 136 = .ok (.aload 4, 2) := by decide +kernel
theorem dX4_keep_138 : decode cX4_keep 138 = .ok (.getfield 75, 3) := by decide +kernel
theorem dX4_keep_141 : decode cX4_keep 141 = .ok (.iload 7, 2) := by decide +kernel
theorem dX4_keep_143 : decode cX4_keep 143 = .ok (.iaload, 1) := by decide +kernel
theorem dX4_keep_144 : decode cX4_keep 144 = .ok (.istore 8, 2) := by decide +kernel
theorem dX4_keep_146 : decode cX4_keep 146 = .ok (.aload_n 0, 1) := by decide +kernel
theorem dX4_keep_147 : decode cX4_keep 147 = .ok (.getfield 30, 3) := by decide +kernel
theorem dX4_keep_150 : decode cX4_keep 150 = .ok (.iload 7, 2) := by decide +kernel
theorem dX4_keep_152 : decode cX4_keep 152 = .ok (.iload 8, 2) := by decide +kernel
theorem dX4_keep_154 : decode cX4_keep 154 = .ok (.iconst (-1), 1) := by decide +kernel
theorem dX4_keep_155 : decode cX4_keep 155 = .ok (.if_icmp .ne 7, 3) := by decide +kernel
theorem dX4_keep_158 : decode cX4_keep 158 = .ok (.iconst 0, 1) := by decide +kernel
theorem dX4_keep_159 : decode cX4_keep 159 = .ok (.goto 11, 3) := by decide +kernel
theorem dX4_keep_162 : decode cX4_keep 162 = .ok (.aload 4, 2) := by decide +kernel
theorem dX4_keep_164 : decode cX4_keep 164 = .ok (.getfield 80, 3) := by decide +kernel
theorem dX4_keep_167 : decode cX4_keep 167 = .ok (.iload 8, 2) := by decide +kernel
theorem dX4_keep_169 : decode cX4_keep 169 = .ok (.iaload, 1) := by decide +kernel
theorem dX4_keep_170 : decode cX4_keep 170 = .ok (.iastore, 1) := by decide +kernel
theorem dX4_keep_171 : decode cX4_keep 171 = .ok (.aload_n 0, 1) := by decide +kernel
theorem dX4_keep_172 : decode cX4_keep 172 = .ok (.getfield 27, 3) := by decide +kernel
theorem dX4_keep_175 : decode cX4_keep 175 = .ok (.iload 7, 2) := by decide +kernel
theorem dX4_keep_177 : decode cX4_keep 177 = .ok (.aload_n 0, 1) := by decide +kernel
theorem dX4_keep_178 : decode cX4_keep 178 = .ok (.getfield 30, 3) := by decide +kernel
theorem dX4_keep_181 : decode cX4_keep 181 = .ok (.iload 7, 2) := by decide +kernel
theorem dX4_keep_183 : decode cX4_keep 183 = .ok (.iaload, 1) := by decide +kernel
theorem dX4_keep_184 : decode cX4_keep 184 = .ok (.invokestatic 83, 3) := by decide +kernel
theorem dX4_keep_187 : decode cX4_keep 187 = .ok (.iastore, 1) := by decide +kernel
theorem dX4_keep_188 : decode cX4_keep 188 = .ok (.iload 6, 2) := by decide +kernel
theorem dX4_keep_190 : decode cX4_keep 190 = .ok (.aload_n 0, 1) := by decide +kernel
theorem dX4_keep_191 : decode cX4_keep 191 = .ok (.getfield 27, 3) := by decide +kernel
theorem dX4_keep_194 : decode cX4_keep 194 = .ok (.iload 7, 2) := by decide +kernel
theorem dX4_keep_196 : decode cX4_keep 196 = .ok (.iaload, 1) := by decide +kernel
theorem dX4_keep_197 : decode cX4_keep 197 = .ok (.iadd, 1) := by decide +kernel
theorem dX4_keep_198 : decode cX4_keep 198 = .ok (.istore 6, 2) := by decide +kernel
theorem dX4_keep_200 : decode cX4_keep 200 = .ok (.aload_n 0, 1) := by decide +kernel
theorem dX4_keep_201 : decode cX4_keep 201 = .ok (.aload_n 1, 1) := by decide +kernel
theorem dX4_keep_202 : decode cX4_keep 202 = .ok (.aload_n 3, 1) := by decide +kernel
theorem dX4_keep_203 : decode cX4_keep 203 = .ok (.iload 7, 2) := by decide +kernel
theorem dX4_keep_205 : decode cX4_keep 205 = .ok (.invokevirtual 89, 3) := by decide +kernel
theorem dX4_keep_208 : decode cX4_keep 208 = .ok (.iinc 7 1, 3) := by decide +kernel
theorem dX4_keep_211 : decode cX4_keep 211 = .ok (.goto (-154), 3) := by decide +kernel
theorem dX4_keep_214 : decode cX4_keep 214 = .ok (.iload 6, 2) := by decide +kernel
theorem dX4_keep_216 : decode cX4_keep 216 = .ok (.ireturn, 1) := by decide +kernel
theorem dX4_lacking_0 : decode cX4_lacking 0 = .ok (.iconst 0, 1) := by decide +kernel
theorem dX4_lacking_1 : decode cX4_lacking 1 = .ok (.istore_n 3, 1) := by decide +kernel
theorem dX4_lacking_2 : decode cX4_lacking 2 = .ok (.iconst 0, 1) := by decide +kernel
theorem dX4_lacking_3 : decode cX4_lacking 3 = .ok (.istore 4, 2) := by decide +kernel
theorem dX4_lacking_5 : decode cX4_lacking 5 = .ok (.iload 4, 2) := by decide +kernel
theorem dX4_lacking_7 : decode cX4_lacking 7 = .ok (.aload_n 0, 1) := by decide +kernel
theorem dX4_lacking_8 : decode cX4_lacking 8 = .ok (.getfield 64, 3) := by decide +kernel
theorem dX4_lacking_11 : decode cX4_lacking 11 = .ok (.if_icmp .ge 49, 3) := by decide +kernel
theorem dX4_lacking_14 : decode cX4_lacking 14 = .ok (.aload_n 0, 1) := by decide +kernel
theorem dX4_lacking_15 : decode cX4_lacking 15 = .ok (.getfield 9, 3) := by decide +kernel
theorem dX4_lacking_18 : decode cX4_lacking 18 = .ok (.iload 4, 2) := by decide +kernel
theorem dX4_lacking_20 : decode cX4_lacking 20 = .ok (.iaload, 1) := by decide +kernel
theorem dX4_lacking_21 : decode cX4_lacking 21 = .ok (.iload_n 1, 1) := by decide +kernel
theorem dX4_lacking_22 : decode cX4_lacking 22 = .ok (.if_icmp .lt 32, 3) := by decide +kernel
theorem dX4_lacking_25 : decode cX4_lacking 25 = .ok (.aload_n 0, 1) := by decide +kernel
theorem dX4_lacking_26 : decode cX4_lacking 26 = .ok (.getfield 9, 3) := by decide +kernel
theorem dX4_lacking_29 : decode cX4_lacking 29 = .ok (.iload 4, 2) := by decide +kernel
theorem dX4_lacking_31 : decode cX4_lacking 31 = .ok (.iaload, 1) := by decide +kernel
theorem dX4_lacking_32 : decode cX4_lacking 32 = .ok (.iload_n 2, 1) := by decide +kernel
theorem dX4_lacking_33 : decode cX4_lacking 33 = .ok (.if_icmp .gt 21, 3) := by decide +kernel
theorem dX4_lacking_36 : decode cX4_lacking 36 = .ok (.iload_n 3, 1) := by decide +kernel
theorem dX4_lacking_37 : decode cX4_lacking 37 = .ok (.aload_n 0, 1) := by decide +kernel
theorem dX4_lacking_38 : decode cX4_lacking 38 = .ok (.getfield 21, 3) := by decide +kernel
theorem dX4_lacking_41 : decode cX4_lacking 41 = .ok (.iload 4, 2) := by decide +kernel
theorem dX4_lacking_43 : decode cX4_lacking 43 = .ok (.iaload, 1) := by decide +kernel
theorem dX4_lacking_44 : decode cX4_lacking 44 = .ok (.aload_n 0, 1) := by decide +kernel
theorem dX4_lacking_45 : decode cX4_lacking 45 = .ok (.getfield 27, 3) := by decide +kernel
theorem dX4_lacking_48 : decode cX4_lacking 48 = .ok (.iload 4, 2) := by decide +kernel
theorem dX4_lacking_50 : decode cX4_lacking 50 = .ok (.iaload, 1) := by decide +kernel
theorem dX4_lacking_51 : decode cX4_lacking 51 = .ok (.isub, 1) := by decide +kernel
theorem dX4_lacking_52 : decode cX4_lacking 52 = .ok (.iadd, 1) := by decide +kernel
theorem dX4_lacking_53 : decode cX4_lacking 53 = .ok (.istore_n 3, 1) := by decide +kernel
theorem dX4_lacking_54 : decode cX4_lacking 54 = .ok (.iinc 4 1, 3) := by decide +kernel
theorem dX4_lacking_57 : decode cX4_lacking 57 = .ok (.goto (-52), 3) := by decide +kernel
theorem dX4_lacking_60 : decode cX4_lacking 60 = .ok (.iload_n 3, 1) := by decide +kernel
theorem dX4_lacking_61 : decode cX4_lacking 61 = .ok (.ireturn, 1) := by decide +kernel
theorem dX4_listSets_0 : decode cX4_listSets 0 = .ok (.aload_n 0, 1) := by decide +kernel
theorem dX4_listSets_1 : decode cX4_listSets 1 = .ok (.getfield 42, 3) := by decide +kernel
theorem dX4_listSets_4 : decode cX4_listSets 4 = .ok (.iconst 0, 1) := by decide +kernel
theorem dX4_listSets_5 : decode cX4_listSets 5 = .ok (.iconst 0, 1) := by decide +kernel
theorem dX4_listSets_6 : decode cX4_listSets 6 = .ok (.iastore, 1) := by decide +kernel
theorem dX4_listSets_7 : decode cX4_listSets 7 = .ok (.aload_n 0, 1) := by decide +kernel
theorem dX4_listSets_8 : decode cX4_listSets 8 = .ok (.getfield 45, 3) := by decide +kernel
theorem dX4_listSets_11 : decode cX4_listSets 11 = .ok (.iconst 0, 1) := by decide +kernel
theorem dX4_listSets_12 : decode cX4_listSets 12 = .ok (.aload_n 0, 1) := by decide +kernel
theorem dX4_listSets_13 : decode cX4_listSets 13 = .ok (.iload_n 1, 1) := by decide +kernel
theorem dX4_listSets_14 : decode cX4_listSets 14 = .ok (.aload_n 2, 1) := by decide +kernel
theorem dX4_listSets_15 : decode cX4_listSets 15 = .ok (.invokevirtual 108, 3) := by decide +kernel
theorem dX4_listSets_18 : decode cX4_listSets 18 = .ok (.iastore, 1) := by decide +kernel
theorem dX4_listSets_19 : decode cX4_listSets 19 = .ok (.aload_n 0, 1) := by decide +kernel
theorem dX4_listSets_20 : decode cX4_listSets 20 = .ok (.getfield 48, 3) := by decide +kernel
theorem dX4_listSets_23 : decode cX4_listSets 23 = .ok (.iconst 0, 1) := by decide +kernel
theorem dX4_listSets_24 : decode cX4_listSets 24 = .ok (.iconst 0, 1) := by decide +kernel
theorem dX4_listSets_25 : decode cX4_listSets 25 = .ok (.iastore, 1) := by decide +kernel
theorem dX4_listSets_26 : decode cX4_listSets 26 = .ok (.iconst 1, 1) := by decide +kernel
theorem dX4_listSets_27 : decode cX4_listSets 27 = .ok (.istore 4, 2) := by decide +kernel
theorem dX4_listSets_29 : decode cX4_listSets 29 = .ok (.aload_n 0, 1) := by decide +kernel
theorem dX4_listSets_30 : decode cX4_listSets 30 = .ok (.getfield 24, 3) := by decide +kernel
theorem dX4_listSets_33 : decode cX4_listSets 33 = .ok (.iload_n 1, 1) := by decide +kernel
theorem dX4_listSets_34 : decode cX4_listSets 34 = .ok (.iaload, 1) := by decide +kernel
theorem dX4_listSets_35 : decode cX4_listSets 35 = .ok (.aload_n 0, 1) := by decide +kernel
theorem dX4_listSets_36 : decode cX4_listSets 36 = .ok (.getfield 30, 3) := by decide +kernel
theorem dX4_listSets_39 : decode cX4_listSets 39 = .ok (.iload_n 1, 1) := by decide +kernel
theorem dX4_listSets_40 : decode cX4_listSets 40 = .ok (.iaload, 1) := by decide +kernel
theorem dX4_listSets_41 : decode cX4_listSets 41 = .ok (.iconst (-1), 1) := by decide +kernel
theorem dX4_listSets_42 : decode cX4_listSets 42 = .ok (.ixor, 1) := by decide +kernel
theorem dX4_listSets_43 : decode cX4_listSets 43 = .ok (.iand, 1) := by decide +kernel
theorem dX4_listSets_44 : decode cX4_listSets 44 = .ok (.istore 5, 2) := by decide +kernel
theorem dX4_listSets_46 : decode cX4_listSets 46 = .ok (.iconst 0, 1) := by decide +kernel
theorem dX4_listSets_47 : decode cX4_listSets 47 = .ok (.istore 6, 2) := by decide +kernel
theorem dX4_listSets_49 : decode cX4_listSets 49 = .ok (.iload 6, 2) := by decide +kernel
theorem dX4_listSets_51 : decode cX4_listSets 51 = .ok (.aload_n 2, 1) := by decide +kernel
theorem dX4_listSets_52 : decode cX4_listSets 52 = .ok (.getfield 93, 3) := by decide +kernel
theorem dX4_listSets_55 : decode cX4_listSets 55 = .ok (.if_icmp .ge 146, 3) := by decide +kernel
theorem dX4_listSets_58 : decode cX4_listSets 58 = .ok (.iload 5, 2) := by decide +kernel
theorem dX4_listSets_60 : decode cX4_listSets 60 = .ok (.iload 6, 2) := by decide +kernel
theorem dX4_listSets_62 : decode cX4_listSets 62 = .ok (.ishr, 1) := by decide +kernel
theorem dX4_listSets_63 : decode cX4_listSets 63 = .ok (.iconst 1, 1) := by decide +kernel
theorem dX4_listSets_64 : decode cX4_listSets 64 = .ok (.iand, 1) := by decide +kernel
theorem dX4_listSets_65 : decode cX4_listSets 65 = .ok (.ifCond .eq 18, 3) := by decide +kernel
theorem dX4_listSets_68 : decode cX4_listSets 68 = .ok (.aload_n 2, 1) := by decide +kernel
theorem dX4_listSets_69 : decode cX4_listSets 69 = .ok (.getfield 138, 3) := by decide +kernel
theorem dX4_listSets_72 : decode cX4_listSets 72 = .ok (.iload 6, 2) := by decide +kernel
theorem dX4_listSets_74 : decode cX4_listSets 74 = .ok (.iaload, 1) := by decide +kernel
theorem dX4_listSets_75 : decode cX4_listSets 75 = .ok (.ifCond .le 8, 3) := by decide +kernel
theorem dX4_listSets_78 : decode cX4_listSets 78 = .ok (.iload 4, 2) := by decide +kernel
theorem dX4_listSets_80 : decode cX4_listSets 80 = .ok (.goto 4, 3) := by decide +kernel
theorem dX4_listSets_83 : decode cX4_listSets 83 = .ok (.iconst 0, 1) := by decide +kernel
theorem dX4_listSets_84 : decode cX4_listSets 84 = .ok (.istore 7, 2) := by decide +kernel
theorem dX4_listSets_86 : decode cX4_listSets 86 = .ok (.iconst 0, 1) := by decide +kernel
theorem dX4_listSets_87 : decode cX4_listSets 87 = .ok (.istore 8, 2) := by decide +kernel
theorem dX4_listSets_89 : decode cX4_listSets 89 = .ok (.iload 8, 2) := by decide +kernel
theorem dX4_listSets_91 : decode cX4_listSets 91 = .ok (.iload 7, 2) := by decide +kernel
theorem dX4_listSets_93 : decode cX4_listSets 93 = .ok (.if_icmp .ge 102, 3) := by decide +kernel
theorem dX4_listSets_96 : decode cX4_listSets 96 = .ok (.iload 4, 2) := by decide +kernel
theorem dX4_listSets_98 : decode cX4_listSets 98 = .ok (.sipush 1024, 3) := by decide +kernel
theorem dX4_listSets_101 : decode cX4_listSets 101 = .ok (.if_icmp .ge 94, 3) := by decide +kernel
theorem dX4_listSets_104 : decode cX4_listSets 104 = .ok (.aload_n 0, 1) := by decide +kernel
theorem dX4_listSets_105 : decode cX4_listSets 105 = .ok (.getfield 45, 3) := by decide +kernel
theorem dX4_listSets_108 : decode cX4_listSets 108 = .ok (.iload 8, 2) := by decide +kernel
theorem dX4_listSets_110 : decode cX4_listSets 110 = .ok (.iaload, 1) := by decide +kernel
theorem dX4_listSets_111 : decode cX4_listSets 111 = .ok (.aload_n 2, 1) := by decide +kernel
theorem dX4_listSets_112 : decode cX4_listSets 112 = .ok (.getfield 105, 3) := by decide +kernel
theorem dX4_listSets_115 : decode cX4_listSets 115 = .ok (.iload 6, 2) := by decide +kernel
theorem dX4_listSets_117 : decode cX4_listSets 117 = .ok (.iaload, 1) := by decide +kernel
theorem dX4_listSets_118 : decode cX4_listSets 118 = .ok (.iadd, 1) := by decide +kernel
theorem dX4_listSets_119 : decode cX4_listSets 119 = .ok (.iload_n 3, 1) := by decide +kernel
theorem dX4_listSets_120 : decode cX4_listSets 120 = .ok (.if_icmp .gt 69, 3) := by decide +kernel
theorem dX4_listSets_123 : decode cX4_listSets 123 = .ok (.aload_n 0, 1) := by decide +kernel
theorem dX4_listSets_124 : decode cX4_listSets 124 = .ok (.getfield 42, 3) := by decide +kernel
theorem dX4_listSets_127 : decode cX4_listSets 127 = .ok (.iload 4, 2) := by decide +kernel
theorem dX4_listSets_129 : decode cX4_listSets 129 = .ok (.aload_n 0, 1) := by decide +kernel
theorem dX4_listSets_130 : decode cX4_listSets 130 = .ok (.getfield 42, 3) := by decide +kernel
theorem dX4_listSets_133 : decode cX4_listSets 133 = .ok (.iload 8, 2) := by decide +kernel
theorem dX4_listSets_135 : decode cX4_listSets 135 = .ok (.iaload, 1) := by decide +kernel
theorem dX4_listSets_136 : decode cX4_listSets 136 = .ok (.iconst 1, 1) := by decide +kernel
theorem dX4_listSets_137 : decode cX4_listSets 137 = .ok (.iload 6, 2) := by decide +kernel
theorem dX4_listSets_139 : decode cX4_listSets 139 = .ok (.ishl, 1) := by decide +kernel
theorem dX4_listSets_140 : decode cX4_listSets 140 = .ok (.ior, 1) := by decide +kernel
theorem dX4_listSets_141 : decode cX4_listSets 141 = .ok (.iastore, 1) := by decide +kernel
theorem dX4_listSets_142 : decode cX4_listSets 142 = .ok (.aload_n 0, 1) := by decide +kernel
theorem dX4_listSets_143 : decode cX4_listSets 143 = .ok (.getfield 45, 3) := by decide +kernel
theorem dX4_listSets_146 : decode cX4_listSets 146 = .ok (.iload 4, 2) := by decide +kernel
theorem dX4_listSets_148 : decode cX4_listSets 148 = .ok (.aload_n 0, 1) := by decide +kernel
theorem dX4_listSets_149 : decode cX4_listSets 149 = .ok (.getfield 45, 3) := by decide +kernel
theorem dX4_listSets_152 : decode cX4_listSets 152 = .ok (.iload 8, 2) := by decide +kernel
theorem dX4_listSets_154 : decode cX4_listSets 154 = .ok (.iaload, 1) := by decide +kernel
theorem dX4_listSets_155 : decode cX4_listSets 155 = .ok (.aload_n 2, 1) := by decide +kernel
theorem dX4_listSets_156 : decode cX4_listSets 156 = .ok (.getfield 105, 3) := by decide +kernel
theorem dX4_listSets_159 : decode cX4_listSets 159 = .ok (.iload 6, 2) := by decide +kernel
theorem dX4_listSets_161 : decode cX4_listSets 161 = .ok (.iaload, 1) := by decide +kernel
theorem dX4_listSets_162 : decode cX4_listSets 162 = .ok (.iadd, 1) := by decide +kernel
theorem dX4_listSets_163 : decode cX4_listSets 163 = .ok (.iastore, 1) := by decide +kernel
theorem dX4_listSets_164 : decode cX4_listSets 164 = .ok (.aload_n 0, 1) := by decide +kernel
theorem dX4_listSets_165 : decode cX4_listSets 165 = .ok (.getfield 48, 3) := by decide +kernel
theorem dX4_listSets_168 : decode cX4_listSets 168 = .ok (.iload 4, 2) := by decide +kernel
theorem dX4_listSets_170 : decode cX4_listSets 170 = .ok (.aload_n 0, 1) := by decide +kernel
theorem dX4_listSets_171 : decode cX4_listSets 171 = .ok (.getfield 48, 3) := by decide +kernel
theorem dX4_listSets_174 : decode cX4_listSets 174 = .ok (.iload 8, 2) := by decide +kernel
theorem dX4_listSets_176 : decode cX4_listSets 176 = .ok (.iaload, 1) := by decide +kernel
theorem dX4_listSets_177 : decode cX4_listSets 177 = .ok (.aload_n 2, 1) := by decide +kernel
theorem dX4_listSets_178 : decode cX4_listSets 178 = .ok (.getfield 138, 3) := by decide +kernel
theorem dX4_listSets_181 : decode cX4_listSets 181 = .ok (.iload 6, 2) := by decide +kernel
theorem dX4_listSets_183 : decode cX4_listSets 183 = .ok (.iaload, 1) := by decide +kernel
theorem dX4_listSets_184 : decode cX4_listSets 184 = .ok (.iadd, 1) := by decide +kernel
theorem dX4_listSets_185 : decode cX4_listSets 185 = .ok (.iastore, 1) := by decide +kernel
theorem dX4_listSets_186 : decode cX4_listSets 186 = .ok (.iinc 4 1, 3) := by decide +kernel
theorem dX4_listSets_189 : decode cX4_listSets 189 = .ok (.iinc 8 1, 3) := by decide +kernel
theorem dX4_listSets_192 : decode cX4_listSets 192 = .ok (.goto (-103), 3) := by decide +kernel
theorem dX4_listSets_195 : decode cX4_listSets 195 = .ok (.iinc 6 1, 3) := by decide +kernel
theorem dX4_listSets_198 : decode cX4_listSets 198 = .ok (.goto (-149), 3) := by decide +kernel
theorem dX4_listSets_201 : decode cX4_listSets 201 = .ok (.iload 4, 2) := by decide +kernel
theorem dX4_listSets_203 : decode cX4_listSets 203 = .ok (.ireturn, 1) := by decide +kernel
theorem dX4_tally_0 : decode cX4_tally 0 = .ok (.iconst 0, 1) := by decide +kernel
theorem dX4_tally_1 : decode cX4_tally 1 = .ok (.istore 4, 2) := by decide +kernel
theorem dX4_tally_3 : decode cX4_tally 3 = .ok (.iload 4, 2) := by decide +kernel
theorem dX4_tally_5 : decode cX4_tally 5 = .ok (.aload_n 1, 1) := by decide +kernel
theorem dX4_tally_6 : decode cX4_tally 6 = .ok (.getfield 93, 3) := by decide +kernel
theorem dX4_tally_9 : decode cX4_tally 9 = .ok (.if_icmp .ge 55, 3) := by decide +kernel
theorem dX4_tally_12 : decode cX4_tally 12 = .ok (.aload_n 0, 1) := by decide +kernel
theorem dX4_tally_13 : decode cX4_tally 13 = .ok (.getfield 30, 3) := by decide +kernel
theorem dX4_tally_16 : decode cX4_tally 16 = .ok (.iload_n 3, 1) := by decide +kernel
theorem dX4_tally_17 : decode cX4_tally 17 = .ok (.iaload, 1) := by decide +kernel
theorem dX4_tally_18 : decode cX4_tally 18 = .ok (.iload 4, 2) := by decide +kernel
theorem dX4_tally_20 : decode cX4_tally 20 = .ok (.ishr, 1) := by decide +kernel
theorem dX4_tally_21 : decode cX4_tally 21 = .ok (.iconst 1, 1) := by decide +kernel
theorem dX4_tally_22 : decode cX4_tally 22 = .ok (.iand, 1) := by decide +kernel
theorem dX4_tally_23 : decode cX4_tally 23 = .ok (.ifCond .eq 35, 3) := by decide +kernel
theorem dX4_tally_26 : decode cX4_tally 26 = .ok (.aload_n 0, 1) := by decide +kernel
theorem dX4_tally_27 : decode cX4_tally 27 = .ok (.getfield 33, 3) := by decide +kernel
theorem dX4_tally_30 : decode cX4_tally 30 = .ok (.iload 4, 2) := by decide +kernel
theorem dX4_tally_32 : decode cX4_tally 32 = .ok (.dup2, 1) := by decide +kernel
theorem dX4_tally_33 : decode cX4_tally 33 = .ok (.iaload, 1) := by decide +kernel
theorem dX4_tally_34 : decode cX4_tally 34 = .ok (.iconst 1, 1) := by decide +kernel
theorem dX4_tally_35 : decode cX4_tally 35 = .ok (.isub, 1) := by decide +kernel
theorem dX4_tally_36 : decode cX4_tally 36 = .ok (.iastore, 1) := by decide +kernel
theorem dX4_tally_37 : decode cX4_tally 37 = .ok (.aload_n 0, 1) := by decide +kernel
theorem dX4_tally_38 : decode cX4_tally 38 = .ok (.dup, 1) := by decide +kernel
theorem dX4_tally_39 : decode cX4_tally 39 = .ok (.getfield 65, 3) := by decide +kernel
theorem dX4_tally_42 : decode cX4_tally 42 = .ok (.aload_n 2, 1) := by decide +kernel
theorem dX4_tally_43 : decode cX4_tally 43 = .ok (.getfield 98, 3) := by decide +kernel
theorem dX4_tally_46 : decode cX4_tally 46 = .ok (.iload_n 3, 1) := by decide +kernel
theorem dX4_tally_47 : decode cX4_tally 47 = .ok (.bipush 10, 2) := by decide +kernel
theorem dX4_tally_49 : decode cX4_tally 49 = .ok (.imul, 1) := by decide +kernel
theorem dX4_tally_50 : decode cX4_tally 50 = .ok (.iload 4, 2) := by decide +kernel
theorem dX4_tally_52 : decode cX4_tally 52 = .ok (.iadd, 1) := by decide +kernel
theorem dX4_tally_53 : decode cX4_tally 53 = .ok (.iaload, 1) := by decide +kernel
theorem dX4_tally_54 : decode cX4_tally 54 = .ok (.iadd, 1) := by decide +kernel
theorem dX4_tally_55 : decode cX4_tally 55 = .ok (.putfield 65, 3) := by decide +kernel
theorem dX4_tally_58 : decode cX4_tally 58 = .ok (.iinc 4 1, 3) := by decide +kernel
theorem dX4_tally_61 : decode cX4_tally 61 = .ok (.goto (-58), 3) := by decide +kernel
theorem dX4_tally_64 : decode cX4_tally 64 = .ok (.return_, 1) := by decide +kernel
theorem dX4_total_0 : decode cX4_total 0 = .ok (.iload_n 1, 1) := by decide +kernel
theorem dX4_total_1 : decode cX4_total 1 = .ok (.ifCond .ne 8, 3) := by decide +kernel
theorem dX4_total_4 : decode cX4_total 4 = .ok (.aload_n 0, 1) := by decide +kernel
theorem dX4_total_5 : decode cX4_total 5 = .ok (.getfield 65, 3) := by decide +kernel
theorem dX4_total_8 : decode cX4_total 8 = .ok (.ireturn, 1) := by decide +kernel
theorem dX4_total_9 : decode cX4_total 9 = .ok (.iconst 0, 1) := by decide +kernel
theorem dX4_total_10 : decode cX4_total 10 = .ok (.istore_n 2, 1) := by decide +kernel
theorem dX4_total_11 : decode cX4_total 11 = .ok (.iload_n 1, 1) := by decide +kernel
theorem dX4_total_12 : decode cX4_total 12 = .ok (.iconst 1, 1) := by decide +kernel
theorem dX4_total_13 : decode cX4_total 13 = .ok (.if_icmp .ne 44, 3) := by decide +kernel
theorem dX4_total_16 : decode cX4_total 16 = .ok (.iconst 0, 1) := by decide +kernel
theorem dX4_total_17 : decode cX4_total 17 = .ok (.istore_n 3, 1) := by decide +kernel
theorem dX4_total_18 : decode cX4_total 18 = .ok (.iload_n 3, 1) := by decide +kernel
theorem dX4_total_19 : decode cX4_total 19 = .ok (.aload_n 0, 1) := by decide +kernel
theorem dX4_total_20 : decode cX4_total 20 = .ok (.getfield 64, 3) := by decide +kernel
theorem dX4_total_23 : decode cX4_total 23 = .ok (.if_icmp .ge 32, 3) := by decide +kernel
theorem dX4_total_26 : decode cX4_total 26 = .ok (.iload_n 2, 1) := by decide +kernel
theorem dX4_total_27 : decode cX4_total 27 = .ok (.aload_n 0, 1) := by decide +kernel
theorem dX4_total_28 : decode cX4_total 28 = .ok (.getfield 27, 3) := by decide +kernel
theorem dX4_total_31 : decode cX4_total 31 = .ok (.iload_n 3, 1) := by decide +kernel
theorem dX4_total_32 : decode cX4_total 32 = .ok (.iaload, 1) := by decide +kernel
theorem dX4_total_33 : decode cX4_total 33 = .ok (.aload_n 0, 1) := by decide +kernel
theorem dX4_total_34 : decode cX4_total 34 = .ok (.getfield 21, 3) := by decide +kernel
theorem dX4_total_37 : decode cX4_total 37 = .ok (.iload_n 3, 1) := by decide +kernel
theorem dX4_total_38 : decode cX4_total 38 = .ok (.iaload, 1) := by decide +kernel
theorem dX4_total_39 : decode cX4_total 39 = .ok (.if_icmp .ne 7, 3) := by decide +kernel
theorem dX4_total_42 : decode cX4_total 42 = .ok (.iconst 1, 1) := by decide +kernel
theorem dX4_total_43 : decode cX4_total 43 = .ok (.goto 4, 3) := by decide +kernel
theorem dX4_total_46 : decode cX4_total 46 = .ok (.iconst 0, 1) := by decide +kernel
theorem dX4_total_47 : decode cX4_total 47 = .ok (.iadd, 1) := by decide +kernel
theorem dX4_total_48 : decode cX4_total 48 = .ok (.istore_n 2, 1) := by decide +kernel
theorem dX4_total_49 : decode cX4_total 49 = .ok (.iinc 3 1, 3) := by decide +kernel
theorem dX4_total_52 : decode cX4_total 52 = .ok (.goto (-34), 3) := by decide +kernel
theorem dX4_total_55 : decode cX4_total 55 = .ok (.iload_n 2, 1) := by decide +kernel
theorem dX4_total_56 : decode cX4_total 56 = .ok (.ireturn, 1) := by decide +kernel
theorem dX4_total_57 : decode cX4_total 57 = .ok (.iload_n 1, 1) := by decide +kernel
theorem dX4_total_58 : decode cX4_total 58 = .ok (.iconst 3, 1) := by decide +kernel
theorem dX4_total_59 : decode cX4_total 59 = .ok (.if_icmp .ne 28, 3) := by decide +kernel
theorem dX4_total_62 : decode cX4_total 62 = .ok (.iconst 0, 1) := by decide +kernel
theorem dX4_total_63 : decode cX4_total 63 = .ok (.istore_n 3, 1) := by decide +kernel
theorem dX4_total_64 : decode cX4_total 64 = .ok (.iload_n 3, 1) := by decide +kernel
theorem dX4_total_65 : decode cX4_total 65 = .ok (.bipush 10, 2) := by decide +kernel
theorem dX4_total_67 : decode cX4_total 67 = .ok (.if_icmp .ge 18, 3) := by decide +kernel
theorem dX4_total_70 : decode cX4_total 70 = .ok (.iload_n 2, 1) := by decide +kernel
theorem dX4_total_71 : decode cX4_total 71 = .ok (.aload_n 0, 1) := by decide +kernel
theorem dX4_total_72 : decode cX4_total 72 = .ok (.getfield 33, 3) := by decide +kernel
theorem dX4_total_75 : decode cX4_total 75 = .ok (.iload_n 3, 1) := by decide +kernel
theorem dX4_total_76 : decode cX4_total 76 = .ok (.iaload, 1) := by decide +kernel
theorem dX4_total_77 : decode cX4_total 77 = .ok (.iadd, 1) := by decide +kernel
theorem dX4_total_78 : decode cX4_total 78 = .ok (.istore_n 2, 1) := by decide +kernel
theorem dX4_total_79 : decode cX4_total 79 = .ok (.iinc 3 1, 3) := by decide +kernel
theorem dX4_total_82 : decode cX4_total 82 = .ok (.goto (-18), 3) := by decide +kernel
theorem dX4_total_85 : decode cX4_total 85 = .ok (.iload_n 2, 1) := by decide +kernel
theorem dX4_total_86 : decode cX4_total 86 = .ok (.ireturn, 1) := by decide +kernel
theorem dX4_total_87 : decode cX4_total 87 = .ok (.iload_n 1, 1) := by decide +kernel
theorem dX4_total_88 : decode cX4_total 88 = .ok (.iconst 2, 1) := by decide +kernel
theorem dX4_total_89 : decode cX4_total 89 = .ok (.if_icmp .ne 13, 3) := by decide +kernel
theorem dX4_total_92 : decode cX4_total 92 = .ok (.aload_n 0, 1) := by decide +kernel
theorem dX4_total_93 : decode cX4_total 93 = .ok (.iconst 0, 1) := by decide +kernel
theorem dX4_total_94 : decode cX4_total 94 = .ok (.bipush 17, 2) := by decide +kernel
theorem dX4_total_96 : decode cX4_total 96 = .ok (.invokevirtual 101, 3) := by decide +kernel
theorem dX4_total_99 : decode cX4_total 99 = .ok (.goto 4, 3) := by decide +kernel
theorem dX4_total_102 : decode cX4_total 102 = .ok (.iconst (-1), 1) := by decide +kernel
theorem dX4_total_103 : decode cX4_total 103 = .ok (.ireturn, 1) := by decide +kernel
theorem dX4_worthOf_0 : decode cX4_worthOf 0 = .ok (.iconst 0, 1) := by decide +kernel
theorem dX4_worthOf_1 : decode cX4_worthOf 1 = .ok (.istore_n 3, 1) := by decide +kernel
theorem dX4_worthOf_2 : decode cX4_worthOf 2 = .ok (.iconst 0, 1) := by decide +kernel
theorem dX4_worthOf_3 : decode cX4_worthOf 3 = .ok (.istore 4, 2) := by decide +kernel
theorem dX4_worthOf_5 : decode cX4_worthOf 5 = .ok (.iload 4, 2) := by decide +kernel
theorem dX4_worthOf_7 : decode cX4_worthOf 7 = .ok (.aload_n 2, 1) := by decide +kernel
theorem dX4_worthOf_8 : decode cX4_worthOf 8 = .ok (.getfield 93, 3) := by decide +kernel
theorem dX4_worthOf_11 : decode cX4_worthOf 11 = .ok (.if_icmp .ge 33, 3) := by decide +kernel
theorem dX4_worthOf_14 : decode cX4_worthOf 14 = .ok (.aload_n 0, 1) := by decide +kernel
theorem dX4_worthOf_15 : decode cX4_worthOf 15 = .ok (.getfield 30, 3) := by decide +kernel
theorem dX4_worthOf_18 : decode cX4_worthOf 18 = .ok (.iload_n 1, 1) := by decide +kernel
theorem dX4_worthOf_19 : decode cX4_worthOf 19 = .ok (.iaload, 1) := by decide +kernel
theorem dX4_worthOf_20 : decode cX4_worthOf 20 = .ok (.iload 4, 2) := by decide +kernel
theorem dX4_worthOf_22 : decode cX4_worthOf 22 = .ok (.ishr, 1) := by decide +kernel
theorem dX4_worthOf_23 : decode cX4_worthOf 23 = .ok (.iconst 1, 1) := by decide +kernel
theorem dX4_worthOf_24 : decode cX4_worthOf 24 = .ok (.iand, 1) := by decide +kernel
theorem dX4_worthOf_25 : decode cX4_worthOf 25 = .ok (.ifCond .eq 13, 3) := by decide +kernel
theorem dX4_worthOf_28 : decode cX4_worthOf 28 = .ok (.iload_n 3, 1) := by decide +kernel
theorem dX4_worthOf_29 : decode cX4_worthOf 29 = .ok (.aload_n 2, 1) := by decide +kernel
theorem dX4_worthOf_30 : decode cX4_worthOf 30 = .ok (.getfield 105, 3) := by decide +kernel
theorem dX4_worthOf_33 : decode cX4_worthOf 33 = .ok (.iload 4, 2) := by decide +kernel
theorem dX4_worthOf_35 : decode cX4_worthOf 35 = .ok (.iaload, 1) := by decide +kernel
theorem dX4_worthOf_36 : decode cX4_worthOf 36 = .ok (.iadd, 1) := by decide +kernel
theorem dX4_worthOf_37 : decode cX4_worthOf 37 = .ok (.istore_n 3, 1) := by decide +kernel
theorem dX4_worthOf_38 : decode cX4_worthOf 38 = .ok (.iinc 4 1, 3) := by decide +kernel
theorem dX4_worthOf_41 : decode cX4_worthOf 41 = .ok (.goto (-36), 3) := by decide +kernel
theorem dX4_worthOf_44 : decode cX4_worthOf 44 = .ok (.iload_n 3, 1) := by decide +kernel
theorem dX4_worthOf_45 : decode cX4_worthOf 45 = .ok (.ireturn, 1) := by decide +kernel
theorem dX5_bounded_0 : decode cX5_bounded 0 = .ok (.ldc2_w 139, 3) := by decide +kernel
theorem dX5_bounded_3 : decode cX5_bounded 3 = .ok (.ldc2_w 141, 3) := by decide +kernel
theorem dX5_bounded_6 : decode cX5_bounded 6 = .ok (.lload_n 0, 1) := by decide +kernel
theorem dX5_bounded_7 : decode cX5_bounded 7 = .ok (.invokestatic 143, 3) := by decide +kernel
theorem dX5_bounded_10 : decode cX5_bounded 10 = .ok (.invokestatic 146, 3) := by decide +kernel
theorem dX5_bounded_13 : decode cX5_bounded 13 = .ok (.l2i, 1) := by decide +kernel
theorem dX5_bounded_14 : decode cX5_bounded 14 = .ok (.ireturn, 1) := by decide +kernel
theorem dX5_chooseKinds_0 : decode cX5_chooseKinds 0 = .ok (.iconst 1, 1) := by decide +kernel
theorem dX5_chooseKinds_1 : decode cX5_chooseKinds 1 = .ok (.aload_n 1, 1) := by decide +kernel
theorem dX5_chooseKinds_2 : decode cX5_chooseKinds 2 = .ok (.getfield 35, 3) := by decide +kernel
theorem dX5_chooseKinds_5 : decode cX5_chooseKinds 5 = .ok (.ishl, 1) := by decide +kernel
theorem dX5_chooseKinds_6 : decode cX5_chooseKinds 6 = .ok (.iconst 1, 1) := by decide +kernel
theorem dX5_chooseKinds_7 : decode cX5_chooseKinds 7 = .ok (.isub, 1) := by decide +kernel
theorem dX5_chooseKinds_8 : decode cX5_chooseKinds 8 = .ok (.istore_n 2, 1) := by decide +kernel
theorem dX5_chooseKinds_9 : decode cX5_chooseKinds 9 = .ok (.iconst 0, 1) := by decide +kernel
theorem dX5_chooseKinds_10 : decode cX5_chooseKinds 10 = .ok (.istore_n 3, 1) := by decide +kernel
theorem dX5_chooseKinds_11 : decode cX5_chooseKinds 11 = .ok (.iload_n 3, 1) := by decide +kernel
theorem dX5_chooseKinds_12 : decode cX5_chooseKinds 12 = .ok (.aload_n 1, 1) := by decide +kernel
theorem dX5_chooseKinds_13 : decode cX5_chooseKinds 13 = .ok (.getfield 39, 3) := by decide +kernel
theorem dX5_chooseKinds_16 : decode cX5_chooseKinds 16 = .ok (.if_icmp .ge 33, 3) := by decide +kernel
theorem dX5_chooseKinds_19 : decode cX5_chooseKinds 19 = .ok (.aload_n 1, 1) := by decide +kernel
theorem dX5_chooseKinds_20 : decode cX5_chooseKinds 20 = .ok (.getfield 42, 3) := by decide +kernel
theorem dX5_chooseKinds_23 : decode cX5_chooseKinds 23 = .ok (.iload_n 3, 1) := by decide +kernel
theorem dX5_chooseKinds_24 : decode cX5_chooseKinds 24 = .ok (.aload_n 0, 1) := by decide +kernel
theorem dX5_chooseKinds_25 : decode cX5_chooseKinds 25 = .ok (.aload_n 1, 1) := by decide +kernel
theorem dX5_chooseKinds_26 : decode cX5_chooseKinds 26 = .ok (.aload_n 1, 1) := by decide +kernel
theorem dX5_chooseKinds_27 : decode cX5_chooseKinds 27 = .ok (.getfield 45, 3) := by decide +kernel
theorem dX5_chooseKinds_30 : decode cX5_chooseKinds 30 = .ok (.iload_n 3, 1) := by decide +kernel
theorem dX5_chooseKinds_31 : decode cX5_chooseKinds 31 = .ok (.iaload, 1) := by decide +kernel
theorem dX5_chooseKinds_32 : decode cX5_chooseKinds 32 = .ok (.aload_n 1, 1) := by decide +kernel
theorem dX5_chooseKinds_33 : decode cX5_chooseKinds 33 = .ok (.getfield 48, 3) := by decide +kernel
theorem dX5_chooseKinds_36 : decode cX5_chooseKinds 36 = .ok (.iload_n 3, 1) := by decide +kernel
theorem dX5_chooseKinds_37 : decode cX5_chooseKinds 37 = .ok (.iaload, 1) := by decide +kernel
theorem dX5_chooseKinds_38 : decode cX5_chooseKinds 38 = .ok (.iload_n 2, 1) := by decide +kernel
theorem dX5_chooseKinds_39 : decode cX5_chooseKinds 39 = .ok (.invokevirtual 51, 3) := by decide +kernel
theorem dX5_chooseKinds_42 : decode cX5_chooseKinds 42 = .ok (.iastore, 1) := by decide +kernel
theorem dX5_chooseKinds_43 : decode cX5_chooseKinds 43 = .ok (.iinc 3 1, 3) := by decide +kernel
theorem dX5_chooseKinds_46 : decode cX5_chooseKinds 46 = .ok (.goto (-35), 3) := by decide +kernel
theorem dX5_chooseKinds_49 : decode cX5_chooseKinds 49 = .ok (.return_, 1) := by decide +kernel
theorem dX5_gatherFacts_0 : decode cX5_gatherFacts 0 = .ok (.aload_n 0, 1) := by decide +kernel
theorem dX5_gatherFacts_1 : decode cX5_gatherFacts 1 = .ok (.getfield 24, 3) := by decide +kernel
theorem dX5_gatherFacts_4 : decode cX5_gatherFacts 4 = .ok (.iconst 0, 1) := by decide +kernel
theorem dX5_gatherFacts_5 : decode cX5_gatherFacts 5 = .ok (.aload_n 2, 1) := by decide +kernel
theorem dX5_gatherFacts_6 : decode cX5_gatherFacts 6 = .ok (.getfield 80, 3) := by decide +kernel
theorem dX5_gatherFacts_9 : decode cX5_gatherFacts 9 = .ok (.iload_n 3, 1) := by decide +kernel
theorem dX5_gatherFacts_10 : decode cX5_gatherFacts 10 = .ok (.iaload, 1) := by decide +kernel
theorem dX5_gatherFacts_11 : decode cX5_gatherFacts 11 = .ok (.iastore, 1) := by decide +kernel
theorem dX5_gatherFacts_12 : decode cX5_gatherFacts 12 = .ok (.aload_n 0, 1) := by decide +kernel
theorem dX5_gatherFacts_13 : decode cX5_gatherFacts 13 = .ok (.getfield 24, 3) := by decide +kernel
theorem dX5_gatherFacts_16 : decode cX5_gatherFacts 16 = .ok (.iconst 1, 1) := by decide +kernel
theorem dX5_gatherFacts_17 : decode cX5_gatherFacts 17 = .ok (.aload_n 2, 1) := by decide +kernel
theorem dX5_gatherFacts_18 : decode cX5_gatherFacts 18 = .ok (.getfield 83, 3) := by decide +kernel
theorem dX5_gatherFacts_21 : decode cX5_gatherFacts 21 = .ok (.iload_n 3, 1) := by decide +kernel
theorem dX5_gatherFacts_22 : decode cX5_gatherFacts 22 = .ok (.iaload, 1) := by decide +kernel
theorem dX5_gatherFacts_23 : decode cX5_gatherFacts 23 = .ok (.aload_n 2, 1) := by decide +kernel
theorem dX5_gatherFacts_24 : decode cX5_gatherFacts 24 = .ok (.getfield 86, 3) := by decide +kernel
theorem dX5_gatherFacts_27 : decode cX5_gatherFacts 27 = .ok (.iload_n 3, 1) := by decide +kernel
theorem dX5_gatherFacts_28 : decode cX5_gatherFacts 28 = .ok (.iaload, 1) := by decide +kernel
theorem dX5_gatherFacts_29 : decode cX5_gatherFacts 29 = .ok (.isub, 1) := by decide +kernel
theorem dX5_gatherFacts_30 : decode cX5_gatherFacts 30 = .ok (.iastore, 1) := by decide +kernel
theorem dX5_gatherFacts_31 : decode cX5_gatherFacts 31 = .ok (.aload_n 0, 1) := by decide +kernel
theorem dX5_gatherFacts_32 : decode cX5_gatherFacts 32 = .ok (.getfield 24, 3) := by decide +kernel
theorem dX5_gatherFacts_35 : decode cX5_gatherFacts 35 = .ok (.iconst 2, 1) := by decide +kernel
theorem dX5_gatherFacts_36 : decode cX5_gatherFacts 36 = .ok (.aload_n 2, 1) := by decide +kernel
theorem dX5_gatherFacts_37 : decode cX5_gatherFacts 37 = .ok (.getfield 89, 3) := by decide +kernel
theorem dX5_gatherFacts_40 : decode cX5_gatherFacts 40 = .ok (.iload_n 3, 1) := by decide +kernel
theorem dX5_gatherFacts_41 : decode cX5_gatherFacts 41 = .ok (.iaload, 1) := by decide +kernel
theorem dX5_gatherFacts_42 : decode cX5_gatherFacts 42 = .ok (.iastore, 1) := by decide +kernel
theorem dX5_gatherFacts_43 : decode cX5_gatherFacts 43 = .ok (.aload_n 0, 1) := by decide +kernel
theorem dX5_gatherFacts_44 : decode cX5_gatherFacts 44 = .ok (.getfield 24, 3) := by decide +kernel
theorem dX5_gatherFacts_47 : decode cX5_gatherFacts 47 = .ok (.iconst 3, 1) := by decide +kernel
theorem dX5_gatherFacts_48 : decode cX5_gatherFacts 48 = .ok (.aload_n 2, 1) := by decide +kernel
theorem dX5_gatherFacts_49 : decode cX5_gatherFacts 49 = .ok (.iload_n 3, 1) := by decide +kernel
theorem dX5_gatherFacts_50 : decode cX5_gatherFacts 50 = .ok (.invokevirtual 92, 3) := by decide +kernel
theorem dX5_gatherFacts_53 : decode cX5_gatherFacts 53 = .ok (.iastore, 1) := by decide +kernel
theorem dX5_gatherFacts_54 : decode cX5_gatherFacts 54 = .ok (.aload_n 0, 1) := by decide +kernel
theorem dX5_gatherFacts_55 : decode cX5_gatherFacts 55 = .ok (.getfield 24, 3) := by decide +kernel
theorem dX5_gatherFacts_58 : decode cX5_gatherFacts 58 = .ok (.iconst 4, 1) := by decide +kernel
theorem dX5_gatherFacts_59 : decode cX5_gatherFacts 59 = .ok (.aload_n 2, 1) := by decide +kernel
theorem dX5_gatherFacts_60 : decode cX5_gatherFacts 60 = .ok (.getfield 96, 3) := by decide +kernel
theorem dX5_gatherFacts_63 : decode cX5_gatherFacts 63 = .ok (.iload_n 3, 1) := by decide +kernel
theorem dX5_gatherFacts_64 : decode cX5_gatherFacts 64 = .ok (.iaload, 1) := by decide +kernel
theorem dX5_gatherFacts_65 : decode cX5_gatherFacts 65 = .ok (.iastore, 1) := by decide +kernel
theorem dX5_gatherFacts_66 : decode cX5_gatherFacts 66 = .ok (.iconst 0, 1) := by decide +kernel
theorem dX5_gatherFacts_67 : decode cX5_gatherFacts 67 = .ok (.istore 4, 2) := by decide +kernel
theorem dX5_gatherFacts_69 : decode cX5_gatherFacts 69 = .ok (.iload 4, 2) := by decide +kernel
theorem dX5_gatherFacts_71 : decode cX5_gatherFacts 71 = .ok (.aload_n 1, 1) := by decide +kernel
theorem dX5_gatherFacts_72 : decode cX5_gatherFacts 72 = .ok (.getfield 99, 3) := by decide +kernel
theorem dX5_gatherFacts_75 : decode cX5_gatherFacts 75 = .ok (.if_icmp .ge 36, 3) := by decide +kernel
theorem dX5_gatherFacts_78 : decode cX5_gatherFacts 78 = .ok (.aload_n 0, 1) := by decide +kernel
theorem dX5_gatherFacts_79 : decode cX5_gatherFacts 79 = .ok (.getfield 29, 3) := by decide +kernel
theorem dX5_gatherFacts_82 : decode cX5_gatherFacts 82 = .ok (.iload 4, 2) := by decide +kernel
theorem dX5_gatherFacts_84 : decode cX5_gatherFacts 84 = .ok (.aload_n 2, 1) := by decide +kernel
theorem dX5_gatherFacts_85 : decode cX5_gatherFacts 85 = .ok (.iload_n 3, 1) := by decide +kernel
theorem dX5_gatherFacts_86 : decode cX5_gatherFacts 86 = .ok (.aload_n 1, 1) := by decide +kernel
theorem dX5_gatherFacts_87 : decode cX5_gatherFacts 87 = .ok (.getfield 102, 3) := by decide +kernel
theorem dX5_gatherFacts_90 : decode cX5_gatherFacts 90 = .ok (.iload 4, 2) := by decide +kernel
theorem dX5_gatherFacts_92 : decode cX5_gatherFacts 92 = .ok (.laload, 1) := by decide +kernel
theorem dX5_gatherFacts_93 : decode cX5_gatherFacts 93 = .ok (.invokevirtual 106, 3) := by decide +kernel
theorem dX5_gatherFacts_96 : decode cX5_gatherFacts 96 = .ok (.ifCond .eq 7, 3) := by decide +kernel
theorem dX5_gatherFacts_99 : decode cX5_gatherFacts 99 = .ok (.iconst 1, 1) := by decide +kernel
theorem dX5_gatherFacts_100 : decode cX5_gatherFacts 100 = .ok (.goto 4, 3) := by decide +kernel
theorem dX5_gatherFacts_103 : decode cX5_gatherFacts 103 = .ok (.iconst 0, 1) := by decide +kernel
theorem dX5_gatherFacts_104 : decode cX5_gatherFacts 104 = .ok (.iastore, 1) := by decide +kernel
theorem dX5_gatherFacts_105 : decode cX5_gatherFacts 105 = .ok (.iinc 4 1, 3) := by decide +kernel
theorem dX5_gatherFacts_108 : decode cX5_gatherFacts 108 = .ok (.goto (-39), 3) := by decide +kernel
theorem dX5_gatherFacts_111 : decode cX5_gatherFacts 111 = .ok (.return_, 1) := by decide +kernel
theorem dX5_init_0 : decode cX5_init 0 = .ok (.aload_n 0, 1) := by decide +kernel
theorem dX5_init_1 : decode cX5_init 1 = .ok (.invokespecial 3, 3) := by decide +kernel
theorem dX5_init_4 : decode cX5_init 4 = .ok (.aload_n 0, 1) := by decide +kernel
theorem dX5_init_5 : decode cX5_init 5 = .ok (.bipush 40, 2) := by decide +kernel
theorem dX5_init_7 : decode cX5_init 7 = .ok (.newarray .int, 2) := by decide +kernel
theorem dX5_init_9 : decode cX5_init 9 = .ok (.putfield 9, 3) := by decide +kernel
theorem dX5_init_12 : decode cX5_init 12 = .ok (.aload_n 0, 1) := by decide +kernel
theorem dX5_init_13 : decode cX5_init 13 = .ok (.bipush 40, 2) := by decide +kernel
theorem dX5_init_15 : decode cX5_init 15 = .ok (.newarray .int, 2) := by decide +kernel
theorem dX5_init_17 : decode cX5_init 17 = .ok (.putfield 15, 3) := by decide +kernel
theorem dX5_init_20 : decode cX5_init 20 = .ok (.aload_n 0, 1) := by decide +kernel
theorem dX5_init_21 : decode cX5_init 21 = .ok (.sipush 400, 3) := by decide +kernel
theorem dX5_init_24 : decode cX5_init 24 = .ok (.newarray .int, 2) := by decide +kernel
theorem dX5_init_26 : decode cX5_init 26 = .ok (.putfield 18, 3) := by decide +kernel
theorem dX5_init_29 : decode cX5_init 29 = .ok (.aload_n 0, 1) := by decide +kernel
theorem dX5_init_30 : decode cX5_init 30 = .ok (.bipush 40, 2) := by decide +kernel
theorem dX5_init_32 : decode cX5_init 32 = .ok (.newarray .int, 2) := by decide +kernel
theorem dX5_init_34 : decode cX5_init 34 = .ok (.putfield 21, 3) := by decide +kernel
theorem dX5_init_37 : decode cX5_init 37 = .ok (.aload_n 0, 1) := by decide +kernel
theorem dX5_init_38 : decode cX5_init 38 = .ok (.iconst 5, 1) := by decide +kernel
theorem dX5_init_39 : decode cX5_init 39 = .ok (.newarray .int, 2) := by decide +kernel
theorem dX5_init_41 : decode cX5_init 41 = .ok (.putfield 24, 3) := by decide +kernel
theorem dX5_init_44 : decode cX5_init 44 = .ok (.aload_n 0, 1) := by decide +kernel
theorem dX5_init_45 : decode cX5_init 45 = .ok (.sipush 200, 3) := by decide +kernel
theorem dX5_init_48 : decode cX5_init 48 = .ok (.newarray .int, 2) := by decide +kernel
theorem dX5_init_50 : decode cX5_init 50 = .ok (.putfield 29, 3) := by decide +kernel
theorem dX5_init_53 : decode cX5_init 53 = .ok (.aload_n 0, 1) := by decide +kernel
theorem dX5_init_54 : decode cX5_init 54 = .ok (.bipush 64, 2) := by decide +kernel
theorem dX5_init_56 : decode cX5_init 56 = .ok (.newarray .int, 2) := by decide +kernel
theorem dX5_init_58 : decode cX5_init 58 = .ok (.putfield 32, 3) := by decide +kernel
theorem dX5_init_61 : decode cX5_init 61 = .ok (.return_, 1) := by decide +kernel
theorem dX5_joined_0 : decode cX5_joined 0 = .ok (.iload_n 0, 1) := by decide +kernel
theorem dX5_joined_1 : decode cX5_joined 1 = .ok (.tableswitch 100 8 14 #[43, 47, 51, 62, 73, 84, 92], 43) := by decide +kernel
theorem dX5_joined_44 : decode cX5_joined 44 = .ok (.iload_n 1, 1) := by decide +kernel
theorem dX5_joined_45 : decode cX5_joined 45 = .ok (.iload_n 2, 1) := by decide +kernel
theorem dX5_joined_46 : decode cX5_joined 46 = .ok (.iand, 1) := by decide +kernel
theorem dX5_joined_47 : decode cX5_joined 47 = .ok (.ireturn, 1) := by decide +kernel
theorem dX5_joined_48 : decode cX5_joined 48 = .ok (.iload_n 1, 1) := by decide +kernel
theorem dX5_joined_49 : decode cX5_joined 49 = .ok (.iload_n 2, 1) := by decide +kernel
theorem dX5_joined_50 : decode cX5_joined 50 = .ok (.ior, 1) := by decide +kernel
theorem dX5_joined_51 : decode cX5_joined 51 = .ok (.ireturn, 1) := by decide +kernel
theorem dX5_joined_52 : decode cX5_joined 52 = .ok (.iload_n 1, 1) := by decide +kernel
theorem dX5_joined_53 : decode cX5_joined 53 = .ok (.iload_n 2, 1) := by decide +kernel
theorem dX5_joined_54 : decode cX5_joined 54 = .ok (.if_icmp .ge 7, 3) := by decide +kernel
theorem dX5_joined_57 : decode cX5_joined 57 = .ok (.iconst 1, 1) := by decide +kernel
theorem dX5_joined_58 : decode cX5_joined 58 = .ok (.goto 4, 3) := by decide +kernel
theorem dX5_joined_61 : decode cX5_joined 61 = .ok (.iconst 0, 1) := by decide +kernel
theorem dX5_joined_62 : decode cX5_joined 62 = .ok (.ireturn, 1) := by decide +kernel
theorem dX5_joined_63 : decode cX5_joined 63 = .ok (.iload_n 1, 1) := by decide +kernel
theorem dX5_joined_64 : decode cX5_joined 64 = .ok (.iload_n 2, 1) := by decide +kernel
theorem dX5_joined_65 : decode cX5_joined 65 = .ok (.if_icmp .le 7, 3) := by decide +kernel
theorem dX5_joined_68 : decode cX5_joined 68 = .ok (.iconst 1, 1) := by decide +kernel
theorem dX5_joined_69 : decode cX5_joined 69 = .ok (.goto 4, 3) := by decide +kernel
theorem dX5_joined_72 : decode cX5_joined 72 = .ok (.iconst 0, 1) := by decide +kernel
theorem dX5_joined_73 : decode cX5_joined 73 = .ok (.ireturn, 1) := by decide +kernel
theorem dX5_joined_74 : decode cX5_joined 74 = .ok (.iload_n 1, 1) := by decide +kernel
theorem dX5_joined_75 : decode cX5_joined 75 = .ok (.iload_n 2, 1) := by decide +kernel
theorem dX5_joined_76 : decode cX5_joined 76 = .ok (.if_icmp .ne 7, 3) := by decide +kernel
theorem dX5_joined_79 : decode cX5_joined 79 = .ok (.iconst 1, 1) := by decide +kernel
theorem dX5_joined_80 : decode cX5_joined 80 = .ok (.goto 4, 3) := by decide +kernel
theorem dX5_joined_83 : decode cX5_joined 83 = .ok (.iconst 0, 1) := by decide +kernel
theorem dX5_joined_84 : decode cX5_joined 84 = .ok (.ireturn, 1) := by decide +kernel
theorem dX5_joined_85 : decode cX5_joined 85 = .ok (.iload_n 1, 1) := by decide +kernel
theorem dX5_joined_86 : decode cX5_joined 86 = .ok (.iload_n 2, 1) := by decide +kernel
theorem dX5_joined_87 : decode cX5_joined 87 = .ok (.iadd, 1) := by decide +kernel
theorem dX5_joined_88 : decode cX5_joined 88 = .ok (.i2l, 1) := by decide +kernel
theorem dX5_joined_89 : decode cX5_joined 89 = .ok (.invokestatic 135, 3) := by decide +kernel
theorem dX5_joined_92 : decode cX5_joined 92 = .ok (.ireturn, 1) := by decide +kernel
theorem dX5_joined_93 : decode cX5_joined 93 = .ok (.iload_n 1, 1) := by decide +kernel
theorem dX5_joined_94 : decode cX5_joined 94 = .ok (.iload_n 2, 1) := by decide +kernel
theorem dX5_joined_95 : decode cX5_joined 95 = .ok (.isub, 1) := by decide +kernel
theorem dX5_joined_96 : decode cX5_joined 96 = .ok (.i2l, 1) := by decide +kernel
theorem dX5_joined_97 : decode cX5_joined 97 = .ok (.invokestatic 135, 3) := by decide +kernel
theorem dX5_joined_100 : decode cX5_joined 100 = .ok (.ireturn, 1) := by decide +kernel
theorem dX5_joined_101 : decode cX5_joined 101 = .ok (.iload_n 1, 1) := by decide +kernel
theorem dX5_joined_102 : decode cX5_joined 102 = .ok (.i2l, 1) := by decide +kernel
theorem dX5_joined_103 : decode cX5_joined 103 = .ok (.iload_n 2, 1) := by decide +kernel
theorem dX5_joined_104 : decode cX5_joined 104 = .ok (.i2l, 1) := by decide +kernel
theorem dX5_joined_105 : decode cX5_joined 105 = .ok (.lmul, 1) := by decide +kernel
theorem dX5_joined_106 : decode cX5_joined 106 = .ok (.invokestatic 135, 3) := by decide +kernel
theorem dX5_joined_109 : decode cX5_joined 109 = .ok (.ireturn, 1) := by decide +kernel
theorem dX5_leaf_0 : decode cX5_leaf 0 = .ok (.iload_n 2, 1) := by decide +kernel
theorem dX5_leaf_1 : decode cX5_leaf 1 = .ok (.tableswitch 63 2 6 #[35, 42, 45, 52, 56], 35) := by decide +kernel
theorem dX5_leaf_36 : decode cX5_leaf 36 = .ok (.aload_n 0, 1) := by decide +kernel
theorem dX5_leaf_37 : decode cX5_leaf 37 = .ok (.getfield 24, 3) := by decide +kernel
theorem dX5_leaf_40 : decode cX5_leaf 40 = .ok (.iload_n 3, 1) := by decide +kernel
theorem dX5_leaf_41 : decode cX5_leaf 41 = .ok (.iaload, 1) := by decide +kernel
theorem dX5_leaf_42 : decode cX5_leaf 42 = .ok (.ireturn, 1) := by decide +kernel
theorem dX5_leaf_43 : decode cX5_leaf 43 = .ok (.iload 4, 2) := by decide +kernel
theorem dX5_leaf_45 : decode cX5_leaf 45 = .ok (.ireturn, 1) := by decide +kernel
theorem dX5_leaf_46 : decode cX5_leaf 46 = .ok (.aload_n 0, 1) := by decide +kernel
theorem dX5_leaf_47 : decode cX5_leaf 47 = .ok (.getfield 29, 3) := by decide +kernel
theorem dX5_leaf_50 : decode cX5_leaf 50 = .ok (.iload_n 3, 1) := by decide +kernel
theorem dX5_leaf_51 : decode cX5_leaf 51 = .ok (.iaload, 1) := by decide +kernel
theorem dX5_leaf_52 : decode cX5_leaf 52 = .ok (.ireturn, 1) := by decide +kernel
theorem dX5_leaf_53 : decode cX5_leaf 53 = .ok (.iconst 1, 1) := by decide +kernel
theorem dX5_leaf_54 : decode cX5_leaf 54 = .ok (.iload_n 3, 1) := by decide +kernel
theorem dX5_leaf_55 : decode cX5_leaf 55 = .ok (.ishl, 1) := by decide +kernel
theorem dX5_leaf_56 : decode cX5_leaf 56 = .ok (.ireturn, 1) := by decide +kernel
theorem dX5_leaf_57 : decode cX5_leaf 57 = .ok (.aload_n 1, 1) := by decide +kernel
theorem dX5_leaf_58 : decode cX5_leaf 58 = .ok (.getfield 132, 3) := by decide +kernel
theorem dX5_leaf_61 : decode cX5_leaf 61 = .ok (.iload_n 3, 1) := by decide +kernel
theorem dX5_leaf_62 : decode cX5_leaf 62 = .ok (.iaload, 1) := by decide +kernel
theorem dX5_leaf_63 : decode cX5_leaf 63 = .ok (.ireturn, 1) := by decide +kernel
theorem dX5_leaf_64 : decode cX5_leaf 64 = .ok (.iload_n 3, 1) := by decide +kernel
theorem dX5_leaf_65 : decode cX5_leaf 65 = .ok (.ireturn, 1) := by decide +kernel
theorem dX5_obey_0 : decode cX5_obey 0 = .ok (.aload_n 1, 1) := by decide +kernel
theorem dX5_obey_1 : decode cX5_obey 1 = .ok (.getfield 70, 3) := by decide +kernel
theorem dX5_obey_4 : decode cX5_obey 4 = .ok (.iload_n 2, 1) := by decide +kernel
theorem dX5_obey_5 : decode cX5_obey 5 = .ok (.iaload, 1) := by decide +kernel
theorem dX5_obey_6 : decode cX5_obey 6 = .ok (.bipush 6, 2) := by decide +kernel
theorem dX5_obey_8 : decode cX5_obey 8 = .ok (.if_icmp .ne 21, 3) := by decide +kernel
theorem dX5_obey_11 : decode cX5_obey 11 = .ok (.aload_n 0, 1) := by decide +kernel
theorem dX5_obey_12 : decode cX5_obey 12 = .ok (.getfield 15, 3) := by decide +kernel
theorem dX5_obey_15 : decode cX5_obey 15 = .ok (.iload_n 3, 1) := by decide +kernel
theorem dX5_obey_16 : decode cX5_obey 16 = .ok (.dup2, 1) := by decide +kernel
theorem dX5_obey_17 : decode cX5_obey 17 = .ok (.iaload, 1) := by decide +kernel
theorem dX5_obey_18 : decode cX5_obey 18 = .ok (.aload_n 1, 1) := by decide +kernel
theorem dX5_obey_19 : decode cX5_obey 19 = .ok (.getfield 42, 3) := by decide +kernel
theorem dX5_obey_22 : decode cX5_obey 22 = .ok (.iload_n 2, 1) := by decide +kernel
theorem dX5_obey_23 : decode cX5_obey 23 = .ok (.iaload, 1) := by decide +kernel
theorem dX5_obey_24 : decode cX5_obey 24 = .ok (.iconst (-1), 1) := by decide +kernel
theorem dX5_obey_25 : decode cX5_obey 25 = .ok (.ixor, 1) := by decide +kernel
theorem dX5_obey_26 : decode cX5_obey 26 = .ok (.iand, 1) := by decide +kernel
theorem dX5_obey_27 : decode cX5_obey 27 = .ok (.iastore, 1) := by decide +kernel
theorem dX5_obey_28 : decode cX5_obey 28 = .ok (.return_, 1) := by decide +kernel
theorem dX5_obey_29 : decode cX5_obey 29 = .ok (.aload_n 0, 1) := by decide +kernel
theorem dX5_obey_30 : decode cX5_obey 30 = .ok (.aload_n 1, 1) := by decide +kernel
theorem dX5_obey_31 : decode cX5_obey 31 = .ok (.aload_n 1, 1) := by decide +kernel
theorem dX5_obey_32 : decode cX5_obey 32 = .ok (.getfield 110, 3) := by decide +kernel
theorem dX5_obey_35 : decode cX5_obey 35 = .ok (.iload_n 2, 1) := by decide +kernel
theorem dX5_obey_36 : decode cX5_obey 36 = .ok (.iaload, 1) := by decide +kernel
theorem dX5_obey_37 : decode cX5_obey 37 = .ok (.aload_n 1, 1) := by decide +kernel
theorem dX5_obey_38 : decode cX5_obey 38 = .ok (.getfield 45, 3) := by decide +kernel
theorem dX5_obey_41 : decode cX5_obey 41 = .ok (.iload_n 2, 1) := by decide +kernel
theorem dX5_obey_42 : decode cX5_obey 42 = .ok (.iaload, 1) := by decide +kernel
theorem dX5_obey_43 : decode cX5_obey 43 = .ok (.iconst 1, 1) := by decide +kernel
theorem dX5_obey_44 : decode cX5_obey 44 = .ok (.invokevirtual 51, 3) := by decide +kernel
theorem dX5_obey_47 : decode cX5_obey 47 = .ok (.istore 4, 2) := by decide +kernel
theorem dX5_obey_49 : decode cX5_obey 49 = .ok (.aload_n 1, 1) := by decide +kernel
theorem dX5_obey_50 : decode cX5_obey 50 = .ok (.getfield 70, 3) := by decide +kernel
theorem dX5_obey_53 : decode cX5_obey 53 = .ok (.iload_n 2, 1) := by decide +kernel
theorem dX5_obey_54 : decode cX5_obey 54 = .ok (.iaload, 1) := by decide +kernel
theorem dX5_obey_55 : decode cX5_obey 55 = .ok (.bipush 10, 2) := by decide +kernel
theorem dX5_obey_57 : decode cX5_obey 57 = .ok (.if_icmp .ne 20, 3) := by decide +kernel
theorem dX5_obey_60 : decode cX5_obey 60 = .ok (.aload_n 0, 1) := by decide +kernel
theorem dX5_obey_61 : decode cX5_obey 61 = .ok (.getfield 9, 3) := by decide +kernel
theorem dX5_obey_64 : decode cX5_obey 64 = .ok (.iload_n 3, 1) := by decide +kernel
theorem dX5_obey_65 : decode cX5_obey 65 = .ok (.iconst 0, 1) := by decide +kernel
theorem dX5_obey_66 : decode cX5_obey 66 = .ok (.iconst 3, 1) := by decide +kernel
theorem dX5_obey_67 : decode cX5_obey 67 = .ok (.iload 4, 2) := by decide +kernel
theorem dX5_obey_69 : decode cX5_obey 69 = .ok (.invokestatic 113, 3) := by decide +kernel
theorem dX5_obey_72 : decode cX5_obey 72 = .ok (.invokestatic 119, 3) := by decide +kernel
theorem dX5_obey_75 : decode cX5_obey 75 = .ok (.iastore, 1) := by decide +kernel
theorem dX5_obey_76 : decode cX5_obey 76 = .ok (.return_, 1) := by decide +kernel
theorem dX5_obey_77 : decode cX5_obey 77 = .ok (.iconst 0, 1) := by decide +kernel
theorem dX5_obey_78 : decode cX5_obey 78 = .ok (.istore 5, 2) := by decide +kernel
theorem dX5_obey_80 : decode cX5_obey 80 = .ok (.iload 5, 2) := by decide +kernel
theorem dX5_obey_82 : decode cX5_obey 82 = .ok (.aload_n 1, 1) := by decide +kernel
theorem dX5_obey_83 : decode cX5_obey 83 = .ok (.getfield 35, 3) := by decide +kernel
theorem dX5_obey_86 : decode cX5_obey 86 = .ok (.if_icmp .ge 40, 3) := by decide +kernel
theorem dX5_obey_89 : decode cX5_obey 89 = .ok (.aload_n 1, 1) := by decide +kernel
theorem dX5_obey_90 : decode cX5_obey 90 = .ok (.getfield 42, 3) := by decide +kernel
theorem dX5_obey_93 : decode cX5_obey 93 = .ok (.iload_n 2, 1) := by decide +kernel
theorem dX5_obey_94 : decode cX5_obey 94 = .ok (.iaload, 1) := by decide +kernel
theorem dX5_obey_95 : decode cX5_obey 95 = .ok (.iload 5, 2) := by decide +kernel
theorem dX5_obey_97 : decode cX5_obey 97 = .ok (.ishr, 1) := by decide +kernel
theorem dX5_obey_98 : decode cX5_obey 98 = .ok (.iconst 1, 1) := by decide +kernel
theorem dX5_obey_99 : decode cX5_obey 99 = .ok (.iand, 1) := by decide +kernel
theorem dX5_obey_100 : decode cX5_obey 100 = .ok (.ifCond .eq 20, 3) := by decide +kernel
theorem dX5_obey_103 : decode cX5_obey 103 = .ok (.aload_n 0, 1) := by decide +kernel
theorem dX5_obey_104 : decode cX5_obey 104 = .ok (.getfield 18, 3) := by decide +kernel
theorem dX5_obey_107 : decode cX5_obey 107 = .ok (.iload_n 3, 1) := by decide +kernel
theorem dX5_obey_108 : decode cX5_obey 108 = .ok (.bipush 10, 2) := by decide +kernel
theorem dX5_obey_110 : decode cX5_obey 110 = .ok (.imul, 1) := by decide +kernel
theorem dX5_obey_111 : decode cX5_obey 111 = .ok (.iload 5, 2) := by decide +kernel
theorem dX5_obey_113 : decode cX5_obey 113 = .ok (.iadd, 1) := by decide +kernel
theorem dX5_obey_114 : decode cX5_obey 114 = .ok (.dup2, 1) := by decide +kernel
theorem dX5_obey_115 : decode cX5_obey 115 = .ok (.iaload, 1) := by decide +kernel
theorem dX5_obey_116 : decode cX5_obey 116 = .ok (.iload 4, 2) := by decide +kernel
theorem dX5_obey_118 : decode cX5_obey 118 = .ok (.iadd, 1) := by decide +kernel
theorem dX5_obey_119 : decode cX5_obey 119 = .ok (.iastore, 1) := by decide +kernel
theorem dX5_obey_120 : decode cX5_obey 120 = .ok (.iinc 5 1, 3) := by decide +kernel
theorem dX5_obey_123 : decode cX5_obey 123 = .ok (.goto (-43), 3) := by decide +kernel
theorem dX5_obey_126 : decode cX5_obey 126 = .ok (.return_, 1) := by decide +kernel
theorem dX5_value_0 : decode cX5_value 0 = .ok (.iconst 0, 1) := by decide +kernel
theorem dX5_value_1 : decode cX5_value 1 = .ok (.istore 5, 2) := by decide +kernel
theorem dX5_value_3 : decode cX5_value 3 = .ok (.iload_n 2, 1) := by decide +kernel
theorem dX5_value_4 : decode cX5_value 4 = .ok (.istore 6, 2) := by decide +kernel
theorem dX5_value_6 : decode cX5_value 6 = .ok (.iload 6, 2) := by decide +kernel
theorem dX5_value_8 : decode cX5_value 8 = .ok (.iload_n 3, 1) := by decide +kernel
theorem dX5_value_9 : decode cX5_value 9 = .ok (.if_icmp .ge 134, 3) := by decide +kernel
theorem dX5_value_12 : decode cX5_value 12 = .ok (.aload_n 1, 1) := by decide +kernel
theorem dX5_value_13 : decode cX5_value 13 = .ok (.getfield 122, 3) := by decide +kernel
theorem dX5_value_16 : decode cX5_value 16 = .ok (.iload 6, 2) := by decide +kernel
theorem dX5_value_18 : decode cX5_value 18 = .ok (.iaload, 1) := by decide +kernel
theorem dX5_value_19 : decode cX5_value 19 = .ok (.bipush 15, 2) := by decide +kernel
theorem dX5_value_21 : decode cX5_value 21 = .ok (.iand, 1) := by decide +kernel
theorem dX5_value_22 : decode cX5_value 22 = .ok (.istore 7, 2) := by decide +kernel
theorem dX5_value_24 : decode cX5_value 24 = .ok (.iload 7, 2) := by decide +kernel
theorem dX5_value_26 : decode cX5_value 26 = .ok (.bipush 7, 2) := by decide +kernel
theorem dX5_value_28 : decode cX5_value 28 = .ok (.if_icmp .ge 41, 3) := by decide +kernel
theorem dX5_value_31 : decode cX5_value 31 = .ok (.iload 5, 2) := by decide +kernel
theorem dX5_value_33 : decode cX5_value 33 = .ok (.bipush 64, 2) := by decide +kernel
theorem dX5_value_35 : decode cX5_value 35 = .ok (.if_icmp .ge 102, 3) := by decide +kernel
theorem dX5_value_38 : decode cX5_value 38 = .ok (.aload_n 0, 1) := by decide +kernel
theorem dX5_value_39 : decode cX5_value 39 = .ok (.getfield 32, 3) := by decide +kernel
theorem dX5_value_42 : decode cX5_value 42 = .ok (.iload 5, 2) := by decide +kernel
theorem dX5_value_44 : decode cX5_value 44 = .ok (.aload_n 0, 1) := by decide +kernel
theorem dX5_value_45 : decode cX5_value 45 = .ok (.aload_n 1, 1) := by decide +kernel
theorem dX5_value_46 : decode cX5_value 46 = .ok (.iload 7, 2) := by decide +kernel
theorem dX5_value_48 : decode cX5_value 48 = .ok (.aload_n 1, 1) := by decide +kernel
theorem dX5_value_49 : decode cX5_value 49 = .ok (.getfield 122, 3) := by decide +kernel
theorem dX5_value_52 : decode cX5_value 52 = .ok (.iload 6, 2) := by decide +kernel
theorem dX5_value_54 : decode cX5_value 54 = .ok (.iaload, 1) := by decide +kernel
theorem dX5_value_55 : decode cX5_value 55 = .ok (.iconst 4, 1) := by decide +kernel
theorem dX5_value_56 : decode cX5_value 56 = .ok (.ishr, 1) := by decide +kernel
theorem dX5_value_57 : decode cX5_value 57 = .ok (.iload 4, 2) := by decide +kernel
theorem dX5_value_59 : decode cX5_value 59 = .ok (.invokevirtual 125, 3) := by decide +kernel
theorem dX5_value_62 : decode cX5_value 62 = .ok (.iastore, 1) := by decide +kernel
theorem dX5_value_63 : decode cX5_value 63 = .ok (.iinc 5 1, 3) := by decide +kernel
theorem dX5_value_66 : decode cX5_value 66 = .ok (.goto 71, 3) := by decide +kernel
theorem dX5_value_69 : decode cX5_value 69 = .ok (.iload 7, 2) := by decide +kernel
theorem dX5_value_71 : decode cX5_value 71 = .ok (.bipush 7, 2) := by decide +kernel
theorem dX5_value_73 : decode cX5_value 73 = .ok (.if_icmp .ne 25, 3) := by decide +kernel
theorem dX5_value_76 : decode cX5_value 76 = .ok (.iload 5, 2) := by decide +kernel
theorem dX5_value_78 : decode cX5_value 78 = .ok (.ifCond .le 59, 3) := by decide +kernel
theorem dX5_value_81 : decode cX5_value 81 = .ok (.aload_n 0, 1) := by decide +kernel
theorem dX5_value_82 : decode cX5_value 82 = .ok (.getfield 32, 3) := by decide +kernel
theorem dX5_value_85 : decode cX5_value 85 = .ok (.iload 5, 2) := by decide +kernel
theorem dX5_value_87 : decode cX5_value 87 = .ok (.iconst 1, 1) := by decide +kernel
theorem dX5_value_88 : decode cX5_value 88 = .ok (.isub, 1) := by decide +kernel
theorem dX5_value_89 : decode cX5_value 89 = .ok (.dup2, 1) := by decide +kernel
theorem dX5_value_90 : decode cX5_value 90 = .ok (.iaload, 1) := by decide +kernel
theorem dX5_value_91 : decode cX5_value 91 = .ok (.iload 4, 2) := by decide +kernel
theorem dX5_value_93 : decode cX5_value 93 = .ok (.ixor, 1) := by decide +kernel
theorem dX5_value_94 : decode cX5_value 94 = .ok (.iastore, 1) := by decide +kernel
theorem dX5_value_95 : decode cX5_value 95 = .ok (.goto 42, 3) := by decide +kernel
theorem dX5_value_98 : decode cX5_value 98 = .ok (.iload 5, 2) := by decide +kernel
theorem dX5_value_100 : decode cX5_value 100 = .ok (.iconst 1, 1) := by decide +kernel
theorem dX5_value_101 : decode cX5_value 101 = .ok (.if_icmp .le 36, 3) := by decide +kernel
theorem dX5_value_104 : decode cX5_value 104 = .ok (.iinc 5 (-1), 3) := by decide +kernel
theorem dX5_value_107 : decode cX5_value 107 = .ok (.aload_n 0, 1) := by decide +kernel
theorem dX5_value_108 : decode cX5_value 108 = .ok (.getfield 32, 3) := by decide +kernel
theorem dX5_value_111 : decode cX5_value 111 = .ok (.iload 5, 2) := by decide +kernel
theorem dX5_value_113 : decode cX5_value 113 = .ok (.iconst 1, 1) := by decide +kernel
theorem dX5_value_114 : decode cX5_value 114 = .ok (.isub, 1) := by decide +kernel
theorem dX5_value_115 : decode cX5_value 115 = .ok (.iload 7, 2) := by decide +kernel
theorem dX5_value_117 : decode cX5_value 117 = .ok (.aload_n 0, 1) := by decide +kernel
theorem dX5_value_118 : decode cX5_value 118 = .ok (.getfield 32, 3) := by decide +kernel
theorem dX5_value_121 : decode cX5_value 121 = .ok (.iload 5, 2) := by decide +kernel
theorem dX5_value_123 : decode cX5_value 123 = .ok (.iconst 1, 1) := by decide +kernel
theorem dX5_value_124 : decode cX5_value 124 = .ok (.isub, 1) := by decide +kernel
theorem dX5_value_125 : decode cX5_value 125 = .ok (.iaload, 1) := by decide +kernel
theorem dX5_value_126 : decode cX5_value 126 = .ok (.aload_n 0, 1) := by decide +kernel
theorem dX5_value_127 : decode cX5_value 127 = .ok (.getfield 32, 3) := by decide +kernel
theorem dX5_value_130 : decode cX5_value 130 = .ok (.iload 5, 2) := by decide +kernel
theorem dX5_value_132 : decode cX5_value 132 = .ok (.iaload, 1) := by decide +kernel
theorem dX5_value_133 : decode cX5_value 133 = .ok (.invokestatic 128, 3) := by decide +kernel
theorem dX5_value_136 : decode cX5_value 136 = .ok (.iastore, 1) := by decide +kernel
theorem dX5_value_137 : decode cX5_value 137 = .ok (.iinc 6 1, 3) := by decide +kernel
theorem dX5_value_140 : decode cX5_value 140 = .ok (.goto (-134), 3) := by decide +kernel
theorem dX5_value_143 : decode cX5_value 143 = .ok (.iload 5, 2) := by decide +kernel
theorem dX5_value_145 : decode cX5_value 145 = .ok (.ifCond .le 12, 3) := by decide +kernel
theorem dX5_value_148 : decode cX5_value 148 = .ok (.aload_n 0, 1) := by decide +kernel
theorem dX5_value_149 : decode cX5_value 149 = .ok (.getfield 32, 3) := by decide +kernel
theorem dX5_value_152 : decode cX5_value 152 = .ok (.iconst 0, 1) := by decide +kernel
theorem dX5_value_153 : decode cX5_value 153 = .ok (.iaload, 1) := by decide +kernel
theorem dX5_value_154 : decode cX5_value 154 = .ok (.goto 4, 3) := by decide +kernel
theorem dX5_value_157 : decode cX5_value 157 = .ok (.iconst 0, 1) := by decide +kernel
theorem dX5_value_158 : decode cX5_value 158 = .ok (.ireturn, 1) := by decide +kernel
theorem dX5_weigh_0 : decode cX5_weigh 0 = .ok (.aload_n 0, 1) := by decide +kernel
theorem dX5_weigh_1 : decode cX5_weigh 1 = .ok (.getfield 21, 3) := by decide +kernel
theorem dX5_weigh_4 : decode cX5_weigh 4 = .ok (.iload_n 3, 1) := by decide +kernel
theorem dX5_weigh_5 : decode cX5_weigh 5 = .ok (.iaload, 1) := by decide +kernel
theorem dX5_weigh_6 : decode cX5_weigh 6 = .ok (.aload_n 2, 1) := by decide +kernel
theorem dX5_weigh_7 : decode cX5_weigh 7 = .ok (.getfield 55, 3) := by decide +kernel
theorem dX5_weigh_10 : decode cX5_weigh 10 = .ok (.if_icmp .ne 4, 3) := by decide +kernel
theorem dX5_weigh_13 : decode cX5_weigh 13 = .ok (.return_, 1) := by decide +kernel
theorem dX5_weigh_14 : decode cX5_weigh 14 = .ok (.aload_n 0, 1) := by decide +kernel
theorem dX5_weigh_15 : decode cX5_weigh 15 = .ok (.getfield 21, 3) := by decide +kernel
theorem dX5_weigh_18 : decode cX5_weigh 18 = .ok (.iload_n 3, 1) := by decide +kernel
theorem dX5_weigh_19 : decode cX5_weigh 19 = .ok (.aload_n 2, 1) := by decide +kernel
theorem dX5_weigh_20 : decode cX5_weigh 20 = .ok (.getfield 55, 3) := by decide +kernel
theorem dX5_weigh_23 : decode cX5_weigh 23 = .ok (.iastore, 1) := by decide +kernel
theorem dX5_weigh_24 : decode cX5_weigh 24 = .ok (.aload_n 0, 1) := by decide +kernel
theorem dX5_weigh_25 : decode cX5_weigh 25 = .ok (.aload_n 1, 1) := by decide +kernel
theorem dX5_weigh_26 : decode cX5_weigh 26 = .ok (.aload_n 2, 1) := by decide +kernel
theorem dX5_weigh_27 : decode cX5_weigh 27 = .ok (.iload_n 3, 1) := by decide +kernel
theorem dX5_weigh_28 : decode cX5_weigh 28 = .ok (.invokevirtual 60, 3) := by decide +kernel
theorem dX5_weigh_31 : decode cX5_weigh 31 = .ok (.aload_n 0, 1) := by decide +kernel
theorem dX5_weigh_32 : decode cX5_weigh 32 = .ok (.getfield 9, 3) := by decide +kernel
theorem dX5_weigh_35 : decode cX5_weigh 35 = .ok (.iload_n 3, 1) := by decide +kernel
theorem dX5_weigh_36 : decode cX5_weigh 36 = .ok (.iconst 1, 1) := by decide +kernel
theorem dX5_weigh_37 : decode cX5_weigh 37 = .ok (.iastore, 1) := by decide +kernel
theorem dX5_weigh_38 : decode cX5_weigh 38 = .ok (.aload_n 0, 1) := by decide +kernel
theorem dX5_weigh_39 : decode cX5_weigh 39 = .ok (.getfield 15, 3) := by decide +kernel
theorem dX5_weigh_42 : decode cX5_weigh 42 = .ok (.iload_n 3, 1) := by decide +kernel
theorem dX5_weigh_43 : decode cX5_weigh 43 = .ok (.iconst 1, 1) := by decide +kernel
theorem dX5_weigh_44 : decode cX5_weigh 44 = .ok (.aload_n 1, 1) := by decide +kernel
theorem dX5_weigh_45 : decode cX5_weigh 45 = .ok (.getfield 35, 3) := by decide +kernel
theorem dX5_weigh_48 : decode cX5_weigh 48 = .ok (.ishl, 1) := by decide +kernel
theorem dX5_weigh_49 : decode cX5_weigh 49 = .ok (.iconst 1, 1) := by decide +kernel
theorem dX5_weigh_50 : decode cX5_weigh 50 = .ok (.isub, 1) := by decide +kernel
theorem dX5_weigh_51 : decode cX5_weigh 51 = .ok (.iastore, 1) := by decide +kernel
theorem dX5_weigh_52 : decode cX5_weigh 52 = .ok (.iconst 0, 1) := by decide +kernel
theorem dX5_weigh_53 : decode cX5_weigh 53 = .ok (.istore 4, 2) := by decide +kernel
theorem dX5_weigh_55 : decode cX5_weigh 55 = .ok (.iload 4, 2) := by decide +kernel
theorem dX5_weigh_57 : decode cX5_weigh 57 = .ok (.aload_n 1, 1) := by decide +kernel
theorem dX5_weigh_58 : decode cX5_weigh 58 = .ok (.getfield 35, 3) := by decide +kernel
theorem dX5_weigh_61 : decode cX5_weigh 61 = .ok (.if_icmp .ge 53, 3) := by decide +kernel
theorem dX5_weigh_64 : decode cX5_weigh 64 = .ok (.aload_n 0, 1) := by decide +kernel
theorem dX5_weigh_65 : decode cX5_weigh 65 = .ok (.getfield 18, 3) := by decide +kernel
theorem dX5_weigh_68 : decode cX5_weigh 68 = .ok (.iload_n 3, 1) := by decide +kernel
theorem dX5_weigh_69 : decode cX5_weigh 69 = .ok (.bipush 10, 2) := by decide +kernel
theorem dX5_weigh_71 : decode cX5_weigh 71 = .ok (.imul, 1) := by decide +kernel
theorem dX5_weigh_72 : decode cX5_weigh 72 = .ok (.iload 4, 2) := by decide +kernel
theorem dX5_weigh_74 : decode cX5_weigh 74 = .ok (.iadd, 1) := by decide +kernel
theorem dX5_weigh_75 : decode cX5_weigh 75 = .ok (.iconst 0, 1) := by decide +kernel
theorem dX5_weigh_76 : decode cX5_weigh 76 = .ok (.iastore, 1) := by decide +kernel
theorem dX5_weigh_77 : decode cX5_weigh 77 = .ok (.aload_n 2, 1) := by decide +kernel
theorem dX5_weigh_78 : decode cX5_weigh 78 = .ok (.getfield 64, 3) := by decide +kernel
theorem dX5_weigh_81 : decode cX5_weigh 81 = .ok (.iload 4, 2) := by decide +kernel
theorem dX5_weigh_83 : decode cX5_weigh 83 = .ok (.iaload, 1) := by decide +kernel
theorem dX5_weigh_84 : decode cX5_weigh 84 = .ok (.aload_n 2, 1) := by decide +kernel
theorem dX5_weigh_85 : decode cX5_weigh 85 = .ok (.getfield 67, 3) := by decide +kernel
theorem dX5_weigh_88 : decode cX5_weigh 88 = .ok (.iload_n 3, 1) := by decide +kernel
theorem dX5_weigh_89 : decode cX5_weigh 89 = .ok (.iaload, 1) := by decide +kernel
theorem dX5_weigh_90 : decode cX5_weigh 90 = .ok (.if_icmp .gt 18, 3) := by decide +kernel
theorem dX5_weigh_93 : decode cX5_weigh 93 = .ok (.aload_n 0, 1) := by decide +kernel
theorem dX5_weigh_94 : decode cX5_weigh 94 = .ok (.getfield 15, 3) := by decide +kernel
theorem dX5_weigh_97 : decode cX5_weigh 97 = .ok (.iload_n 3, 1) := by decide +kernel
theorem dX5_weigh_98 : decode cX5_weigh 98 = .ok (.dup2, 1) := by decide +kernel
theorem dX5_weigh_99 : decode cX5_weigh 99 = .ok (.iaload, 1) := by decide +kernel
theorem dX5_weigh_100 : decode cX5_weigh 100 = .ok (.iconst 1, 1) := by decide +kernel
theorem dX5_weigh_101 : decode cX5_weigh 101 = .ok (.iload 4, 2) := by decide +kernel
theorem dX5_weigh_103 : decode cX5_weigh 103 = .ok (.ishl, 1) := by decide +kernel
theorem dX5_weigh_104 : decode cX5_weigh 104 = .ok (.iconst (-1), 1) := by decide +kernel
theorem dX5_weigh_105 : decode cX5_weigh 105 = .ok (.ixor, 1) := by decide +kernel
theorem dX5_weigh_106 : decode cX5_weigh 106 = .ok (.iand, 1) := by decide +kernel
theorem dX5_weigh_107 : decode cX5_weigh 107 = .ok (.iastore, 1) := by decide +kernel
theorem dX5_weigh_108 : decode cX5_weigh 108 = .ok (.iinc 4 1, 3) := by decide +kernel
theorem dX5_weigh_111 : decode cX5_weigh 111 = .ok (.goto (-56), 3) := by decide +kernel
theorem dX5_weigh_114 : decode cX5_weigh 114 = .ok (.iconst 0, 1) := by decide +kernel
theorem dX5_weigh_115 : decode cX5_weigh 115 = .ok (.istore 4, 2) := by decide +kernel
theorem dX5_weigh_117 : decode cX5_weigh 117 = .ok (.iload 4, 2) := by decide +kernel
theorem dX5_weigh_119 : decode cX5_weigh 119 = .ok (.aload_n 1, 1) := by decide +kernel
theorem dX5_weigh_120 : decode cX5_weigh 120 = .ok (.getfield 39, 3) := by decide +kernel
theorem dX5_weigh_123 : decode cX5_weigh 123 = .ok (.if_icmp .ge 52, 3) := by decide +kernel
theorem dX5_weigh_126 : decode cX5_weigh 126 = .ok (.aload_n 1, 1) := by decide +kernel
theorem dX5_weigh_127 : decode cX5_weigh 127 = .ok (.getfield 70, 3) := by decide +kernel
theorem dX5_weigh_130 : decode cX5_weigh 130 = .ok (.iload 4, 2) := by decide +kernel
theorem dX5_weigh_132 : decode cX5_weigh 132 = .ok (.iaload, 1) := by decide +kernel
theorem dX5_weigh_133 : decode cX5_weigh 133 = .ok (.bipush 11, 2) := by decide +kernel
theorem dX5_weigh_135 : decode cX5_weigh 135 = .ok (.if_icmp .eq 34, 3) := by decide +kernel
theorem dX5_weigh_138 : decode cX5_weigh 138 = .ok (.aload_n 0, 1) := by decide +kernel
theorem dX5_weigh_139 : decode cX5_weigh 139 = .ok (.aload_n 1, 1) := by decide +kernel
theorem dX5_weigh_140 : decode cX5_weigh 140 = .ok (.aload_n 1, 1) := by decide +kernel
theorem dX5_weigh_141 : decode cX5_weigh 141 = .ok (.getfield 48, 3) := by decide +kernel
theorem dX5_weigh_144 : decode cX5_weigh 144 = .ok (.iload 4, 2) := by decide +kernel
theorem dX5_weigh_146 : decode cX5_weigh 146 = .ok (.iaload, 1) := by decide +kernel
theorem dX5_weigh_147 : decode cX5_weigh 147 = .ok (.aload_n 1, 1) := by decide +kernel
theorem dX5_weigh_148 : decode cX5_weigh 148 = .ok (.getfield 73, 3) := by decide +kernel
theorem dX5_weigh_151 : decode cX5_weigh 151 = .ok (.iload 4, 2) := by decide +kernel
theorem dX5_weigh_153 : decode cX5_weigh 153 = .ok (.iaload, 1) := by decide +kernel
theorem dX5_weigh_154 : decode cX5_weigh 154 = .ok (.iconst 1, 1) := by decide +kernel
theorem dX5_weigh_155 : decode cX5_weigh 155 = .ok (.invokevirtual 51, 3) := by decide +kernel
theorem dX5_weigh_158 : decode cX5_weigh 158 = .ok (.ifCond .eq 11, 3) := by decide +kernel
theorem dX5_weigh_161 : decode cX5_weigh 161 = .ok (.aload_n 0, 1) := by decide +kernel
theorem dX5_weigh_162 : decode cX5_weigh 162 = .ok (.aload_n 1, 1) := by decide +kernel
theorem dX5_weigh_163 : decode cX5_weigh 163 = .ok (.iload 4, 2) := by decide +kernel
theorem dX5_weigh_165 : decode cX5_weigh 165 = .ok (.iload_n 3, 1) := by decide +kernel
theorem dX5_weigh_166 : decode cX5_weigh 166 = .ok (.invokevirtual 76, 3) := by decide +kernel
theorem dX5_weigh_169 : decode cX5_weigh 169 = .ok (.iinc 4 1, 3) := by decide +kernel
theorem dX5_weigh_172 : decode cX5_weigh 172 = .ok (.goto (-55), 3) := by decide +kernel
theorem dX5_weigh_175 : decode cX5_weigh 175 = .ok (.return_, 1) := by decide +kernel
theorem dX6_addCome_0 : decode cX6_addCome 0 = .ok (.iconst 0, 1) := by decide +kernel
theorem dX6_addCome_1 : decode cX6_addCome 1 = .ok (.istore 4, 2) := by decide +kernel
theorem dX6_addCome_3 : decode cX6_addCome 3 = .ok (.iload 4, 2) := by decide +kernel
theorem dX6_addCome_5 : decode cX6_addCome 5 = .ok (.iload_n 3, 1) := by decide +kernel
theorem dX6_addCome_6 : decode cX6_addCome 6 = .ok (.if_icmp .ge 28, 3) := by decide +kernel
theorem dX6_addCome_9 : decode cX6_addCome 9 = .ok (.aload_n 1, 1) := by decide +kernel
theorem dX6_addCome_10 : decode cX6_addCome 10 = .ok (.iload 4, 2) := by decide +kernel
theorem dX6_addCome_12 : decode cX6_addCome 12 = .ok (.dup2, 1) := by decide +kernel
theorem dX6_addCome_13 : decode cX6_addCome 13 = .ok (.iaload, 1) := by decide +kernel
theorem dX6_addCome_14 : decode cX6_addCome 14 = .ok (.aload_n 0, 1) := by decide +kernel
theorem dX6_addCome_15 : decode cX6_addCome 15 = .ok (.getfield 50, 3) := by decide +kernel
theorem dX6_addCome_18 : decode cX6_addCome 18 = .ok (.iload 4, 2) := by decide +kernel
theorem dX6_addCome_20 : decode cX6_addCome 20 = .ok (.bipush 25, 2) := by decide +kernel
theorem dX6_addCome_22 : decode cX6_addCome 22 = .ok (.imul, 1) := by decide +kernel
theorem dX6_addCome_23 : decode cX6_addCome 23 = .ok (.iload_n 2, 1) := by decide +kernel
theorem dX6_addCome_24 : decode cX6_addCome 24 = .ok (.iadd, 1) := by decide +kernel
theorem dX6_addCome_25 : decode cX6_addCome 25 = .ok (.iaload, 1) := by decide +kernel
theorem dX6_addCome_26 : decode cX6_addCome 26 = .ok (.iadd, 1) := by decide +kernel
theorem dX6_addCome_27 : decode cX6_addCome 27 = .ok (.iastore, 1) := by decide +kernel
theorem dX6_addCome_28 : decode cX6_addCome 28 = .ok (.iinc 4 1, 3) := by decide +kernel
theorem dX6_addCome_31 : decode cX6_addCome 31 = .ok (.goto (-28), 3) := by decide +kernel
theorem dX6_addCome_34 : decode cX6_addCome 34 = .ok (.return_, 1) := by decide +kernel
theorem dX6_areAlike_0 : decode cX6_areAlike 0 = .ok (.aload_n 0, 1) := by decide +kernel
theorem dX6_areAlike_1 : decode cX6_areAlike 1 = .ok (.getfield 31, 3) := by decide +kernel
theorem dX6_areAlike_4 : decode cX6_areAlike 4 = .ok (.iload_n 1, 1) := by decide +kernel
theorem dX6_areAlike_5 : decode cX6_areAlike 5 = .ok (.iaload, 1) := by decide +kernel
theorem dX6_areAlike_6 : decode cX6_areAlike 6 = .ok (.ifCond .eq 52, 3) := by decide +kernel
theorem dX6_areAlike_9 : decode cX6_areAlike 9 = .ok (.aload_n 0, 1) := by decide +kernel
theorem dX6_areAlike_10 : decode cX6_areAlike 10 = .ok (.getfield 31, 3) := by decide +kernel
theorem dX6_areAlike_13 : decode cX6_areAlike 13 = .ok (.iload_n 1, 1) := by decide +kernel
theorem dX6_areAlike_14 : decode cX6_areAlike 14 = .ok (.iaload, 1) := by decide +kernel
theorem dX6_areAlike_15 : decode cX6_areAlike 15 = .ok (.aload_n 0, 1) := by decide +kernel
theorem dX6_areAlike_16 : decode cX6_areAlike 16 = .ok (.getfield 31, 3) := by decide +kernel
theorem dX6_areAlike_19 : decode cX6_areAlike 19 = .ok (.iload_n 2, 1) := by decide +kernel
theorem dX6_areAlike_20 : decode cX6_areAlike 20 = .ok (.iaload, 1) := by decide +kernel
theorem dX6_areAlike_21 : decode cX6_areAlike 21 = .ok (.if_icmp .ne 37, 3) := by decide +kernel
theorem dX6_areAlike_24 : decode cX6_areAlike 24 = .ok (.aload_n 0, 1) := by decide +kernel
theorem dX6_areAlike_25 : decode cX6_areAlike 25 = .ok (.getfield 28, 3) := by decide +kernel
theorem dX6_areAlike_28 : decode cX6_areAlike 28 = .ok (.iload_n 1, 1) := by decide +kernel
theorem dX6_areAlike_29 : decode cX6_areAlike 29 = .ok (.iaload, 1) := by decide +kernel
theorem dX6_areAlike_30 : decode cX6_areAlike 30 = .ok (.aload_n 0, 1) := by decide +kernel
theorem dX6_areAlike_31 : decode cX6_areAlike 31 = .ok (.getfield 28, 3) := by decide +kernel
theorem dX6_areAlike_34 : decode cX6_areAlike 34 = .ok (.iload_n 2, 1) := by decide +kernel
theorem dX6_areAlike_35 : decode cX6_areAlike 35 = .ok (.iaload, 1) := by decide +kernel
theorem dX6_areAlike_36 : decode cX6_areAlike 36 = .ok (.if_icmp .ne 22, 3) := by decide +kernel
theorem dX6_areAlike_39 : decode cX6_areAlike 39 = .ok (.aload_n 0, 1) := by decide +kernel
theorem dX6_areAlike_40 : decode cX6_areAlike 40 = .ok (.getfield 19, 3) := by decide +kernel
theorem dX6_areAlike_43 : decode cX6_areAlike 43 = .ok (.iload_n 1, 1) := by decide +kernel
theorem dX6_areAlike_44 : decode cX6_areAlike 44 = .ok (.iaload, 1) := by decide +kernel
theorem dX6_areAlike_45 : decode cX6_areAlike 45 = .ok (.aload_n 0, 1) := by decide +kernel
theorem dX6_areAlike_46 : decode cX6_areAlike 46 = .ok (.getfield 19, 3) := by decide +kernel
theorem dX6_areAlike_49 : decode cX6_areAlike 49 = .ok (.iload_n 2, 1) := by decide +kernel
theorem dX6_areAlike_50 : decode cX6_areAlike 50 = .ok (.iaload, 1) := by decide +kernel
theorem dX6_areAlike_51 : decode cX6_areAlike 51 = .ok (.if_icmp .ne 7, 3) := by decide +kernel
theorem dX6_areAlike_54 : decode cX6_areAlike 54 = .ok (.iconst 1, 1) := by decide +kernel
theorem dX6_areAlike_55 : decode cX6_areAlike 55 = .ok (.goto 4, 3) := by decide +kernel
theorem dX6_areAlike_58 : decode cX6_areAlike 58 = .ok (.iconst 0, 1) := by decide +kernel
theorem dX6_areAlike_59 : decode cX6_areAlike 59 = .ok (.ireturn, 1) := by decide +kernel
theorem dX6_doubts_0 : decode cX6_doubts 0 = .ok (.iconst 0, 1) := by decide +kernel
theorem dX6_doubts_1 : decode cX6_doubts 1 = .ok (.istore_n 1, 1) := by decide +kernel
theorem dX6_doubts_2 : decode cX6_doubts 2 = .ok (.iconst 0, 1) := by decide +kernel
theorem dX6_doubts_3 : decode cX6_doubts 3 = .ok (.istore_n 2, 1) := by decide +kernel
theorem dX6_doubts_4 : decode cX6_doubts 4 = .ok (.iload_n 2, 1) := by decide +kernel
theorem dX6_doubts_5 : decode cX6_doubts 5 = .ok (.aload_n 0, 1) := by decide +kernel
theorem dX6_doubts_6 : decode cX6_doubts 6 = .ok (.getfield 59, 3) := by decide +kernel
theorem dX6_doubts_9 : decode cX6_doubts 9 = .ok (.if_icmp .ge 52, 3) := by decide +kernel
theorem dX6_doubts_12 : decode cX6_doubts 12 = .ok (.iconst 0, 1) := by decide +kernel
theorem dX6_doubts_13 : decode cX6_doubts 13 = .ok (.istore_n 3, 1) := by decide +kernel
theorem dX6_doubts_14 : decode cX6_doubts 14 = .ok (.iload_n 3, 1) := by decide +kernel
theorem dX6_doubts_15 : decode cX6_doubts 15 = .ok (.iload_n 2, 1) := by decide +kernel
theorem dX6_doubts_16 : decode cX6_doubts 16 = .ok (.if_icmp .ge 39, 3) := by decide +kernel
theorem dX6_doubts_19 : decode cX6_doubts 19 = .ok (.aload_n 0, 1) := by decide +kernel
theorem dX6_doubts_20 : decode cX6_doubts 20 = .ok (.getfield 15, 3) := by decide +kernel
theorem dX6_doubts_23 : decode cX6_doubts 23 = .ok (.iload_n 2, 1) := by decide +kernel
theorem dX6_doubts_24 : decode cX6_doubts 24 = .ok (.iaload, 1) := by decide +kernel
theorem dX6_doubts_25 : decode cX6_doubts 25 = .ok (.ifCond .eq 12, 3) := by decide +kernel
theorem dX6_doubts_28 : decode cX6_doubts 28 = .ok (.aload_n 0, 1) := by decide +kernel
theorem dX6_doubts_29 : decode cX6_doubts 29 = .ok (.getfield 15, 3) := by decide +kernel
theorem dX6_doubts_32 : decode cX6_doubts 32 = .ok (.iload_n 3, 1) := by decide +kernel
theorem dX6_doubts_33 : decode cX6_doubts 33 = .ok (.iaload, 1) := by decide +kernel
theorem dX6_doubts_34 : decode cX6_doubts 34 = .ok (.ifCond .ne 15, 3) := by decide +kernel
theorem dX6_doubts_37 : decode cX6_doubts 37 = .ok (.aload_n 0, 1) := by decide +kernel
theorem dX6_doubts_38 : decode cX6_doubts 38 = .ok (.iload_n 2, 1) := by decide +kernel
theorem dX6_doubts_39 : decode cX6_doubts 39 = .ok (.iload_n 3, 1) := by decide +kernel
theorem dX6_doubts_40 : decode cX6_doubts 40 = .ok (.invokevirtual 111, 3) := by decide +kernel
theorem dX6_doubts_43 : decode cX6_doubts 43 = .ok (.ifCond .eq 6, 3) := by decide +kernel
theorem dX6_doubts_46 : decode cX6_doubts 46 = .ok (.iinc 1 1, 3) := by decide +kernel
theorem dX6_doubts_49 : decode cX6_doubts 49 = .ok (.iinc 3 1, 3) := by decide +kernel
theorem dX6_doubts_52 : decode cX6_doubts 52 = .ok (.goto (-38), 3) := by decide +kernel
theorem dX6_doubts_55 : decode cX6_doubts 55 = .ok (.iinc 2 1, 3) := by decide +kernel
theorem dX6_doubts_58 : decode cX6_doubts 58 = .ok (.goto (-54), 3) := by decide +kernel
theorem dX6_doubts_61 : decode cX6_doubts 61 = .ok (.iload_n 1, 1) := by decide +kernel
theorem dX6_doubts_62 : decode cX6_doubts 62 = .ok (.ireturn, 1) := by decide +kernel
theorem dX6_fact_0 : decode cX6_fact 0 = .ok (.iload_n 2, 1) := by decide +kernel
theorem dX6_fact_1 : decode cX6_fact 1 = .ok (.tableswitch 120 0 8 #[51, 58, 65, 79, 86, 93, 100, 107, 113], 51) := by decide +kernel
theorem dX6_fact_52 : decode cX6_fact 52 = .ok (.aload_n 0, 1) := by decide +kernel
theorem dX6_fact_53 : decode cX6_fact 53 = .ok (.getfield 15, 3) := by decide +kernel
theorem dX6_fact_56 : decode cX6_fact 56 = .ok (.iload_n 1, 1) := by decide +kernel
theorem dX6_fact_57 : decode cX6_fact 57 = .ok (.iaload, 1) := by decide +kernel
theorem dX6_fact_58 : decode cX6_fact 58 = .ok (.ireturn, 1) := by decide +kernel
theorem dX6_fact_59 : decode cX6_fact 59 = .ok (.aload_n 0, 1) := by decide +kernel
theorem dX6_fact_60 : decode cX6_fact 60 = .ok (.getfield 19, 3) := by decide +kernel
theorem dX6_fact_63 : decode cX6_fact 63 = .ok (.iload_n 1, 1) := by decide +kernel
theorem dX6_fact_64 : decode cX6_fact 64 = .ok (.iaload, 1) := by decide +kernel
theorem dX6_fact_65 : decode cX6_fact 65 = .ok (.ireturn, 1) := by decide +kernel
theorem dX6_fact_66 : decode cX6_fact 66 = .ok (.aload_n 0, 1) := by decide +kernel
theorem dX6_fact_67 : decode cX6_fact 67 = .ok (.getfield 25, 3) := by decide +kernel
theorem dX6_fact_70 : decode cX6_fact 70 = .ok (.iload_n 1, 1) := by decide +kernel
theorem dX6_fact_71 : decode cX6_fact 71 = .ok (.iaload, 1) := by decide +kernel
theorem dX6_fact_72 : decode cX6_fact 72 = .ok (.aload_n 0, 1) := by decide +kernel
theorem dX6_fact_73 : decode cX6_fact 73 = .ok (.getfield 22, 3) := by decide +kernel
theorem dX6_fact_76 : decode cX6_fact 76 = .ok (.iload_n 1, 1) := by decide +kernel
theorem dX6_fact_77 : decode cX6_fact 77 = .ok (.iaload, 1) := by decide +kernel
theorem dX6_fact_78 : decode cX6_fact 78 = .ok (.isub, 1) := by decide +kernel
theorem dX6_fact_79 : decode cX6_fact 79 = .ok (.ireturn, 1) := by decide +kernel
theorem dX6_fact_80 : decode cX6_fact 80 = .ok (.aload_n 0, 1) := by decide +kernel
theorem dX6_fact_81 : decode cX6_fact 81 = .ok (.getfield 28, 3) := by decide +kernel
theorem dX6_fact_84 : decode cX6_fact 84 = .ok (.iload_n 1, 1) := by decide +kernel
theorem dX6_fact_85 : decode cX6_fact 85 = .ok (.iaload, 1) := by decide +kernel
theorem dX6_fact_86 : decode cX6_fact 86 = .ok (.ireturn, 1) := by decide +kernel
theorem dX6_fact_87 : decode cX6_fact 87 = .ok (.aload_n 0, 1) := by decide +kernel
theorem dX6_fact_88 : decode cX6_fact 88 = .ok (.getfield 31, 3) := by decide +kernel
theorem dX6_fact_91 : decode cX6_fact 91 = .ok (.iload_n 1, 1) := by decide +kernel
theorem dX6_fact_92 : decode cX6_fact 92 = .ok (.iaload, 1) := by decide +kernel
theorem dX6_fact_93 : decode cX6_fact 93 = .ok (.ireturn, 1) := by decide +kernel
theorem dX6_fact_94 : decode cX6_fact 94 = .ok (.aload_n 0, 1) := by decide +kernel
theorem dX6_fact_95 : decode cX6_fact 95 = .ok (.getfield 34, 3) := by decide +kernel
theorem dX6_fact_98 : decode cX6_fact 98 = .ok (.iload_n 1, 1) := by decide +kernel
theorem dX6_fact_99 : decode cX6_fact 99 = .ok (.iaload, 1) := by decide +kernel
theorem dX6_fact_100 : decode cX6_fact 100 = .ok (.ireturn, 1) := by decide +kernel
theorem dX6_fact_101 : decode cX6_fact 101 = .ok (.aload_n 0, 1) := by decide +kernel
theorem dX6_fact_102 : decode cX6_fact 102 = .ok (.getfield 40, 3) := by decide +kernel
theorem dX6_fact_105 : decode cX6_fact 105 = .ok (.iload_n 1, 1) := by decide +kernel
theorem dX6_fact_106 : decode cX6_fact 106 = .ok (.iaload, 1) := by decide +kernel
theorem dX6_fact_107 : decode cX6_fact 107 = .ok (.ireturn, 1) := by decide +kernel
theorem dX6_fact_108 : decode cX6_fact 108 = .ok (.aload_n 0, 1) := by decide +kernel
theorem dX6_fact_109 : decode cX6_fact 109 = .ok (.iload_n 1, 1) := by decide +kernel
theorem dX6_fact_110 : decode cX6_fact 110 = .ok (.invokevirtual 114, 3) := by decide +kernel
theorem dX6_fact_113 : decode cX6_fact 113 = .ok (.ireturn, 1) := by decide +kernel
theorem dX6_fact_114 : decode cX6_fact 114 = .ok (.aload_n 0, 1) := by decide +kernel
theorem dX6_fact_115 : decode cX6_fact 115 = .ok (.getfield 37, 3) := by decide +kernel
theorem dX6_fact_118 : decode cX6_fact 118 = .ok (.iload_n 1, 1) := by decide +kernel
theorem dX6_fact_119 : decode cX6_fact 119 = .ok (.iaload, 1) := by decide +kernel
theorem dX6_fact_120 : decode cX6_fact 120 = .ok (.ireturn, 1) := by decide +kernel
theorem dX6_fact_121 : decode cX6_fact 121 = .ok (.iconst (-1), 1) := by decide +kernel
theorem dX6_fact_122 : decode cX6_fact 122 = .ok (.ireturn, 1) := by decide +kernel
theorem dX6_find_0 : decode cX6_find 0 = .ok (.iload_n 1, 1) := by decide +kernel
theorem dX6_find_1 : decode cX6_find 1 = .ok (.ifCond .ne 5, 3) := by decide +kernel
theorem dX6_find_4 : decode cX6_find 4 = .ok (.iconst (-1), 1) := by decide +kernel
theorem dX6_find_5 : decode cX6_find 5 = .ok (.ireturn, 1) := by decide +kernel
theorem dX6_find_6 : decode cX6_find 6 = .ok (.iconst 0, 1) := by decide +kernel
theorem dX6_find_7 : decode cX6_find 7 = .ok (.istore_n 2, 1) := by decide +kernel
theorem dX6_find_8 : decode cX6_find 8 = .ok (.iload_n 2, 1) := by decide +kernel
theorem dX6_find_9 : decode cX6_find 9 = .ok (.aload_n 0, 1) := by decide +kernel
theorem dX6_find_10 : decode cX6_find 10 = .ok (.getfield 59, 3) := by decide +kernel
theorem dX6_find_13 : decode cX6_find 13 = .ok (.if_icmp .ge 21, 3) := by decide +kernel
theorem dX6_find_16 : decode cX6_find 16 = .ok (.aload_n 0, 1) := by decide +kernel
theorem dX6_find_17 : decode cX6_find 17 = .ok (.getfield 15, 3) := by decide +kernel
theorem dX6_find_20 : decode cX6_find 20 = .ok (.iload_n 2, 1) := by decide +kernel
theorem dX6_find_21 : decode cX6_find 21 = .ok (.iaload, 1) := by decide +kernel
theorem dX6_find_22 : decode cX6_find 22 = .ok (.iload_n 1, 1) := by decide +kernel
theorem dX6_find_23 : decode cX6_find 23 = .ok (.if_icmp .ne 5, 3) := by decide +kernel
theorem dX6_find_26 : decode cX6_find 26 = .ok (.iload_n 2, 1) := by decide +kernel
theorem dX6_find_27 : decode cX6_find 27 = .ok (.ireturn, 1) := by decide +kernel
theorem dX6_find_28 : decode cX6_find 28 = .ok (.iinc 2 1, 3) := by decide +kernel
theorem dX6_find_31 : decode cX6_find 31 = .ok (.goto (-23), 3) := by decide +kernel
theorem dX6_find_34 : decode cX6_find 34 = .ok (.iconst (-1), 1) := by decide +kernel
theorem dX6_find_35 : decode cX6_find 35 = .ok (.ireturn, 1) := by decide +kernel
theorem dX6_forget_0 : decode cX6_forget 0 = .ok (.aload_n 0, 1) := by decide +kernel
theorem dX6_forget_1 : decode cX6_forget 1 = .ok (.iconst (-1), 1) := by decide +kernel
theorem dX6_forget_2 : decode cX6_forget 2 = .ok (.putfield 9, 3) := by decide +kernel
theorem dX6_forget_5 : decode cX6_forget 5 = .ok (.return_, 1) := by decide +kernel
theorem dX6_init_0 : decode cX6_init 0 = .ok (.aload_n 0, 1) := by decide +kernel
theorem dX6_init_1 : decode cX6_init 1 = .ok (.invokespecial 3, 3) := by decide +kernel
theorem dX6_init_4 : decode cX6_init 4 = .ok (.aload_n 0, 1) := by decide +kernel
theorem dX6_init_5 : decode cX6_init 5 = .ok (.iconst (-1), 1) := by decide +kernel
theorem dX6_init_6 : decode cX6_init 6 = .ok (.putfield 9, 3) := by decide +kernel
theorem dX6_init_9 : decode cX6_init 9 = .ok (.aload_n 0, 1) := by decide +kernel
theorem dX6_init_10 : decode cX6_init 10 = .ok (.bipush 40, 2) := by decide +kernel
theorem dX6_init_12 : decode cX6_init 12 = .ok (.newarray .int, 2) := by decide +kernel
theorem dX6_init_14 : decode cX6_init 14 = .ok (.putfield 15, 3) := by decide +kernel
theorem dX6_init_17 : decode cX6_init 17 = .ok (.aload_n 0, 1) := by decide +kernel
theorem dX6_init_18 : decode cX6_init 18 = .ok (.bipush 40, 2) := by decide +kernel
theorem dX6_init_20 : decode cX6_init 20 = .ok (.newarray .int, 2) := by decide +kernel
theorem dX6_init_22 : decode cX6_init 22 = .ok (.putfield 19, 3) := by decide +kernel
theorem dX6_init_25 : decode cX6_init 25 = .ok (.aload_n 0, 1) := by decide +kernel
theorem dX6_init_26 : decode cX6_init 26 = .ok (.bipush 40, 2) := by decide +kernel
theorem dX6_init_28 : decode cX6_init 28 = .ok (.newarray .int, 2) := by decide +kernel
theorem dX6_init_30 : decode cX6_init 30 = .ok (.putfield 22, 3) := by decide +kernel
theorem dX6_init_33 : decode cX6_init 33 = .ok (.aload_n 0, 1) := by decide +kernel
theorem dX6_init_34 : decode cX6_init 34 = .ok (.bipush 40, 2) := by decide +kernel
theorem dX6_init_36 : decode cX6_init 36 = .ok (.newarray .int, 2) := by decide +kernel
theorem dX6_init_38 : decode cX6_init 38 = .ok (.putfield 25, 3) := by decide +kernel
theorem dX6_init_41 : decode cX6_init 41 = .ok (.aload_n 0, 1) := by decide +kernel
theorem dX6_init_42 : decode cX6_init 42 = .ok (.bipush 40, 2) := by decide +kernel
theorem dX6_init_44 : decode cX6_init 44 = .ok (.newarray .int, 2) := by decide +kernel
theorem dX6_init_46 : decode cX6_init 46 = .ok (.putfield 28, 3) := by decide +kernel
theorem dX6_init_49 : decode cX6_init 49 = .ok (.aload_n 0, 1) := by decide +kernel
theorem dX6_init_50 : decode cX6_init 50 = .ok (.bipush 40, 2) := by decide +kernel
theorem dX6_init_52 : decode cX6_init 52 = .ok (.newarray .int, 2) := by decide +kernel
theorem dX6_init_54 : decode cX6_init 54 = .ok (.putfield 31, 3) := by decide +kernel
theorem dX6_init_57 : decode cX6_init 57 = .ok (.aload_n 0, 1) := by decide +kernel
theorem dX6_init_58 : decode cX6_init 58 = .ok (.bipush 40, 2) := by decide +kernel
theorem dX6_init_60 : decode cX6_init 60 = .ok (.newarray .int, 2) := by decide +kernel
theorem dX6_init_62 : decode cX6_init 62 = .ok (.putfield 34, 3) := by decide +kernel
theorem dX6_init_65 : decode cX6_init 65 = .ok (.aload_n 0, 1) := by decide +kernel
theorem dX6_init_66 : decode cX6_init 66 = .ok (.bipush 40, 2) := by decide +kernel
theorem dX6_init_68 : decode cX6_init 68 = .ok (.newarray .int, 2) := by decide +kernel
theorem dX6_init_70 : decode cX6_init 70 = .ok (.putfield 37, 3) := by decide +kernel
theorem dX6_init_73 : decode cX6_init 73 = .ok (.aload_n 0, 1) := by decide +kernel
theorem dX6_init_74 : decode cX6_init 74 = .ok (.bipush 40, 2) := by decide +kernel
theorem dX6_init_76 : decode cX6_init 76 = .ok (.newarray .int, 2) := by decide +kernel
theorem dX6_init_78 : decode cX6_init 78 = .ok (.putfield 40, 3) := by decide +kernel
theorem dX6_init_81 : decode cX6_init 81 = .ok (.aload_n 0, 1) := by decide +kernel
theorem dX6_init_82 : decode cX6_init 82 = .ok (.sipush 160, 3) := by decide +kernel
theorem dX6_init_85 : decode cX6_init 85 = .ok (.newarray .long, 2) := by decide +kernel
theorem dX6_init_87 : decode cX6_init 87 = .ok (.putfield 43, 3) := by decide +kernel
theorem dX6_init_90 : decode cX6_init 90 = .ok (.aload_n 0, 1) := by decide +kernel
theorem dX6_init_91 : decode cX6_init 91 = .ok (.sipush 201, 3) := by decide +kernel
theorem dX6_init_94 : decode cX6_init 94 = .ok (.newarray .int, 2) := by decide +kernel
theorem dX6_init_96 : decode cX6_init 96 = .ok (.putfield 47, 3) := by decide +kernel
theorem dX6_init_99 : decode cX6_init 99 = .ok (.aload_n 0, 1) := by decide +kernel
theorem dX6_init_100 : decode cX6_init 100 = .ok (.sipush 250, 3) := by decide +kernel
theorem dX6_init_103 : decode cX6_init 103 = .ok (.newarray .int, 2) := by decide +kernel
theorem dX6_init_105 : decode cX6_init 105 = .ok (.putfield 50, 3) := by decide +kernel
theorem dX6_init_108 : decode cX6_init 108 = .ok (.aload_n 0, 1) := by decide +kernel
theorem dX6_init_109 : decode cX6_init 109 = .ok (.bipush 10, 2) := by decide +kernel
theorem dX6_init_111 : decode cX6_init 111 = .ok (.newarray .int, 2) := by decide +kernel
theorem dX6_init_113 : decode cX6_init 113 = .ok (.putfield 53, 3) := by decide +kernel
theorem dX6_init_116 : decode cX6_init 116 = .ok (.return_, 1) := by decide +kernel
theorem dX6_learn_0 : decode cX6_learn 0 = .ok (.aload_n 1, 1) := by decide +kernel
theorem dX6_learn_1 : decode cX6_learn 1 = .ok (.iload_n 2, 1) := by decide +kernel
theorem dX6_learn_2 : decode cX6_learn 2 = .ok (.iconst 0, 1) := by decide +kernel
theorem dX6_learn_3 : decode cX6_learn 3 = .ok (.invokevirtual 78, 3) := by decide +kernel
theorem dX6_learn_6 : decode cX6_learn 6 = .ok (.istore_n 3, 1) := by decide +kernel
theorem dX6_learn_7 : decode cX6_learn 7 = .ok (.aload_n 1, 1) := by decide +kernel
theorem dX6_learn_8 : decode cX6_learn 8 = .ok (.iload_n 2, 1) := by decide +kernel
theorem dX6_learn_9 : decode cX6_learn 9 = .ok (.iconst 1, 1) := by decide +kernel
theorem dX6_learn_10 : decode cX6_learn 10 = .ok (.invokevirtual 78, 3) := by decide +kernel
theorem dX6_learn_13 : decode cX6_learn 13 = .ok (.istore 4, 2) := by decide +kernel
theorem dX6_learn_15 : decode cX6_learn 15 = .ok (.aload_n 1, 1) := by decide +kernel
theorem dX6_learn_16 : decode cX6_learn 16 = .ok (.getfield 82, 3) := by decide +kernel
theorem dX6_learn_19 : decode cX6_learn 19 = .ok (.iload_n 2, 1) := by decide +kernel
theorem dX6_learn_20 : decode cX6_learn 20 = .ok (.iaload, 1) := by decide +kernel
theorem dX6_learn_21 : decode cX6_learn 21 = .ok (.tableswitch 81 1 3 #[27, 37, 61], 27) := by decide +kernel
theorem dX6_learn_48 : decode cX6_learn 48 = .ok (.aload_n 0, 1) := by decide +kernel
theorem dX6_learn_49 : decode cX6_learn 49 = .ok (.aload_n 1, 1) := by decide +kernel
theorem dX6_learn_50 : decode cX6_learn 50 = .ok (.iload_n 2, 1) := by decide +kernel
theorem dX6_learn_51 : decode cX6_learn 51 = .ok (.iload_n 3, 1) := by decide +kernel
theorem dX6_learn_52 : decode cX6_learn 52 = .ok (.invokevirtual 85, 3) := by decide +kernel
theorem dX6_learn_55 : decode cX6_learn 55 = .ok (.goto 47, 3) := by decide +kernel
theorem dX6_learn_58 : decode cX6_learn 58 = .ok (.aload_n 0, 1) := by decide +kernel
theorem dX6_learn_59 : decode cX6_learn 59 = .ok (.getfield 50, 3) := by decide +kernel
theorem dX6_learn_62 : decode cX6_learn 62 = .ok (.iload_n 3, 1) := by decide +kernel
theorem dX6_learn_63 : decode cX6_learn 63 = .ok (.bipush 25, 2) := by decide +kernel
theorem dX6_learn_65 : decode cX6_learn 65 = .ok (.imul, 1) := by decide +kernel
theorem dX6_learn_66 : decode cX6_learn 66 = .ok (.iload 4, 2) := by decide +kernel
theorem dX6_learn_68 : decode cX6_learn 68 = .ok (.iadd, 1) := by decide +kernel
theorem dX6_learn_69 : decode cX6_learn 69 = .ok (.dup2, 1) := by decide +kernel
theorem dX6_learn_70 : decode cX6_learn 70 = .ok (.iaload, 1) := by decide +kernel
theorem dX6_learn_71 : decode cX6_learn 71 = .ok (.aload_n 1, 1) := by decide +kernel
theorem dX6_learn_72 : decode cX6_learn 72 = .ok (.iload_n 2, 1) := by decide +kernel
theorem dX6_learn_73 : decode cX6_learn 73 = .ok (.iconst 2, 1) := by decide +kernel
theorem dX6_learn_74 : decode cX6_learn 74 = .ok (.invokevirtual 78, 3) := by decide +kernel
theorem dX6_learn_77 : decode cX6_learn 77 = .ok (.iadd, 1) := by decide +kernel
theorem dX6_learn_78 : decode cX6_learn 78 = .ok (.iastore, 1) := by decide +kernel
theorem dX6_learn_79 : decode cX6_learn 79 = .ok (.goto 23, 3) := by decide +kernel
theorem dX6_learn_82 : decode cX6_learn 82 = .ok (.aload_n 0, 1) := by decide +kernel
theorem dX6_learn_83 : decode cX6_learn 83 = .ok (.getfield 53, 3) := by decide +kernel
theorem dX6_learn_86 : decode cX6_learn 86 = .ok (.iload_n 3, 1) := by decide +kernel
theorem dX6_learn_87 : decode cX6_learn 87 = .ok (.aload_n 0, 1) := by decide +kernel
theorem dX6_learn_88 : decode cX6_learn 88 = .ok (.getfield 53, 3) := by decide +kernel
theorem dX6_learn_91 : decode cX6_learn 91 = .ok (.iload_n 3, 1) := by decide +kernel
theorem dX6_learn_92 : decode cX6_learn 92 = .ok (.iaload, 1) := by decide +kernel
theorem dX6_learn_93 : decode cX6_learn 93 = .ok (.iload 4, 2) := by decide +kernel
theorem dX6_learn_95 : decode cX6_learn 95 = .ok (.invokestatic 89, 3) := by decide +kernel
theorem dX6_learn_98 : decode cX6_learn 98 = .ok (.iastore, 1) := by decide +kernel
theorem dX6_learn_99 : decode cX6_learn 99 = .ok (.goto 3, 3) := by decide +kernel
theorem dX6_learn_102 : decode cX6_learn 102 = .ok (.return_, 1) := by decide +kernel
theorem dX6_learnReport_0 : decode cX6_learnReport 0 = .ok (.aload_n 0, 1) := by decide +kernel
theorem dX6_learnReport_1 : decode cX6_learnReport 1 = .ok (.iload_n 3, 1) := by decide +kernel
theorem dX6_learnReport_2 : decode cX6_learnReport 2 = .ok (.invokevirtual 94, 3) := by decide +kernel
theorem dX6_learnReport_5 : decode cX6_learnReport 5 = .ok (.istore 4, 2) := by decide +kernel
theorem dX6_learnReport_7 : decode cX6_learnReport 7 = .ok (.aload_n 1, 1) := by decide +kernel
theorem dX6_learnReport_8 : decode cX6_learnReport 8 = .ok (.iload_n 2, 1) := by decide +kernel
theorem dX6_learnReport_9 : decode cX6_learnReport 9 = .ok (.iconst 1, 1) := by decide +kernel
theorem dX6_learnReport_10 : decode cX6_learnReport 10 = .ok (.invokevirtual 78, 3) := by decide +kernel
theorem dX6_learnReport_13 : decode cX6_learnReport 13 = .ok (.istore 5, 2) := by decide +kernel
theorem dX6_learnReport_15 : decode cX6_learnReport 15 = .ok (.iload 4, 2) := by decide +kernel
theorem dX6_learnReport_17 : decode cX6_learnReport 17 = .ok (.iconst (-1), 1) := by decide +kernel
theorem dX6_learnReport_18 : decode cX6_learnReport 18 = .ok (.if_icmp .ne 71, 3) := by decide +kernel
theorem dX6_learnReport_21 : decode cX6_learnReport 21 = .ok (.aload_n 0, 1) := by decide +kernel
theorem dX6_learnReport_22 : decode cX6_learnReport 22 = .ok (.getfield 59, 3) := by decide +kernel
theorem dX6_learnReport_25 : decode cX6_learnReport 25 = .ok (.bipush 40, 2) := by decide +kernel
theorem dX6_learnReport_27 : decode cX6_learnReport 27 = .ok (.if_icmp .lt 4, 3) := by decide +kernel
theorem dX6_learnReport_30 : decode cX6_learnReport 30 = .ok (.return_, 1) := by decide +kernel
theorem dX6_learnReport_31 : decode cX6_learnReport 31 = .ok (.aload_n 0, 1) := by decide +kernel
theorem dX6_learnReport_32 : decode cX6_learnReport 32 = .ok (.getfield 59, 3) := by decide +kernel
theorem dX6_learnReport_35 : decode cX6_learnReport 35 = .ok (.istore 4, 2) := by decide +kernel
theorem dX6_learnReport_37 : decode cX6_learnReport 37 = .ok (.aload_n 0, 1) := by decide +kernel
theorem dX6_learnReport_38 : decode cX6_learnReport 38 = .ok (.dup, 1) := by decide +kernel
theorem dX6_learnReport_39 : decode cX6_learnReport 39 = .ok (.getfield 59, 3) := by decide +kernel
theorem dX6_learnReport_42 : decode cX6_learnReport 42 = .ok (.iconst 1, 1) := by decide +kernel
theorem dX6_learnReport_43 : decode cX6_learnReport 43 = .ok (.iadd, 1) := by decide +kernel
theorem dX6_learnReport_44 : decode cX6_learnReport 44 = .ok (.putfield 59, 3) := by decide +kernel
theorem dX6_learnReport_47 : decode cX6_learnReport 47 = .ok (.aload_n 0, 1) := by decide +kernel
theorem dX6_learnReport_48 : decode cX6_learnReport 48 = .ok (.getfield 15, 3) := by decide +kernel
theorem dX6_learnReport_51 : decode cX6_learnReport 51 = .ok (.iload 4, 2) := by decide +kernel
theorem dX6_learnReport_53 : decode cX6_learnReport 53 = .ok (.iload_n 3, 1) := by decide +kernel
theorem dX6_learnReport_54 : decode cX6_learnReport 54 = .ok (.iastore, 1) := by decide +kernel
theorem dX6_learnReport_55 : decode cX6_learnReport 55 = .ok (.aload_n 0, 1) := by decide +kernel
theorem dX6_learnReport_56 : decode cX6_learnReport 56 = .ok (.getfield 22, 3) := by decide +kernel
theorem dX6_learnReport_59 : decode cX6_learnReport 59 = .ok (.iload 4, 2) := by decide +kernel
theorem dX6_learnReport_61 : decode cX6_learnReport 61 = .ok (.iload 5, 2) := by decide +kernel
theorem dX6_learnReport_63 : decode cX6_learnReport 63 = .ok (.iastore, 1) := by decide +kernel
theorem dX6_learnReport_64 : decode cX6_learnReport 64 = .ok (.aload_n 0, 1) := by decide +kernel
theorem dX6_learnReport_65 : decode cX6_learnReport 65 = .ok (.getfield 25, 3) := by decide +kernel
theorem dX6_learnReport_68 : decode cX6_learnReport 68 = .ok (.iload 4, 2) := by decide +kernel
theorem dX6_learnReport_70 : decode cX6_learnReport 70 = .ok (.iload 5, 2) := by decide +kernel
theorem dX6_learnReport_72 : decode cX6_learnReport 72 = .ok (.iastore, 1) := by decide +kernel
theorem dX6_learnReport_73 : decode cX6_learnReport 73 = .ok (.aload_n 0, 1) := by decide +kernel
theorem dX6_learnReport_74 : decode cX6_learnReport 74 = .ok (.getfield 37, 3) := by decide +kernel
theorem dX6_learnReport_77 : decode cX6_learnReport 77 = .ok (.iload 4, 2) := by decide +kernel
theorem dX6_learnReport_79 : decode cX6_learnReport 79 = .ok (.iconst 0, 1) := by decide +kernel
theorem dX6_learnReport_80 : decode cX6_learnReport 80 = .ok (.iastore, 1) := by decide +kernel
theorem dX6_learnReport_81 : decode cX6_learnReport 81 = .ok (.aload_n 0, 1) := by decide +kernel
theorem dX6_learnReport_82 : decode cX6_learnReport 82 = .ok (.getfield 40, 3) := by decide +kernel
theorem dX6_learnReport_85 : decode cX6_learnReport 85 = .ok (.iload 4, 2) := by decide +kernel
theorem dX6_learnReport_87 : decode cX6_learnReport 87 = .ok (.iconst 0, 1) := by decide +kernel
theorem dX6_learnReport_88 : decode cX6_learnReport 88 = .ok (.iastore, 1) := by decide +kernel
theorem dX6_learnReport_89 : decode cX6_learnReport 89 = .ok (.aload_n 0, 1) := by decide +kernel
theorem dX6_learnReport_90 : decode cX6_learnReport 90 = .ok (.getfield 47, 3) := by decide +kernel
theorem dX6_learnReport_93 : decode cX6_learnReport 93 = .ok (.iload_n 2, 1) := by decide +kernel
theorem dX6_learnReport_94 : decode cX6_learnReport 94 = .ok (.iload 4, 2) := by decide +kernel
theorem dX6_learnReport_96 : decode cX6_learnReport 96 = .ok (.iastore, 1) := by decide +kernel
theorem dX6_learnReport_97 : decode cX6_learnReport 97 = .ok (.aload_n 0, 1) := by decide +kernel
theorem dX6_learnReport_98 : decode cX6_learnReport 98 = .ok (.getfield 19, 3) := by decide +kernel
theorem dX6_learnReport_101 : decode cX6_learnReport 101 = .ok (.iload 4, 2) := by decide +kernel
theorem dX6_learnReport_103 : decode cX6_learnReport 103 = .ok (.iload 5, 2) := by decide +kernel
theorem dX6_learnReport_105 : decode cX6_learnReport 105 = .ok (.iastore, 1) := by decide +kernel
theorem dX6_learnReport_106 : decode cX6_learnReport 106 = .ok (.aload_n 0, 1) := by decide +kernel
theorem dX6_learnReport_107 : decode cX6_learnReport 107 = .ok (.getfield 22, 3) := by decide +kernel
theorem dX6_learnReport_110 : decode cX6_learnReport 110 = .ok (.iload 4, 2) := by decide +kernel
theorem dX6_learnReport_112 : decode cX6_learnReport 112 = .ok (.aload_n 0, 1) := by decide +kernel
theorem dX6_learnReport_113 : decode cX6_learnReport 113 = .ok (.getfield 22, 3) := by decide +kernel
theorem dX6_learnReport_116 : decode cX6_learnReport 116 = .ok (.iload 4, 2) := by decide +kernel
theorem dX6_learnReport_118 : decode cX6_learnReport 118 = .ok (.iaload, 1) := by decide +kernel
theorem dX6_learnReport_119 : decode cX6_learnReport 119 = .ok (.iload 5, 2) := by decide +kernel
theorem dX6_learnReport_121 : decode cX6_learnReport 121 = .ok (.invokestatic 89, 3) := by decide +kernel
theorem dX6_learnReport_124 : decode cX6_learnReport 124 = .ok (.iastore, 1) := by decide +kernel
theorem dX6_learnReport_125 : decode cX6_learnReport 125 = .ok (.aload_n 0, 1) := by decide +kernel
theorem dX6_learnReport_126 : decode cX6_learnReport 126 = .ok (.getfield 25, 3) := by decide +kernel
theorem dX6_learnReport_129 : decode cX6_learnReport 129 = .ok (.iload 4, 2) := by decide +kernel
theorem dX6_learnReport_131 : decode cX6_learnReport 131 = .ok (.aload_n 0, 1) := by decide +kernel
theorem dX6_learnReport_132 : decode cX6_learnReport 132 = .ok (.getfield 25, 3) := by decide +kernel
theorem dX6_learnReport_135 : decode cX6_learnReport 135 = .ok (.iload 4, 2) := by decide +kernel
theorem dX6_learnReport_137 : decode cX6_learnReport 137 = .ok (.iaload, 1) := by decide +kernel
theorem dX6_learnReport_138 : decode cX6_learnReport 138 = .ok (.iload 5, 2) := by decide +kernel
theorem dX6_learnReport_140 : decode cX6_learnReport 140 = .ok (.invokestatic 98, 3) := by decide +kernel
theorem dX6_learnReport_143 : decode cX6_learnReport 143 = .ok (.iastore, 1) := by decide +kernel
theorem dX6_learnReport_144 : decode cX6_learnReport 144 = .ok (.aload_n 0, 1) := by decide +kernel
theorem dX6_learnReport_145 : decode cX6_learnReport 145 = .ok (.getfield 28, 3) := by decide +kernel
theorem dX6_learnReport_148 : decode cX6_learnReport 148 = .ok (.iload 4, 2) := by decide +kernel
theorem dX6_learnReport_150 : decode cX6_learnReport 150 = .ok (.aload_n 1, 1) := by decide +kernel
theorem dX6_learnReport_151 : decode cX6_learnReport 151 = .ok (.iload_n 2, 1) := by decide +kernel
theorem dX6_learnReport_152 : decode cX6_learnReport 152 = .ok (.iconst 2, 1) := by decide +kernel
theorem dX6_learnReport_153 : decode cX6_learnReport 153 = .ok (.invokevirtual 78, 3) := by decide +kernel
theorem dX6_learnReport_156 : decode cX6_learnReport 156 = .ok (.iastore, 1) := by decide +kernel
theorem dX6_learnReport_157 : decode cX6_learnReport 157 = .ok (.aload_n 0, 1) := by decide +kernel
theorem dX6_learnReport_158 : decode cX6_learnReport 158 = .ok (.getfield 31, 3) := by decide +kernel
theorem dX6_learnReport_161 : decode cX6_learnReport 161 = .ok (.iload 4, 2) := by decide +kernel
theorem dX6_learnReport_163 : decode cX6_learnReport 163 = .ok (.aload_n 1, 1) := by decide +kernel
theorem dX6_learnReport_164 : decode cX6_learnReport 164 = .ok (.iload_n 2, 1) := by decide +kernel
theorem dX6_learnReport_165 : decode cX6_learnReport 165 = .ok (.iconst 3, 1) := by decide +kernel
theorem dX6_learnReport_166 : decode cX6_learnReport 166 = .ok (.invokevirtual 78, 3) := by decide +kernel
theorem dX6_learnReport_169 : decode cX6_learnReport 169 = .ok (.iastore, 1) := by decide +kernel
theorem dX6_learnReport_170 : decode cX6_learnReport 170 = .ok (.aload_n 0, 1) := by decide +kernel
theorem dX6_learnReport_171 : decode cX6_learnReport 171 = .ok (.getfield 34, 3) := by decide +kernel
theorem dX6_learnReport_174 : decode cX6_learnReport 174 = .ok (.iload 4, 2) := by decide +kernel
theorem dX6_learnReport_176 : decode cX6_learnReport 176 = .ok (.aload_n 1, 1) := by decide +kernel
theorem dX6_learnReport_177 : decode cX6_learnReport 177 = .ok (.iload_n 2, 1) := by decide +kernel
theorem dX6_learnReport_178 : decode cX6_learnReport 178 = .ok (.iconst 4, 1) := by decide +kernel
theorem dX6_learnReport_179 : decode cX6_learnReport 179 = .ok (.invokevirtual 78, 3) := by decide +kernel
theorem dX6_learnReport_182 : decode cX6_learnReport 182 = .ok (.iastore, 1) := by decide +kernel
theorem dX6_learnReport_183 : decode cX6_learnReport 183 = .ok (.aload_n 0, 1) := by decide +kernel
theorem dX6_learnReport_184 : decode cX6_learnReport 184 = .ok (.getfield 37, 3) := by decide +kernel
theorem dX6_learnReport_187 : decode cX6_learnReport 187 = .ok (.iload 4, 2) := by decide +kernel
theorem dX6_learnReport_189 : decode cX6_learnReport 189 = .ok (.dup2, 1) := by decide +kernel
theorem dX6_learnReport_190 : decode cX6_learnReport 190 = .ok (.iaload, 1) := by decide +kernel
theorem dX6_learnReport_191 : decode cX6_learnReport 191 = .ok (.iconst 1, 1) := by decide +kernel
theorem dX6_learnReport_192 : decode cX6_learnReport 192 = .ok (.iadd, 1) := by decide +kernel
theorem dX6_learnReport_193 : decode cX6_learnReport 193 = .ok (.iastore, 1) := by decide +kernel
theorem dX6_learnReport_194 : decode cX6_learnReport 194 = .ok (.iconst 0, 1) := by decide +kernel
theorem dX6_learnReport_195 : decode cX6_learnReport 195 = .ok (.istore 6, 2) := by decide +kernel
theorem dX6_learnReport_197 : decode cX6_learnReport 197 = .ok (.iload 6, 2) := by decide +kernel
theorem dX6_learnReport_199 : decode cX6_learnReport 199 = .ok (.aload_n 1, 1) := by decide +kernel
theorem dX6_learnReport_200 : decode cX6_learnReport 200 = .ok (.getfield 101, 3) := by decide +kernel
theorem dX6_learnReport_203 : decode cX6_learnReport 203 = .ok (.iload_n 2, 1) := by decide +kernel
theorem dX6_learnReport_204 : decode cX6_learnReport 204 = .ok (.iaload, 1) := by decide +kernel
theorem dX6_learnReport_205 : decode cX6_learnReport 205 = .ok (.if_icmp .ge 26, 3) := by decide +kernel
theorem dX6_learnReport_208 : decode cX6_learnReport 208 = .ok (.aload_n 0, 1) := by decide +kernel
theorem dX6_learnReport_209 : decode cX6_learnReport 209 = .ok (.iload 4, 2) := by decide +kernel
theorem dX6_learnReport_211 : decode cX6_learnReport 211 = .ok (.aload_n 1, 1) := by decide +kernel
theorem dX6_learnReport_212 : decode cX6_learnReport 212 = .ok (.getfield 102, 3) := by decide +kernel
theorem dX6_learnReport_215 : decode cX6_learnReport 215 = .ok (.iload_n 2, 1) := by decide +kernel
theorem dX6_learnReport_216 : decode cX6_learnReport 216 = .ok (.iconst 3, 1) := by decide +kernel
theorem dX6_learnReport_217 : decode cX6_learnReport 217 = .ok (.imul, 1) := by decide +kernel
theorem dX6_learnReport_218 : decode cX6_learnReport 218 = .ok (.iload 6, 2) := by decide +kernel
theorem dX6_learnReport_220 : decode cX6_learnReport 220 = .ok (.iadd, 1) := by decide +kernel
theorem dX6_learnReport_221 : decode cX6_learnReport 221 = .ok (.laload, 1) := by decide +kernel
theorem dX6_learnReport_222 : decode cX6_learnReport 222 = .ok (.invokevirtual 103, 3) := by decide +kernel
theorem dX6_learnReport_225 : decode cX6_learnReport 225 = .ok (.iinc 6 1, 3) := by decide +kernel
theorem dX6_learnReport_228 : decode cX6_learnReport 228 = .ok (.goto (-31), 3) := by decide +kernel
theorem dX6_learnReport_231 : decode cX6_learnReport 231 = .ok (.return_, 1) := by decide +kernel
theorem dX6_learnWish_0 : decode cX6_learnWish 0 = .ok (.aload_n 0, 1) := by decide +kernel
theorem dX6_learnWish_1 : decode cX6_learnWish 1 = .ok (.getfield 40, 3) := by decide +kernel
theorem dX6_learnWish_4 : decode cX6_learnWish 4 = .ok (.iload_n 1, 1) := by decide +kernel
theorem dX6_learnWish_5 : decode cX6_learnWish 5 = .ok (.iaload, 1) := by decide +kernel
theorem dX6_learnWish_6 : decode cX6_learnWish 6 = .ok (.iconst 4, 1) := by decide +kernel
theorem dX6_learnWish_7 : decode cX6_learnWish 7 = .ok (.if_icmp .ge 38, 3) := by decide +kernel
theorem dX6_learnWish_10 : decode cX6_learnWish 10 = .ok (.aload_n 0, 1) := by decide +kernel
theorem dX6_learnWish_11 : decode cX6_learnWish 11 = .ok (.iload_n 1, 1) := by decide +kernel
theorem dX6_learnWish_12 : decode cX6_learnWish 12 = .ok (.lload_n 2, 1) := by decide +kernel
theorem dX6_learnWish_13 : decode cX6_learnWish 13 = .ok (.invokevirtual 107, 3) := by decide +kernel
theorem dX6_learnWish_16 : decode cX6_learnWish 16 = .ok (.ifCond .ne 29, 3) := by decide +kernel
theorem dX6_learnWish_19 : decode cX6_learnWish 19 = .ok (.aload_n 0, 1) := by decide +kernel
theorem dX6_learnWish_20 : decode cX6_learnWish 20 = .ok (.getfield 43, 3) := by decide +kernel
theorem dX6_learnWish_23 : decode cX6_learnWish 23 = .ok (.iload_n 1, 1) := by decide +kernel
theorem dX6_learnWish_24 : decode cX6_learnWish 24 = .ok (.iconst 4, 1) := by decide +kernel
theorem dX6_learnWish_25 : decode cX6_learnWish 25 = .ok (.imul, 1) := by decide +kernel
theorem dX6_learnWish_26 : decode cX6_learnWish 26 = .ok (.aload_n 0, 1) := by decide +kernel
theorem dX6_learnWish_27 : decode cX6_learnWish 27 = .ok (.getfield 40, 3) := by decide +kernel
theorem dX6_learnWish_30 : decode cX6_learnWish 30 = .ok (.iload_n 1, 1) := by decide +kernel
theorem dX6_learnWish_31 : decode cX6_learnWish 31 = .ok (.iaload, 1) := by decide +kernel
theorem dX6_learnWish_32 : decode cX6_learnWish 32 = .ok (.iadd, 1) := by decide +kernel
theorem dX6_learnWish_33 : decode cX6_learnWish 33 = .ok (.lload_n 2, 1) := by decide +kernel
theorem dX6_learnWish_34 : decode cX6_learnWish 34 = .ok (.lastore, 1) := by decide +kernel
theorem dX6_learnWish_35 : decode cX6_learnWish 35 = .ok (.aload_n 0, 1) := by decide +kernel
theorem dX6_learnWish_36 : decode cX6_learnWish 36 = .ok (.getfield 40, 3) := by decide +kernel
theorem dX6_learnWish_39 : decode cX6_learnWish 39 = .ok (.iload_n 1, 1) := by decide +kernel
theorem dX6_learnWish_40 : decode cX6_learnWish 40 = .ok (.dup2, 1) := by decide +kernel
theorem dX6_learnWish_41 : decode cX6_learnWish 41 = .ok (.iaload, 1) := by decide +kernel
theorem dX6_learnWish_42 : decode cX6_learnWish 42 = .ok (.iconst 1, 1) := by decide +kernel
theorem dX6_learnWish_43 : decode cX6_learnWish 43 = .ok (.iadd, 1) := by decide +kernel
theorem dX6_learnWish_44 : decode cX6_learnWish 44 = .ok (.iastore, 1) := by decide +kernel
theorem dX6_learnWish_45 : decode cX6_learnWish 45 = .ok (.return_, 1) := by decide +kernel
theorem dX6_look_0 : decode cX6_look 0 = .ok (.aload_n 0, 1) := by decide +kernel
theorem dX6_look_1 : decode cX6_look 1 = .ok (.getfield 9, 3) := by decide +kernel
theorem dX6_look_4 : decode cX6_look 4 = .ok (.iload_n 2, 1) := by decide +kernel
theorem dX6_look_5 : decode cX6_look 5 = .ok (.if_icmp .ne 4, 3) := by decide +kernel
theorem dX6_look_8 : decode cX6_look 8 = .ok (.return_, 1) := by decide +kernel
theorem dX6_look_9 : decode cX6_look 9 = .ok (.aload_n 0, 1) := by decide +kernel
theorem dX6_look_10 : decode cX6_look 10 = .ok (.iload_n 2, 1) := by decide +kernel
theorem dX6_look_11 : decode cX6_look 11 = .ok (.putfield 9, 3) := by decide +kernel
theorem dX6_look_14 : decode cX6_look 14 = .ok (.aload_n 0, 1) := by decide +kernel
theorem dX6_look_15 : decode cX6_look 15 = .ok (.dup, 1) := by decide +kernel
theorem dX6_look_16 : decode cX6_look 16 = .ok (.getfield 56, 3) := by decide +kernel
theorem dX6_look_19 : decode cX6_look 19 = .ok (.iconst 1, 1) := by decide +kernel
theorem dX6_look_20 : decode cX6_look 20 = .ok (.iadd, 1) := by decide +kernel
theorem dX6_look_21 : decode cX6_look 21 = .ok (.putfield 56, 3) := by decide +kernel
theorem dX6_look_24 : decode cX6_look 24 = .ok (.aload_n 0, 1) := by decide +kernel
theorem dX6_look_25 : decode cX6_look 25 = .ok (.iconst 0, 1) := by decide +kernel
theorem dX6_look_26 : decode cX6_look 26 = .ok (.putfield 59, 3) := by decide +kernel
theorem dX6_look_29 : decode cX6_look 29 = .ok (.aload_n 0, 1) := by decide +kernel
theorem dX6_look_30 : decode cX6_look 30 = .ok (.getfield 50, 3) := by decide +kernel
theorem dX6_look_33 : decode cX6_look 33 = .ok (.iconst 0, 1) := by decide +kernel
theorem dX6_look_34 : decode cX6_look 34 = .ok (.invokestatic 62, 3) := by decide +kernel
theorem dX6_look_37 : decode cX6_look 37 = .ok (.aload_n 0, 1) := by decide +kernel
theorem dX6_look_38 : decode cX6_look 38 = .ok (.getfield 53, 3) := by decide +kernel
theorem dX6_look_41 : decode cX6_look 41 = .ok (.bipush 25, 2) := by decide +kernel
theorem dX6_look_43 : decode cX6_look 43 = .ok (.invokestatic 62, 3) := by decide +kernel
theorem dX6_look_46 : decode cX6_look 46 = .ok (.iconst 1, 1) := by decide +kernel
theorem dX6_look_47 : decode cX6_look 47 = .ok (.istore_n 3, 1) := by decide +kernel
theorem dX6_look_48 : decode cX6_look 48 = .ok (.iload_n 3, 1) := by decide +kernel
theorem dX6_look_49 : decode cX6_look 49 = .ok (.iload_n 2, 1) := by decide +kernel
theorem dX6_look_50 : decode cX6_look 50 = .ok (.if_icmp .gt 31, 3) := by decide +kernel
theorem dX6_look_53 : decode cX6_look 53 = .ok (.aload_n 0, 1) := by decide +kernel
theorem dX6_look_54 : decode cX6_look 54 = .ok (.getfield 47, 3) := by decide +kernel
theorem dX6_look_57 : decode cX6_look 57 = .ok (.iload_n 3, 1) := by decide +kernel
theorem dX6_look_58 : decode cX6_look 58 = .ok (.iconst (-1), 1) := by decide +kernel
theorem dX6_look_59 : decode cX6_look 59 = .ok (.iastore, 1) := by decide +kernel
theorem dX6_look_60 : decode cX6_look 60 = .ok (.aload_n 1, 1) := by decide +kernel
theorem dX6_look_61 : decode cX6_look 61 = .ok (.iload_n 3, 1) := by decide +kernel
theorem dX6_look_62 : decode cX6_look 62 = .ok (.iload_n 2, 1) := by decide +kernel
theorem dX6_look_63 : decode cX6_look 63 = .ok (.invokevirtual 68, 3) := by decide +kernel
theorem dX6_look_66 : decode cX6_look 66 = .ok (.ifCond .eq 9, 3) := by decide +kernel
theorem dX6_look_69 : decode cX6_look 69 = .ok (.aload_n 0, 1) := by decide +kernel
theorem dX6_look_70 : decode cX6_look 70 = .ok (.aload_n 1, 1) := by decide +kernel
theorem dX6_look_71 : decode cX6_look 71 = .ok (.iload_n 3, 1) := by decide +kernel
theorem dX6_look_72 : decode cX6_look 72 = .ok (.invokevirtual 74, 3) := by decide +kernel
theorem dX6_look_75 : decode cX6_look 75 = .ok (.iinc 3 1, 3) := by decide +kernel
theorem dX6_look_78 : decode cX6_look 78 = .ok (.goto (-30), 3) := by decide +kernel
theorem dX6_look_81 : decode cX6_look 81 = .ok (.return_, 1) := by decide +kernel
theorem dX6_mates_0 : decode cX6_mates 0 = .ok (.aload_n 0, 1) := by decide +kernel
theorem dX6_mates_1 : decode cX6_mates 1 = .ok (.getfield 31, 3) := by decide +kernel
theorem dX6_mates_4 : decode cX6_mates 4 = .ok (.iload_n 1, 1) := by decide +kernel
theorem dX6_mates_5 : decode cX6_mates 5 = .ok (.iaload, 1) := by decide +kernel
theorem dX6_mates_6 : decode cX6_mates 6 = .ok (.ifCond .ne 5, 3) := by decide +kernel
theorem dX6_mates_9 : decode cX6_mates 9 = .ok (.iconst 1, 1) := by decide +kernel
theorem dX6_mates_10 : decode cX6_mates 10 = .ok (.ireturn, 1) := by decide +kernel
theorem dX6_mates_11 : decode cX6_mates 11 = .ok (.iconst 0, 1) := by decide +kernel
theorem dX6_mates_12 : decode cX6_mates 12 = .ok (.istore_n 2, 1) := by decide +kernel
theorem dX6_mates_13 : decode cX6_mates 13 = .ok (.iconst 0, 1) := by decide +kernel
theorem dX6_mates_14 : decode cX6_mates 14 = .ok (.istore_n 3, 1) := by decide +kernel
theorem dX6_mates_15 : decode cX6_mates 15 = .ok (.iload_n 3, 1) := by decide +kernel
theorem dX6_mates_16 : decode cX6_mates 16 = .ok (.aload_n 0, 1) := by decide +kernel
theorem dX6_mates_17 : decode cX6_mates 17 = .ok (.getfield 59, 3) := by decide +kernel
theorem dX6_mates_20 : decode cX6_mates 20 = .ok (.if_icmp .ge 27, 3) := by decide +kernel
theorem dX6_mates_23 : decode cX6_mates 23 = .ok (.aload_n 0, 1) := by decide +kernel
theorem dX6_mates_24 : decode cX6_mates 24 = .ok (.getfield 31, 3) := by decide +kernel
theorem dX6_mates_27 : decode cX6_mates 27 = .ok (.iload_n 3, 1) := by decide +kernel
theorem dX6_mates_28 : decode cX6_mates 28 = .ok (.iaload, 1) := by decide +kernel
theorem dX6_mates_29 : decode cX6_mates 29 = .ok (.aload_n 0, 1) := by decide +kernel
theorem dX6_mates_30 : decode cX6_mates 30 = .ok (.getfield 31, 3) := by decide +kernel
theorem dX6_mates_33 : decode cX6_mates 33 = .ok (.iload_n 1, 1) := by decide +kernel
theorem dX6_mates_34 : decode cX6_mates 34 = .ok (.iaload, 1) := by decide +kernel
theorem dX6_mates_35 : decode cX6_mates 35 = .ok (.if_icmp .ne 6, 3) := by decide +kernel
theorem dX6_mates_38 : decode cX6_mates 38 = .ok (.iinc 2 1, 3) := by decide +kernel
theorem dX6_mates_41 : decode cX6_mates 41 = .ok (.iinc 3 1, 3) := by decide +kernel
theorem dX6_mates_44 : decode cX6_mates 44 = .ok (.goto (-29), 3) := by decide +kernel
theorem dX6_mates_47 : decode cX6_mates 47 = .ok (.iload_n 2, 1) := by decide +kernel
theorem dX6_mates_48 : decode cX6_mates 48 = .ok (.ireturn, 1) := by decide +kernel
theorem dX6_wants_0 : decode cX6_wants 0 = .ok (.iconst 0, 1) := by decide +kernel
theorem dX6_wants_1 : decode cX6_wants 1 = .ok (.istore 4, 2) := by decide +kernel
theorem dX6_wants_3 : decode cX6_wants 3 = .ok (.iload 4, 2) := by decide +kernel
theorem dX6_wants_5 : decode cX6_wants 5 = .ok (.aload_n 0, 1) := by decide +kernel
theorem dX6_wants_6 : decode cX6_wants 6 = .ok (.getfield 40, 3) := by decide +kernel
theorem dX6_wants_9 : decode cX6_wants 9 = .ok (.iload_n 1, 1) := by decide +kernel
theorem dX6_wants_10 : decode cX6_wants 10 = .ok (.iaload, 1) := by decide +kernel
theorem dX6_wants_11 : decode cX6_wants 11 = .ok (.if_icmp .ge 27, 3) := by decide +kernel
theorem dX6_wants_14 : decode cX6_wants 14 = .ok (.aload_n 0, 1) := by decide +kernel
theorem dX6_wants_15 : decode cX6_wants 15 = .ok (.getfield 43, 3) := by decide +kernel
theorem dX6_wants_18 : decode cX6_wants 18 = .ok (.iload_n 1, 1) := by decide +kernel
theorem dX6_wants_19 : decode cX6_wants 19 = .ok (.iconst 4, 1) := by decide +kernel
theorem dX6_wants_20 : decode cX6_wants 20 = .ok (.imul, 1) := by decide +kernel
theorem dX6_wants_21 : decode cX6_wants 21 = .ok (.iload 4, 2) := by decide +kernel
theorem dX6_wants_23 : decode cX6_wants 23 = .ok (.iadd, 1) := by decide +kernel
theorem dX6_wants_24 : decode cX6_wants 24 = .ok (.laload, 1) := by decide +kernel
theorem dX6_wants_25 : decode cX6_wants 25 = .ok (.lload_n 2, 1) := by decide +kernel
theorem dX6_wants_26 : decode cX6_wants 26 = .ok (.lcmp, 1) := by decide +kernel
theorem dX6_wants_27 : decode cX6_wants 27 = .ok (.ifCond .ne 5, 3) := by decide +kernel
theorem dX6_wants_30 : decode cX6_wants 30 = .ok (.iconst 1, 1) := by decide +kernel
theorem dX6_wants_31 : decode cX6_wants 31 = .ok (.ireturn, 1) := by decide +kernel
theorem dX6_wants_32 : decode cX6_wants 32 = .ok (.iinc 4 1, 3) := by decide +kernel
theorem dX6_wants_35 : decode cX6_wants 35 = .ok (.goto (-32), 3) := by decide +kernel
theorem dX6_wants_38 : decode cX6_wants 38 = .ok (.iconst 0, 1) := by decide +kernel
theorem dX6_wants_39 : decode cX6_wants 39 = .ok (.ireturn, 1) := by decide +kernel
theorem dX7_add_0 : decode cX7_add 0 = .ok (.aload_n 0, 1) := by decide +kernel
theorem dX7_add_1 : decode cX7_add 1 = .ok (.dup, 1) := by decide +kernel
theorem dX7_add_2 : decode cX7_add 2 = .ok (.getfield 31, 3) := by decide +kernel
theorem dX7_add_5 : decode cX7_add 5 = .ok (.iconst 1, 1) := by decide +kernel
theorem dX7_add_6 : decode cX7_add 6 = .ok (.iadd, 1) := by decide +kernel
theorem dX7_add_7 : decode cX7_add 7 = .ok (.putfield 31, 3) := by decide +kernel
theorem dX7_add_10 : decode cX7_add 10 = .ok (.aload_n 0, 1) := by decide +kernel
theorem dX7_add_11 : decode cX7_add 11 = .ok (.getfield 9, 3) := by decide +kernel
theorem dX7_add_14 : decode cX7_add 14 = .ok (.aload_n 0, 1) := by decide +kernel
theorem dX7_add_15 : decode cX7_add 15 = .ok (.getfield 31, 3) := by decide +kernel
theorem dX7_add_18 : decode cX7_add 18 = .ok (.iload_n 1, 1) := by decide +kernel
theorem dX7_add_19 : decode cX7_add 19 = .ok (.iastore, 1) := by decide +kernel
theorem dX7_add_20 : decode cX7_add 20 = .ok (.aload_n 0, 1) := by decide +kernel
theorem dX7_add_21 : decode cX7_add 21 = .ok (.getfield 25, 3) := by decide +kernel
theorem dX7_add_24 : decode cX7_add 24 = .ok (.aload_n 0, 1) := by decide +kernel
theorem dX7_add_25 : decode cX7_add 25 = .ok (.getfield 31, 3) := by decide +kernel
theorem dX7_add_28 : decode cX7_add 28 = .ok (.iconst 0, 1) := by decide +kernel
theorem dX7_add_29 : decode cX7_add 29 = .ok (.iastore, 1) := by decide +kernel
theorem dX7_add_30 : decode cX7_add 30 = .ok (.aload_n 0, 1) := by decide +kernel
theorem dX7_add_31 : decode cX7_add 31 = .ok (.getfield 22, 3) := by decide +kernel
theorem dX7_add_34 : decode cX7_add 34 = .ok (.aload_n 0, 1) := by decide +kernel
theorem dX7_add_35 : decode cX7_add 35 = .ok (.getfield 31, 3) := by decide +kernel
theorem dX7_add_38 : decode cX7_add 38 = .ok (.iconst 0, 1) := by decide +kernel
theorem dX7_add_39 : decode cX7_add 39 = .ok (.iastore, 1) := by decide +kernel
theorem dX7_add_40 : decode cX7_add 40 = .ok (.aload_n 0, 1) := by decide +kernel
theorem dX7_add_41 : decode cX7_add 41 = .ok (.getfield 15, 3) := by decide +kernel
theorem dX7_add_44 : decode cX7_add 44 = .ok (.aload_n 0, 1) := by decide +kernel
theorem dX7_add_45 : decode cX7_add 45 = .ok (.getfield 31, 3) := by decide +kernel
theorem dX7_add_48 : decode cX7_add 48 = .ok (.iconst 5, 1) := by decide +kernel
theorem dX7_add_49 : decode cX7_add 49 = .ok (.imul, 1) := by decide +kernel
theorem dX7_add_50 : decode cX7_add 50 = .ok (.iload_n 2, 1) := by decide +kernel
theorem dX7_add_51 : decode cX7_add 51 = .ok (.iastore, 1) := by decide +kernel
theorem dX7_add_52 : decode cX7_add 52 = .ok (.aload_n 0, 1) := by decide +kernel
theorem dX7_add_53 : decode cX7_add 53 = .ok (.getfield 15, 3) := by decide +kernel
theorem dX7_add_56 : decode cX7_add 56 = .ok (.aload_n 0, 1) := by decide +kernel
theorem dX7_add_57 : decode cX7_add 57 = .ok (.getfield 31, 3) := by decide +kernel
theorem dX7_add_60 : decode cX7_add 60 = .ok (.iconst 5, 1) := by decide +kernel
theorem dX7_add_61 : decode cX7_add 61 = .ok (.imul, 1) := by decide +kernel
theorem dX7_add_62 : decode cX7_add 62 = .ok (.iconst 1, 1) := by decide +kernel
theorem dX7_add_63 : decode cX7_add 63 = .ok (.iadd, 1) := by decide +kernel
theorem dX7_add_64 : decode cX7_add 64 = .ok (.iload_n 3, 1) := by decide +kernel
theorem dX7_add_65 : decode cX7_add 65 = .ok (.iastore, 1) := by decide +kernel
theorem dX7_add_66 : decode cX7_add 66 = .ok (.aload_n 0, 1) := by decide +kernel
theorem dX7_add_67 : decode cX7_add 67 = .ok (.getfield 15, 3) := by decide +kernel
theorem dX7_add_70 : decode cX7_add 70 = .ok (.aload_n 0, 1) := by decide +kernel
theorem dX7_add_71 : decode cX7_add 71 = .ok (.getfield 31, 3) := by decide +kernel
theorem dX7_add_74 : decode cX7_add 74 = .ok (.iconst 5, 1) := by decide +kernel
theorem dX7_add_75 : decode cX7_add 75 = .ok (.imul, 1) := by decide +kernel
theorem dX7_add_76 : decode cX7_add 76 = .ok (.iconst 2, 1) := by decide +kernel
theorem dX7_add_77 : decode cX7_add 77 = .ok (.iadd, 1) := by decide +kernel
theorem dX7_add_78 : decode cX7_add 78 = .ok (.iload 4, 2) := by decide +kernel
theorem dX7_add_80 : decode cX7_add 80 = .ok (.iastore, 1) := by decide +kernel
theorem dX7_add_81 : decode cX7_add 81 = .ok (.aload_n 0, 1) := by decide +kernel
theorem dX7_add_82 : decode cX7_add 82 = .ok (.getfield 31, 3) := by decide +kernel
theorem dX7_add_85 : decode cX7_add 85 = .ok (.ireturn, 1) := by decide +kernel
theorem dX7_addReport_0 : decode cX7_addReport 0 = .ok (.aload_n 0, 1) := by decide +kernel
theorem dX7_addReport_1 : decode cX7_addReport 1 = .ok (.iconst 1, 1) := by decide +kernel
theorem dX7_addReport_2 : decode cX7_addReport 2 = .ok (.iload_n 1, 1) := by decide +kernel
theorem dX7_addReport_3 : decode cX7_addReport 3 = .ok (.iload_n 2, 1) := by decide +kernel
theorem dX7_addReport_4 : decode cX7_addReport 4 = .ok (.iload_n 3, 1) := by decide +kernel
theorem dX7_addReport_5 : decode cX7_addReport 5 = .ok (.invokevirtual 38, 3) := by decide +kernel
theorem dX7_addReport_8 : decode cX7_addReport 8 = .ok (.istore 7, 2) := by decide +kernel
theorem dX7_addReport_10 : decode cX7_addReport 10 = .ok (.aload_n 0, 1) := by decide +kernel
theorem dX7_addReport_11 : decode cX7_addReport 11 = .ok (.getfield 15, 3) := by decide +kernel
theorem dX7_addReport_14 : decode cX7_addReport 14 = .ok (.iload 7, 2) := by decide +kernel
theorem dX7_addReport_16 : decode cX7_addReport 16 = .ok (.iconst 5, 1) := by decide +kernel
theorem dX7_addReport_17 : decode cX7_addReport 17 = .ok (.imul, 1) := by decide +kernel
theorem dX7_addReport_18 : decode cX7_addReport 18 = .ok (.iconst 3, 1) := by decide +kernel
theorem dX7_addReport_19 : decode cX7_addReport 19 = .ok (.iadd, 1) := by decide +kernel
theorem dX7_addReport_20 : decode cX7_addReport 20 = .ok (.iload 4, 2) := by decide +kernel
theorem dX7_addReport_22 : decode cX7_addReport 22 = .ok (.iastore, 1) := by decide +kernel
theorem dX7_addReport_23 : decode cX7_addReport 23 = .ok (.aload_n 0, 1) := by decide +kernel
theorem dX7_addReport_24 : decode cX7_addReport 24 = .ok (.getfield 15, 3) := by decide +kernel
theorem dX7_addReport_27 : decode cX7_addReport 27 = .ok (.iload 7, 2) := by decide +kernel
theorem dX7_addReport_29 : decode cX7_addReport 29 = .ok (.iconst 5, 1) := by decide +kernel
theorem dX7_addReport_30 : decode cX7_addReport 30 = .ok (.imul, 1) := by decide +kernel
theorem dX7_addReport_31 : decode cX7_addReport 31 = .ok (.iconst 4, 1) := by decide +kernel
theorem dX7_addReport_32 : decode cX7_addReport 32 = .ok (.iadd, 1) := by decide +kernel
theorem dX7_addReport_33 : decode cX7_addReport 33 = .ok (.iload 5, 2) := by decide +kernel
theorem dX7_addReport_35 : decode cX7_addReport 35 = .ok (.iastore, 1) := by decide +kernel
theorem dX7_addReport_36 : decode cX7_addReport 36 = .ok (.aload_n 0, 1) := by decide +kernel
theorem dX7_addReport_37 : decode cX7_addReport 37 = .ok (.getfield 22, 3) := by decide +kernel
theorem dX7_addReport_40 : decode cX7_addReport 40 = .ok (.iload 7, 2) := by decide +kernel
theorem dX7_addReport_42 : decode cX7_addReport 42 = .ok (.iload 6, 2) := by decide +kernel
theorem dX7_addReport_44 : decode cX7_addReport 44 = .ok (.iastore, 1) := by decide +kernel
theorem dX7_addReport_45 : decode cX7_addReport 45 = .ok (.iconst 0, 1) := by decide +kernel
theorem dX7_addReport_46 : decode cX7_addReport 46 = .ok (.istore 8, 2) := by decide +kernel
theorem dX7_addReport_48 : decode cX7_addReport 48 = .ok (.iload 8, 2) := by decide +kernel
theorem dX7_addReport_50 : decode cX7_addReport 50 = .ok (.iload 6, 2) := by decide +kernel
theorem dX7_addReport_52 : decode cX7_addReport 52 = .ok (.if_icmp .ge 34, 3) := by decide +kernel
theorem dX7_addReport_55 : decode cX7_addReport 55 = .ok (.iload 8, 2) := by decide +kernel
theorem dX7_addReport_57 : decode cX7_addReport 57 = .ok (.iconst 3, 1) := by decide +kernel
theorem dX7_addReport_58 : decode cX7_addReport 58 = .ok (.if_icmp .ge 28, 3) := by decide +kernel
theorem dX7_addReport_61 : decode cX7_addReport 61 = .ok (.aload_n 0, 1) := by decide +kernel
theorem dX7_addReport_62 : decode cX7_addReport 62 = .ok (.getfield 18, 3) := by decide +kernel
theorem dX7_addReport_65 : decode cX7_addReport 65 = .ok (.iload 7, 2) := by decide +kernel
theorem dX7_addReport_67 : decode cX7_addReport 67 = .ok (.iconst 3, 1) := by decide +kernel
theorem dX7_addReport_68 : decode cX7_addReport 68 = .ok (.imul, 1) := by decide +kernel
theorem dX7_addReport_69 : decode cX7_addReport 69 = .ok (.iload 8, 2) := by decide +kernel
theorem dX7_addReport_71 : decode cX7_addReport 71 = .ok (.iadd, 1) := by decide +kernel
theorem dX7_addReport_72 : decode cX7_addReport 72 = .ok (.aload_n 0, 1) := by decide +kernel
theorem dX7_addReport_73 : decode cX7_addReport 73 = .ok (.getfield 28, 3) := by decide +kernel
theorem dX7_addReport_76 : decode cX7_addReport 76 = .ok (.iload 8, 2) := by decide +kernel
theorem dX7_addReport_78 : decode cX7_addReport 78 = .ok (.laload, 1) := by decide +kernel
theorem dX7_addReport_79 : decode cX7_addReport 79 = .ok (.lastore, 1) := by decide +kernel
theorem dX7_addReport_80 : decode cX7_addReport 80 = .ok (.iinc 8 1, 3) := by decide +kernel
theorem dX7_addReport_83 : decode cX7_addReport 83 = .ok (.goto (-35), 3) := by decide +kernel
