theorem dX11_wish_31 : decode cX11_wish 31 = .ok (.getfield 239, 3) := by decide +kernel
theorem dX11_wish_34 : decode cX11_wish 34 = .ok (.iload_n 1, 1) := by decide +kernel
theorem dX11_wish_35 : decode cX11_wish 35 = .ok (.iconst 4, 1) := by decide +kernel
theorem dX11_wish_36 : decode cX11_wish 36 = .ok (.imul, 1) := by decide +kernel
theorem dX11_wish_37 : decode cX11_wish 37 = .ok (.iload_n 2, 1) := by decide +kernel
theorem dX11_wish_38 : decode cX11_wish 38 = .ok (.iadd, 1) := by decide +kernel
theorem dX11_wish_39 : decode cX11_wish 39 = .ok (.laload, 1) := by decide +kernel
theorem dX11_wish_40 : decode cX11_wish 40 = .ok (.iload_n 3, 1) := by decide +kernel
theorem dX11_wish_41 : decode cX11_wish 41 = .ok (.invokestatic 150, 3) := by decide +kernel
theorem dX11_wish_44 : decode cX11_wish 44 = .ok (.ireturn, 1) := by decide +kernel
theorem dX11_within_0 : decode cX11_within 0 = .ok (.iload_n 0, 1) := by decide +kernel
theorem dX11_within_1 : decode cX11_within 1 = .ok (.iload_n 1, 1) := by decide +kernel
theorem dX11_within_2 : decode cX11_within 2 = .ok (.if_icmp .lt 12, 3) := by decide +kernel
theorem dX11_within_5 : decode cX11_within 5 = .ok (.iload_n 0, 1) := by decide +kernel
theorem dX11_within_6 : decode cX11_within 6 = .ok (.iload_n 2, 1) := by decide +kernel
theorem dX11_within_7 : decode cX11_within 7 = .ok (.if_icmp .gt 7, 3) := by decide +kernel
theorem dX11_within_10 : decode cX11_within 10 = .ok (.iconst 1, 1) := by decide +kernel
theorem dX11_within_11 : decode cX11_within 11 = .ok (.goto 4, 3) := by decide +kernel
theorem dX11_within_14 : decode cX11_within 14 = .ok (.iconst 0, 1) := by decide +kernel
theorem dX11_within_15 : decode cX11_within 15 = .ok (.ireturn, 1) := by decide +kernel
theorem dX12_add_0 : decode cX12_add 0 = .ok (.sipush 2200, 3) := by decide +kernel
theorem dX12_add_3 : decode cX12_add 3 = .ok (.aload_n 0, 1) := by decide +kernel
theorem dX12_add_4 : decode cX12_add 4 = .ok (.getfield 51, 3) := by decide +kernel
theorem dX12_add_7 : decode cX12_add 7 = .ok (.imul, 1) := by decide +kernel
theorem dX12_add_8 : decode cX12_add 8 = .ok (.iconst 2, 1) := by decide +kernel
theorem dX12_add_9 : decode cX12_add 9 = .ok (.aload_n 0, 1) := by decide +kernel
theorem dX12_add_10 : decode cX12_add 10 = .ok (.getfield 91, 3) := by decide +kernel
theorem dX12_add_13 : decode cX12_add 13 = .ok (.aload_n 0, 1) := by decide +kernel
theorem dX12_add_14 : decode cX12_add 14 = .ok (.getfield 51, 3) := by decide +kernel
theorem dX12_add_17 : decode cX12_add 17 = .ok (.iaload, 1) := by decide +kernel
theorem dX12_add_18 : decode cX12_add 18 = .ok (.imul, 1) := by decide +kernel
theorem dX12_add_19 : decode cX12_add 19 = .ok (.iadd, 1) := by decide +kernel
theorem dX12_add_20 : decode cX12_add 20 = .ok (.istore_n 3, 1) := by decide +kernel
theorem dX12_add_21 : decode cX12_add 21 = .ok (.aload_n 0, 1) := by decide +kernel
theorem dX12_add_22 : decode cX12_add 22 = .ok (.getfield 88, 3) := by decide +kernel
theorem dX12_add_25 : decode cX12_add 25 = .ok (.iload_n 3, 1) := by decide +kernel
theorem dX12_add_26 : decode cX12_add 26 = .ok (.iload_n 1, 1) := by decide +kernel
theorem dX12_add_27 : decode cX12_add 27 = .ok (.iastore, 1) := by decide +kernel
theorem dX12_add_28 : decode cX12_add 28 = .ok (.aload_n 0, 1) := by decide +kernel
theorem dX12_add_29 : decode cX12_add 29 = .ok (.getfield 88, 3) := by decide +kernel
theorem dX12_add_32 : decode cX12_add 32 = .ok (.iload_n 3, 1) := by decide +kernel
theorem dX12_add_33 : decode cX12_add 33 = .ok (.iconst 1, 1) := by decide +kernel
theorem dX12_add_34 : decode cX12_add 34 = .ok (.iadd, 1) := by decide +kernel
theorem dX12_add_35 : decode cX12_add 35 = .ok (.iload_n 2, 1) := by decide +kernel
theorem dX12_add_36 : decode cX12_add 36 = .ok (.iastore, 1) := by decide +kernel
theorem dX12_add_37 : decode cX12_add 37 = .ok (.aload_n 0, 1) := by decide +kernel
theorem dX12_add_38 : decode cX12_add 38 = .ok (.getfield 91, 3) := by decide +kernel
theorem dX12_add_41 : decode cX12_add 41 = .ok (.aload_n 0, 1) := by decide +kernel
theorem dX12_add_42 : decode cX12_add 42 = .ok (.getfield 51, 3) := by decide +kernel
theorem dX12_add_45 : decode cX12_add 45 = .ok (.dup2, 1) := by decide +kernel
theorem dX12_add_46 : decode cX12_add 46 = .ok (.iaload, 1) := by decide +kernel
theorem dX12_add_47 : decode cX12_add 47 = .ok (.iconst 1, 1) := by decide +kernel
theorem dX12_add_48 : decode cX12_add 48 = .ok (.iadd, 1) := by decide +kernel
theorem dX12_add_49 : decode cX12_add 49 = .ok (.iastore, 1) := by decide +kernel
theorem dX12_add_50 : decode cX12_add 50 = .ok (.return_, 1) := by decide +kernel
theorem dX12_all_0 : decode cX12_all 0 = .ok (.iload_n 1, 1) := by decide +kernel
theorem dX12_all_1 : decode cX12_all 1 = .ok (.tableswitch 111 0 7 #[47, 57, 67, 77, 82, 87, 96, 101], 47) := by decide +kernel
theorem dX12_all_48 : decode cX12_all 48 = .ok (.aload_n 0, 1) := by decide +kernel
theorem dX12_all_49 : decode cX12_all 49 = .ok (.getfield 54, 3) := by decide +kernel
theorem dX12_all_52 : decode cX12_all 52 = .ok (.aload_n 0, 1) := by decide +kernel
theorem dX12_all_53 : decode cX12_all 53 = .ok (.getfield 48, 3) := by decide +kernel
theorem dX12_all_56 : decode cX12_all 56 = .ok (.iaload, 1) := by decide +kernel
theorem dX12_all_57 : decode cX12_all 57 = .ok (.ireturn, 1) := by decide +kernel
theorem dX12_all_58 : decode cX12_all 58 = .ok (.aload_n 0, 1) := by decide +kernel
theorem dX12_all_59 : decode cX12_all 59 = .ok (.getfield 57, 3) := by decide +kernel
theorem dX12_all_62 : decode cX12_all 62 = .ok (.aload_n 0, 1) := by decide +kernel
theorem dX12_all_63 : decode cX12_all 63 = .ok (.getfield 48, 3) := by decide +kernel
theorem dX12_all_66 : decode cX12_all 66 = .ok (.iaload, 1) := by decide +kernel
theorem dX12_all_67 : decode cX12_all 67 = .ok (.ireturn, 1) := by decide +kernel
theorem dX12_all_68 : decode cX12_all 68 = .ok (.aload_n 0, 1) := by decide +kernel
theorem dX12_all_69 : decode cX12_all 69 = .ok (.getfield 60, 3) := by decide +kernel
theorem dX12_all_72 : decode cX12_all 72 = .ok (.aload_n 0, 1) := by decide +kernel
theorem dX12_all_73 : decode cX12_all 73 = .ok (.getfield 48, 3) := by decide +kernel
theorem dX12_all_76 : decode cX12_all 76 = .ok (.iaload, 1) := by decide +kernel
theorem dX12_all_77 : decode cX12_all 77 = .ok (.ireturn, 1) := by decide +kernel
theorem dX12_all_78 : decode cX12_all 78 = .ok (.aload_n 0, 1) := by decide +kernel
theorem dX12_all_79 : decode cX12_all 79 = .ok (.getfield 126, 3) := by decide +kernel
theorem dX12_all_82 : decode cX12_all 82 = .ok (.ireturn, 1) := by decide +kernel
theorem dX12_all_83 : decode cX12_all 83 = .ok (.aload_n 0, 1) := by decide +kernel
theorem dX12_all_84 : decode cX12_all 84 = .ok (.invokevirtual 457, 3) := by decide +kernel
theorem dX12_all_87 : decode cX12_all 87 = .ok (.ireturn, 1) := by decide +kernel
theorem dX12_all_88 : decode cX12_all 88 = .ok (.aload_n 0, 1) := by decide +kernel
theorem dX12_all_89 : decode cX12_all 89 = .ok (.invokevirtual 471, 3) := by decide +kernel
theorem dX12_all_92 : decode cX12_all 92 = .ok (.aload_n 0, 1) := by decide +kernel
theorem dX12_all_93 : decode cX12_all 93 = .ok (.getfield 150, 3) := by decide +kernel
theorem dX12_all_96 : decode cX12_all 96 = .ok (.ireturn, 1) := by decide +kernel
theorem dX12_all_97 : decode cX12_all 97 = .ok (.aload_n 0, 1) := by decide +kernel
theorem dX12_all_98 : decode cX12_all 98 = .ok (.invokevirtual 509, 3) := by decide +kernel
theorem dX12_all_101 : decode cX12_all 101 = .ok (.ireturn, 1) := by decide +kernel
theorem dX12_all_102 : decode cX12_all 102 = .ok (.aload_n 0, 1) := by decide +kernel
theorem dX12_all_103 : decode cX12_all 103 = .ok (.getfield 63, 3) := by decide +kernel
theorem dX12_all_106 : decode cX12_all 106 = .ok (.aload_n 0, 1) := by decide +kernel
theorem dX12_all_107 : decode cX12_all 107 = .ok (.getfield 48, 3) := by decide +kernel
theorem dX12_all_110 : decode cX12_all 110 = .ok (.iaload, 1) := by decide +kernel
theorem dX12_all_111 : decode cX12_all 111 = .ok (.ireturn, 1) := by decide +kernel
theorem dX12_all_112 : decode cX12_all 112 = .ok (.iconst (-1), 1) := by decide +kernel
theorem dX12_all_113 : decode cX12_all 113 = .ok (.ireturn, 1) := by decide +kernel
theorem dX12_annul_0 : decode cX12_annul 0 = .ok (.iload_n 1, 1) := by decide +kernel
theorem dX12_annul_1 : decode cX12_annul 1 = .ok (.iconst 1, 1) := by decide +kernel
theorem dX12_annul_2 : decode cX12_annul 2 = .ok (.if_icmp .lt 40, 3) := by decide +kernel
theorem dX12_annul_5 : decode cX12_annul 5 = .ok (.iload_n 1, 1) := by decide +kernel
theorem dX12_annul_6 : decode cX12_annul 6 = .ok (.aload_n 0, 1) := by decide +kernel
theorem dX12_annul_7 : decode cX12_annul 7 = .ok (.getfield 126, 3) := by decide +kernel
theorem dX12_annul_10 : decode cX12_annul 10 = .ok (.if_icmp .gt 32, 3) := by decide +kernel
theorem dX12_annul_13 : decode cX12_annul 13 = .ok (.aload_n 0, 1) := by decide +kernel
theorem dX12_annul_14 : decode cX12_annul 14 = .ok (.getfield 135, 3) := by decide +kernel
theorem dX12_annul_17 : decode cX12_annul 17 = .ok (.iload_n 1, 1) := by decide +kernel
theorem dX12_annul_18 : decode cX12_annul 18 = .ok (.iaload, 1) := by decide +kernel
theorem dX12_annul_19 : decode cX12_annul 19 = .ok (.iconst 3, 1) := by decide +kernel
theorem dX12_annul_20 : decode cX12_annul 20 = .ok (.if_icmp .eq 22, 3) := by decide +kernel
theorem dX12_annul_23 : decode cX12_annul 23 = .ok (.aload_n 0, 1) := by decide +kernel
theorem dX12_annul_24 : decode cX12_annul 24 = .ok (.getfield 141, 3) := by decide +kernel
theorem dX12_annul_27 : decode cX12_annul 27 = .ok (.iload_n 1, 1) := by decide +kernel
theorem dX12_annul_28 : decode cX12_annul 28 = .ok (.iaload, 1) := by decide +kernel
theorem dX12_annul_29 : decode cX12_annul 29 = .ok (.ifCond .gt 13, 3) := by decide +kernel
theorem dX12_annul_32 : decode cX12_annul 32 = .ok (.aload_n 0, 1) := by decide +kernel
theorem dX12_annul_33 : decode cX12_annul 33 = .ok (.getfield 126, 3) := by decide +kernel
theorem dX12_annul_36 : decode cX12_annul 36 = .ok (.sipush 200, 3) := by decide +kernel
theorem dX12_annul_39 : decode cX12_annul 39 = .ok (.if_icmp .ne 5, 3) := by decide +kernel
theorem dX12_annul_42 : decode cX12_annul 42 = .ok (.iconst (-1), 1) := by decide +kernel
theorem dX12_annul_43 : decode cX12_annul 43 = .ok (.ireturn, 1) := by decide +kernel
theorem dX12_annul_44 : decode cX12_annul 44 = .ok (.aload_n 0, 1) := by decide +kernel
theorem dX12_annul_45 : decode cX12_annul 45 = .ok (.iconst 3, 1) := by decide +kernel
theorem dX12_annul_46 : decode cX12_annul 46 = .ok (.iload_n 1, 1) := by decide +kernel
theorem dX12_annul_47 : decode cX12_annul 47 = .ok (.iconst 0, 1) := by decide +kernel
theorem dX12_annul_48 : decode cX12_annul 48 = .ok (.iconst 0, 1) := by decide +kernel
theorem dX12_annul_49 : decode cX12_annul 49 = .ok (.iconst 0, 1) := by decide +kernel
theorem dX12_annul_50 : decode cX12_annul 50 = .ok (.iconst 0, 1) := by decide +kernel
theorem dX12_annul_51 : decode cX12_annul 51 = .ok (.invokevirtual 453, 3) := by decide +kernel
theorem dX12_annul_54 : decode cX12_annul 54 = .ok (.istore_n 2, 1) := by decide +kernel
theorem dX12_annul_55 : decode cX12_annul 55 = .ok (.aload_n 0, 1) := by decide +kernel
theorem dX12_annul_56 : decode cX12_annul 56 = .ok (.getfield 141, 3) := by decide +kernel
theorem dX12_annul_59 : decode cX12_annul 59 = .ok (.iload_n 1, 1) := by decide +kernel
theorem dX12_annul_60 : decode cX12_annul 60 = .ok (.iload_n 2, 1) := by decide +kernel
theorem dX12_annul_61 : decode cX12_annul 61 = .ok (.iastore, 1) := by decide +kernel
theorem dX12_annul_62 : decode cX12_annul 62 = .ok (.iload_n 2, 1) := by decide +kernel
theorem dX12_annul_63 : decode cX12_annul 63 = .ok (.ireturn, 1) := by decide +kernel
theorem dX12_arrives_0 : decode cX12_arrives 0 = .ok (.iconst 0, 1) := by decide +kernel
theorem dX12_arrives_1 : decode cX12_arrives 1 = .ok (.istore_n 1, 1) := by decide +kernel
theorem dX12_arrives_2 : decode cX12_arrives 2 = .ok (.iload_n 1, 1) := by decide +kernel
theorem dX12_arrives_3 : decode cX12_arrives 3 = .ok (.sipush 250, 3) := by decide +kernel
theorem dX12_arrives_6 : decode cX12_arrives 6 = .ok (.if_icmp .ge 16, 3) := by decide +kernel
theorem dX12_arrives_9 : decode cX12_arrives 9 = .ok (.aload_n 0, 1) := by decide +kernel
theorem dX12_arrives_10 : decode cX12_arrives 10 = .ok (.getfield 216, 3) := by decide +kernel
theorem dX12_arrives_13 : decode cX12_arrives 13 = .ok (.iload_n 1, 1) := by decide +kernel
theorem dX12_arrives_14 : decode cX12_arrives 14 = .ok (.iconst 0, 1) := by decide +kernel
theorem dX12_arrives_15 : decode cX12_arrives 15 = .ok (.iastore, 1) := by decide +kernel
theorem dX12_arrives_16 : decode cX12_arrives 16 = .ok (.iinc 1 1, 3) := by decide +kernel
theorem dX12_arrives_19 : decode cX12_arrives 19 = .ok (.goto (-17), 3) := by decide +kernel
theorem dX12_arrives_22 : decode cX12_arrives 22 = .ok (.iconst 1, 1) := by decide +kernel
theorem dX12_arrives_23 : decode cX12_arrives 23 = .ok (.istore_n 1, 1) := by decide +kernel
theorem dX12_arrives_24 : decode cX12_arrives 24 = .ok (.iload_n 1, 1) := by decide +kernel
theorem dX12_arrives_25 : decode cX12_arrives 25 = .ok (.aload_n 0, 1) := by decide +kernel
theorem dX12_arrives_26 : decode cX12_arrives 26 = .ok (.getfield 126, 3) := by decide +kernel
theorem dX12_arrives_29 : decode cX12_arrives 29 = .ok (.if_icmp .gt 67, 3) := by decide +kernel
theorem dX12_arrives_32 : decode cX12_arrives 32 = .ok (.aload_n 0, 1) := by decide +kernel
theorem dX12_arrives_33 : decode cX12_arrives 33 = .ok (.getfield 135, 3) := by decide +kernel
theorem dX12_arrives_36 : decode cX12_arrives 36 = .ok (.iload_n 1, 1) := by decide +kernel
theorem dX12_arrives_37 : decode cX12_arrives 37 = .ok (.iaload, 1) := by decide +kernel
theorem dX12_arrives_38 : decode cX12_arrives 38 = .ok (.iconst 1, 1) := by decide +kernel
theorem dX12_arrives_39 : decode cX12_arrives 39 = .ok (.if_icmp .ne 51, 3) := by decide +kernel
theorem dX12_arrives_42 : decode cX12_arrives 42 = .ok (.aload_n 0, 1) := by decide +kernel
theorem dX12_arrives_43 : decode cX12_arrives 43 = .ok (.iload_n 1, 1) := by decide +kernel
theorem dX12_arrives_44 : decode cX12_arrives 44 = .ok (.invokevirtual 461, 3) := by decide +kernel
theorem dX12_arrives_47 : decode cX12_arrives 47 = .ok (.ifCond .eq 43, 3) := by decide +kernel
theorem dX12_arrives_50 : decode cX12_arrives 50 = .ok (.aload_n 0, 1) := by decide +kernel
theorem dX12_arrives_51 : decode cX12_arrives 51 = .ok (.getfield 216, 3) := by decide +kernel
theorem dX12_arrives_54 : decode cX12_arrives 54 = .ok (.bipush 25, 2) := by decide +kernel
theorem dX12_arrives_56 : decode cX12_arrives 56 = .ok (.aload_n 0, 1) := by decide +kernel
theorem dX12_arrives_57 : decode cX12_arrives 57 = .ok (.getfield 138, 3) := by decide +kernel
theorem dX12_arrives_60 : decode cX12_arrives 60 = .ok (.iconst 5, 1) := by decide +kernel
theorem dX12_arrives_61 : decode cX12_arrives 61 = .ok (.iload_n 1, 1) := by decide +kernel
theorem dX12_arrives_62 : decode cX12_arrives 62 = .ok (.imul, 1) := by decide +kernel
theorem dX12_arrives_63 : decode cX12_arrives 63 = .ok (.iaload, 1) := by decide +kernel
theorem dX12_arrives_64 : decode cX12_arrives 64 = .ok (.imul, 1) := by decide +kernel
theorem dX12_arrives_65 : decode cX12_arrives 65 = .ok (.aload_n 0, 1) := by decide +kernel
theorem dX12_arrives_66 : decode cX12_arrives 66 = .ok (.getfield 138, 3) := by decide +kernel
theorem dX12_arrives_69 : decode cX12_arrives 69 = .ok (.iconst 5, 1) := by decide +kernel
theorem dX12_arrives_70 : decode cX12_arrives 70 = .ok (.iload_n 1, 1) := by decide +kernel
theorem dX12_arrives_71 : decode cX12_arrives 71 = .ok (.imul, 1) := by decide +kernel
theorem dX12_arrives_72 : decode cX12_arrives 72 = .ok (.iconst 1, 1) := by decide +kernel
theorem dX12_arrives_73 : decode cX12_arrives 73 = .ok (.iadd, 1) := by decide +kernel
theorem dX12_arrives_74 : decode cX12_arrives 74 = .ok (.iaload, 1) := by decide +kernel
theorem dX12_arrives_75 : decode cX12_arrives 75 = .ok (.iadd, 1) := by decide +kernel
theorem dX12_arrives_76 : decode cX12_arrives 76 = .ok (.dup2, 1) := by decide +kernel
theorem dX12_arrives_77 : decode cX12_arrives 77 = .ok (.iaload, 1) := by decide +kernel
theorem dX12_arrives_78 : decode cX12_arrives 78 = .ok (.aload_n 0, 1) := by decide +kernel
theorem dX12_arrives_79 : decode cX12_arrives 79 = .ok (.getfield 138, 3) := by decide +kernel
theorem dX12_arrives_82 : decode cX12_arrives 82 = .ok (.iconst 5, 1) := by decide +kernel
theorem dX12_arrives_83 : decode cX12_arrives 83 = .ok (.iload_n 1, 1) := by decide +kernel
theorem dX12_arrives_84 : decode cX12_arrives 84 = .ok (.imul, 1) := by decide +kernel
theorem dX12_arrives_85 : decode cX12_arrives 85 = .ok (.iconst 2, 1) := by decide +kernel
theorem dX12_arrives_86 : decode cX12_arrives 86 = .ok (.iadd, 1) := by decide +kernel
theorem dX12_arrives_87 : decode cX12_arrives 87 = .ok (.iaload, 1) := by decide +kernel
theorem dX12_arrives_88 : decode cX12_arrives 88 = .ok (.iadd, 1) := by decide +kernel
theorem dX12_arrives_89 : decode cX12_arrives 89 = .ok (.iastore, 1) := by decide +kernel
theorem dX12_arrives_90 : decode cX12_arrives 90 = .ok (.iinc 1 1, 3) := by decide +kernel
theorem dX12_arrives_93 : decode cX12_arrives 93 = .ok (.goto (-69), 3) := by decide +kernel
theorem dX12_arrives_96 : decode cX12_arrives 96 = .ok (.return_, 1) := by decide +kernel
theorem dX12_as_0 : decode cX12_as 0 = .ok (.iload_n 1, 1) := by decide +kernel
theorem dX12_as_1 : decode cX12_as 1 = .ok (.iconst (-1), 1) := by decide +kernel
theorem dX12_as_2 : decode cX12_as 2 = .ok (.aload_n 0, 1) := by decide +kernel
theorem dX12_as_3 : decode cX12_as 3 = .ok (.getfield 126, 3) := by decide +kernel
theorem dX12_as_6 : decode cX12_as 6 = .ok (.invokestatic 322, 3) := by decide +kernel
theorem dX12_as_9 : decode cX12_as 9 = .ok (.ifCond .ne 5, 3) := by decide +kernel
theorem dX12_as_12 : decode cX12_as 12 = .ok (.iconst 0, 1) := by decide +kernel
theorem dX12_as_13 : decode cX12_as 13 = .ok (.ireturn, 1) := by decide +kernel
theorem dX12_as_14 : decode cX12_as 14 = .ok (.aload_n 0, 1) := by decide +kernel
theorem dX12_as_15 : decode cX12_as 15 = .ok (.iload_n 1, 1) := by decide +kernel
theorem dX12_as_16 : decode cX12_as 16 = .ok (.putfield 132, 3) := by decide +kernel
theorem dX12_as_19 : decode cX12_as 19 = .ok (.iconst 1, 1) := by decide +kernel
theorem dX12_as_20 : decode cX12_as 20 = .ok (.ireturn, 1) := by decide +kernel
theorem dX12_at_0 : decode cX12_at 0 = .ok (.iload_n 1, 1) := by decide +kernel
theorem dX12_at_1 : decode cX12_at 1 = .ok (.ifCond .lt 11, 3) := by decide +kernel
theorem dX12_at_4 : decode cX12_at 4 = .ok (.iload_n 1, 1) := by decide +kernel
theorem dX12_at_5 : decode cX12_at 5 = .ok (.aload_n 0, 1) := by decide +kernel
theorem dX12_at_6 : decode cX12_at 6 = .ok (.getfield 294, 3) := by decide +kernel
theorem dX12_at_9 : decode cX12_at 9 = .ok (.if_icmp .lt 7, 3) := by decide +kernel
theorem dX12_at_12 : decode cX12_at 12 = .ok (.iconst (-1), 1) := by decide +kernel
theorem dX12_at_13 : decode cX12_at 13 = .ok (.goto 9, 3) := by decide +kernel
theorem dX12_at_16 : decode cX12_at 16 = .ok (.aload_n 0, 1) := by decide +kernel
theorem dX12_at_17 : decode cX12_at 17 = .ok (.getfield 291, 3) := by decide +kernel
theorem dX12_at_20 : decode cX12_at 20 = .ok (.iload_n 1, 1) := by decide +kernel
theorem dX12_at_21 : decode cX12_at 21 = .ok (.iaload, 1) := by decide +kernel
theorem dX12_at_22 : decode cX12_at 22 = .ok (.ireturn, 1) := by decide +kernel
theorem dX12_atom_0 : decode cX12_atom 0 = .ok (.aload_n 0, 1) := by decide +kernel
theorem dX12_atom_1 : decode cX12_atom 1 = .ok (.ldc2_w 354, 3) := by decide +kernel
theorem dX12_atom_4 : decode cX12_atom 4 = .ok (.invokevirtual 318, 3) := by decide +kernel
theorem dX12_atom_7 : decode cX12_atom 7 = .ok (.ifCond .eq 13, 3) := by decide +kernel
theorem dX12_atom_10 : decode cX12_atom 10 = .ok (.aload_n 0, 1) := by decide +kernel
theorem dX12_atom_11 : decode cX12_atom 11 = .ok (.bipush 6, 2) := by decide +kernel
theorem dX12_atom_13 : decode cX12_atom 13 = .ok (.iconst 0, 1) := by decide +kernel
theorem dX12_atom_14 : decode cX12_atom 14 = .ok (.invokevirtual 374, 3) := by decide +kernel
theorem dX12_atom_17 : decode cX12_atom 17 = .ok (.goto 99, 3) := by decide +kernel
theorem dX12_atom_20 : decode cX12_atom 20 = .ok (.aload_n 0, 1) := by decide +kernel
theorem dX12_atom_21 : decode cX12_atom 21 = .ok (.getfield 20, 3) := by decide +kernel
theorem dX12_atom_24 : decode cX12_atom 24 = .ok (.iconst 1, 1) := by decide +kernel
theorem dX12_atom_25 : decode cX12_atom 25 = .ok (.if_icmp .ne 14, 3) := by decide +kernel
theorem dX12_atom_28 : decode cX12_atom 28 = .ok (.aload_n 0, 1) := by decide +kernel
theorem dX12_atom_29 : decode cX12_atom 29 = .ok (.aload_n 0, 1) := by decide +kernel
theorem dX12_atom_30 : decode cX12_atom 30 = .ok (.getfield 32, 3) := by decide +kernel
theorem dX12_atom_33 : decode cX12_atom 33 = .ok (.invokevirtual 395, 3) := by decide +kernel
theorem dX12_atom_36 : decode cX12_atom 36 = .ok (.ifCond .eq 12, 3) := by decide +kernel
theorem dX12_atom_39 : decode cX12_atom 39 = .ok (.aload_n 0, 1) := by decide +kernel
theorem dX12_atom_40 : decode cX12_atom 40 = .ok (.iconst 1, 1) := by decide +kernel
theorem dX12_atom_41 : decode cX12_atom 41 = .ok (.aload_n 0, 1) := by decide +kernel
theorem dX12_atom_42 : decode cX12_atom 42 = .ok (.getfield 23, 3) := by decide +kernel
theorem dX12_atom_45 : decode cX12_atom 45 = .ok (.invokevirtual 308, 3) := by decide +kernel
theorem dX12_atom_48 : decode cX12_atom 48 = .ok (.aload_n 0, 1) := by decide +kernel
theorem dX12_atom_49 : decode cX12_atom 49 = .ok (.getfield 36, 3) := by decide +kernel
theorem dX12_atom_52 : decode cX12_atom 52 = .ok (.ifCond .le 5, 3) := by decide +kernel
theorem dX12_atom_55 : decode cX12_atom 55 = .ok (.iconst 1, 1) := by decide +kernel
theorem dX12_atom_56 : decode cX12_atom 56 = .ok (.ireturn, 1) := by decide +kernel
theorem dX12_atom_57 : decode cX12_atom 57 = .ok (.aload_n 0, 1) := by decide +kernel
theorem dX12_atom_58 : decode cX12_atom 58 = .ok (.aload_n 0, 1) := by decide +kernel
theorem dX12_atom_59 : decode cX12_atom 59 = .ok (.getfield 32, 3) := by decide +kernel
theorem dX12_atom_62 : decode cX12_atom 62 = .ok (.invokevirtual 398, 3) := by decide +kernel
theorem dX12_atom_65 : decode cX12_atom 65 = .ok (.istore_n 2, 1) := by decide +kernel
theorem dX12_atom_66 : decode cX12_atom 66 = .ok (.aload_n 0, 1) := by decide +kernel
theorem dX12_atom_67 : decode cX12_atom 67 = .ok (.aload_n 0, 1) := by decide +kernel
theorem dX12_atom_68 : decode cX12_atom 68 = .ok (.getfield 32, 3) := by decide +kernel
theorem dX12_atom_71 : decode cX12_atom 71 = .ok (.invokevirtual 402, 3) := by decide +kernel
theorem dX12_atom_74 : decode cX12_atom 74 = .ok (.istore_n 3, 1) := by decide +kernel
theorem dX12_atom_75 : decode cX12_atom 75 = .ok (.iload_n 2, 1) := by decide +kernel
theorem dX12_atom_76 : decode cX12_atom 76 = .ok (.ifCond .ge 16, 3) := by decide +kernel
theorem dX12_atom_79 : decode cX12_atom 79 = .ok (.iload_n 3, 1) := by decide +kernel
theorem dX12_atom_80 : decode cX12_atom 80 = .ok (.ifCond .ge 12, 3) := by decide +kernel
theorem dX12_atom_83 : decode cX12_atom 83 = .ok (.aload_n 0, 1) := by decide +kernel
theorem dX12_atom_84 : decode cX12_atom 84 = .ok (.iconst 3, 1) := by decide +kernel
theorem dX12_atom_85 : decode cX12_atom 85 = .ok (.aload_n 0, 1) := by decide +kernel
theorem dX12_atom_86 : decode cX12_atom 86 = .ok (.getfield 23, 3) := by decide +kernel
theorem dX12_atom_89 : decode cX12_atom 89 = .ok (.invokevirtual 308, 3) := by decide +kernel
theorem dX12_atom_92 : decode cX12_atom 92 = .ok (.aload_n 0, 1) := by decide +kernel
theorem dX12_atom_93 : decode cX12_atom 93 = .ok (.iload_n 2, 1) := by decide +kernel
theorem dX12_atom_94 : decode cX12_atom 94 = .ok (.ifCond .lt 8, 3) := by decide +kernel
theorem dX12_atom_97 : decode cX12_atom 97 = .ok (.bipush 8, 2) := by decide +kernel
theorem dX12_atom_99 : decode cX12_atom 99 = .ok (.goto 5, 3) := by decide +kernel
theorem dX12_atom_102 : decode cX12_atom 102 = .ok (.bipush 9, 2) := by decide +kernel
theorem dX12_atom_104 : decode cX12_atom 104 = .ok (.iload_n 2, 1) := by decide +kernel
theorem dX12_atom_105 : decode cX12_atom 105 = .ok (.ifCond .lt 7, 3) := by decide +kernel
theorem dX12_atom_108 : decode cX12_atom 108 = .ok (.iload_n 2, 1) := by decide +kernel
theorem dX12_atom_109 : decode cX12_atom 109 = .ok (.goto 4, 3) := by decide +kernel
theorem dX12_atom_112 : decode cX12_atom 112 = .ok (.iload_n 3, 1) := by decide +kernel
theorem dX12_atom_113 : decode cX12_atom 113 = .ok (.invokevirtual 374, 3) := by decide +kernel
theorem dX12_atom_116 : decode cX12_atom 116 = .ok (.aload_n 0, 1) := by decide +kernel
theorem dX12_atom_117 : decode cX12_atom 117 = .ok (.getfield 100, 3) := by decide +kernel
theorem dX12_atom_120 : decode cX12_atom 120 = .ok (.iload_n 1, 1) := by decide +kernel
theorem dX12_atom_121 : decode cX12_atom 121 = .ok (.iconst 2, 1) := by decide +kernel
theorem dX12_atom_122 : decode cX12_atom 122 = .ok (.iastore, 1) := by decide +kernel
theorem dX12_atom_123 : decode cX12_atom 123 = .ok (.aload_n 0, 1) := by decide +kernel
theorem dX12_atom_124 : decode cX12_atom 124 = .ok (.getfield 36, 3) := by decide +kernel
theorem dX12_atom_127 : decode cX12_atom 127 = .ok (.ifCond .ne 7, 3) := by decide +kernel
theorem dX12_atom_130 : decode cX12_atom 130 = .ok (.aload_n 0, 1) := by decide +kernel
theorem dX12_atom_131 : decode cX12_atom 131 = .ok (.invokevirtual 312, 3) := by decide +kernel
theorem dX12_atom_134 : decode cX12_atom 134 = .ok (.iconst 1, 1) := by decide +kernel
theorem dX12_atom_135 : decode cX12_atom 135 = .ok (.ireturn, 1) := by decide +kernel
theorem dX12_bag_0 : decode cX12_bag 0 = .ok (.aload_n 0, 1) := by decide +kernel
theorem dX12_bag_1 : decode cX12_bag 1 = .ok (.getfield 219, 3) := by decide +kernel
theorem dX12_bag_4 : decode cX12_bag 4 = .ok (.ifCond .ne 5, 3) := by decide +kernel
theorem dX12_bag_7 : decode cX12_bag 7 = .ok (.iconst (-1), 1) := by decide +kernel
theorem dX12_bag_8 : decode cX12_bag 8 = .ok (.ireturn, 1) := by decide +kernel
theorem dX12_bag_9 : decode cX12_bag 9 = .ok (.aload_n 0, 1) := by decide +kernel
theorem dX12_bag_10 : decode cX12_bag 10 = .ok (.invokevirtual 572, 3) := by decide +kernel
theorem dX12_bag_13 : decode cX12_bag 13 = .ok (.iload_n 1, 1) := by decide +kernel
theorem dX12_bag_14 : decode cX12_bag 14 = .ok (.ifCond .lt 11, 3) := by decide +kernel
theorem dX12_bag_17 : decode cX12_bag 17 = .ok (.iload_n 1, 1) := by decide +kernel
theorem dX12_bag_18 : decode cX12_bag 18 = .ok (.aload_n 0, 1) := by decide +kernel
theorem dX12_bag_19 : decode cX12_bag 19 = .ok (.getfield 279, 3) := by decide +kernel
theorem dX12_bag_22 : decode cX12_bag 22 = .ok (.if_icmp .lt 7, 3) := by decide +kernel
theorem dX12_bag_25 : decode cX12_bag 25 = .ok (.iconst (-1), 1) := by decide +kernel
theorem dX12_bag_26 : decode cX12_bag 26 = .ok (.goto 9, 3) := by decide +kernel
theorem dX12_bag_29 : decode cX12_bag 29 = .ok (.aload_n 0, 1) := by decide +kernel
theorem dX12_bag_30 : decode cX12_bag 30 = .ok (.getfield 276, 3) := by decide +kernel
theorem dX12_bag_33 : decode cX12_bag 33 = .ok (.iload_n 1, 1) := by decide +kernel
theorem dX12_bag_34 : decode cX12_bag 34 = .ok (.iaload, 1) := by decide +kernel
theorem dX12_bag_35 : decode cX12_bag 35 = .ok (.ireturn, 1) := by decide +kernel
theorem dX12_bagsOf_0 : decode cX12_bagsOf 0 = .ok (.aload_n 0, 1) := by decide +kernel
theorem dX12_bagsOf_1 : decode cX12_bagsOf 1 = .ok (.getfield 243, 3) := by decide +kernel
theorem dX12_bagsOf_4 : decode cX12_bagsOf 4 = .ok (.iload_n 1, 1) := by decide +kernel
theorem dX12_bagsOf_5 : decode cX12_bagsOf 5 = .ok (.iaload, 1) := by decide +kernel
theorem dX12_bagsOf_6 : decode cX12_bagsOf 6 = .ok (.ifCond .eq 13, 3) := by decide +kernel
theorem dX12_bagsOf_9 : decode cX12_bagsOf 9 = .ok (.aload_n 0, 1) := by decide +kernel
theorem dX12_bagsOf_10 : decode cX12_bagsOf 10 = .ok (.getfield 231, 3) := by decide +kernel
theorem dX12_bagsOf_13 : decode cX12_bagsOf 13 = .ok (.iload_n 1, 1) := by decide +kernel
theorem dX12_bagsOf_14 : decode cX12_bagsOf 14 = .ok (.iaload, 1) := by decide +kernel
theorem dX12_bagsOf_15 : decode cX12_bagsOf 15 = .ok (.iload_n 2, 1) := by decide +kernel
theorem dX12_bagsOf_16 : decode cX12_bagsOf 16 = .ok (.if_icmp .eq 5, 3) := by decide +kernel
theorem dX12_bagsOf_19 : decode cX12_bagsOf 19 = .ok (.iconst 0, 1) := by decide +kernel
theorem dX12_bagsOf_20 : decode cX12_bagsOf 20 = .ok (.ireturn, 1) := by decide +kernel
theorem dX12_bagsOf_21 : decode cX12_bagsOf 21 = .ok (.iconst 1, 1) := by decide +kernel
theorem dX12_bagsOf_22 : decode cX12_bagsOf 22 = .ok (.istore_n 3, 1) := by decide +kernel
theorem dX12_bagsOf_23 : decode cX12_bagsOf 23 = .ok (.iconst 0, 1) := by decide +kernel
theorem dX12_bagsOf_24 : decode cX12_bagsOf 24 = .ok (.istore 4, 2) := by decide +kernel
theorem dX12_bagsOf_26 : decode cX12_bagsOf 26 = .ok (.iload 4, 2) := by decide +kernel
theorem dX12_bagsOf_28 : decode cX12_bagsOf 28 = .ok (.aload_n 0, 1) := by decide +kernel
theorem dX12_bagsOf_29 : decode cX12_bagsOf 29 = .ok (.getfield 222, 3) := by decide +kernel
theorem dX12_bagsOf_32 : decode cX12_bagsOf 32 = .ok (.if_icmp .ge 75, 3) := by decide +kernel
theorem dX12_bagsOf_35 : decode cX12_bagsOf 35 = .ok (.iload 4, 2) := by decide +kernel
theorem dX12_bagsOf_37 : decode cX12_bagsOf 37 = .ok (.iload_n 1, 1) := by decide +kernel
theorem dX12_bagsOf_38 : decode cX12_bagsOf 38 = .ok (.if_icmp .eq 63, 3) := by decide +kernel
theorem dX12_bagsOf_41 : decode cX12_bagsOf 41 = .ok (.aload_n 0, 1) := by decide +kernel
theorem dX12_bagsOf_42 : decode cX12_bagsOf 42 = .ok (.getfield 228, 3) := by decide +kernel
theorem dX12_bagsOf_45 : decode cX12_bagsOf 45 = .ok (.iload_n 1, 1) := by decide +kernel
theorem dX12_bagsOf_46 : decode cX12_bagsOf 46 = .ok (.iaload, 1) := by decide +kernel
theorem dX12_bagsOf_47 : decode cX12_bagsOf 47 = .ok (.ifCond .eq 54, 3) := by decide +kernel
theorem dX12_bagsOf_50 : decode cX12_bagsOf 50 = .ok (.aload_n 0, 1) := by decide +kernel
theorem dX12_bagsOf_51 : decode cX12_bagsOf 51 = .ok (.getfield 228, 3) := by decide +kernel
theorem dX12_bagsOf_54 : decode cX12_bagsOf 54 = .ok (.iload 4, 2) := by decide +kernel
theorem dX12_bagsOf_56 : decode cX12_bagsOf 56 = .ok (.iaload, 1) := by decide +kernel
theorem dX12_bagsOf_57 : decode cX12_bagsOf 57 = .ok (.aload_n 0, 1) := by decide +kernel
theorem dX12_bagsOf_58 : decode cX12_bagsOf 58 = .ok (.getfield 228, 3) := by decide +kernel
theorem dX12_bagsOf_61 : decode cX12_bagsOf 61 = .ok (.iload_n 1, 1) := by decide +kernel
theorem dX12_bagsOf_62 : decode cX12_bagsOf 62 = .ok (.iaload, 1) := by decide +kernel
theorem dX12_bagsOf_63 : decode cX12_bagsOf 63 = .ok (.if_icmp .ne 38, 3) := by decide +kernel
theorem dX12_bagsOf_66 : decode cX12_bagsOf 66 = .ok (.aload_n 0, 1) := by decide +kernel
theorem dX12_bagsOf_67 : decode cX12_bagsOf 67 = .ok (.getfield 243, 3) := by decide +kernel
theorem dX12_bagsOf_70 : decode cX12_bagsOf 70 = .ok (.iload 4, 2) := by decide +kernel
theorem dX12_bagsOf_72 : decode cX12_bagsOf 72 = .ok (.iaload, 1) := by decide +kernel
theorem dX12_bagsOf_73 : decode cX12_bagsOf 73 = .ok (.ifCond .eq 28, 3) := by decide +kernel
theorem dX12_bagsOf_76 : decode cX12_bagsOf 76 = .ok (.aload_n 0, 1) := by decide +kernel
theorem dX12_bagsOf_77 : decode cX12_bagsOf 77 = .ok (.getfield 231, 3) := by decide +kernel
theorem dX12_bagsOf_80 : decode cX12_bagsOf 80 = .ok (.iload 4, 2) := by decide +kernel
theorem dX12_bagsOf_82 : decode cX12_bagsOf 82 = .ok (.iaload, 1) := by decide +kernel
theorem dX12_bagsOf_83 : decode cX12_bagsOf 83 = .ok (.iload_n 2, 1) := by decide +kernel
theorem dX12_bagsOf_84 : decode cX12_bagsOf 84 = .ok (.if_icmp .eq 6, 3) := by decide +kernel
theorem dX12_bagsOf_87 : decode cX12_bagsOf 87 = .ok (.goto 14, 3) := by decide +kernel
theorem dX12_bagsOf_90 : decode cX12_bagsOf 90 = .ok (.iload 4, 2) := by decide +kernel
theorem dX12_bagsOf_92 : decode cX12_bagsOf 92 = .ok (.iload_n 1, 1) := by decide +kernel
theorem dX12_bagsOf_93 : decode cX12_bagsOf 93 = .ok (.if_icmp .ge 5, 3) := by decide +kernel
theorem dX12_bagsOf_96 : decode cX12_bagsOf 96 = .ok (.iconst 0, 1) := by decide +kernel
theorem dX12_bagsOf_97 : decode cX12_bagsOf 97 = .ok (.ireturn, 1) := by decide +kernel
theorem dX12_bagsOf_98 : decode cX12_bagsOf 98 = .ok (.iinc 3 1, 3) := by decide +kernel
theorem dX12_bagsOf_101 : decode cX12_bagsOf 101 = .ok (.iinc 4 1, 3) := by decide +kernel
theorem dX12_bagsOf_104 : decode cX12_bagsOf 104 = .ok (.goto (-78), 3) := by decide +kernel
theorem dX12_bagsOf_107 : decode cX12_bagsOf 107 = .ok (.iload_n 3, 1) := by decide +kernel
theorem dX12_bagsOf_108 : decode cX12_bagsOf 108 = .ok (.ireturn, 1) := by decide +kernel
theorem dX12_bits_0 : decode cX12_bits 0 = .ok (.iconst 0, 1) := by decide +kernel
theorem dX12_bits_1 : decode cX12_bits 1 = .ok (.istore_n 1, 1) := by decide +kernel
theorem dX12_bits_2 : decode cX12_bits 2 = .ok (.iconst 0, 1) := by decide +kernel
theorem dX12_bits_3 : decode cX12_bits 3 = .ok (.istore_n 2, 1) := by decide +kernel
theorem dX12_bits_4 : decode cX12_bits 4 = .ok (.iload_n 2, 1) := by decide +kernel
theorem dX12_bits_5 : decode cX12_bits 5 = .ok (.bipush 10, 2) := by decide +kernel
theorem dX12_bits_7 : decode cX12_bits 7 = .ok (.if_icmp .ge 17, 3) := by decide +kernel
theorem dX12_bits_10 : decode cX12_bits 10 = .ok (.iload_n 1, 1) := by decide +kernel
theorem dX12_bits_11 : decode cX12_bits 11 = .ok (.iload_n 0, 1) := by decide +kernel
theorem dX12_bits_12 : decode cX12_bits 12 = .ok (.iload_n 2, 1) := by decide +kernel
theorem dX12_bits_13 : decode cX12_bits 13 = .ok (.ishr, 1) := by decide +kernel
theorem dX12_bits_14 : decode cX12_bits 14 = .ok (.iconst 1, 1) := by decide +kernel
theorem dX12_bits_15 : decode cX12_bits 15 = .ok (.iand, 1) := by decide +kernel
theorem dX12_bits_16 : decode cX12_bits 16 = .ok (.iadd, 1) := by decide +kernel
theorem dX12_bits_17 : decode cX12_bits 17 = .ok (.istore_n 1, 1) := by decide +kernel
theorem dX12_bits_18 : decode cX12_bits 18 = .ok (.iinc 2 1, 3) := by decide +kernel
theorem dX12_bits_21 : decode cX12_bits 21 = .ok (.goto (-17), 3) := by decide +kernel
theorem dX12_bits_24 : decode cX12_bits 24 = .ok (.iload_n 1, 1) := by decide +kernel
theorem dX12_bits_25 : decode cX12_bits 25 = .ok (.ireturn, 1) := by decide +kernel
theorem dX12_blame_0 : decode cX12_blame 0 = .ok (.aload_n 0, 1) := by decide +kernel
theorem dX12_blame_1 : decode cX12_blame 1 = .ok (.getfield 36, 3) := by decide +kernel
theorem dX12_blame_4 : decode cX12_blame 4 = .ok (.ifCond .le 4, 3) := by decide +kernel
theorem dX12_blame_7 : decode cX12_blame 7 = .ok (.return_, 1) := by decide +kernel
theorem dX12_blame_8 : decode cX12_blame 8 = .ok (.aload_n 0, 1) := by decide +kernel
theorem dX12_blame_9 : decode cX12_blame 9 = .ok (.iload_n 1, 1) := by decide +kernel
theorem dX12_blame_10 : decode cX12_blame 10 = .ok (.putfield 36, 3) := by decide +kernel
theorem dX12_blame_13 : decode cX12_blame 13 = .ok (.aload_n 0, 1) := by decide +kernel
theorem dX12_blame_14 : decode cX12_blame 14 = .ok (.iload_n 2, 1) := by decide +kernel
theorem dX12_blame_15 : decode cX12_blame 15 = .ok (.putfield 39, 3) := by decide +kernel
theorem dX12_blame_18 : decode cX12_blame 18 = .ok (.return_, 1) := by decide +kernel
theorem dX12_blind_0 : decode cX12_blind 0 = .ok (.aload_n 0, 1) := by decide +kernel
theorem dX12_blind_1 : decode cX12_blind 1 = .ok (.invokevirtual 471, 3) := by decide +kernel
theorem dX12_blind_4 : decode cX12_blind 4 = .ok (.aload_n 0, 1) := by decide +kernel
theorem dX12_blind_5 : decode cX12_blind 5 = .ok (.invokevirtual 533, 3) := by decide +kernel
theorem dX12_blind_8 : decode cX12_blind 8 = .ok (.iconst 0, 1) := by decide +kernel
theorem dX12_blind_9 : decode cX12_blind 9 = .ok (.istore_n 1, 1) := by decide +kernel
theorem dX12_blind_10 : decode cX12_blind 10 = .ok (.iconst 0, 1) := by decide +kernel
theorem dX12_blind_11 : decode cX12_blind 11 = .ok (.istore_n 2, 1) := by decide +kernel
theorem dX12_blind_12 : decode cX12_blind 12 = .ok (.iload_n 2, 1) := by decide +kernel
theorem dX12_blind_13 : decode cX12_blind 13 = .ok (.bipush 10, 2) := by decide +kernel
theorem dX12_blind_15 : decode cX12_blind 15 = .ok (.if_icmp .ge 16, 3) := by decide +kernel
theorem dX12_blind_18 : decode cX12_blind 18 = .ok (.aload_n 0, 1) := by decide +kernel
theorem dX12_blind_19 : decode cX12_blind 19 = .ok (.getfield 261, 3) := by decide +kernel
theorem dX12_blind_22 : decode cX12_blind 22 = .ok (.iload_n 2, 1) := by decide +kernel
theorem dX12_blind_23 : decode cX12_blind 23 = .ok (.iconst 0, 1) := by decide +kernel
theorem dX12_blind_24 : decode cX12_blind 24 = .ok (.iastore, 1) := by decide +kernel
theorem dX12_blind_25 : decode cX12_blind 25 = .ok (.iinc 2 1, 3) := by decide +kernel
theorem dX12_blind_28 : decode cX12_blind 28 = .ok (.goto (-16), 3) := by decide +kernel
theorem dX12_blind_31 : decode cX12_blind 31 = .ok (.iconst 1, 1) := by decide +kernel
theorem dX12_blind_32 : decode cX12_blind 32 = .ok (.istore_n 2, 1) := by decide +kernel
theorem dX12_blind_33 : decode cX12_blind 33 = .ok (.iload_n 2, 1) := by decide +kernel
theorem dX12_blind_34 : decode cX12_blind 34 = .ok (.bipush 24, 2) := by decide +kernel
theorem dX12_blind_36 : decode cX12_blind 36 = .ok (.if_icmp .gt 17, 3) := by decide +kernel
theorem dX12_blind_39 : decode cX12_blind 39 = .ok (.iload_n 1, 1) := by decide +kernel
theorem dX12_blind_40 : decode cX12_blind 40 = .ok (.aload_n 0, 1) := by decide +kernel
theorem dX12_blind_41 : decode cX12_blind 41 = .ok (.iload_n 2, 1) := by decide +kernel
theorem dX12_blind_42 : decode cX12_blind 42 = .ok (.invokevirtual 550, 3) := by decide +kernel
theorem dX12_blind_45 : decode cX12_blind 45 = .ok (.iadd, 1) := by decide +kernel
theorem dX12_blind_46 : decode cX12_blind 46 = .ok (.istore_n 1, 1) := by decide +kernel
theorem dX12_blind_47 : decode cX12_blind 47 = .ok (.iinc 2 1, 3) := by decide +kernel
theorem dX12_blind_50 : decode cX12_blind 50 = .ok (.goto (-17), 3) := by decide +kernel
theorem dX12_blind_53 : decode cX12_blind 53 = .ok (.iload_n 1, 1) := by decide +kernel
theorem dX12_blind_54 : decode cX12_blind 54 = .ok (.ireturn, 1) := by decide +kernel
theorem dX12_blindDay_0 : decode cX12_blindDay 0 = .ok (.aload_n 0, 1) := by decide +kernel
theorem dX12_blindDay_1 : decode cX12_blindDay 1 = .ok (.iconst 0, 1) := by decide +kernel
theorem dX12_blindDay_2 : decode cX12_blindDay 2 = .ok (.putfield 201, 3) := by decide +kernel
theorem dX12_blindDay_5 : decode cX12_blindDay 5 = .ok (.iconst 0, 1) := by decide +kernel
theorem dX12_blindDay_6 : decode cX12_blindDay 6 = .ok (.istore_n 2, 1) := by decide +kernel
theorem dX12_blindDay_7 : decode cX12_blindDay 7 = .ok (.iload_n 2, 1) := by decide +kernel
theorem dX12_blindDay_8 : decode cX12_blindDay 8 = .ok (.sipush 400, 3) := by decide +kernel
theorem dX12_blindDay_11 : decode cX12_blindDay 11 = .ok (.if_icmp .ge 16, 3) := by decide +kernel
theorem dX12_blindDay_14 : decode cX12_blindDay 14 = .ok (.aload_n 0, 1) := by decide +kernel
theorem dX12_blindDay_15 : decode cX12_blindDay 15 = .ok (.getfield 210, 3) := by decide +kernel
theorem dX12_blindDay_18 : decode cX12_blindDay 18 = .ok (.iload_n 2, 1) := by decide +kernel
theorem dX12_blindDay_19 : decode cX12_blindDay 19 = .ok (.iconst (-1), 1) := by decide +kernel
theorem dX12_blindDay_20 : decode cX12_blindDay 20 = .ok (.iastore, 1) := by decide +kernel
theorem dX12_blindDay_21 : decode cX12_blindDay 21 = .ok (.iinc 2 1, 3) := by decide +kernel
theorem dX12_blindDay_24 : decode cX12_blindDay 24 = .ok (.goto (-17), 3) := by decide +kernel
theorem dX12_blindDay_27 : decode cX12_blindDay 27 = .ok (.iconst 0, 1) := by decide +kernel
theorem dX12_blindDay_28 : decode cX12_blindDay 28 = .ok (.istore_n 2, 1) := by decide +kernel
theorem dX12_blindDay_29 : decode cX12_blindDay 29 = .ok (.iload_n 2, 1) := by decide +kernel
theorem dX12_blindDay_30 : decode cX12_blindDay 30 = .ok (.aload_n 0, 1) := by decide +kernel
theorem dX12_blindDay_31 : decode cX12_blindDay 31 = .ok (.getfield 54, 3) := by decide +kernel
theorem dX12_blindDay_34 : decode cX12_blindDay 34 = .ok (.aload_n 0, 1) := by decide +kernel
theorem dX12_blindDay_35 : decode cX12_blindDay 35 = .ok (.getfield 48, 3) := by decide +kernel
theorem dX12_blindDay_38 : decode cX12_blindDay 38 = .ok (.iaload, 1) := by decide +kernel
theorem dX12_blindDay_39 : decode cX12_blindDay 39 = .ok (.if_icmp .ge 45, 3) := by decide +kernel
theorem dX12_blindDay_42 : decode cX12_blindDay 42 = .ok (.aload_n 0, 1) := by decide +kernel
theorem dX12_blindDay_43 : decode cX12_blindDay 43 = .ok (.getfield 261, 3) := by decide +kernel
theorem dX12_blindDay_46 : decode cX12_blindDay 46 = .ok (.iload_n 2, 1) := by decide +kernel
theorem dX12_blindDay_47 : decode cX12_blindDay 47 = .ok (.dup2, 1) := by decide +kernel
theorem dX12_blindDay_48 : decode cX12_blindDay 48 = .ok (.iaload, 1) := by decide +kernel
theorem dX12_blindDay_49 : decode cX12_blindDay 49 = .ok (.aload_n 0, 1) := by decide +kernel
theorem dX12_blindDay_50 : decode cX12_blindDay 50 = .ok (.getfield 216, 3) := by decide +kernel
theorem dX12_blindDay_53 : decode cX12_blindDay 53 = .ok (.bipush 25, 2) := by decide +kernel
theorem dX12_blindDay_55 : decode cX12_blindDay 55 = .ok (.iload_n 2, 1) := by decide +kernel
theorem dX12_blindDay_56 : decode cX12_blindDay 56 = .ok (.imul, 1) := by decide +kernel
theorem dX12_blindDay_57 : decode cX12_blindDay 57 = .ok (.iload_n 1, 1) := by decide +kernel
theorem dX12_blindDay_58 : decode cX12_blindDay 58 = .ok (.iadd, 1) := by decide +kernel
theorem dX12_blindDay_59 : decode cX12_blindDay 59 = .ok (.iaload, 1) := by decide +kernel
theorem dX12_blindDay_60 : decode cX12_blindDay 60 = .ok (.iadd, 1) := by decide +kernel
theorem dX12_blindDay_61 : decode cX12_blindDay 61 = .ok (.iastore, 1) := by decide +kernel
theorem dX12_blindDay_62 : decode cX12_blindDay 62 = .ok (.aload_n 0, 1) := by decide +kernel
theorem dX12_blindDay_63 : decode cX12_blindDay 63 = .ok (.iconst 0, 1) := by decide +kernel
theorem dX12_blindDay_64 : decode cX12_blindDay 64 = .ok (.iconst 2, 1) := by decide +kernel
theorem dX12_blindDay_65 : decode cX12_blindDay 65 = .ok (.iload_n 2, 1) := by decide +kernel
theorem dX12_blindDay_66 : decode cX12_blindDay 66 = .ok (.iadd, 1) := by decide +kernel
theorem dX12_blindDay_67 : decode cX12_blindDay 67 = .ok (.aload_n 0, 1) := by decide +kernel
theorem dX12_blindDay_68 : decode cX12_blindDay 68 = .ok (.getfield 261, 3) := by decide +kernel
theorem dX12_blindDay_71 : decode cX12_blindDay 71 = .ok (.iload_n 2, 1) := by decide +kernel
theorem dX12_blindDay_72 : decode cX12_blindDay 72 = .ok (.iaload, 1) := by decide +kernel
theorem dX12_blindDay_73 : decode cX12_blindDay 73 = .ok (.lconst 0, 1) := by decide +kernel
theorem dX12_blindDay_74 : decode cX12_blindDay 74 = .ok (.invokevirtual 536, 3) := by decide +kernel
theorem dX12_blindDay_77 : decode cX12_blindDay 77 = .ok (.pop, 1) := by decide +kernel
theorem dX12_blindDay_78 : decode cX12_blindDay 78 = .ok (.iinc 2 1, 3) := by decide +kernel
theorem dX12_blindDay_81 : decode cX12_blindDay 81 = .ok (.goto (-52), 3) := by decide +kernel
theorem dX12_blindDay_84 : decode cX12_blindDay 84 = .ok (.iconst 0, 1) := by decide +kernel
theorem dX12_blindDay_85 : decode cX12_blindDay 85 = .ok (.istore_n 2, 1) := by decide +kernel
theorem dX12_blindDay_86 : decode cX12_blindDay 86 = .ok (.iload_n 2, 1) := by decide +kernel
theorem dX12_blindDay_87 : decode cX12_blindDay 87 = .ok (.aload_n 0, 1) := by decide +kernel
theorem dX12_blindDay_88 : decode cX12_blindDay 88 = .ok (.getfield 150, 3) := by decide +kernel
theorem dX12_blindDay_91 : decode cX12_blindDay 91 = .ok (.if_icmp .ge 101, 3) := by decide +kernel
theorem dX12_blindDay_94 : decode cX12_blindDay 94 = .ok (.aload_n 0, 1) := by decide +kernel
theorem dX12_blindDay_95 : decode cX12_blindDay 95 = .ok (.getfield 171, 3) := by decide +kernel
theorem dX12_blindDay_98 : decode cX12_blindDay 98 = .ok (.iload_n 2, 1) := by decide +kernel
theorem dX12_blindDay_99 : decode cX12_blindDay 99 = .ok (.iaload, 1) := by decide +kernel
theorem dX12_blindDay_100 : decode cX12_blindDay 100 = .ok (.iload_n 1, 1) := by decide +kernel
theorem dX12_blindDay_101 : decode cX12_blindDay 101 = .ok (.if_icmp .eq 6, 3) := by decide +kernel
theorem dX12_blindDay_104 : decode cX12_blindDay 104 = .ok (.goto 82, 3) := by decide +kernel
theorem dX12_blindDay_107 : decode cX12_blindDay 107 = .ok (.aload_n 0, 1) := by decide +kernel
theorem dX12_blindDay_108 : decode cX12_blindDay 108 = .ok (.sipush 242, 3) := by decide +kernel
theorem dX12_blindDay_111 : decode cX12_blindDay 111 = .ok (.iload_n 2, 1) := by decide +kernel
theorem dX12_blindDay_112 : decode cX12_blindDay 112 = .ok (.iadd, 1) := by decide +kernel
theorem dX12_blindDay_113 : decode cX12_blindDay 113 = .ok (.iconst 1, 1) := by decide +kernel
theorem dX12_blindDay_114 : decode cX12_blindDay 114 = .ok (.aload_n 0, 1) := by decide +kernel
theorem dX12_blindDay_115 : decode cX12_blindDay 115 = .ok (.iload_n 2, 1) := by decide +kernel
theorem dX12_blindDay_116 : decode cX12_blindDay 116 = .ok (.invokevirtual 515, 3) := by decide +kernel
theorem dX12_blindDay_119 : decode cX12_blindDay 119 = .ok (.lconst 0, 1) := by decide +kernel
theorem dX12_blindDay_120 : decode cX12_blindDay 120 = .ok (.invokevirtual 536, 3) := by decide +kernel
theorem dX12_blindDay_123 : decode cX12_blindDay 123 = .ok (.pop, 1) := by decide +kernel
theorem dX12_blindDay_124 : decode cX12_blindDay 124 = .ok (.iconst 0, 1) := by decide +kernel
theorem dX12_blindDay_125 : decode cX12_blindDay 125 = .ok (.istore_n 3, 1) := by decide +kernel
theorem dX12_blindDay_126 : decode cX12_blindDay 126 = .ok (.iload_n 3, 1) := by decide +kernel
theorem dX12_blindDay_127 : decode cX12_blindDay 127 = .ok (.aload_n 0, 1) := by decide +kernel
theorem dX12_blindDay_128 : decode cX12_blindDay 128 = .ok (.getfield 54, 3) := by decide +kernel
theorem dX12_blindDay_131 : decode cX12_blindDay 131 = .ok (.aload_n 0, 1) := by decide +kernel
theorem dX12_blindDay_132 : decode cX12_blindDay 132 = .ok (.getfield 48, 3) := by decide +kernel
theorem dX12_blindDay_135 : decode cX12_blindDay 135 = .ok (.iaload, 1) := by decide +kernel
theorem dX12_blindDay_136 : decode cX12_blindDay 136 = .ok (.if_icmp .ge 50, 3) := by decide +kernel
theorem dX12_blindDay_139 : decode cX12_blindDay 139 = .ok (.aload_n 0, 1) := by decide +kernel
theorem dX12_blindDay_140 : decode cX12_blindDay 140 = .ok (.iload_n 2, 1) := by decide +kernel
theorem dX12_blindDay_141 : decode cX12_blindDay 141 = .ok (.iload_n 3, 1) := by decide +kernel
theorem dX12_blindDay_142 : decode cX12_blindDay 142 = .ok (.invokevirtual 518, 3) := by decide +kernel
theorem dX12_blindDay_145 : decode cX12_blindDay 145 = .ok (.ifCond .eq 35, 3) := by decide +kernel
theorem dX12_blindDay_148 : decode cX12_blindDay 148 = .ok (.aload_n 0, 1) := by decide +kernel
theorem dX12_blindDay_149 : decode cX12_blindDay 149 = .ok (.getfield 210, 3) := by decide +kernel
theorem dX12_blindDay_152 : decode cX12_blindDay 152 = .ok (.bipush 10, 2) := by decide +kernel
theorem dX12_blindDay_154 : decode cX12_blindDay 154 = .ok (.iload_n 2, 1) := by decide +kernel
theorem dX12_blindDay_155 : decode cX12_blindDay 155 = .ok (.imul, 1) := by decide +kernel
theorem dX12_blindDay_156 : decode cX12_blindDay 156 = .ok (.iload_n 3, 1) := by decide +kernel
theorem dX12_blindDay_157 : decode cX12_blindDay 157 = .ok (.iadd, 1) := by decide +kernel
theorem dX12_blindDay_158 : decode cX12_blindDay 158 = .ok (.aload_n 0, 1) := by decide +kernel
theorem dX12_blindDay_159 : decode cX12_blindDay 159 = .ok (.iconst 2, 1) := by decide +kernel
theorem dX12_blindDay_160 : decode cX12_blindDay 160 = .ok (.iload_n 3, 1) := by decide +kernel
theorem dX12_blindDay_161 : decode cX12_blindDay 161 = .ok (.iadd, 1) := by decide +kernel
theorem dX12_blindDay_162 : decode cX12_blindDay 162 = .ok (.sipush 242, 3) := by decide +kernel
theorem dX12_blindDay_165 : decode cX12_blindDay 165 = .ok (.iload_n 2, 1) := by decide +kernel
theorem dX12_blindDay_166 : decode cX12_blindDay 166 = .ok (.iadd, 1) := by decide +kernel
theorem dX12_blindDay_167 : decode cX12_blindDay 167 = .ok (.iconst 1, 1) := by decide +kernel
theorem dX12_blindDay_168 : decode cX12_blindDay 168 = .ok (.aload_n 0, 1) := by decide +kernel
theorem dX12_blindDay_169 : decode cX12_blindDay 169 = .ok (.iload_n 2, 1) := by decide +kernel
theorem dX12_blindDay_170 : decode cX12_blindDay 170 = .ok (.iload_n 3, 1) := by decide +kernel
theorem dX12_blindDay_171 : decode cX12_blindDay 171 = .ok (.invokevirtual 522, 3) := by decide +kernel
theorem dX12_blindDay_174 : decode cX12_blindDay 174 = .ok (.ineg, 1) := by decide +kernel
theorem dX12_blindDay_175 : decode cX12_blindDay 175 = .ok (.i2l, 1) := by decide +kernel
theorem dX12_blindDay_176 : decode cX12_blindDay 176 = .ok (.invokevirtual 536, 3) := by decide +kernel
theorem dX12_blindDay_179 : decode cX12_blindDay 179 = .ok (.iastore, 1) := by decide +kernel
theorem dX12_blindDay_180 : decode cX12_blindDay 180 = .ok (.iinc 3 1, 3) := by decide +kernel
theorem dX12_blindDay_183 : decode cX12_blindDay 183 = .ok (.goto (-57), 3) := by decide +kernel
theorem dX12_blindDay_186 : decode cX12_blindDay 186 = .ok (.iinc 2 1, 3) := by decide +kernel
theorem dX12_blindDay_189 : decode cX12_blindDay 189 = .ok (.goto (-103), 3) := by decide +kernel
theorem dX12_blindDay_192 : decode cX12_blindDay 192 = .ok (.aload_n 0, 1) := by decide +kernel
theorem dX12_blindDay_193 : decode cX12_blindDay 193 = .ok (.invokevirtual 541, 3) := by decide +kernel
theorem dX12_blindDay_196 : decode cX12_blindDay 196 = .ok (.iconst 0, 1) := by decide +kernel
theorem dX12_blindDay_197 : decode cX12_blindDay 197 = .ok (.istore_n 2, 1) := by decide +kernel
theorem dX12_blindDay_198 : decode cX12_blindDay 198 = .ok (.iconst 0, 1) := by decide +kernel
theorem dX12_blindDay_199 : decode cX12_blindDay 199 = .ok (.istore_n 3, 1) := by decide +kernel
theorem dX12_blindDay_200 : decode cX12_blindDay 200 = .ok (.iload_n 3, 1) := by decide +kernel
theorem dX12_blindDay_201 : decode cX12_blindDay 201 = .ok (.aload_n 0, 1) := by decide +kernel
theorem dX12_blindDay_202 : decode cX12_blindDay 202 = .ok (.getfield 150, 3) := by decide +kernel
theorem dX12_blindDay_205 : decode cX12_blindDay 205 = .ok (.if_icmp .ge 85, 3) := by decide +kernel
theorem dX12_blindDay_208 : decode cX12_blindDay 208 = .ok (.aload_n 0, 1) := by decide +kernel
theorem dX12_blindDay_209 : decode cX12_blindDay 209 = .ok (.getfield 171, 3) := by decide +kernel
theorem dX12_blindDay_212 : decode cX12_blindDay 212 = .ok (.iload_n 3, 1) := by decide +kernel
theorem dX12_blindDay_213 : decode cX12_blindDay 213 = .ok (.iaload, 1) := by decide +kernel
theorem dX12_blindDay_214 : decode cX12_blindDay 214 = .ok (.iload_n 1, 1) := by decide +kernel
theorem dX12_blindDay_215 : decode cX12_blindDay 215 = .ok (.if_icmp .eq 6, 3) := by decide +kernel
theorem dX12_blindDay_218 : decode cX12_blindDay 218 = .ok (.goto 66, 3) := by decide +kernel
theorem dX12_blindDay_221 : decode cX12_blindDay 221 = .ok (.iconst 0, 1) := by decide +kernel
theorem dX12_blindDay_222 : decode cX12_blindDay 222 = .ok (.istore 4, 2) := by decide +kernel
theorem dX12_blindDay_224 : decode cX12_blindDay 224 = .ok (.iconst 0, 1) := by decide +kernel
theorem dX12_blindDay_225 : decode cX12_blindDay 225 = .ok (.istore 5, 2) := by decide +kernel
theorem dX12_blindDay_227 : decode cX12_blindDay 227 = .ok (.iload 5, 2) := by decide +kernel
theorem dX12_blindDay_229 : decode cX12_blindDay 229 = .ok (.aload_n 0, 1) := by decide +kernel
theorem dX12_blindDay_230 : decode cX12_blindDay 230 = .ok (.getfield 54, 3) := by decide +kernel
theorem dX12_blindDay_233 : decode cX12_blindDay 233 = .ok (.aload_n 0, 1) := by decide +kernel
theorem dX12_blindDay_234 : decode cX12_blindDay 234 = .ok (.getfield 48, 3) := by decide +kernel
theorem dX12_blindDay_237 : decode cX12_blindDay 237 = .ok (.iaload, 1) := by decide +kernel
theorem dX12_blindDay_238 : decode cX12_blindDay 238 = .ok (.if_icmp .ge 41, 3) := by decide +kernel
theorem dX12_blindDay_241 : decode cX12_blindDay 241 = .ok (.aload_n 0, 1) := by decide +kernel
theorem dX12_blindDay_242 : decode cX12_blindDay 242 = .ok (.getfield 213, 3) := by decide +kernel
theorem dX12_blindDay_245 : decode cX12_blindDay 245 = .ok (.bipush 10, 2) := by decide +kernel
theorem dX12_blindDay_247 : decode cX12_blindDay 247 = .ok (.iload_n 3, 1) := by decide +kernel
theorem dX12_blindDay_248 : decode cX12_blindDay 248 = .ok (.imul, 1) := by decide +kernel
theorem dX12_blindDay_249 : decode cX12_blindDay 249 = .ok (.iload 5, 2) := by decide +kernel
theorem dX12_blindDay_251 : decode cX12_blindDay 251 = .ok (.iadd, 1) := by decide +kernel
theorem dX12_blindDay_252 : decode cX12_blindDay 252 = .ok (.baload, 1) := by decide +kernel
theorem dX12_blindDay_253 : decode cX12_blindDay 253 = .ok (.ifCond .ne 6, 3) := by decide +kernel
theorem dX12_blindDay_256 : decode cX12_blindDay 256 = .ok (.goto 17, 3) := by decide +kernel
theorem dX12_blindDay_259 : decode cX12_blindDay 259 = .ok (.aload_n 0, 1) := by decide +kernel
theorem dX12_blindDay_260 : decode cX12_blindDay 260 = .ok (.getfield 261, 3) := by decide +kernel
theorem dX12_blindDay_263 : decode cX12_blindDay 263 = .ok (.iload 5, 2) := by decide +kernel
theorem dX12_blindDay_265 : decode cX12_blindDay 265 = .ok (.dup2, 1) := by decide +kernel
theorem dX12_blindDay_266 : decode cX12_blindDay 266 = .ok (.iaload, 1) := by decide +kernel
theorem dX12_blindDay_267 : decode cX12_blindDay 267 = .ok (.iconst 1, 1) := by decide +kernel
theorem dX12_blindDay_268 : decode cX12_blindDay 268 = .ok (.isub, 1) := by decide +kernel
theorem dX12_blindDay_269 : decode cX12_blindDay 269 = .ok (.iastore, 1) := by decide +kernel
theorem dX12_blindDay_270 : decode cX12_blindDay 270 = .ok (.iinc 4 1, 3) := by decide +kernel
theorem dX12_blindDay_273 : decode cX12_blindDay 273 = .ok (.iinc 5 1, 3) := by decide +kernel
theorem dX12_blindDay_276 : decode cX12_blindDay 276 = .ok (.goto (-49), 3) := by decide +kernel
theorem dX12_blindDay_279 : decode cX12_blindDay 279 = .ok (.iload_n 2, 1) := by decide +kernel
theorem dX12_blindDay_280 : decode cX12_blindDay 280 = .ok (.iload 4, 2) := by decide +kernel
theorem dX12_blindDay_282 : decode cX12_blindDay 282 = .ok (.iadd, 1) := by decide +kernel
theorem dX12_blindDay_283 : decode cX12_blindDay 283 = .ok (.istore_n 2, 1) := by decide +kernel
theorem dX12_blindDay_284 : decode cX12_blindDay 284 = .ok (.iinc 3 1, 3) := by decide +kernel
theorem dX12_blindDay_287 : decode cX12_blindDay 287 = .ok (.goto (-87), 3) := by decide +kernel
theorem dX12_blindDay_290 : decode cX12_blindDay 290 = .ok (.iload_n 2, 1) := by decide +kernel
theorem dX12_blindDay_291 : decode cX12_blindDay 291 = .ok (.ireturn, 1) := by decide +kernel
theorem dX12_call_0 : decode cX12_call 0 = .ok (.aload_n 0, 1) := by decide +kernel
theorem dX12_call_1 : decode cX12_call 1 = .ok (.iload_n 1, 1) := by decide +kernel
theorem dX12_call_2 : decode cX12_call 2 = .ok (.invokevirtual 450, 3) := by decide +kernel
theorem dX12_call_5 : decode cX12_call 5 = .ok (.ifCond .eq 23, 3) := by decide +kernel
theorem dX12_call_8 : decode cX12_call 8 = .ok (.iload_n 2, 1) := by decide +kernel
theorem dX12_call_9 : decode cX12_call 9 = .ok (.iconst 1, 1) := by decide +kernel
theorem dX12_call_10 : decode cX12_call 10 = .ok (.bipush 24, 2) := by decide +kernel
theorem dX12_call_12 : decode cX12_call 12 = .ok (.invokestatic 322, 3) := by decide +kernel
theorem dX12_call_15 : decode cX12_call 15 = .ok (.ifCond .eq 13, 3) := by decide +kernel
theorem dX12_call_18 : decode cX12_call 18 = .ok (.aload_n 0, 1) := by decide +kernel
theorem dX12_call_19 : decode cX12_call 19 = .ok (.getfield 126, 3) := by decide +kernel
theorem dX12_call_22 : decode cX12_call 22 = .ok (.sipush 200, 3) := by decide +kernel
theorem dX12_call_25 : decode cX12_call 25 = .ok (.if_icmp .ne 7, 3) := by decide +kernel
theorem dX12_call_28 : decode cX12_call 28 = .ok (.iconst (-1), 1) := by decide +kernel
theorem dX12_call_29 : decode cX12_call 29 = .ok (.goto 13, 3) := by decide +kernel
theorem dX12_call_32 : decode cX12_call 32 = .ok (.aload_n 0, 1) := by decide +kernel
theorem dX12_call_33 : decode cX12_call 33 = .ok (.iconst 2, 1) := by decide +kernel
theorem dX12_call_34 : decode cX12_call 34 = .ok (.iload_n 1, 1) := by decide +kernel
theorem dX12_call_35 : decode cX12_call 35 = .ok (.iload_n 2, 1) := by decide +kernel
theorem dX12_call_36 : decode cX12_call 36 = .ok (.iconst 0, 1) := by decide +kernel
theorem dX12_call_37 : decode cX12_call 37 = .ok (.iconst 0, 1) := by decide +kernel
theorem dX12_call_38 : decode cX12_call 38 = .ok (.iconst 0, 1) := by decide +kernel
theorem dX12_call_39 : decode cX12_call 39 = .ok (.invokevirtual 453, 3) := by decide +kernel
theorem dX12_call_42 : decode cX12_call 42 = .ok (.ireturn, 1) := by decide +kernel
theorem dX12_child_0 : decode cX12_child 0 = .ok (.iload_n 1, 1) := by decide +kernel
theorem dX12_child_1 : decode cX12_child 1 = .ok (.iconst 1, 1) := by decide +kernel
theorem dX12_child_2 : decode cX12_child 2 = .ok (.if_icmp .lt 11, 3) := by decide +kernel
theorem dX12_child_5 : decode cX12_child 5 = .ok (.iload_n 1, 1) := by decide +kernel
theorem dX12_child_6 : decode cX12_child 6 = .ok (.aload_n 0, 1) := by decide +kernel
theorem dX12_child_7 : decode cX12_child 7 = .ok (.getfield 126, 3) := by decide +kernel
theorem dX12_child_10 : decode cX12_child 10 = .ok (.if_icmp .le 5, 3) := by decide +kernel
theorem dX12_child_13 : decode cX12_child 13 = .ok (.iconst (-1), 1) := by decide +kernel
theorem dX12_child_14 : decode cX12_child 14 = .ok (.ireturn, 1) := by decide +kernel
theorem dX12_child_15 : decode cX12_child 15 = .ok (.aload_n 0, 1) := by decide +kernel
theorem dX12_child_16 : decode cX12_child 16 = .ok (.invokevirtual 471, 3) := by decide +kernel
theorem dX12_child_19 : decode cX12_child 19 = .ok (.aload_n 0, 1) := by decide +kernel
theorem dX12_child_20 : decode cX12_child 20 = .ok (.getfield 183, 3) := by decide +kernel
theorem dX12_child_23 : decode cX12_child 23 = .ok (.iload_n 1, 1) := by decide +kernel
theorem dX12_child_24 : decode cX12_child 24 = .ok (.iaload, 1) := by decide +kernel
theorem dX12_child_25 : decode cX12_child 25 = .ok (.ireturn, 1) := by decide +kernel
theorem dX12_comes_0 : decode cX12_comes 0 = .ok (.aload_n 0, 1) := by decide +kernel
theorem dX12_comes_1 : decode cX12_comes 1 = .ok (.getfield 183, 3) := by decide +kernel
theorem dX12_comes_4 : decode cX12_comes 4 = .ok (.iload_n 2, 1) := by decide +kernel
theorem dX12_comes_5 : decode cX12_comes 5 = .ok (.iload_n 1, 1) := by decide +kernel
theorem dX12_comes_6 : decode cX12_comes 6 = .ok (.iastore, 1) := by decide +kernel
theorem dX12_comes_7 : decode cX12_comes 7 = .ok (.aload_n 0, 1) := by decide +kernel
theorem dX12_comes_8 : decode cX12_comes 8 = .ok (.getfield 138, 3) := by decide +kernel
theorem dX12_comes_11 : decode cX12_comes 11 = .ok (.iconst 5, 1) := by decide +kernel
theorem dX12_comes_12 : decode cX12_comes 12 = .ok (.iload_n 2, 1) := by decide +kernel
theorem dX12_comes_13 : decode cX12_comes 13 = .ok (.imul, 1) := by decide +kernel
theorem dX12_comes_14 : decode cX12_comes 14 = .ok (.iconst 1, 1) := by decide +kernel
theorem dX12_comes_15 : decode cX12_comes 15 = .ok (.iadd, 1) := by decide +kernel
theorem dX12_comes_16 : decode cX12_comes 16 = .ok (.iaload, 1) := by decide +kernel
theorem dX12_comes_17 : decode cX12_comes 17 = .ok (.istore_n 3, 1) := by decide +kernel
theorem dX12_comes_18 : decode cX12_comes 18 = .ok (.aload_n 0, 1) := by decide +kernel
theorem dX12_comes_19 : decode cX12_comes 19 = .ok (.getfield 156, 3) := by decide +kernel
theorem dX12_comes_22 : decode cX12_comes 22 = .ok (.iload_n 1, 1) := by decide +kernel
theorem dX12_comes_23 : decode cX12_comes 23 = .ok (.iload_n 3, 1) := by decide +kernel
theorem dX12_comes_24 : decode cX12_comes 24 = .ok (.iastore, 1) := by decide +kernel
theorem dX12_comes_25 : decode cX12_comes 25 = .ok (.aload_n 0, 1) := by decide +kernel
theorem dX12_comes_26 : decode cX12_comes 26 = .ok (.getfield 159, 3) := by decide +kernel
theorem dX12_comes_29 : decode cX12_comes 29 = .ok (.iload_n 1, 1) := by decide +kernel
theorem dX12_comes_30 : decode cX12_comes 30 = .ok (.iload_n 3, 1) := by decide +kernel
theorem dX12_comes_31 : decode cX12_comes 31 = .ok (.aload_n 0, 1) := by decide +kernel
theorem dX12_comes_32 : decode cX12_comes 32 = .ok (.getfield 159, 3) := by decide +kernel
theorem dX12_comes_35 : decode cX12_comes 35 = .ok (.iload_n 1, 1) := by decide +kernel
theorem dX12_comes_36 : decode cX12_comes 36 = .ok (.iaload, 1) := by decide +kernel
theorem dX12_comes_37 : decode cX12_comes 37 = .ok (.if_icmp .ge 7, 3) := by decide +kernel
theorem dX12_comes_40 : decode cX12_comes 40 = .ok (.iload_n 3, 1) := by decide +kernel
theorem dX12_comes_41 : decode cX12_comes 41 = .ok (.goto 9, 3) := by decide +kernel
theorem dX12_comes_44 : decode cX12_comes 44 = .ok (.aload_n 0, 1) := by decide +kernel
theorem dX12_comes_45 : decode cX12_comes 45 = .ok (.getfield 159, 3) := by decide +kernel
theorem dX12_comes_48 : decode cX12_comes 48 = .ok (.iload_n 1, 1) := by decide +kernel
theorem dX12_comes_49 : decode cX12_comes 49 = .ok (.iaload, 1) := by decide +kernel
theorem dX12_comes_50 : decode cX12_comes 50 = .ok (.iastore, 1) := by decide +kernel
theorem dX12_comes_51 : decode cX12_comes 51 = .ok (.aload_n 0, 1) := by decide +kernel
theorem dX12_comes_52 : decode cX12_comes 52 = .ok (.getfield 162, 3) := by decide +kernel
theorem dX12_comes_55 : decode cX12_comes 55 = .ok (.iload_n 1, 1) := by decide +kernel
theorem dX12_comes_56 : decode cX12_comes 56 = .ok (.iload_n 3, 1) := by decide +kernel
theorem dX12_comes_57 : decode cX12_comes 57 = .ok (.aload_n 0, 1) := by decide +kernel
theorem dX12_comes_58 : decode cX12_comes 58 = .ok (.getfield 162, 3) := by decide +kernel
theorem dX12_comes_61 : decode cX12_comes 61 = .ok (.iload_n 1, 1) := by decide +kernel
theorem dX12_comes_62 : decode cX12_comes 62 = .ok (.iaload, 1) := by decide +kernel
theorem dX12_comes_63 : decode cX12_comes 63 = .ok (.if_icmp .le 7, 3) := by decide +kernel
theorem dX12_comes_66 : decode cX12_comes 66 = .ok (.iload_n 3, 1) := by decide +kernel
theorem dX12_comes_67 : decode cX12_comes 67 = .ok (.goto 9, 3) := by decide +kernel
theorem dX12_comes_70 : decode cX12_comes 70 = .ok (.aload_n 0, 1) := by decide +kernel
theorem dX12_comes_71 : decode cX12_comes 71 = .ok (.getfield 162, 3) := by decide +kernel
theorem dX12_comes_74 : decode cX12_comes 74 = .ok (.iload_n 1, 1) := by decide +kernel
theorem dX12_comes_75 : decode cX12_comes 75 = .ok (.iaload, 1) := by decide +kernel
theorem dX12_comes_76 : decode cX12_comes 76 = .ok (.iastore, 1) := by decide +kernel
theorem dX12_comes_77 : decode cX12_comes 77 = .ok (.aload_n 0, 1) := by decide +kernel
theorem dX12_comes_78 : decode cX12_comes 78 = .ok (.getfield 165, 3) := by decide +kernel
theorem dX12_comes_81 : decode cX12_comes 81 = .ok (.iload_n 1, 1) := by decide +kernel
theorem dX12_comes_82 : decode cX12_comes 82 = .ok (.aload_n 0, 1) := by decide +kernel
theorem dX12_comes_83 : decode cX12_comes 83 = .ok (.getfield 138, 3) := by decide +kernel
theorem dX12_comes_86 : decode cX12_comes 86 = .ok (.iconst 5, 1) := by decide +kernel
theorem dX12_comes_87 : decode cX12_comes 87 = .ok (.iload_n 2, 1) := by decide +kernel
theorem dX12_comes_88 : decode cX12_comes 88 = .ok (.imul, 1) := by decide +kernel
theorem dX12_comes_89 : decode cX12_comes 89 = .ok (.iconst 2, 1) := by decide +kernel
theorem dX12_comes_90 : decode cX12_comes 90 = .ok (.iadd, 1) := by decide +kernel
theorem dX12_comes_91 : decode cX12_comes 91 = .ok (.iaload, 1) := by decide +kernel
theorem dX12_comes_92 : decode cX12_comes 92 = .ok (.iastore, 1) := by decide +kernel
theorem dX12_comes_93 : decode cX12_comes 93 = .ok (.aload_n 0, 1) := by decide +kernel
theorem dX12_comes_94 : decode cX12_comes 94 = .ok (.getfield 168, 3) := by decide +kernel
theorem dX12_comes_97 : decode cX12_comes 97 = .ok (.iload_n 1, 1) := by decide +kernel
theorem dX12_comes_98 : decode cX12_comes 98 = .ok (.aload_n 0, 1) := by decide +kernel
theorem dX12_comes_99 : decode cX12_comes 99 = .ok (.getfield 138, 3) := by decide +kernel
theorem dX12_comes_102 : decode cX12_comes 102 = .ok (.iconst 5, 1) := by decide +kernel
theorem dX12_comes_103 : decode cX12_comes 103 = .ok (.iload_n 2, 1) := by decide +kernel
theorem dX12_comes_104 : decode cX12_comes 104 = .ok (.imul, 1) := by decide +kernel
theorem dX12_comes_105 : decode cX12_comes 105 = .ok (.iconst 3, 1) := by decide +kernel
theorem dX12_comes_106 : decode cX12_comes 106 = .ok (.iadd, 1) := by decide +kernel
theorem dX12_comes_107 : decode cX12_comes 107 = .ok (.iaload, 1) := by decide +kernel
theorem dX12_comes_108 : decode cX12_comes 108 = .ok (.iastore, 1) := by decide +kernel
theorem dX12_comes_109 : decode cX12_comes 109 = .ok (.aload_n 0, 1) := by decide +kernel
theorem dX12_comes_110 : decode cX12_comes 110 = .ok (.getfield 171, 3) := by decide +kernel
theorem dX12_comes_113 : decode cX12_comes 113 = .ok (.iload_n 1, 1) := by decide +kernel
theorem dX12_comes_114 : decode cX12_comes 114 = .ok (.aload_n 0, 1) := by decide +kernel
theorem dX12_comes_115 : decode cX12_comes 115 = .ok (.getfield 138, 3) := by decide +kernel
theorem dX12_comes_118 : decode cX12_comes 118 = .ok (.iconst 5, 1) := by decide +kernel
theorem dX12_comes_119 : decode cX12_comes 119 = .ok (.iload_n 2, 1) := by decide +kernel
theorem dX12_comes_120 : decode cX12_comes 120 = .ok (.imul, 1) := by decide +kernel
theorem dX12_comes_121 : decode cX12_comes 121 = .ok (.iconst 4, 1) := by decide +kernel
theorem dX12_comes_122 : decode cX12_comes 122 = .ok (.iadd, 1) := by decide +kernel
theorem dX12_comes_123 : decode cX12_comes 123 = .ok (.iaload, 1) := by decide +kernel
theorem dX12_comes_124 : decode cX12_comes 124 = .ok (.iastore, 1) := by decide +kernel
theorem dX12_comes_125 : decode cX12_comes 125 = .ok (.aload_n 0, 1) := by decide +kernel
theorem dX12_comes_126 : decode cX12_comes 126 = .ok (.getfield 180, 3) := by decide +kernel
theorem dX12_comes_129 : decode cX12_comes 129 = .ok (.iload_n 1, 1) := by decide +kernel
theorem dX12_comes_130 : decode cX12_comes 130 = .ok (.dup2, 1) := by decide +kernel
theorem dX12_comes_131 : decode cX12_comes 131 = .ok (.iaload, 1) := by decide +kernel
theorem dX12_comes_132 : decode cX12_comes 132 = .ok (.iconst 1, 1) := by decide +kernel
theorem dX12_comes_133 : decode cX12_comes 133 = .ok (.iadd, 1) := by decide +kernel
theorem dX12_comes_134 : decode cX12_comes 134 = .ok (.iastore, 1) := by decide +kernel
theorem dX12_comes_135 : decode cX12_comes 135 = .ok (.iconst 0, 1) := by decide +kernel
theorem dX12_comes_136 : decode cX12_comes 136 = .ok (.istore 4, 2) := by decide +kernel
theorem dX12_comes_138 : decode cX12_comes 138 = .ok (.iload 4, 2) := by decide +kernel
theorem dX12_comes_140 : decode cX12_comes 140 = .ok (.iconst 3, 1) := by decide +kernel
theorem dX12_comes_141 : decode cX12_comes 141 = .ok (.if_icmp .ge 79, 3) := by decide +kernel
theorem dX12_comes_144 : decode cX12_comes 144 = .ok (.aload_n 0, 1) := by decide +kernel
theorem dX12_comes_145 : decode cX12_comes 145 = .ok (.getfield 144, 3) := by decide +kernel
theorem dX12_comes_148 : decode cX12_comes 148 = .ok (.iconst 3, 1) := by decide +kernel
theorem dX12_comes_149 : decode cX12_comes 149 = .ok (.iload_n 2, 1) := by decide +kernel
theorem dX12_comes_150 : decode cX12_comes 150 = .ok (.imul, 1) := by decide +kernel
theorem dX12_comes_151 : decode cX12_comes 151 = .ok (.iload 4, 2) := by decide +kernel
theorem dX12_comes_153 : decode cX12_comes 153 = .ok (.iadd, 1) := by decide +kernel
theorem dX12_comes_154 : decode cX12_comes 154 = .ok (.laload, 1) := by decide +kernel
theorem dX12_comes_155 : decode cX12_comes 155 = .ok (.lstore 5, 2) := by decide +kernel
theorem dX12_comes_157 : decode cX12_comes 157 = .ok (.lload 5, 2) := by decide +kernel
theorem dX12_comes_159 : decode cX12_comes 159 = .ok (.lconst 0, 1) := by decide +kernel
theorem dX12_comes_160 : decode cX12_comes 160 = .ok (.lcmp, 1) := by decide +kernel
theorem dX12_comes_161 : decode cX12_comes 161 = .ok (.ifCond .eq 53, 3) := by decide +kernel
theorem dX12_comes_164 : decode cX12_comes 164 = .ok (.aload_n 0, 1) := by decide +kernel
theorem dX12_comes_165 : decode cX12_comes 165 = .ok (.getfield 174, 3) := by decide +kernel
theorem dX12_comes_168 : decode cX12_comes 168 = .ok (.iload_n 1, 1) := by decide +kernel
theorem dX12_comes_169 : decode cX12_comes 169 = .ok (.iaload, 1) := by decide +kernel
theorem dX12_comes_170 : decode cX12_comes 170 = .ok (.iconst 4, 1) := by decide +kernel
theorem dX12_comes_171 : decode cX12_comes 171 = .ok (.if_icmp .eq 43, 3) := by decide +kernel
theorem dX12_comes_174 : decode cX12_comes 174 = .ok (.aload_n 0, 1) := by decide +kernel
theorem dX12_comes_175 : decode cX12_comes 175 = .ok (.iload_n 1, 1) := by decide +kernel
theorem dX12_comes_176 : decode cX12_comes 176 = .ok (.lload 5, 2) := by decide +kernel
theorem dX12_comes_178 : decode cX12_comes 178 = .ok (.invokevirtual 467, 3) := by decide +kernel
theorem dX12_comes_181 : decode cX12_comes 181 = .ok (.ifCond .eq 6, 3) := by decide +kernel
theorem dX12_comes_184 : decode cX12_comes 184 = .ok (.goto 30, 3) := by decide +kernel
theorem dX12_comes_187 : decode cX12_comes 187 = .ok (.aload_n 0, 1) := by decide +kernel
theorem dX12_comes_188 : decode cX12_comes 188 = .ok (.getfield 177, 3) := by decide +kernel
theorem dX12_comes_191 : decode cX12_comes 191 = .ok (.iconst 4, 1) := by decide +kernel
theorem dX12_comes_192 : decode cX12_comes 192 = .ok (.iload_n 1, 1) := by decide +kernel
theorem dX12_comes_193 : decode cX12_comes 193 = .ok (.imul, 1) := by decide +kernel
theorem dX12_comes_194 : decode cX12_comes 194 = .ok (.aload_n 0, 1) := by decide +kernel
theorem dX12_comes_195 : decode cX12_comes 195 = .ok (.getfield 174, 3) := by decide +kernel
theorem dX12_comes_198 : decode cX12_comes 198 = .ok (.iload_n 1, 1) := by decide +kernel
theorem dX12_comes_199 : decode cX12_comes 199 = .ok (.iaload, 1) := by decide +kernel
theorem dX12_comes_200 : decode cX12_comes 200 = .ok (.iadd, 1) := by decide +kernel
theorem dX12_comes_201 : decode cX12_comes 201 = .ok (.lload 5, 2) := by decide +kernel
theorem dX12_comes_203 : decode cX12_comes 203 = .ok (.lastore, 1) := by decide +kernel
theorem dX12_comes_204 : decode cX12_comes 204 = .ok (.aload_n 0, 1) := by decide +kernel
theorem dX12_comes_205 : decode cX12_comes 205 = .ok (.getfield 174, 3) := by decide +kernel
theorem dX12_comes_208 : decode cX12_comes 208 = .ok (.iload_n 1, 1) := by decide +kernel
theorem dX12_comes_209 : decode cX12_comes 209 = .ok (.dup2, 1) := by decide +kernel
theorem dX12_comes_210 : decode cX12_comes 210 = .ok (.iaload, 1) := by decide +kernel
theorem dX12_comes_211 : decode cX12_comes 211 = .ok (.iconst 1, 1) := by decide +kernel
theorem dX12_comes_212 : decode cX12_comes 212 = .ok (.iadd, 1) := by decide +kernel
theorem dX12_comes_213 : decode cX12_comes 213 = .ok (.iastore, 1) := by decide +kernel
theorem dX12_comes_214 : decode cX12_comes 214 = .ok (.iinc 4 1, 3) := by decide +kernel
theorem dX12_comes_217 : decode cX12_comes 217 = .ok (.goto (-79), 3) := by decide +kernel
theorem dX12_comes_220 : decode cX12_comes 220 = .ok (.return_, 1) := by decide +kernel
theorem dX12_costs_0 : decode cX12_costs 0 = .ok (.aload_n 0, 1) := by decide +kernel
theorem dX12_costs_1 : decode cX12_costs 1 = .ok (.iconst 0, 1) := by decide +kernel
theorem dX12_costs_2 : decode cX12_costs 2 = .ok (.putfield 264, 3) := by decide +kernel
theorem dX12_costs_5 : decode cX12_costs 5 = .ok (.aload_n 0, 1) := by decide +kernel
theorem dX12_costs_6 : decode cX12_costs 6 = .ok (.iload_n 1, 1) := by decide +kernel
theorem dX12_costs_7 : decode cX12_costs 7 = .ok (.invokevirtual 559, 3) := by decide +kernel
theorem dX12_costs_10 : decode cX12_costs 10 = .ok (.ifCond .eq 5, 3) := by decide +kernel
theorem dX12_costs_13 : decode cX12_costs 13 = .ok (.iconst 0, 1) := by decide +kernel
theorem dX12_costs_14 : decode cX12_costs 14 = .ok (.ireturn, 1) := by decide +kernel
theorem dX12_costs_15 : decode cX12_costs 15 = .ok (.aload_n 0, 1) := by decide +kernel
theorem dX12_costs_16 : decode cX12_costs 16 = .ok (.iload_n 1, 1) := by decide +kernel
theorem dX12_costs_17 : decode cX12_costs 17 = .ok (.invokevirtual 556, 3) := by decide +kernel
theorem dX12_costs_20 : decode cX12_costs 20 = .ok (.istore_n 2, 1) := by decide +kernel
theorem dX12_costs_21 : decode cX12_costs 21 = .ok (.iconst (-1), 1) := by decide +kernel
theorem dX12_costs_22 : decode cX12_costs 22 = .ok (.istore_n 3, 1) := by decide +kernel
theorem dX12_costs_23 : decode cX12_costs 23 = .ok (.iconst 1, 1) := by decide +kernel
theorem dX12_costs_24 : decode cX12_costs 24 = .ok (.istore 4, 2) := by decide +kernel
theorem dX12_costs_26 : decode cX12_costs 26 = .ok (.iload 4, 2) := by decide +kernel
theorem dX12_costs_28 : decode cX12_costs 28 = .ok (.iconst 1, 1) := by decide +kernel
theorem dX12_costs_29 : decode cX12_costs 29 = .ok (.aload_n 0, 1) := by decide +kernel
theorem dX12_costs_30 : decode cX12_costs 30 = .ok (.getfield 54, 3) := by decide +kernel
theorem dX12_costs_33 : decode cX12_costs 33 = .ok (.aload_n 0, 1) := by decide +kernel
theorem dX12_costs_34 : decode cX12_costs 34 = .ok (.getfield 48, 3) := by decide +kernel
theorem dX12_costs_37 : decode cX12_costs 37 = .ok (.iaload, 1) := by decide +kernel
theorem dX12_costs_38 : decode cX12_costs 38 = .ok (.ishl, 1) := by decide +kernel
theorem dX12_costs_39 : decode cX12_costs 39 = .ok (.if_icmp .ge 282, 3) := by decide +kernel
theorem dX12_costs_42 : decode cX12_costs 42 = .ok (.iconst 0, 1) := by decide +kernel
theorem dX12_costs_43 : decode cX12_costs 43 = .ok (.istore 5, 2) := by decide +kernel
theorem dX12_costs_45 : decode cX12_costs 45 = .ok (.iload 4, 2) := by decide +kernel
theorem dX12_costs_47 : decode cX12_costs 47 = .ok (.aload_n 0, 1) := by decide +kernel
theorem dX12_costs_48 : decode cX12_costs 48 = .ok (.getfield 243, 3) := by decide +kernel
theorem dX12_costs_51 : decode cX12_costs 51 = .ok (.iload_n 1, 1) := by decide +kernel
theorem dX12_costs_52 : decode cX12_costs 52 = .ok (.iaload, 1) := by decide +kernel
theorem dX12_costs_53 : decode cX12_costs 53 = .ok (.iand, 1) := by decide +kernel
theorem dX12_costs_54 : decode cX12_costs 54 = .ok (.ifCond .ne 7, 3) := by decide +kernel
theorem dX12_costs_57 : decode cX12_costs 57 = .ok (.iconst 1, 1) := by decide +kernel
theorem dX12_costs_58 : decode cX12_costs 58 = .ok (.goto 4, 3) := by decide +kernel
theorem dX12_costs_61 : decode cX12_costs 61 = .ok (.iconst 0, 1) := by decide +kernel
theorem dX12_costs_62 : decode cX12_costs 62 = .ok (.istore 6, 2) := by decide +kernel
theorem dX12_costs_64 : decode cX12_costs 64 = .ok (.iconst 0, 1) := by decide +kernel
theorem dX12_costs_65 : decode cX12_costs 65 = .ok (.istore 7, 2) := by decide +kernel
theorem dX12_costs_67 : decode cX12_costs 67 = .ok (.iload 7, 2) := by decide +kernel
theorem dX12_costs_69 : decode cX12_costs 69 = .ok (.aload_n 0, 1) := by decide +kernel
theorem dX12_costs_70 : decode cX12_costs 70 = .ok (.getfield 54, 3) := by decide +kernel
theorem dX12_costs_73 : decode cX12_costs 73 = .ok (.aload_n 0, 1) := by decide +kernel
theorem dX12_costs_74 : decode cX12_costs 74 = .ok (.getfield 48, 3) := by decide +kernel
theorem dX12_costs_77 : decode cX12_costs 77 = .ok (.iaload, 1) := by decide +kernel
theorem dX12_costs_78 : decode cX12_costs 78 = .ok (.if_icmp .ge 87, 3) := by decide +kernel
theorem dX12_costs_81 : decode cX12_costs 81 = .ok (.iload 6, 2) := by decide +kernel
theorem dX12_costs_83 : decode cX12_costs 83 = .ok (.ifCond .eq 82, 3) := by decide +kernel
theorem dX12_costs_86 : decode cX12_costs 86 = .ok (.iload 4, 2) := by decide +kernel
theorem dX12_costs_88 : decode cX12_costs 88 = .ok (.iload 7, 2) := by decide +kernel
theorem dX12_costs_90 : decode cX12_costs 90 = .ok (.ishr, 1) := by decide +kernel
theorem dX12_costs_91 : decode cX12_costs 91 = .ok (.iconst 1, 1) := by decide +kernel
theorem dX12_costs_92 : decode cX12_costs 92 = .ok (.iand, 1) := by decide +kernel
theorem dX12_costs_93 : decode cX12_costs 93 = .ok (.ifCond .ne 6, 3) := by decide +kernel
theorem dX12_costs_96 : decode cX12_costs 96 = .ok (.goto 63, 3) := by decide +kernel
theorem dX12_costs_99 : decode cX12_costs 99 = .ok (.aload_n 0, 1) := by decide +kernel
theorem dX12_costs_100 : decode cX12_costs 100 = .ok (.getfield 76, 3) := by decide +kernel
theorem dX12_costs_103 : decode cX12_costs 103 = .ok (.bipush 10, 2) := by decide +kernel
theorem dX12_costs_105 : decode cX12_costs 105 = .ok (.aload_n 0, 1) := by decide +kernel
theorem dX12_costs_106 : decode cX12_costs 106 = .ok (.getfield 48, 3) := by decide +kernel
theorem dX12_costs_109 : decode cX12_costs 109 = .ok (.imul, 1) := by decide +kernel
theorem dX12_costs_110 : decode cX12_costs 110 = .ok (.iload 7, 2) := by decide +kernel
theorem dX12_costs_112 : decode cX12_costs 112 = .ok (.iadd, 1) := by decide +kernel
theorem dX12_costs_113 : decode cX12_costs 113 = .ok (.iaload, 1) := by decide +kernel
theorem dX12_costs_114 : decode cX12_costs 114 = .ok (.ifCond .le 22, 3) := by decide +kernel
theorem dX12_costs_117 : decode cX12_costs 117 = .ok (.aload_n 0, 1) := by decide +kernel
theorem dX12_costs_118 : decode cX12_costs 118 = .ok (.getfield 237, 3) := by decide +kernel
theorem dX12_costs_121 : decode cX12_costs 121 = .ok (.bipush 10, 2) := by decide +kernel
theorem dX12_costs_123 : decode cX12_costs 123 = .ok (.iload_n 1, 1) := by decide +kernel
theorem dX12_costs_124 : decode cX12_costs 124 = .ok (.imul, 1) := by decide +kernel
theorem dX12_costs_125 : decode cX12_costs 125 = .ok (.iload 7, 2) := by decide +kernel
theorem dX12_costs_127 : decode cX12_costs 127 = .ok (.iadd, 1) := by decide +kernel
theorem dX12_costs_128 : decode cX12_costs 128 = .ok (.baload, 1) := by decide +kernel
theorem dX12_costs_129 : decode cX12_costs 129 = .ok (.ifCond .eq 7, 3) := by decide +kernel
theorem dX12_costs_132 : decode cX12_costs 132 = .ok (.iconst 1, 1) := by decide +kernel
theorem dX12_costs_133 : decode cX12_costs 133 = .ok (.goto 4, 3) := by decide +kernel
theorem dX12_costs_136 : decode cX12_costs 136 = .ok (.iconst 0, 1) := by decide +kernel
theorem dX12_costs_137 : decode cX12_costs 137 = .ok (.istore 6, 2) := by decide +kernel
theorem dX12_costs_139 : decode cX12_costs 139 = .ok (.iload 5, 2) := by decide +kernel
theorem dX12_costs_141 : decode cX12_costs 141 = .ok (.aload_n 0, 1) := by decide +kernel
theorem dX12_costs_142 : decode cX12_costs 142 = .ok (.getfield 76, 3) := by decide +kernel
theorem dX12_costs_145 : decode cX12_costs 145 = .ok (.bipush 10, 2) := by decide +kernel
theorem dX12_costs_147 : decode cX12_costs 147 = .ok (.aload_n 0, 1) := by decide +kernel
theorem dX12_costs_148 : decode cX12_costs 148 = .ok (.getfield 48, 3) := by decide +kernel
theorem dX12_costs_151 : decode cX12_costs 151 = .ok (.imul, 1) := by decide +kernel
theorem dX12_costs_152 : decode cX12_costs 152 = .ok (.iload 7, 2) := by decide +kernel
theorem dX12_costs_154 : decode cX12_costs 154 = .ok (.iadd, 1) := by decide +kernel
theorem dX12_costs_155 : decode cX12_costs 155 = .ok (.iaload, 1) := by decide +kernel
theorem dX12_costs_156 : decode cX12_costs 156 = .ok (.iadd, 1) := by decide +kernel
theorem dX12_costs_157 : decode cX12_costs 157 = .ok (.istore 5, 2) := by decide +kernel
theorem dX12_costs_159 : decode cX12_costs 159 = .ok (.iinc 7 1, 3) := by decide +kernel
theorem dX12_costs_162 : decode cX12_costs 162 = .ok (.goto (-95), 3) := by decide +kernel
theorem dX12_costs_165 : decode cX12_costs 165 = .ok (.iload 4, 2) := by decide +kernel
theorem dX12_costs_167 : decode cX12_costs 167 = .ok (.aload_n 0, 1) := by decide +kernel
theorem dX12_costs_168 : decode cX12_costs 168 = .ok (.getfield 243, 3) := by decide +kernel
theorem dX12_costs_171 : decode cX12_costs 171 = .ok (.iload_n 1, 1) := by decide +kernel
theorem dX12_costs_172 : decode cX12_costs 172 = .ok (.iaload, 1) := by decide +kernel
theorem dX12_costs_173 : decode cX12_costs 173 = .ok (.ior, 1) := by decide +kernel
theorem dX12_costs_174 : decode cX12_costs 174 = .ok (.istore 7, 2) := by decide +kernel
theorem dX12_costs_176 : decode cX12_costs 176 = .ok (.aload_n 0, 1) := by decide +kernel
theorem dX12_costs_177 : decode cX12_costs 177 = .ok (.iload 7, 2) := by decide +kernel
theorem dX12_costs_179 : decode cX12_costs 179 = .ok (.invokevirtual 553, 3) := by decide +kernel
theorem dX12_costs_182 : decode cX12_costs 182 = .ok (.istore 8, 2) := by decide +kernel
theorem dX12_costs_184 : decode cX12_costs 184 = .ok (.iload 6, 2) := by decide +kernel
theorem dX12_costs_186 : decode cX12_costs 186 = .ok (.ifCond .eq 129, 3) := by decide +kernel
theorem dX12_costs_189 : decode cX12_costs 189 = .ok (.iload 7, 2) := by decide +kernel
theorem dX12_costs_191 : decode cX12_costs 191 = .ok (.invokestatic 544, 3) := by decide +kernel
theorem dX12_costs_194 : decode cX12_costs 194 = .ok (.aload_n 0, 1) := by decide +kernel
theorem dX12_costs_195 : decode cX12_costs 195 = .ok (.getfield 225, 3) := by decide +kernel
theorem dX12_costs_198 : decode cX12_costs 198 = .ok (.iload_n 1, 1) := by decide +kernel
theorem dX12_costs_199 : decode cX12_costs 199 = .ok (.iaload, 1) := by decide +kernel
theorem dX12_costs_200 : decode cX12_costs 200 = .ok (.if_icmp .lt 115, 3) := by decide +kernel
theorem dX12_costs_203 : decode cX12_costs 203 = .ok (.iload 8, 2) := by decide +kernel
theorem dX12_costs_205 : decode cX12_costs 205 = .ok (.iload_n 2, 1) := by decide +kernel
theorem dX12_costs_206 : decode cX12_costs 206 = .ok (.aload_n 0, 1) := by decide +kernel
theorem dX12_costs_207 : decode cX12_costs 207 = .ok (.getfield 63, 3) := by decide +kernel
theorem dX12_costs_210 : decode cX12_costs 210 = .ok (.aload_n 0, 1) := by decide +kernel
theorem dX12_costs_211 : decode cX12_costs 211 = .ok (.getfield 48, 3) := by decide +kernel
theorem dX12_costs_214 : decode cX12_costs 214 = .ok (.iaload, 1) := by decide +kernel
theorem dX12_costs_215 : decode cX12_costs 215 = .ok (.isub, 1) := by decide +kernel
theorem dX12_costs_216 : decode cX12_costs 216 = .ok (.if_icmp .lt 99, 3) := by decide +kernel
theorem dX12_costs_219 : decode cX12_costs 219 = .ok (.iload_n 2, 1) := by decide +kernel
theorem dX12_costs_220 : decode cX12_costs 220 = .ok (.ifCond .le 12, 3) := by decide +kernel
theorem dX12_costs_223 : decode cX12_costs 223 = .ok (.iload 8, 2) := by decide +kernel
theorem dX12_costs_225 : decode cX12_costs 225 = .ok (.iload_n 2, 1) := by decide +kernel
theorem dX12_costs_226 : decode cX12_costs 226 = .ok (.if_icmp .le 6, 3) := by decide +kernel
theorem dX12_costs_229 : decode cX12_costs 229 = .ok (.goto 86, 3) := by decide +kernel
theorem dX12_costs_232 : decode cX12_costs 232 = .ok (.iload_n 3, 1) := by decide +kernel
theorem dX12_costs_233 : decode cX12_costs 233 = .ok (.iconst (-1), 1) := by decide +kernel
theorem dX12_costs_234 : decode cX12_costs 234 = .ok (.if_icmp .eq 57, 3) := by decide +kernel
theorem dX12_costs_237 : decode cX12_costs 237 = .ok (.iload 5, 2) := by decide +kernel
theorem dX12_costs_239 : decode cX12_costs 239 = .ok (.iload_n 3, 1) := by decide +kernel
theorem dX12_costs_240 : decode cX12_costs 240 = .ok (.if_icmp .lt 51, 3) := by decide +kernel
theorem dX12_costs_243 : decode cX12_costs 243 = .ok (.iload 5, 2) := by decide +kernel
theorem dX12_costs_245 : decode cX12_costs 245 = .ok (.iload_n 3, 1) := by decide +kernel
theorem dX12_costs_246 : decode cX12_costs 246 = .ok (.if_icmp .ne 49, 3) := by decide +kernel
theorem dX12_costs_249 : decode cX12_costs 249 = .ok (.iload 4, 2) := by decide +kernel
theorem dX12_costs_251 : decode cX12_costs 251 = .ok (.invokestatic 544, 3) := by decide +kernel
theorem dX12_costs_254 : decode cX12_costs 254 = .ok (.aload_n 0, 1) := by decide +kernel
theorem dX12_costs_255 : decode cX12_costs 255 = .ok (.getfield 264, 3) := by decide +kernel
theorem dX12_costs_258 : decode cX12_costs 258 = .ok (.invokestatic 544, 3) := by decide +kernel
theorem dX12_costs_261 : decode cX12_costs 261 = .ok (.if_icmp .lt 30, 3) := by decide +kernel
theorem dX12_costs_264 : decode cX12_costs 264 = .ok (.iload 4, 2) := by decide +kernel
theorem dX12_costs_266 : decode cX12_costs 266 = .ok (.invokestatic 544, 3) := by decide +kernel
theorem dX12_costs_269 : decode cX12_costs 269 = .ok (.aload_n 0, 1) := by decide +kernel
theorem dX12_costs_270 : decode cX12_costs 270 = .ok (.getfield 264, 3) := by decide +kernel
theorem dX12_costs_273 : decode cX12_costs 273 = .ok (.invokestatic 544, 3) := by decide +kernel
theorem dX12_costs_276 : decode cX12_costs 276 = .ok (.if_icmp .ne 19, 3) := by decide +kernel
theorem dX12_costs_279 : decode cX12_costs 279 = .ok (.iload 4, 2) := by decide +kernel
theorem dX12_costs_281 : decode cX12_costs 281 = .ok (.aload_n 0, 1) := by decide +kernel
theorem dX12_costs_282 : decode cX12_costs 282 = .ok (.getfield 264, 3) := by decide +kernel
theorem dX12_costs_285 : decode cX12_costs 285 = .ok (.invokestatic 562, 3) := by decide +kernel
theorem dX12_costs_288 : decode cX12_costs 288 = .ok (.ifCond .eq 7, 3) := by decide +kernel
theorem dX12_costs_291 : decode cX12_costs 291 = .ok (.iconst 1, 1) := by decide +kernel
theorem dX12_costs_292 : decode cX12_costs 292 = .ok (.goto 4, 3) := by decide +kernel
theorem dX12_costs_295 : decode cX12_costs 295 = .ok (.iconst 0, 1) := by decide +kernel
theorem dX12_costs_296 : decode cX12_costs 296 = .ok (.istore 9, 2) := by decide +kernel
theorem dX12_costs_298 : decode cX12_costs 298 = .ok (.iload 9, 2) := by decide +kernel
theorem dX12_costs_300 : decode cX12_costs 300 = .ok (.ifCond .ne 6, 3) := by decide +kernel
theorem dX12_costs_303 : decode cX12_costs 303 = .ok (.goto 12, 3) := by decide +kernel
theorem dX12_costs_306 : decode cX12_costs 306 = .ok (.iload 5, 2) := by decide +kernel
theorem dX12_costs_308 : decode cX12_costs 308 = .ok (.istore_n 3, 1) := by decide +kernel
theorem dX12_costs_309 : decode cX12_costs 309 = .ok (.aload_n 0, 1) := by decide +kernel
theorem dX12_costs_310 : decode cX12_costs 310 = .ok (.iload 4, 2) := by decide +kernel
theorem dX12_costs_312 : decode cX12_costs 312 = .ok (.putfield 264, 3) := by decide +kernel
theorem dX12_costs_315 : decode cX12_costs 315 = .ok (.iinc 4 1, 3) := by decide +kernel
theorem dX12_costs_318 : decode cX12_costs 318 = .ok (.goto (-292), 3) := by decide +kernel
theorem dX12_costs_321 : decode cX12_costs 321 = .ok (.iload_n 3, 1) := by decide +kernel
theorem dX12_costs_322 : decode cX12_costs 322 = .ok (.ireturn, 1) := by decide +kernel
theorem dX12_doubt_0 : decode cX12_doubt 0 = .ok (.aload_n 0, 1) := by decide +kernel
theorem dX12_doubt_1 : decode cX12_doubt 1 = .ok (.invokevirtual 471, 3) := by decide +kernel
theorem dX12_doubt_4 : decode cX12_doubt 4 = .ok (.iconst 0, 1) := by decide +kernel
theorem dX12_doubt_5 : decode cX12_doubt 5 = .ok (.istore_n 1, 1) := by decide +kernel
theorem dX12_doubt_6 : decode cX12_doubt 6 = .ok (.iconst 0, 1) := by decide +kernel
theorem dX12_doubt_7 : decode cX12_doubt 7 = .ok (.istore_n 2, 1) := by decide +kernel
theorem dX12_doubt_8 : decode cX12_doubt 8 = .ok (.iload_n 2, 1) := by decide +kernel
theorem dX12_doubt_9 : decode cX12_doubt 9 = .ok (.aload_n 0, 1) := by decide +kernel
theorem dX12_doubt_10 : decode cX12_doubt 10 = .ok (.getfield 150, 3) := by decide +kernel
theorem dX12_doubt_13 : decode cX12_doubt 13 = .ok (.if_icmp .ge 102, 3) := by decide +kernel
theorem dX12_doubt_16 : decode cX12_doubt 16 = .ok (.iconst 0, 1) := by decide +kernel
theorem dX12_doubt_17 : decode cX12_doubt 17 = .ok (.istore_n 3, 1) := by decide +kernel
theorem dX12_doubt_18 : decode cX12_doubt 18 = .ok (.iload_n 3, 1) := by decide +kernel
theorem dX12_doubt_19 : decode cX12_doubt 19 = .ok (.iload_n 2, 1) := by decide +kernel
theorem dX12_doubt_20 : decode cX12_doubt 20 = .ok (.if_icmp .ge 89, 3) := by decide +kernel
theorem dX12_doubt_23 : decode cX12_doubt 23 = .ok (.iload_n 1, 1) := by decide +kernel
theorem dX12_doubt_24 : decode cX12_doubt 24 = .ok (.aload_n 0, 1) := by decide +kernel
theorem dX12_doubt_25 : decode cX12_doubt 25 = .ok (.getfield 153, 3) := by decide +kernel
theorem dX12_doubt_28 : decode cX12_doubt 28 = .ok (.iload_n 2, 1) := by decide +kernel
theorem dX12_doubt_29 : decode cX12_doubt 29 = .ok (.iaload, 1) := by decide +kernel
theorem dX12_doubt_30 : decode cX12_doubt 30 = .ok (.ifCond .eq 12, 3) := by decide +kernel
theorem dX12_doubt_33 : decode cX12_doubt 33 = .ok (.aload_n 0, 1) := by decide +kernel
theorem dX12_doubt_34 : decode cX12_doubt 34 = .ok (.getfield 153, 3) := by decide +kernel
theorem dX12_doubt_37 : decode cX12_doubt 37 = .ok (.iload_n 3, 1) := by decide +kernel
theorem dX12_doubt_38 : decode cX12_doubt 38 = .ok (.iaload, 1) := by decide +kernel
theorem dX12_doubt_39 : decode cX12_doubt 39 = .ok (.ifCond .ne 61, 3) := by decide +kernel
theorem dX12_doubt_42 : decode cX12_doubt 42 = .ok (.aload_n 0, 1) := by decide +kernel
theorem dX12_doubt_43 : decode cX12_doubt 43 = .ok (.getfield 168, 3) := by decide +kernel
theorem dX12_doubt_46 : decode cX12_doubt 46 = .ok (.iload_n 2, 1) := by decide +kernel
theorem dX12_doubt_47 : decode cX12_doubt 47 = .ok (.iaload, 1) := by decide +kernel
theorem dX12_doubt_48 : decode cX12_doubt 48 = .ok (.ifCond .eq 52, 3) := by decide +kernel
theorem dX12_doubt_51 : decode cX12_doubt 51 = .ok (.aload_n 0, 1) := by decide +kernel
theorem dX12_doubt_52 : decode cX12_doubt 52 = .ok (.getfield 168, 3) := by decide +kernel
theorem dX12_doubt_55 : decode cX12_doubt 55 = .ok (.iload_n 2, 1) := by decide +kernel
theorem dX12_doubt_56 : decode cX12_doubt 56 = .ok (.iaload, 1) := by decide +kernel
theorem dX12_doubt_57 : decode cX12_doubt 57 = .ok (.aload_n 0, 1) := by decide +kernel
theorem dX12_doubt_58 : decode cX12_doubt 58 = .ok (.getfield 168, 3) := by decide +kernel
theorem dX12_doubt_61 : decode cX12_doubt 61 = .ok (.iload_n 3, 1) := by decide +kernel
theorem dX12_doubt_62 : decode cX12_doubt 62 = .ok (.iaload, 1) := by decide +kernel
theorem dX12_doubt_63 : decode cX12_doubt 63 = .ok (.if_icmp .ne 37, 3) := by decide +kernel
theorem dX12_doubt_66 : decode cX12_doubt 66 = .ok (.aload_n 0, 1) := by decide +kernel
theorem dX12_doubt_67 : decode cX12_doubt 67 = .ok (.getfield 165, 3) := by decide +kernel
theorem dX12_doubt_70 : decode cX12_doubt 70 = .ok (.iload_n 2, 1) := by decide +kernel
theorem dX12_doubt_71 : decode cX12_doubt 71 = .ok (.iaload, 1) := by decide +kernel
theorem dX12_doubt_72 : decode cX12_doubt 72 = .ok (.aload_n 0, 1) := by decide +kernel
theorem dX12_doubt_73 : decode cX12_doubt 73 = .ok (.getfield 165, 3) := by decide +kernel
theorem dX12_doubt_76 : decode cX12_doubt 76 = .ok (.iload_n 3, 1) := by decide +kernel
theorem dX12_doubt_77 : decode cX12_doubt 77 = .ok (.iaload, 1) := by decide +kernel
theorem dX12_doubt_78 : decode cX12_doubt 78 = .ok (.if_icmp .ne 22, 3) := by decide +kernel
theorem dX12_doubt_81 : decode cX12_doubt 81 = .ok (.aload_n 0, 1) := by decide +kernel
theorem dX12_doubt_82 : decode cX12_doubt 82 = .ok (.getfield 156, 3) := by decide +kernel
theorem dX12_doubt_85 : decode cX12_doubt 85 = .ok (.iload_n 2, 1) := by decide +kernel
theorem dX12_doubt_86 : decode cX12_doubt 86 = .ok (.iaload, 1) := by decide +kernel
theorem dX12_doubt_87 : decode cX12_doubt 87 = .ok (.aload_n 0, 1) := by decide +kernel
theorem dX12_doubt_88 : decode cX12_doubt 88 = .ok (.getfield 156, 3) := by decide +kernel
theorem dX12_doubt_91 : decode cX12_doubt 91 = .ok (.iload_n 3, 1) := by decide +kernel
theorem dX12_doubt_92 : decode cX12_doubt 92 = .ok (.iaload, 1) := by decide +kernel
theorem dX12_doubt_93 : decode cX12_doubt 93 = .ok (.if_icmp .ne 7, 3) := by decide +kernel
theorem dX12_doubt_96 : decode cX12_doubt 96 = .ok (.iconst 1, 1) := by decide +kernel
theorem dX12_doubt_97 : decode cX12_doubt 97 = .ok (.goto 4, 3) := by decide +kernel
theorem dX12_doubt_100 : decode cX12_doubt 100 = .ok (.iconst 0, 1) := by decide +kernel
theorem dX12_doubt_101 : decode cX12_doubt 101 = .ok (.iadd, 1) := by decide +kernel
theorem dX12_doubt_102 : decode cX12_doubt 102 = .ok (.istore_n 1, 1) := by decide +kernel
theorem dX12_doubt_103 : decode cX12_doubt 103 = .ok (.iinc 3 1, 3) := by decide +kernel
theorem dX12_doubt_106 : decode cX12_doubt 106 = .ok (.goto (-88), 3) := by decide +kernel
theorem dX12_doubt_109 : decode cX12_doubt 109 = .ok (.iinc 2 1, 3) := by decide +kernel
theorem dX12_doubt_112 : decode cX12_doubt 112 = .ok (.goto (-104), 3) := by decide +kernel
theorem dX12_doubt_115 : decode cX12_doubt 115 = .ok (.iload_n 1, 1) := by decide +kernel
theorem dX12_doubt_116 : decode cX12_doubt 116 = .ok (.ireturn, 1) := by decide +kernel
theorem dX12_due_0 : decode cX12_due 0 = .ok (.lconst 1, 1) := by decide +kernel
theorem dX12_due_1 : decode cX12_due 1 = .ok (.lstore_n 2, 1) := by decide +kernel
theorem dX12_due_2 : decode cX12_due 2 = .ok (.iconst 0, 1) := by decide +kernel
theorem dX12_due_3 : decode cX12_due 3 = .ok (.istore 4, 2) := by decide +kernel
theorem dX12_due_5 : decode cX12_due 5 = .ok (.iload 4, 2) := by decide +kernel
theorem dX12_due_7 : decode cX12_due 7 = .ok (.aload_n 0, 1) := by decide +kernel
theorem dX12_due_8 : decode cX12_due 8 = .ok (.getfield 60, 3) := by decide +kernel
theorem dX12_due_11 : decode cX12_due 11 = .ok (.aload_n 0, 1) := by decide +kernel
theorem dX12_due_12 : decode cX12_due 12 = .ok (.getfield 48, 3) := by decide +kernel
theorem dX12_due_15 : decode cX12_due 15 = .ok (.iaload, 1) := by decide +kernel
theorem dX12_due_16 : decode cX12_due 16 = .ok (.if_icmp .ge 71, 3) := by decide +kernel
theorem dX12_due_19 : decode cX12_due 19 = .ok (.aload_n 0, 1) := by decide +kernel
theorem dX12_due_20 : decode cX12_due 20 = .ok (.getfield 85, 3) := by decide +kernel
theorem dX12_due_23 : decode cX12_due 23 = .ok (.aload_n 0, 1) := by decide +kernel
theorem dX12_due_24 : decode cX12_due 24 = .ok (.iload 4, 2) := by decide +kernel
theorem dX12_due_26 : decode cX12_due 26 = .ok (.invokevirtual 493, 3) := by decide +kernel
theorem dX12_due_29 : decode cX12_due 29 = .ok (.iaload, 1) := by decide +kernel
theorem dX12_due_30 : decode cX12_due 30 = .ok (.iconst 2, 1) := by decide +kernel
theorem dX12_due_31 : decode cX12_due 31 = .ok (.if_icmp .ne 48, 3) := by decide +kernel
theorem dX12_due_34 : decode cX12_due 34 = .ok (.aload_n 0, 1) := by decide +kernel
theorem dX12_due_35 : decode cX12_due 35 = .ok (.iload 4, 2) := by decide +kernel
theorem dX12_due_37 : decode cX12_due 37 = .ok (.iload_n 1, 1) := by decide +kernel
theorem dX12_due_38 : decode cX12_due 38 = .ok (.invokevirtual 500, 3) := by decide +kernel
theorem dX12_due_41 : decode cX12_due 41 = .ok (.ifCond .eq 38, 3) := by decide +kernel
theorem dX12_due_44 : decode cX12_due 44 = .ok (.aload_n 0, 1) := by decide +kernel
theorem dX12_due_45 : decode cX12_due 45 = .ok (.aload_n 0, 1) := by decide +kernel
theorem dX12_due_46 : decode cX12_due 46 = .ok (.getfield 85, 3) := by decide +kernel
theorem dX12_due_49 : decode cX12_due 49 = .ok (.aload_n 0, 1) := by decide +kernel
theorem dX12_due_50 : decode cX12_due 50 = .ok (.iload 4, 2) := by decide +kernel
theorem dX12_due_52 : decode cX12_due 52 = .ok (.invokevirtual 493, 3) := by decide +kernel
theorem dX12_due_55 : decode cX12_due 55 = .ok (.iconst 1, 1) := by decide +kernel
theorem dX12_due_56 : decode cX12_due 56 = .ok (.iadd, 1) := by decide +kernel
theorem dX12_due_57 : decode cX12_due 57 = .ok (.iaload, 1) := by decide +kernel
theorem dX12_due_58 : decode cX12_due 58 = .ok (.aload_n 0, 1) := by decide +kernel
theorem dX12_due_59 : decode cX12_due 59 = .ok (.getfield 85, 3) := by decide +kernel
theorem dX12_due_62 : decode cX12_due 62 = .ok (.aload_n 0, 1) := by decide +kernel
theorem dX12_due_63 : decode cX12_due 63 = .ok (.iload 4, 2) := by decide +kernel
theorem dX12_due_65 : decode cX12_due 65 = .ok (.invokevirtual 493, 3) := by decide +kernel
theorem dX12_due_68 : decode cX12_due 68 = .ok (.iconst 2, 1) := by decide +kernel
theorem dX12_due_69 : decode cX12_due 69 = .ok (.iadd, 1) := by decide +kernel
theorem dX12_due_70 : decode cX12_due 70 = .ok (.iaload, 1) := by decide +kernel
theorem dX12_due_71 : decode cX12_due 71 = .ok (.iload_n 1, 1) := by decide +kernel
theorem dX12_due_72 : decode cX12_due 72 = .ok (.iconst 0, 1) := by decide +kernel
theorem dX12_due_73 : decode cX12_due 73 = .ok (.invokevirtual 496, 3) := by decide +kernel
theorem dX12_due_76 : decode cX12_due 76 = .ok (.goto 4, 3) := by decide +kernel
theorem dX12_due_79 : decode cX12_due 79 = .ok (.lload_n 2, 1) := by decide +kernel
theorem dX12_due_80 : decode cX12_due 80 = .ok (.lstore_n 2, 1) := by decide +kernel
theorem dX12_due_81 : decode cX12_due 81 = .ok (.iinc 4 1, 3) := by decide +kernel
theorem dX12_due_84 : decode cX12_due 84 = .ok (.goto (-79), 3) := by decide +kernel
theorem dX12_due_87 : decode cX12_due 87 = .ok (.lload_n 2, 1) := by decide +kernel
theorem dX12_due_88 : decode cX12_due 88 = .ok (.lconst 0, 1) := by decide +kernel
theorem dX12_due_89 : decode cX12_due 89 = .ok (.lcmp, 1) := by decide +kernel
theorem dX12_due_90 : decode cX12_due 90 = .ok (.ifCond .ge 7, 3) := by decide +kernel
theorem dX12_due_93 : decode cX12_due 93 = .ok (.iconst 0, 1) := by decide +kernel
theorem dX12_due_94 : decode cX12_due 94 = .ok (.goto 17, 3) := by decide +kernel
theorem dX12_due_97 : decode cX12_due 97 = .ok (.lload_n 2, 1) := by decide +kernel
theorem dX12_due_98 : decode cX12_due 98 = .ok (.ldc2_w 504, 3) := by decide +kernel
theorem dX12_due_101 : decode cX12_due 101 = .ok (.lcmp, 1) := by decide +kernel
theorem dX12_due_102 : decode cX12_due 102 = .ok (.ifCond .le 7, 3) := by decide +kernel
theorem dX12_due_105 : decode cX12_due 105 = .ok (.iconst 3, 1) := by decide +kernel
theorem dX12_due_106 : decode cX12_due 106 = .ok (.goto 5, 3) := by decide +kernel
theorem dX12_due_109 : decode cX12_due 109 = .ok (.lload_n 2, 1) := by decide +kernel
theorem dX12_due_110 : decode cX12_due 110 = .ok (.l2i, 1) := by decide +kernel
theorem dX12_due_111 : decode cX12_due 111 = .ok (.ireturn, 1) := by decide +kernel
theorem dX12_end_0 : decode cX12_end 0 = .ok (.iload_n 1, 1) := by decide +kernel
theorem dX12_end_1 : decode cX12_end 1 = .ok (.ifCond .lt 11, 3) := by decide +kernel
theorem dX12_end_4 : decode cX12_end 4 = .ok (.iload_n 1, 1) := by decide +kernel
theorem dX12_end_5 : decode cX12_end 5 = .ok (.aload_n 0, 1) := by decide +kernel
theorem dX12_end_6 : decode cX12_end 6 = .ok (.getfield 13, 3) := by decide +kernel
theorem dX12_end_9 : decode cX12_end 9 = .ok (.if_icmp .le 5, 3) := by decide +kernel
theorem dX12_end_12 : decode cX12_end 12 = .ok (.iconst 0, 1) := by decide +kernel
theorem dX12_end_13 : decode cX12_end 13 = .ok (.ireturn, 1) := by decide +kernel
theorem dX12_end_14 : decode cX12_end 14 = .ok (.aload_n 0, 1) := by decide +kernel
theorem dX12_end_15 : decode cX12_end 15 = .ok (.iload_n 1, 1) := by decide +kernel
theorem dX12_end_16 : decode cX12_end 16 = .ok (.putfield 13, 3) := by decide +kernel
theorem dX12_end_19 : decode cX12_end 19 = .ok (.iconst 1, 1) := by decide +kernel
theorem dX12_end_20 : decode cX12_end 20 = .ok (.ireturn, 1) := by decide +kernel
theorem dX12_farOf_0 : decode cX12_farOf 0 = .ok (.iconst 0, 1) := by decide +kernel
theorem dX12_farOf_1 : decode cX12_farOf 1 = .ok (.istore_n 2, 1) := by decide +kernel
theorem dX12_farOf_2 : decode cX12_farOf 2 = .ok (.iconst 0, 1) := by decide +kernel
theorem dX12_farOf_3 : decode cX12_farOf 3 = .ok (.istore_n 3, 1) := by decide +kernel
theorem dX12_farOf_4 : decode cX12_farOf 4 = .ok (.iload_n 3, 1) := by decide +kernel
theorem dX12_farOf_5 : decode cX12_farOf 5 = .ok (.aload_n 0, 1) := by decide +kernel
theorem dX12_farOf_6 : decode cX12_farOf 6 = .ok (.getfield 54, 3) := by decide +kernel
theorem dX12_farOf_9 : decode cX12_farOf 9 = .ok (.aload_n 0, 1) := by decide +kernel
theorem dX12_farOf_10 : decode cX12_farOf 10 = .ok (.getfield 48, 3) := by decide +kernel
theorem dX12_farOf_13 : decode cX12_farOf 13 = .ok (.iaload, 1) := by decide +kernel
theorem dX12_farOf_14 : decode cX12_farOf 14 = .ok (.if_icmp .ge 56, 3) := by decide +kernel
theorem dX12_farOf_17 : decode cX12_farOf 17 = .ok (.aload_n 0, 1) := by decide +kernel
theorem dX12_farOf_18 : decode cX12_farOf 18 = .ok (.getfield 243, 3) := by decide +kernel
theorem dX12_farOf_21 : decode cX12_farOf 21 = .ok (.iload_n 1, 1) := by decide +kernel
theorem dX12_farOf_22 : decode cX12_farOf 22 = .ok (.iaload, 1) := by decide +kernel
theorem dX12_farOf_23 : decode cX12_farOf 23 = .ok (.iload_n 3, 1) := by decide +kernel
theorem dX12_farOf_24 : decode cX12_farOf 24 = .ok (.ishr, 1) := by decide +kernel
theorem dX12_farOf_25 : decode cX12_farOf 25 = .ok (.iconst 1, 1) := by decide +kernel
theorem dX12_farOf_26 : decode cX12_farOf 26 = .ok (.iand, 1) := by decide +kernel
theorem dX12_farOf_27 : decode cX12_farOf 27 = .ok (.iconst 1, 1) := by decide +kernel
theorem dX12_farOf_28 : decode cX12_farOf 28 = .ok (.if_icmp .ne 36, 3) := by decide +kernel
theorem dX12_farOf_31 : decode cX12_farOf 31 = .ok (.aload_n 0, 1) := by decide +kernel
theorem dX12_farOf_32 : decode cX12_farOf 32 = .ok (.getfield 79, 3) := by decide +kernel
theorem dX12_farOf_35 : decode cX12_farOf 35 = .ok (.bipush 10, 2) := by decide +kernel
theorem dX12_farOf_37 : decode cX12_farOf 37 = .ok (.aload_n 0, 1) := by decide +kernel
theorem dX12_farOf_38 : decode cX12_farOf 38 = .ok (.getfield 48, 3) := by decide +kernel
theorem dX12_farOf_41 : decode cX12_farOf 41 = .ok (.imul, 1) := by decide +kernel
theorem dX12_farOf_42 : decode cX12_farOf 42 = .ok (.iload_n 3, 1) := by decide +kernel
theorem dX12_farOf_43 : decode cX12_farOf 43 = .ok (.iadd, 1) := by decide +kernel
theorem dX12_farOf_44 : decode cX12_farOf 44 = .ok (.iaload, 1) := by decide +kernel
theorem dX12_farOf_45 : decode cX12_farOf 45 = .ok (.iload_n 2, 1) := by decide +kernel
theorem dX12_farOf_46 : decode cX12_farOf 46 = .ok (.if_icmp .le 18, 3) := by decide +kernel
theorem dX12_farOf_49 : decode cX12_farOf 49 = .ok (.aload_n 0, 1) := by decide +kernel
theorem dX12_farOf_50 : decode cX12_farOf 50 = .ok (.getfield 79, 3) := by decide +kernel
theorem dX12_farOf_53 : decode cX12_farOf 53 = .ok (.bipush 10, 2) := by decide +kernel
theorem dX12_farOf_55 : decode cX12_farOf 55 = .ok (.aload_n 0, 1) := by decide +kernel
theorem dX12_farOf_56 : decode cX12_farOf 56 = .ok (.getfield 48, 3) := by decide +kernel
theorem dX12_farOf_59 : decode cX12_farOf 59 = .ok (.imul, 1) := by decide +kernel
theorem dX12_farOf_60 : decode cX12_farOf 60 = .ok (.iload_n 3, 1) := by decide +kernel
theorem dX12_farOf_61 : decode cX12_farOf 61 = .ok (.iadd, 1) := by decide +kernel
theorem dX12_farOf_62 : decode cX12_farOf 62 = .ok (.iaload, 1) := by decide +kernel
theorem dX12_farOf_63 : decode cX12_farOf 63 = .ok (.istore_n 2, 1) := by decide +kernel
theorem dX12_farOf_64 : decode cX12_farOf 64 = .ok (.iinc 3 1, 3) := by decide +kernel
theorem dX12_farOf_67 : decode cX12_farOf 67 = .ok (.goto (-63), 3) := by decide +kernel
theorem dX12_farOf_70 : decode cX12_farOf 70 = .ok (.iload_n 2, 1) := by decide +kernel
theorem dX12_farOf_71 : decode cX12_farOf 71 = .ok (.ireturn, 1) := by decide +kernel
theorem dX12_fault_0 : decode cX12_fault 0 = .ok (.iload_n 1, 1) := by decide +kernel
theorem dX12_fault_1 : decode cX12_fault 1 = .ok (.ifCond .ne 10, 3) := by decide +kernel
theorem dX12_fault_4 : decode cX12_fault 4 = .ok (.aload_n 0, 1) := by decide +kernel
theorem dX12_fault_5 : decode cX12_fault 5 = .ok (.getfield 42, 3) := by decide +kernel
theorem dX12_fault_8 : decode cX12_fault 8 = .ok (.goto 16, 3) := by decide +kernel
theorem dX12_fault_11 : decode cX12_fault 11 = .ok (.iload_n 1, 1) := by decide +kernel
theorem dX12_fault_12 : decode cX12_fault 12 = .ok (.iconst 1, 1) := by decide +kernel
theorem dX12_fault_13 : decode cX12_fault 13 = .ok (.if_icmp .ne 10, 3) := by decide +kernel
theorem dX12_fault_16 : decode cX12_fault 16 = .ok (.aload_n 0, 1) := by decide +kernel
theorem dX12_fault_17 : decode cX12_fault 17 = .ok (.getfield 45, 3) := by decide +kernel
theorem dX12_fault_20 : decode cX12_fault 20 = .ok (.goto 4, 3) := by decide +kernel
theorem dX12_fault_23 : decode cX12_fault 23 = .ok (.iconst (-1), 1) := by decide +kernel
theorem dX12_fault_24 : decode cX12_fault 24 = .ok (.ireturn, 1) := by decide +kernel
theorem dX12_feed_0 : decode cX12_feed 0 = .ok (.aload_n 0, 1) := by decide +kernel
theorem dX12_feed_1 : decode cX12_feed 1 = .ok (.getfield 13, 3) := by decide +kernel
theorem dX12_feed_4 : decode cX12_feed 4 = .ok (.bipush 20, 2) := by decide +kernel
theorem dX12_feed_6 : decode cX12_feed 6 = .ok (.iadd, 1) := by decide +kernel
theorem dX12_feed_7 : decode cX12_feed 7 = .ok (.sipush 1000, 3) := by decide +kernel
theorem dX12_feed_10 : decode cX12_feed 10 = .ok (.if_icmp .le 5, 3) := by decide +kernel
theorem dX12_feed_13 : decode cX12_feed 13 = .ok (.iconst (-1), 1) := by decide +kernel
theorem dX12_feed_14 : decode cX12_feed 14 = .ok (.ireturn, 1) := by decide +kernel
theorem dX12_feed_15 : decode cX12_feed 15 = .ok (.aload_n 0, 1) := by decide +kernel
theorem dX12_feed_16 : decode cX12_feed 16 = .ok (.iload_n 1, 1) := by decide +kernel
theorem dX12_feed_17 : decode cX12_feed 17 = .ok (.invokevirtual 297, 3) := by decide +kernel
theorem dX12_feed_20 : decode cX12_feed 20 = .ok (.aload_n 0, 1) := by decide +kernel
theorem dX12_feed_21 : decode cX12_feed 21 = .ok (.iload_n 2, 1) := by decide +kernel
theorem dX12_feed_22 : decode cX12_feed 22 = .ok (.invokevirtual 297, 3) := by decide +kernel
theorem dX12_feed_25 : decode cX12_feed 25 = .ok (.aload_n 0, 1) := by decide +kernel
theorem dX12_feed_26 : decode cX12_feed 26 = .ok (.iload_n 3, 1) := by decide +kernel
theorem dX12_feed_27 : decode cX12_feed 27 = .ok (.invokevirtual 297, 3) := by decide +kernel
theorem dX12_feed_30 : decode cX12_feed 30 = .ok (.aload_n 0, 1) := by decide +kernel
theorem dX12_feed_31 : decode cX12_feed 31 = .ok (.iload 4, 2) := by decide +kernel
theorem dX12_feed_33 : decode cX12_feed 33 = .ok (.invokevirtual 297, 3) := by decide +kernel
theorem dX12_feed_36 : decode cX12_feed 36 = .ok (.aload_n 0, 1) := by decide +kernel
theorem dX12_feed_37 : decode cX12_feed 37 = .ok (.iload 5, 2) := by decide +kernel
theorem dX12_feed_39 : decode cX12_feed 39 = .ok (.invokevirtual 297, 3) := by decide +kernel
theorem dX12_feed_42 : decode cX12_feed 42 = .ok (.aload_n 0, 1) := by decide +kernel
theorem dX12_feed_43 : decode cX12_feed 43 = .ok (.getfield 13, 3) := by decide +kernel
theorem dX12_feed_46 : decode cX12_feed 46 = .ok (.ireturn, 1) := by decide +kernel
theorem dX12_findKind_0 : decode cX12_findKind 0 = .ok (.iconst 0, 1) := by decide +kernel
theorem dX12_findKind_1 : decode cX12_findKind 1 = .ok (.istore_n 3, 1) := by decide +kernel
theorem dX12_findKind_2 : decode cX12_findKind 2 = .ok (.iload_n 3, 1) := by decide +kernel
theorem dX12_findKind_3 : decode cX12_findKind 3 = .ok (.aload_n 0, 1) := by decide +kernel
theorem dX12_findKind_4 : decode cX12_findKind 4 = .ok (.getfield 54, 3) := by decide +kernel
theorem dX12_findKind_7 : decode cX12_findKind 7 = .ok (.aload_n 0, 1) := by decide +kernel
theorem dX12_findKind_8 : decode cX12_findKind 8 = .ok (.getfield 51, 3) := by decide +kernel
theorem dX12_findKind_11 : decode cX12_findKind 11 = .ok (.iaload, 1) := by decide +kernel
theorem dX12_findKind_12 : decode cX12_findKind 12 = .ok (.if_icmp .ge 30, 3) := by decide +kernel
theorem dX12_findKind_15 : decode cX12_findKind 15 = .ok (.aload_n 0, 1) := by decide +kernel
theorem dX12_findKind_16 : decode cX12_findKind 16 = .ok (.getfield 66, 3) := by decide +kernel
theorem dX12_findKind_19 : decode cX12_findKind 19 = .ok (.bipush 10, 2) := by decide +kernel
theorem dX12_findKind_21 : decode cX12_findKind 21 = .ok (.aload_n 0, 1) := by decide +kernel
theorem dX12_findKind_22 : decode cX12_findKind 22 = .ok (.getfield 51, 3) := by decide +kernel
theorem dX12_findKind_25 : decode cX12_findKind 25 = .ok (.imul, 1) := by decide +kernel
theorem dX12_findKind_26 : decode cX12_findKind 26 = .ok (.iload_n 3, 1) := by decide +kernel
theorem dX12_findKind_27 : decode cX12_findKind 27 = .ok (.iadd, 1) := by decide +kernel
theorem dX12_findKind_28 : decode cX12_findKind 28 = .ok (.laload, 1) := by decide +kernel
theorem dX12_findKind_29 : decode cX12_findKind 29 = .ok (.lload_n 1, 1) := by decide +kernel
theorem dX12_findKind_30 : decode cX12_findKind 30 = .ok (.lcmp, 1) := by decide +kernel
theorem dX12_findKind_31 : decode cX12_findKind 31 = .ok (.ifCond .ne 5, 3) := by decide +kernel
theorem dX12_findKind_34 : decode cX12_findKind 34 = .ok (.iload_n 3, 1) := by decide +kernel
theorem dX12_findKind_35 : decode cX12_findKind 35 = .ok (.ireturn, 1) := by decide +kernel
theorem dX12_findKind_36 : decode cX12_findKind 36 = .ok (.iinc 3 1, 3) := by decide +kernel
theorem dX12_findKind_39 : decode cX12_findKind 39 = .ok (.goto (-37), 3) := by decide +kernel
theorem dX12_findKind_42 : decode cX12_findKind 42 = .ok (.iconst (-1), 1) := by decide +kernel
theorem dX12_findKind_43 : decode cX12_findKind 43 = .ok (.ireturn, 1) := by decide +kernel
theorem dX12_findMark_0 : decode cX12_findMark 0 = .ok (.iconst 0, 1) := by decide +kernel
theorem dX12_findMark_1 : decode cX12_findMark 1 = .ok (.istore_n 3, 1) := by decide +kernel
theorem dX12_findMark_2 : decode cX12_findMark 2 = .ok (.iload_n 3, 1) := by decide +kernel
theorem dX12_findMark_3 : decode cX12_findMark 3 = .ok (.aload_n 0, 1) := by decide +kernel
theorem dX12_findMark_4 : decode cX12_findMark 4 = .ok (.getfield 57, 3) := by decide +kernel
theorem dX12_findMark_7 : decode cX12_findMark 7 = .ok (.aload_n 0, 1) := by decide +kernel
theorem dX12_findMark_8 : decode cX12_findMark 8 = .ok (.getfield 51, 3) := by decide +kernel
theorem dX12_findMark_11 : decode cX12_findMark 11 = .ok (.iaload, 1) := by decide +kernel
theorem dX12_findMark_12 : decode cX12_findMark 12 = .ok (.if_icmp .ge 30, 3) := by decide +kernel
theorem dX12_findMark_15 : decode cX12_findMark 15 = .ok (.aload_n 0, 1) := by decide +kernel
theorem dX12_findMark_16 : decode cX12_findMark 16 = .ok (.getfield 70, 3) := by decide +kernel
theorem dX12_findMark_19 : decode cX12_findMark 19 = .ok (.bipush 8, 2) := by decide +kernel
theorem dX12_findMark_21 : decode cX12_findMark 21 = .ok (.aload_n 0, 1) := by decide +kernel
theorem dX12_findMark_22 : decode cX12_findMark 22 = .ok (.getfield 51, 3) := by decide +kernel
theorem dX12_findMark_25 : decode cX12_findMark 25 = .ok (.imul, 1) := by decide +kernel
theorem dX12_findMark_26 : decode cX12_findMark 26 = .ok (.iload_n 3, 1) := by decide +kernel
theorem dX12_findMark_27 : decode cX12_findMark 27 = .ok (.iadd, 1) := by decide +kernel
theorem dX12_findMark_28 : decode cX12_findMark 28 = .ok (.laload, 1) := by decide +kernel
theorem dX12_findMark_29 : decode cX12_findMark 29 = .ok (.lload_n 1, 1) := by decide +kernel
theorem dX12_findMark_30 : decode cX12_findMark 30 = .ok (.lcmp, 1) := by decide +kernel
theorem dX12_findMark_31 : decode cX12_findMark 31 = .ok (.ifCond .ne 5, 3) := by decide +kernel
theorem dX12_findMark_34 : decode cX12_findMark 34 = .ok (.iload_n 3, 1) := by decide +kernel
theorem dX12_findMark_35 : decode cX12_findMark 35 = .ok (.ireturn, 1) := by decide +kernel
theorem dX12_findMark_36 : decode cX12_findMark 36 = .ok (.iinc 3 1, 3) := by decide +kernel
theorem dX12_findMark_39 : decode cX12_findMark 39 = .ok (.goto (-37), 3) := by decide +kernel
theorem dX12_findMark_42 : decode cX12_findMark 42 = .ok (.iconst (-1), 1) := by decide +kernel
theorem dX12_findMark_43 : decode cX12_findMark 43 = .ok (.ireturn, 1) := by decide +kernel
theorem dX12_finds_0 : decode cX12_finds 0 = .ok (.iconst 0, 1) := by decide +kernel
theorem dX12_finds_1 : decode cX12_finds 1 = .ok (.istore_n 3, 1) := by decide +kernel
theorem dX12_finds_2 : decode cX12_finds 2 = .ok (.iload_n 3, 1) := by decide +kernel
theorem dX12_finds_3 : decode cX12_finds 3 = .ok (.sipush 290, 3) := by decide +kernel
theorem dX12_finds_6 : decode cX12_finds 6 = .ok (.if_icmp .ge 18, 3) := by decide +kernel
theorem dX12_finds_9 : decode cX12_finds 9 = .ok (.aload_n 0, 1) := by decide +kernel
theorem dX12_finds_10 : decode cX12_finds 10 = .ok (.getfield 204, 3) := by decide +kernel
theorem dX12_finds_13 : decode cX12_finds 13 = .ok (.iload_n 3, 1) := by decide +kernel
theorem dX12_finds_14 : decode cX12_finds 14 = .ok (.ldc2_w 525, 3) := by decide +kernel
theorem dX12_finds_17 : decode cX12_finds 17 = .ok (.lastore, 1) := by decide +kernel
theorem dX12_finds_18 : decode cX12_finds 18 = .ok (.iinc 3 1, 3) := by decide +kernel
theorem dX12_finds_21 : decode cX12_finds 21 = .ok (.goto (-19), 3) := by decide +kernel
theorem dX12_finds_24 : decode cX12_finds 24 = .ok (.aload_n 0, 1) := by decide +kernel
theorem dX12_finds_25 : decode cX12_finds 25 = .ok (.getfield 204, 3) := by decide +kernel
theorem dX12_finds_28 : decode cX12_finds 28 = .ok (.iload_n 1, 1) := by decide +kernel
theorem dX12_finds_29 : decode cX12_finds 29 = .ok (.lconst 0, 1) := by decide +kernel
theorem dX12_finds_30 : decode cX12_finds 30 = .ok (.lastore, 1) := by decide +kernel
theorem dX12_finds_31 : decode cX12_finds 31 = .ok (.iconst 1, 1) := by decide +kernel
theorem dX12_finds_32 : decode cX12_finds 32 = .ok (.istore_n 3, 1) := by decide +kernel
theorem dX12_finds_33 : decode cX12_finds 33 = .ok (.iload_n 3, 1) := by decide +kernel
theorem dX12_finds_34 : decode cX12_finds 34 = .ok (.ifCond .eq 142, 3) := by decide +kernel
theorem dX12_finds_37 : decode cX12_finds 37 = .ok (.iconst 0, 1) := by decide +kernel
theorem dX12_finds_38 : decode cX12_finds 38 = .ok (.istore_n 3, 1) := by decide +kernel
theorem dX12_finds_39 : decode cX12_finds 39 = .ok (.iconst 0, 1) := by decide +kernel
theorem dX12_finds_40 : decode cX12_finds 40 = .ok (.istore 4, 2) := by decide +kernel
theorem dX12_finds_42 : decode cX12_finds 42 = .ok (.iload 4, 2) := by decide +kernel
theorem dX12_finds_44 : decode cX12_finds 44 = .ok (.aload_n 0, 1) := by decide +kernel
theorem dX12_finds_45 : decode cX12_finds 45 = .ok (.getfield 201, 3) := by decide +kernel
theorem dX12_finds_48 : decode cX12_finds 48 = .ok (.if_icmp .ge 125, 3) := by decide +kernel
theorem dX12_finds_51 : decode cX12_finds 51 = .ok (.aload_n 0, 1) := by decide +kernel
theorem dX12_finds_52 : decode cX12_finds 52 = .ok (.getfield 195, 3) := by decide +kernel
theorem dX12_finds_55 : decode cX12_finds 55 = .ok (.iload 4, 2) := by decide +kernel
theorem dX12_finds_57 : decode cX12_finds 57 = .ok (.iaload, 1) := by decide +kernel
theorem dX12_finds_58 : decode cX12_finds 58 = .ok (.ifCond .eq 109, 3) := by decide +kernel
theorem dX12_finds_61 : decode cX12_finds 61 = .ok (.aload_n 0, 1) := by decide +kernel
theorem dX12_finds_62 : decode cX12_finds 62 = .ok (.getfield 204, 3) := by decide +kernel
theorem dX12_finds_65 : decode cX12_finds 65 = .ok (.aload_n 0, 1) := by decide +kernel
theorem dX12_finds_66 : decode cX12_finds 66 = .ok (.getfield 189, 3) := by decide +kernel
theorem dX12_finds_69 : decode cX12_finds 69 = .ok (.iload 4, 2) := by decide +kernel
theorem dX12_finds_71 : decode cX12_finds 71 = .ok (.iaload, 1) := by decide +kernel
theorem dX12_finds_72 : decode cX12_finds 72 = .ok (.laload, 1) := by decide +kernel
theorem dX12_finds_73 : decode cX12_finds 73 = .ok (.ldc2_w 525, 3) := by decide +kernel
theorem dX12_finds_76 : decode cX12_finds 76 = .ok (.lcmp, 1) := by decide +kernel
theorem dX12_finds_77 : decode cX12_finds 77 = .ok (.ifCond .eq 90, 3) := by decide +kernel
theorem dX12_finds_80 : decode cX12_finds 80 = .ok (.aload_n 0, 1) := by decide +kernel
theorem dX12_finds_81 : decode cX12_finds 81 = .ok (.getfield 204, 3) := by decide +kernel
theorem dX12_finds_84 : decode cX12_finds 84 = .ok (.aload_n 0, 1) := by decide +kernel
theorem dX12_finds_85 : decode cX12_finds 85 = .ok (.getfield 189, 3) := by decide +kernel
theorem dX12_finds_88 : decode cX12_finds 88 = .ok (.iload 4, 2) := by decide +kernel
theorem dX12_finds_90 : decode cX12_finds 90 = .ok (.iaload, 1) := by decide +kernel
theorem dX12_finds_91 : decode cX12_finds 91 = .ok (.laload, 1) := by decide +kernel
theorem dX12_finds_92 : decode cX12_finds 92 = .ok (.aload_n 0, 1) := by decide +kernel
theorem dX12_finds_93 : decode cX12_finds 93 = .ok (.getfield 198, 3) := by decide +kernel
theorem dX12_finds_96 : decode cX12_finds 96 = .ok (.iload 4, 2) := by decide +kernel
theorem dX12_finds_98 : decode cX12_finds 98 = .ok (.laload, 1) := by decide +kernel
theorem dX12_finds_99 : decode cX12_finds 99 = .ok (.ladd, 1) := by decide +kernel
theorem dX12_finds_100 : decode cX12_finds 100 = .ok (.aload_n 0, 1) := by decide +kernel
theorem dX12_finds_101 : decode cX12_finds 101 = .ok (.getfield 204, 3) := by decide +kernel
theorem dX12_finds_104 : decode cX12_finds 104 = .ok (.aload_n 0, 1) := by decide +kernel
theorem dX12_finds_105 : decode cX12_finds 105 = .ok (.getfield 192, 3) := by decide +kernel
theorem dX12_finds_108 : decode cX12_finds 108 = .ok (.iload 4, 2) := by decide +kernel
theorem dX12_finds_110 : decode cX12_finds 110 = .ok (.iaload, 1) := by decide +kernel
theorem dX12_finds_111 : decode cX12_finds 111 = .ok (.laload, 1) := by decide +kernel
theorem dX12_finds_112 : decode cX12_finds 112 = .ok (.lcmp, 1) := by decide +kernel
theorem dX12_finds_113 : decode cX12_finds 113 = .ok (.ifCond .lt 6, 3) := by decide +kernel
theorem dX12_finds_116 : decode cX12_finds 116 = .ok (.goto 51, 3) := by decide +kernel
theorem dX12_finds_119 : decode cX12_finds 119 = .ok (.aload_n 0, 1) := by decide +kernel
theorem dX12_finds_120 : decode cX12_finds 120 = .ok (.getfield 204, 3) := by decide +kernel
theorem dX12_finds_123 : decode cX12_finds 123 = .ok (.aload_n 0, 1) := by decide +kernel
theorem dX12_finds_124 : decode cX12_finds 124 = .ok (.getfield 192, 3) := by decide +kernel
theorem dX12_finds_127 : decode cX12_finds 127 = .ok (.iload 4, 2) := by decide +kernel
theorem dX12_finds_129 : decode cX12_finds 129 = .ok (.iaload, 1) := by decide +kernel
theorem dX12_finds_130 : decode cX12_finds 130 = .ok (.aload_n 0, 1) := by decide +kernel
theorem dX12_finds_131 : decode cX12_finds 131 = .ok (.getfield 204, 3) := by decide +kernel
theorem dX12_finds_134 : decode cX12_finds 134 = .ok (.aload_n 0, 1) := by decide +kernel
theorem dX12_finds_135 : decode cX12_finds 135 = .ok (.getfield 189, 3) := by decide +kernel
theorem dX12_finds_138 : decode cX12_finds 138 = .ok (.iload 4, 2) := by decide +kernel
theorem dX12_finds_140 : decode cX12_finds 140 = .ok (.iaload, 1) := by decide +kernel
theorem dX12_finds_141 : decode cX12_finds 141 = .ok (.laload, 1) := by decide +kernel
theorem dX12_finds_142 : decode cX12_finds 142 = .ok (.aload_n 0, 1) := by decide +kernel
theorem dX12_finds_143 : decode cX12_finds 143 = .ok (.getfield 198, 3) := by decide +kernel
theorem dX12_finds_146 : decode cX12_finds 146 = .ok (.iload 4, 2) := by decide +kernel
theorem dX12_finds_148 : decode cX12_finds 148 = .ok (.laload, 1) := by decide +kernel
theorem dX12_finds_149 : decode cX12_finds 149 = .ok (.ladd, 1) := by decide +kernel
theorem dX12_finds_150 : decode cX12_finds 150 = .ok (.lastore, 1) := by decide +kernel
theorem dX12_finds_151 : decode cX12_finds 151 = .ok (.aload_n 0, 1) := by decide +kernel
theorem dX12_finds_152 : decode cX12_finds 152 = .ok (.getfield 207, 3) := by decide +kernel
theorem dX12_finds_155 : decode cX12_finds 155 = .ok (.aload_n 0, 1) := by decide +kernel
theorem dX12_finds_156 : decode cX12_finds 156 = .ok (.getfield 192, 3) := by decide +kernel
theorem dX12_finds_159 : decode cX12_finds 159 = .ok (.iload 4, 2) := by decide +kernel
theorem dX12_finds_161 : decode cX12_finds 161 = .ok (.iaload, 1) := by decide +kernel
theorem dX12_finds_162 : decode cX12_finds 162 = .ok (.iload 4, 2) := by decide +kernel
theorem dX12_finds_164 : decode cX12_finds 164 = .ok (.iastore, 1) := by decide +kernel
theorem dX12_finds_165 : decode cX12_finds 165 = .ok (.iconst 1, 1) := by decide +kernel
theorem dX12_finds_166 : decode cX12_finds 166 = .ok (.istore_n 3, 1) := by decide +kernel
theorem dX12_finds_167 : decode cX12_finds 167 = .ok (.iinc 4 1, 3) := by decide +kernel
theorem dX12_finds_170 : decode cX12_finds 170 = .ok (.goto (-128), 3) := by decide +kernel
theorem dX12_finds_173 : decode cX12_finds 173 = .ok (.goto (-140), 3) := by decide +kernel
theorem dX12_finds_176 : decode cX12_finds 176 = .ok (.aload_n 0, 1) := by decide +kernel
theorem dX12_finds_177 : decode cX12_finds 177 = .ok (.getfield 204, 3) := by decide +kernel
theorem dX12_finds_180 : decode cX12_finds 180 = .ok (.iload_n 2, 1) := by decide +kernel
theorem dX12_finds_181 : decode cX12_finds 181 = .ok (.laload, 1) := by decide +kernel
theorem dX12_finds_182 : decode cX12_finds 182 = .ok (.ldc2_w 525, 3) := by decide +kernel
theorem dX12_finds_185 : decode cX12_finds 185 = .ok (.lcmp, 1) := by decide +kernel
theorem dX12_finds_186 : decode cX12_finds 186 = .ok (.ifCond .ge 7, 3) := by decide +kernel
theorem dX12_finds_189 : decode cX12_finds 189 = .ok (.iconst 1, 1) := by decide +kernel
theorem dX12_finds_190 : decode cX12_finds 190 = .ok (.goto 4, 3) := by decide +kernel
theorem dX12_finds_193 : decode cX12_finds 193 = .ok (.iconst 0, 1) := by decide +kernel
theorem dX12_finds_194 : decode cX12_finds 194 = .ok (.ireturn, 1) := by decide +kernel
theorem dX12_gets_0 : decode cX12_gets 0 = .ok (.aload_n 0, 1) := by decide +kernel
theorem dX12_gets_1 : decode cX12_gets 1 = .ok (.iload_n 1, 1) := by decide +kernel
theorem dX12_gets_2 : decode cX12_gets 2 = .ok (.invokevirtual 547, 3) := by decide +kernel
theorem dX12_gets_5 : decode cX12_gets 5 = .ok (.ifCond .eq 12, 3) := by decide +kernel
theorem dX12_gets_8 : decode cX12_gets 8 = .ok (.aload_n 0, 1) := by decide +kernel
theorem dX12_gets_9 : decode cX12_gets 9 = .ok (.getfield 243, 3) := by decide +kernel
theorem dX12_gets_12 : decode cX12_gets 12 = .ok (.iload_n 1, 1) := by decide +kernel
theorem dX12_gets_13 : decode cX12_gets 13 = .ok (.iaload, 1) := by decide +kernel
theorem dX12_gets_14 : decode cX12_gets 14 = .ok (.goto 4, 3) := by decide +kernel
theorem dX12_gets_17 : decode cX12_gets 17 = .ok (.iconst (-1), 1) := by decide +kernel
theorem dX12_gets_18 : decode cX12_gets 18 = .ok (.ireturn, 1) := by decide +kernel
theorem dX12_gifts_0 : decode cX12_gifts 0 = .ok (.aload_n 0, 1) := by decide +kernel
theorem dX12_gifts_1 : decode cX12_gifts 1 = .ok (.iload_n 1, 1) := by decide +kernel
theorem dX12_gifts_2 : decode cX12_gifts 2 = .ok (.invokevirtual 450, 3) := by decide +kernel
theorem dX12_gifts_5 : decode cX12_gifts 5 = .ok (.ifCond .eq 33, 3) := by decide +kernel
theorem dX12_gifts_8 : decode cX12_gifts 8 = .ok (.iload_n 2, 1) := by decide +kernel
theorem dX12_gifts_9 : decode cX12_gifts 9 = .ok (.iconst 1, 1) := by decide +kernel
theorem dX12_gifts_10 : decode cX12_gifts 10 = .ok (.bipush 24, 2) := by decide +kernel
theorem dX12_gifts_12 : decode cX12_gifts 12 = .ok (.invokestatic 322, 3) := by decide +kernel
theorem dX12_gifts_15 : decode cX12_gifts 15 = .ok (.ifCond .eq 23, 3) := by decide +kernel
theorem dX12_gifts_18 : decode cX12_gifts 18 = .ok (.iload_n 3, 1) := by decide +kernel
theorem dX12_gifts_19 : decode cX12_gifts 19 = .ok (.iconst 1, 1) := by decide +kernel
theorem dX12_gifts_20 : decode cX12_gifts 20 = .ok (.bipush 99, 2) := by decide +kernel
theorem dX12_gifts_22 : decode cX12_gifts 22 = .ok (.invokestatic 322, 3) := by decide +kernel
theorem dX12_gifts_25 : decode cX12_gifts 25 = .ok (.ifCond .eq 13, 3) := by decide +kernel
theorem dX12_gifts_28 : decode cX12_gifts 28 = .ok (.aload_n 0, 1) := by decide +kernel
theorem dX12_gifts_29 : decode cX12_gifts 29 = .ok (.getfield 126, 3) := by decide +kernel
theorem dX12_gifts_32 : decode cX12_gifts 32 = .ok (.sipush 200, 3) := by decide +kernel
theorem dX12_gifts_35 : decode cX12_gifts 35 = .ok (.if_icmp .ne 7, 3) := by decide +kernel
theorem dX12_gifts_38 : decode cX12_gifts 38 = .ok (.iconst (-1), 1) := by decide +kernel
theorem dX12_gifts_39 : decode cX12_gifts 39 = .ok (.goto 13, 3) := by decide +kernel
theorem dX12_gifts_42 : decode cX12_gifts 42 = .ok (.aload_n 0, 1) := by decide +kernel
theorem dX12_gifts_43 : decode cX12_gifts 43 = .ok (.iconst 1, 1) := by decide +kernel
theorem dX12_gifts_44 : decode cX12_gifts 44 = .ok (.iload_n 1, 1) := by decide +kernel
theorem dX12_gifts_45 : decode cX12_gifts 45 = .ok (.iload_n 2, 1) := by decide +kernel
theorem dX12_gifts_46 : decode cX12_gifts 46 = .ok (.iload_n 3, 1) := by decide +kernel
theorem dX12_gifts_47 : decode cX12_gifts 47 = .ok (.iconst 0, 1) := by decide +kernel
theorem dX12_gifts_48 : decode cX12_gifts 48 = .ok (.iconst 0, 1) := by decide +kernel
theorem dX12_gifts_49 : decode cX12_gifts 49 = .ok (.invokevirtual 453, 3) := by decide +kernel
theorem dX12_gifts_52 : decode cX12_gifts 52 = .ok (.ireturn, 1) := by decide +kernel
theorem dX12_give_0 : decode cX12_give 0 = .ok (.aload_n 0, 1) := by decide +kernel
theorem dX12_give_1 : decode cX12_give 1 = .ok (.invokevirtual 471, 3) := by decide +kernel
theorem dX12_give_4 : decode cX12_give 4 = .ok (.aload_n 0, 1) := by decide +kernel
theorem dX12_give_5 : decode cX12_give 5 = .ok (.invokevirtual 533, 3) := by decide +kernel
theorem dX12_give_8 : decode cX12_give 8 = .ok (.aload_n 0, 1) := by decide +kernel
theorem dX12_give_9 : decode cX12_give 9 = .ok (.iconst 0, 1) := by decide +kernel
theorem dX12_give_10 : decode cX12_give 10 = .ok (.putfield 201, 3) := by decide +kernel
theorem dX12_give_13 : decode cX12_give 13 = .ok (.iconst 0, 1) := by decide +kernel
theorem dX12_give_14 : decode cX12_give 14 = .ok (.istore_n 1, 1) := by decide +kernel
theorem dX12_give_15 : decode cX12_give 15 = .ok (.iload_n 1, 1) := by decide +kernel
theorem dX12_give_16 : decode cX12_give 16 = .ok (.aload_n 0, 1) := by decide +kernel
theorem dX12_give_17 : decode cX12_give 17 = .ok (.getfield 54, 3) := by decide +kernel
theorem dX12_give_20 : decode cX12_give 20 = .ok (.aload_n 0, 1) := by decide +kernel
theorem dX12_give_21 : decode cX12_give 21 = .ok (.getfield 48, 3) := by decide +kernel
theorem dX12_give_24 : decode cX12_give 24 = .ok (.iaload, 1) := by decide +kernel
theorem dX12_give_25 : decode cX12_give 25 = .ok (.if_icmp .ge 94, 3) := by decide +kernel
theorem dX12_give_28 : decode cX12_give 28 = .ok (.iconst 1, 1) := by decide +kernel
theorem dX12_give_29 : decode cX12_give 29 = .ok (.istore_n 2, 1) := by decide +kernel
theorem dX12_give_30 : decode cX12_give 30 = .ok (.iload_n 2, 1) := by decide +kernel
theorem dX12_give_31 : decode cX12_give 31 = .ok (.bipush 24, 2) := by decide +kernel
theorem dX12_give_33 : decode cX12_give 33 = .ok (.if_icmp .gt 80, 3) := by decide +kernel
theorem dX12_give_36 : decode cX12_give 36 = .ok (.aload_n 0, 1) := by decide +kernel
theorem dX12_give_37 : decode cX12_give 37 = .ok (.getfield 216, 3) := by decide +kernel
theorem dX12_give_40 : decode cX12_give 40 = .ok (.bipush 25, 2) := by decide +kernel
theorem dX12_give_42 : decode cX12_give 42 = .ok (.iload_n 1, 1) := by decide +kernel
theorem dX12_give_43 : decode cX12_give 43 = .ok (.imul, 1) := by decide +kernel
theorem dX12_give_44 : decode cX12_give 44 = .ok (.iload_n 2, 1) := by decide +kernel
theorem dX12_give_45 : decode cX12_give 45 = .ok (.iadd, 1) := by decide +kernel
theorem dX12_give_46 : decode cX12_give 46 = .ok (.iaload, 1) := by decide +kernel
theorem dX12_give_47 : decode cX12_give 47 = .ok (.ifCond .le 29, 3) := by decide +kernel
theorem dX12_give_50 : decode cX12_give 50 = .ok (.aload_n 0, 1) := by decide +kernel
theorem dX12_give_51 : decode cX12_give 51 = .ok (.iconst 0, 1) := by decide +kernel
theorem dX12_give_52 : decode cX12_give 52 = .ok (.iconst 1, 1) := by decide +kernel
theorem dX12_give_53 : decode cX12_give 53 = .ok (.bipush 24, 2) := by decide +kernel
theorem dX12_give_55 : decode cX12_give 55 = .ok (.iload_n 1, 1) := by decide +kernel
theorem dX12_give_56 : decode cX12_give 56 = .ok (.imul, 1) := by decide +kernel
theorem dX12_give_57 : decode cX12_give 57 = .ok (.iadd, 1) := by decide +kernel
theorem dX12_give_58 : decode cX12_give 58 = .ok (.iload_n 2, 1) := by decide +kernel
theorem dX12_give_59 : decode cX12_give 59 = .ok (.iadd, 1) := by decide +kernel
theorem dX12_give_60 : decode cX12_give 60 = .ok (.aload_n 0, 1) := by decide +kernel
theorem dX12_give_61 : decode cX12_give 61 = .ok (.getfield 216, 3) := by decide +kernel
theorem dX12_give_64 : decode cX12_give 64 = .ok (.bipush 25, 2) := by decide +kernel
theorem dX12_give_66 : decode cX12_give 66 = .ok (.iload_n 1, 1) := by decide +kernel
theorem dX12_give_67 : decode cX12_give 67 = .ok (.imul, 1) := by decide +kernel
theorem dX12_give_68 : decode cX12_give 68 = .ok (.iload_n 2, 1) := by decide +kernel
theorem dX12_give_69 : decode cX12_give 69 = .ok (.iadd, 1) := by decide +kernel
theorem dX12_give_70 : decode cX12_give 70 = .ok (.iaload, 1) := by decide +kernel
theorem dX12_give_71 : decode cX12_give 71 = .ok (.lconst 0, 1) := by decide +kernel
theorem dX12_give_72 : decode cX12_give 72 = .ok (.invokevirtual 536, 3) := by decide +kernel
theorem dX12_give_75 : decode cX12_give 75 = .ok (.pop, 1) := by decide +kernel
theorem dX12_give_76 : decode cX12_give 76 = .ok (.iload_n 2, 1) := by decide +kernel
theorem dX12_give_77 : decode cX12_give 77 = .ok (.bipush 24, 2) := by decide +kernel
theorem dX12_give_79 : decode cX12_give 79 = .ok (.if_icmp .ge 28, 3) := by decide +kernel
theorem dX12_give_82 : decode cX12_give 82 = .ok (.aload_n 0, 1) := by decide +kernel
theorem dX12_give_83 : decode cX12_give 83 = .ok (.iconst 1, 1) := by decide +kernel
theorem dX12_give_84 : decode cX12_give 84 = .ok (.bipush 24, 2) := by decide +kernel
theorem dX12_give_86 : decode cX12_give 86 = .ok (.iload_n 1, 1) := by decide +kernel
theorem dX12_give_87 : decode cX12_give 87 = .ok (.imul, 1) := by decide +kernel
theorem dX12_give_88 : decode cX12_give 88 = .ok (.iadd, 1) := by decide +kernel
theorem dX12_give_89 : decode cX12_give 89 = .ok (.iload_n 2, 1) := by decide +kernel
theorem dX12_give_90 : decode cX12_give 90 = .ok (.iadd, 1) := by decide +kernel
theorem dX12_give_91 : decode cX12_give 91 = .ok (.iconst 2, 1) := by decide +kernel
theorem dX12_give_92 : decode cX12_give 92 = .ok (.bipush 24, 2) := by decide +kernel
theorem dX12_give_94 : decode cX12_give 94 = .ok (.iload_n 1, 1) := by decide +kernel
theorem dX12_give_95 : decode cX12_give 95 = .ok (.imul, 1) := by decide +kernel
theorem dX12_give_96 : decode cX12_give 96 = .ok (.iadd, 1) := by decide +kernel
theorem dX12_give_97 : decode cX12_give 97 = .ok (.iload_n 2, 1) := by decide +kernel
theorem dX12_give_98 : decode cX12_give 98 = .ok (.iadd, 1) := by decide +kernel
theorem dX12_give_99 : decode cX12_give 99 = .ok (.ldc_w 540, 3) := by decide +kernel
theorem dX12_give_102 : decode cX12_give 102 = .ok (.lconst 0, 1) := by decide +kernel
theorem dX12_give_103 : decode cX12_give 103 = .ok (.invokevirtual 536, 3) := by decide +kernel
theorem dX12_give_106 : decode cX12_give 106 = .ok (.pop, 1) := by decide +kernel
theorem dX12_give_107 : decode cX12_give 107 = .ok (.iinc 2 1, 3) := by decide +kernel
theorem dX12_give_110 : decode cX12_give 110 = .ok (.goto (-80), 3) := by decide +kernel
theorem dX12_give_113 : decode cX12_give 113 = .ok (.iinc 1 1, 3) := by decide +kernel
theorem dX12_give_116 : decode cX12_give 116 = .ok (.goto (-101), 3) := by decide +kernel
theorem dX12_give_119 : decode cX12_give 119 = .ok (.iconst 0, 1) := by decide +kernel
theorem dX12_give_120 : decode cX12_give 120 = .ok (.istore_n 1, 1) := by decide +kernel
theorem dX12_give_121 : decode cX12_give 121 = .ok (.iload_n 1, 1) := by decide +kernel
theorem dX12_give_122 : decode cX12_give 122 = .ok (.sipush 400, 3) := by decide +kernel
theorem dX12_give_125 : decode cX12_give 125 = .ok (.if_icmp .ge 16, 3) := by decide +kernel
theorem dX12_give_128 : decode cX12_give 128 = .ok (.aload_n 0, 1) := by decide +kernel
theorem dX12_give_129 : decode cX12_give 129 = .ok (.getfield 210, 3) := by decide +kernel
theorem dX12_give_132 : decode cX12_give 132 = .ok (.iload_n 1, 1) := by decide +kernel
theorem dX12_give_133 : decode cX12_give 133 = .ok (.iconst (-1), 1) := by decide +kernel
theorem dX12_give_134 : decode cX12_give 134 = .ok (.iastore, 1) := by decide +kernel
theorem dX12_give_135 : decode cX12_give 135 = .ok (.iinc 1 1, 3) := by decide +kernel
theorem dX12_give_138 : decode cX12_give 138 = .ok (.goto (-17), 3) := by decide +kernel
theorem dX12_give_141 : decode cX12_give 141 = .ok (.aload_n 0, 1) := by decide +kernel
theorem dX12_give_142 : decode cX12_give 142 = .ok (.aload_n 0, 1) := by decide +kernel
theorem dX12_give_143 : decode cX12_give 143 = .ok (.getfield 150, 3) := by decide +kernel
theorem dX12_give_146 : decode cX12_give 146 = .ok (.putfield 222, 3) := by decide +kernel
theorem dX12_give_149 : decode cX12_give 149 = .ok (.iconst 0, 1) := by decide +kernel
theorem dX12_give_150 : decode cX12_give 150 = .ok (.istore_n 1, 1) := by decide +kernel
theorem dX12_give_151 : decode cX12_give 151 = .ok (.iload_n 1, 1) := by decide +kernel
theorem dX12_give_152 : decode cX12_give 152 = .ok (.aload_n 0, 1) := by decide +kernel
theorem dX12_give_153 : decode cX12_give 153 = .ok (.getfield 150, 3) := by decide +kernel
theorem dX12_give_156 : decode cX12_give 156 = .ok (.if_icmp .ge 168, 3) := by decide +kernel
theorem dX12_give_159 : decode cX12_give 159 = .ok (.aload_n 0, 1) := by decide +kernel
theorem dX12_give_160 : decode cX12_give 160 = .ok (.getfield 225, 3) := by decide +kernel
theorem dX12_give_163 : decode cX12_give 163 = .ok (.iload_n 1, 1) := by decide +kernel
theorem dX12_give_164 : decode cX12_give 164 = .ok (.aload_n 0, 1) := by decide +kernel
theorem dX12_give_165 : decode cX12_give 165 = .ok (.iload_n 1, 1) := by decide +kernel
theorem dX12_give_166 : decode cX12_give 166 = .ok (.invokevirtual 515, 3) := by decide +kernel
theorem dX12_give_169 : decode cX12_give 169 = .ok (.iastore, 1) := by decide +kernel
theorem dX12_give_170 : decode cX12_give 170 = .ok (.aload_n 0, 1) := by decide +kernel
theorem dX12_give_171 : decode cX12_give 171 = .ok (.getfield 228, 3) := by decide +kernel
theorem dX12_give_174 : decode cX12_give 174 = .ok (.iload_n 1, 1) := by decide +kernel
theorem dX12_give_175 : decode cX12_give 175 = .ok (.aload_n 0, 1) := by decide +kernel
theorem dX12_give_176 : decode cX12_give 176 = .ok (.getfield 168, 3) := by decide +kernel
theorem dX12_give_179 : decode cX12_give 179 = .ok (.iload_n 1, 1) := by decide +kernel
theorem dX12_give_180 : decode cX12_give 180 = .ok (.iaload, 1) := by decide +kernel
theorem dX12_give_181 : decode cX12_give 181 = .ok (.iastore, 1) := by decide +kernel
theorem dX12_give_182 : decode cX12_give 182 = .ok (.aload_n 0, 1) := by decide +kernel
theorem dX12_give_183 : decode cX12_give 183 = .ok (.getfield 231, 3) := by decide +kernel
theorem dX12_give_186 : decode cX12_give 186 = .ok (.iload_n 1, 1) := by decide +kernel
theorem dX12_give_187 : decode cX12_give 187 = .ok (.aload_n 0, 1) := by decide +kernel
theorem dX12_give_188 : decode cX12_give 188 = .ok (.getfield 171, 3) := by decide +kernel
theorem dX12_give_191 : decode cX12_give 191 = .ok (.iload_n 1, 1) := by decide +kernel
theorem dX12_give_192 : decode cX12_give 192 = .ok (.iaload, 1) := by decide +kernel
theorem dX12_give_193 : decode cX12_give 193 = .ok (.iastore, 1) := by decide +kernel
theorem dX12_give_194 : decode cX12_give 194 = .ok (.aload_n 0, 1) := by decide +kernel
theorem dX12_give_195 : decode cX12_give 195 = .ok (.getfield 234, 3) := by decide +kernel
theorem dX12_give_198 : decode cX12_give 198 = .ok (.iload_n 1, 1) := by decide +kernel
theorem dX12_give_199 : decode cX12_give 199 = .ok (.aload_n 0, 1) := by decide +kernel
theorem dX12_give_200 : decode cX12_give 200 = .ok (.getfield 156, 3) := by decide +kernel
theorem dX12_give_203 : decode cX12_give 203 = .ok (.iload_n 1, 1) := by decide +kernel
theorem dX12_give_204 : decode cX12_give 204 = .ok (.iaload, 1) := by decide +kernel
theorem dX12_give_205 : decode cX12_give 205 = .ok (.iastore, 1) := by decide +kernel
theorem dX12_give_206 : decode cX12_give 206 = .ok (.aload_n 0, 1) := by decide +kernel
theorem dX12_give_207 : decode cX12_give 207 = .ok (.sipush 242, 3) := by decide +kernel
theorem dX12_give_210 : decode cX12_give 210 = .ok (.iload_n 1, 1) := by decide +kernel
theorem dX12_give_211 : decode cX12_give 211 = .ok (.iadd, 1) := by decide +kernel
theorem dX12_give_212 : decode cX12_give 212 = .ok (.iconst 1, 1) := by decide +kernel
theorem dX12_give_213 : decode cX12_give 213 = .ok (.aload_n 0, 1) := by decide +kernel
theorem dX12_give_214 : decode cX12_give 214 = .ok (.getfield 225, 3) := by decide +kernel
theorem dX12_give_217 : decode cX12_give 217 = .ok (.iload_n 1, 1) := by decide +kernel
theorem dX12_give_218 : decode cX12_give 218 = .ok (.iaload, 1) := by decide +kernel
theorem dX12_give_219 : decode cX12_give 219 = .ok (.lconst 0, 1) := by decide +kernel
theorem dX12_give_220 : decode cX12_give 220 = .ok (.invokevirtual 536, 3) := by decide +kernel
theorem dX12_give_223 : decode cX12_give 223 = .ok (.pop, 1) := by decide +kernel
theorem dX12_give_224 : decode cX12_give 224 = .ok (.iconst 0, 1) := by decide +kernel
theorem dX12_give_225 : decode cX12_give 225 = .ok (.istore_n 2, 1) := by decide +kernel
theorem dX12_give_226 : decode cX12_give 226 = .ok (.iload_n 2, 1) := by decide +kernel
theorem dX12_give_227 : decode cX12_give 227 = .ok (.aload_n 0, 1) := by decide +kernel
theorem dX12_give_228 : decode cX12_give 228 = .ok (.getfield 54, 3) := by decide +kernel
theorem dX12_give_231 : decode cX12_give 231 = .ok (.aload_n 0, 1) := by decide +kernel
theorem dX12_give_232 : decode cX12_give 232 = .ok (.getfield 48, 3) := by decide +kernel
theorem dX12_give_235 : decode cX12_give 235 = .ok (.iaload, 1) := by decide +kernel
theorem dX12_give_236 : decode cX12_give 236 = .ok (.if_icmp .ge 82, 3) := by decide +kernel
theorem dX12_give_239 : decode cX12_give 239 = .ok (.aload_n 0, 1) := by decide +kernel
theorem dX12_give_240 : decode cX12_give 240 = .ok (.getfield 237, 3) := by decide +kernel
theorem dX12_give_243 : decode cX12_give 243 = .ok (.bipush 10, 2) := by decide +kernel
theorem dX12_give_245 : decode cX12_give 245 = .ok (.iload_n 1, 1) := by decide +kernel
theorem dX12_give_246 : decode cX12_give 246 = .ok (.imul, 1) := by decide +kernel
theorem dX12_give_247 : decode cX12_give 247 = .ok (.iload_n 2, 1) := by decide +kernel
theorem dX12_give_248 : decode cX12_give 248 = .ok (.iadd, 1) := by decide +kernel
theorem dX12_give_249 : decode cX12_give 249 = .ok (.aload_n 0, 1) := by decide +kernel
theorem dX12_give_250 : decode cX12_give 250 = .ok (.iload_n 1, 1) := by decide +kernel
theorem dX12_give_251 : decode cX12_give 251 = .ok (.iload_n 2, 1) := by decide +kernel
theorem dX12_give_252 : decode cX12_give 252 = .ok (.invokevirtual 518, 3) := by decide +kernel
theorem dX12_give_255 : decode cX12_give 255 = .ok (.bastore, 1) := by decide +kernel
theorem dX12_give_256 : decode cX12_give 256 = .ok (.aload_n 0, 1) := by decide +kernel
theorem dX12_give_257 : decode cX12_give 257 = .ok (.getfield 237, 3) := by decide +kernel
theorem dX12_give_260 : decode cX12_give 260 = .ok (.bipush 10, 2) := by decide +kernel
theorem dX12_give_262 : decode cX12_give 262 = .ok (.iload_n 1, 1) := by decide +kernel
theorem dX12_give_263 : decode cX12_give 263 = .ok (.imul, 1) := by decide +kernel
theorem dX12_give_264 : decode cX12_give 264 = .ok (.iload_n 2, 1) := by decide +kernel
theorem dX12_give_265 : decode cX12_give 265 = .ok (.iadd, 1) := by decide +kernel
theorem dX12_give_266 : decode cX12_give 266 = .ok (.baload, 1) := by decide +kernel
theorem dX12_give_267 : decode cX12_give 267 = .ok (.ifCond .eq 45, 3) := by decide +kernel
theorem dX12_give_270 : decode cX12_give 270 = .ok (.aload_n 0, 1) := by decide +kernel
theorem dX12_give_271 : decode cX12_give 271 = .ok (.getfield 210, 3) := by decide +kernel
theorem dX12_give_274 : decode cX12_give 274 = .ok (.bipush 10, 2) := by decide +kernel
theorem dX12_give_276 : decode cX12_give 276 = .ok (.iload_n 1, 1) := by decide +kernel
theorem dX12_give_277 : decode cX12_give 277 = .ok (.imul, 1) := by decide +kernel
theorem dX12_give_278 : decode cX12_give 278 = .ok (.iload_n 2, 1) := by decide +kernel
theorem dX12_give_279 : decode cX12_give 279 = .ok (.iadd, 1) := by decide +kernel
theorem dX12_give_280 : decode cX12_give 280 = .ok (.aload_n 0, 1) := by decide +kernel
theorem dX12_give_281 : decode cX12_give 281 = .ok (.iconst 1, 1) := by decide +kernel
theorem dX12_give_282 : decode cX12_give 282 = .ok (.bipush 24, 2) := by decide +kernel
theorem dX12_give_284 : decode cX12_give 284 = .ok (.iload_n 2, 1) := by decide +kernel
theorem dX12_give_285 : decode cX12_give 285 = .ok (.imul, 1) := by decide +kernel
theorem dX12_give_286 : decode cX12_give 286 = .ok (.iadd, 1) := by decide +kernel
theorem dX12_give_287 : decode cX12_give 287 = .ok (.aload_n 0, 1) := by decide +kernel
theorem dX12_give_288 : decode cX12_give 288 = .ok (.getfield 171, 3) := by decide +kernel
theorem dX12_give_291 : decode cX12_give 291 = .ok (.iload_n 1, 1) := by decide +kernel
theorem dX12_give_292 : decode cX12_give 292 = .ok (.iaload, 1) := by decide +kernel
theorem dX12_give_293 : decode cX12_give 293 = .ok (.iadd, 1) := by decide +kernel
theorem dX12_give_294 : decode cX12_give 294 = .ok (.sipush 242, 3) := by decide +kernel
theorem dX12_give_297 : decode cX12_give 297 = .ok (.iload_n 1, 1) := by decide +kernel
theorem dX12_give_298 : decode cX12_give 298 = .ok (.iadd, 1) := by decide +kernel
theorem dX12_give_299 : decode cX12_give 299 = .ok (.iconst 1, 1) := by decide +kernel
theorem dX12_give_300 : decode cX12_give 300 = .ok (.aload_n 0, 1) := by decide +kernel
theorem dX12_give_301 : decode cX12_give 301 = .ok (.iload_n 1, 1) := by decide +kernel
theorem dX12_give_302 : decode cX12_give 302 = .ok (.iload_n 2, 1) := by decide +kernel
theorem dX12_give_303 : decode cX12_give 303 = .ok (.invokevirtual 522, 3) := by decide +kernel
theorem dX12_give_306 : decode cX12_give 306 = .ok (.ineg, 1) := by decide +kernel
theorem dX12_give_307 : decode cX12_give 307 = .ok (.i2l, 1) := by decide +kernel
theorem dX12_give_308 : decode cX12_give 308 = .ok (.invokevirtual 536, 3) := by decide +kernel
theorem dX12_give_311 : decode cX12_give 311 = .ok (.iastore, 1) := by decide +kernel
theorem dX12_give_312 : decode cX12_give 312 = .ok (.iinc 2 1, 3) := by decide +kernel
theorem dX12_give_315 : decode cX12_give 315 = .ok (.goto (-89), 3) := by decide +kernel
theorem dX12_give_318 : decode cX12_give 318 = .ok (.iinc 1 1, 3) := by decide +kernel
theorem dX12_give_321 : decode cX12_give 321 = .ok (.goto (-170), 3) := by decide +kernel
theorem dX12_give_324 : decode cX12_give 324 = .ok (.aload_n 0, 1) := by decide +kernel
theorem dX12_give_325 : decode cX12_give 325 = .ok (.invokevirtual 541, 3) := by decide +kernel
theorem dX12_give_328 : decode cX12_give 328 = .ok (.aload_n 0, 1) := by decide +kernel
theorem dX12_give_329 : decode cX12_give 329 = .ok (.iconst 0, 1) := by decide +kernel
theorem dX12_give_330 : decode cX12_give 330 = .ok (.putfield 249, 3) := by decide +kernel
theorem dX12_give_333 : decode cX12_give 333 = .ok (.aload_n 0, 1) := by decide +kernel
theorem dX12_give_334 : decode cX12_give 334 = .ok (.iconst 0, 1) := by decide +kernel
theorem dX12_give_335 : decode cX12_give 335 = .ok (.putfield 252, 3) := by decide +kernel
theorem dX12_give_338 : decode cX12_give 338 = .ok (.iconst 0, 1) := by decide +kernel
theorem dX12_give_339 : decode cX12_give 339 = .ok (.istore_n 1, 1) := by decide +kernel
theorem dX12_give_340 : decode cX12_give 340 = .ok (.iload_n 1, 1) := by decide +kernel
theorem dX12_give_341 : decode cX12_give 341 = .ok (.aload_n 0, 1) := by decide +kernel
theorem dX12_give_342 : decode cX12_give 342 = .ok (.getfield 54, 3) := by decide +kernel
theorem dX12_give_345 : decode cX12_give 345 = .ok (.aload_n 0, 1) := by decide +kernel
theorem dX12_give_346 : decode cX12_give 346 = .ok (.getfield 48, 3) := by decide +kernel
theorem dX12_give_349 : decode cX12_give 349 = .ok (.iaload, 1) := by decide +kernel
theorem dX12_give_350 : decode cX12_give 350 = .ok (.if_icmp .ge 50, 3) := by decide +kernel
theorem dX12_give_353 : decode cX12_give 353 = .ok (.aload_n 0, 1) := by decide +kernel
theorem dX12_give_354 : decode cX12_give 354 = .ok (.getfield 246, 3) := by decide +kernel
theorem dX12_give_357 : decode cX12_give 357 = .ok (.iload_n 1, 1) := by decide +kernel
theorem dX12_give_358 : decode cX12_give 358 = .ok (.iconst 0, 1) := by decide +kernel
theorem dX12_give_359 : decode cX12_give 359 = .ok (.iastore, 1) := by decide +kernel
theorem dX12_give_360 : decode cX12_give 360 = .ok (.iconst 1, 1) := by decide +kernel
theorem dX12_give_361 : decode cX12_give 361 = .ok (.istore_n 2, 1) := by decide +kernel
theorem dX12_give_362 : decode cX12_give 362 = .ok (.iload_n 2, 1) := by decide +kernel
theorem dX12_give_363 : decode cX12_give 363 = .ok (.bipush 24, 2) := by decide +kernel
theorem dX12_give_365 : decode cX12_give 365 = .ok (.if_icmp .gt 29, 3) := by decide +kernel
theorem dX12_give_368 : decode cX12_give 368 = .ok (.aload_n 0, 1) := by decide +kernel
theorem dX12_give_369 : decode cX12_give 369 = .ok (.getfield 246, 3) := by decide +kernel
theorem dX12_give_372 : decode cX12_give 372 = .ok (.iload_n 1, 1) := by decide +kernel
theorem dX12_give_373 : decode cX12_give 373 = .ok (.dup2, 1) := by decide +kernel
theorem dX12_give_374 : decode cX12_give 374 = .ok (.iaload, 1) := by decide +kernel
theorem dX12_give_375 : decode cX12_give 375 = .ok (.aload_n 0, 1) := by decide +kernel
theorem dX12_give_376 : decode cX12_give 376 = .ok (.getfield 216, 3) := by decide +kernel
theorem dX12_give_379 : decode cX12_give 379 = .ok (.bipush 25, 2) := by decide +kernel
theorem dX12_give_381 : decode cX12_give 381 = .ok (.iload_n 1, 1) := by decide +kernel
theorem dX12_give_382 : decode cX12_give 382 = .ok (.imul, 1) := by decide +kernel
theorem dX12_give_383 : decode cX12_give 383 = .ok (.iload_n 2, 1) := by decide +kernel
theorem dX12_give_384 : decode cX12_give 384 = .ok (.iadd, 1) := by decide +kernel
theorem dX12_give_385 : decode cX12_give 385 = .ok (.iaload, 1) := by decide +kernel
theorem dX12_give_386 : decode cX12_give 386 = .ok (.iadd, 1) := by decide +kernel
theorem dX12_give_387 : decode cX12_give 387 = .ok (.iastore, 1) := by decide +kernel
theorem dX12_give_388 : decode cX12_give 388 = .ok (.iinc 2 1, 3) := by decide +kernel
theorem dX12_give_391 : decode cX12_give 391 = .ok (.goto (-29), 3) := by decide +kernel
theorem dX12_give_394 : decode cX12_give 394 = .ok (.iinc 1 1, 3) := by decide +kernel
theorem dX12_give_397 : decode cX12_give 397 = .ok (.goto (-57), 3) := by decide +kernel
theorem dX12_give_400 : decode cX12_give 400 = .ok (.iconst 0, 1) := by decide +kernel
theorem dX12_give_401 : decode cX12_give 401 = .ok (.istore_n 1, 1) := by decide +kernel
theorem dX12_give_402 : decode cX12_give 402 = .ok (.iload_n 1, 1) := by decide +kernel
theorem dX12_give_403 : decode cX12_give 403 = .ok (.aload_n 0, 1) := by decide +kernel
theorem dX12_give_404 : decode cX12_give 404 = .ok (.getfield 150, 3) := by decide +kernel
theorem dX12_give_407 : decode cX12_give 407 = .ok (.if_icmp .ge 113, 3) := by decide +kernel
theorem dX12_give_410 : decode cX12_give 410 = .ok (.aload_n 0, 1) := by decide +kernel
theorem dX12_give_411 : decode cX12_give 411 = .ok (.getfield 240, 3) := by decide +kernel
theorem dX12_give_414 : decode cX12_give 414 = .ok (.iload_n 1, 1) := by decide +kernel
theorem dX12_give_415 : decode cX12_give 415 = .ok (.iconst 0, 1) := by decide +kernel
theorem dX12_give_416 : decode cX12_give 416 = .ok (.iastore, 1) := by decide +kernel
theorem dX12_give_417 : decode cX12_give 417 = .ok (.iconst 0, 1) := by decide +kernel
theorem dX12_give_418 : decode cX12_give 418 = .ok (.istore_n 2, 1) := by decide +kernel
theorem dX12_give_419 : decode cX12_give 419 = .ok (.iload_n 2, 1) := by decide +kernel
theorem dX12_give_420 : decode cX12_give 420 = .ok (.aload_n 0, 1) := by decide +kernel
theorem dX12_give_421 : decode cX12_give 421 = .ok (.getfield 54, 3) := by decide +kernel
theorem dX12_give_424 : decode cX12_give 424 = .ok (.aload_n 0, 1) := by decide +kernel
theorem dX12_give_425 : decode cX12_give 425 = .ok (.getfield 48, 3) := by decide +kernel
theorem dX12_give_428 : decode cX12_give 428 = .ok (.iaload, 1) := by decide +kernel
theorem dX12_give_429 : decode cX12_give 429 = .ok (.if_icmp .ge 73, 3) := by decide +kernel
theorem dX12_give_432 : decode cX12_give 432 = .ok (.aload_n 0, 1) := by decide +kernel
theorem dX12_give_433 : decode cX12_give 433 = .ok (.getfield 213, 3) := by decide +kernel
theorem dX12_give_436 : decode cX12_give 436 = .ok (.bipush 10, 2) := by decide +kernel
theorem dX12_give_438 : decode cX12_give 438 = .ok (.iload_n 1, 1) := by decide +kernel
theorem dX12_give_439 : decode cX12_give 439 = .ok (.imul, 1) := by decide +kernel
theorem dX12_give_440 : decode cX12_give 440 = .ok (.iload_n 2, 1) := by decide +kernel
theorem dX12_give_441 : decode cX12_give 441 = .ok (.iadd, 1) := by decide +kernel
theorem dX12_give_442 : decode cX12_give 442 = .ok (.baload, 1) := by decide +kernel
theorem dX12_give_443 : decode cX12_give 443 = .ok (.ifCond .ne 6, 3) := by decide +kernel
theorem dX12_give_446 : decode cX12_give 446 = .ok (.goto 50, 3) := by decide +kernel
theorem dX12_give_449 : decode cX12_give 449 = .ok (.aload_n 0, 1) := by decide +kernel
theorem dX12_give_450 : decode cX12_give 450 = .ok (.getfield 240, 3) := by decide +kernel
theorem dX12_give_453 : decode cX12_give 453 = .ok (.iload_n 1, 1) := by decide +kernel
theorem dX12_give_454 : decode cX12_give 454 = .ok (.dup2, 1) := by decide +kernel
theorem dX12_give_455 : decode cX12_give 455 = .ok (.iaload, 1) := by decide +kernel
theorem dX12_give_456 : decode cX12_give 456 = .ok (.iconst 1, 1) := by decide +kernel
theorem dX12_give_457 : decode cX12_give 457 = .ok (.iload_n 2, 1) := by decide +kernel
theorem dX12_give_458 : decode cX12_give 458 = .ok (.ishl, 1) := by decide +kernel
theorem dX12_give_459 : decode cX12_give 459 = .ok (.ior, 1) := by decide +kernel
theorem dX12_give_460 : decode cX12_give 460 = .ok (.iastore, 1) := by decide +kernel
theorem dX12_give_461 : decode cX12_give 461 = .ok (.aload_n 0, 1) := by decide +kernel
theorem dX12_give_462 : decode cX12_give 462 = .ok (.getfield 246, 3) := by decide +kernel
theorem dX12_give_465 : decode cX12_give 465 = .ok (.iload_n 2, 1) := by decide +kernel
theorem dX12_give_466 : decode cX12_give 466 = .ok (.dup2, 1) := by decide +kernel
theorem dX12_give_467 : decode cX12_give 467 = .ok (.iaload, 1) := by decide +kernel
theorem dX12_give_468 : decode cX12_give 468 = .ok (.iconst 1, 1) := by decide +kernel
theorem dX12_give_469 : decode cX12_give 469 = .ok (.isub, 1) := by decide +kernel
theorem dX12_give_470 : decode cX12_give 470 = .ok (.iastore, 1) := by decide +kernel
theorem dX12_give_471 : decode cX12_give 471 = .ok (.aload_n 0, 1) := by decide +kernel
theorem dX12_give_472 : decode cX12_give 472 = .ok (.dup, 1) := by decide +kernel
theorem dX12_give_473 : decode cX12_give 473 = .ok (.getfield 249, 3) := by decide +kernel
theorem dX12_give_476 : decode cX12_give 476 = .ok (.iconst 1, 1) := by decide +kernel
theorem dX12_give_477 : decode cX12_give 477 = .ok (.iadd, 1) := by decide +kernel
theorem dX12_give_478 : decode cX12_give 478 = .ok (.putfield 249, 3) := by decide +kernel
theorem dX12_give_481 : decode cX12_give 481 = .ok (.aload_n 0, 1) := by decide +kernel
theorem dX12_give_482 : decode cX12_give 482 = .ok (.dup, 1) := by decide +kernel
theorem dX12_give_483 : decode cX12_give 483 = .ok (.getfield 252, 3) := by decide +kernel
theorem dX12_give_486 : decode cX12_give 486 = .ok (.aload_n 0, 1) := by decide +kernel
theorem dX12_give_487 : decode cX12_give 487 = .ok (.iload_n 1, 1) := by decide +kernel
theorem dX12_give_488 : decode cX12_give 488 = .ok (.iload_n 2, 1) := by decide +kernel
theorem dX12_give_489 : decode cX12_give 489 = .ok (.invokevirtual 522, 3) := by decide +kernel
theorem dX12_give_492 : decode cX12_give 492 = .ok (.iadd, 1) := by decide +kernel
theorem dX12_give_493 : decode cX12_give 493 = .ok (.putfield 252, 3) := by decide +kernel
theorem dX12_give_496 : decode cX12_give 496 = .ok (.iinc 2 1, 3) := by decide +kernel
theorem dX12_give_499 : decode cX12_give 499 = .ok (.goto (-80), 3) := by decide +kernel
theorem dX12_give_502 : decode cX12_give 502 = .ok (.aload_n 0, 1) := by decide +kernel
theorem dX12_give_503 : decode cX12_give 503 = .ok (.getfield 243, 3) := by decide +kernel
theorem dX12_give_506 : decode cX12_give 506 = .ok (.iload_n 1, 1) := by decide +kernel
theorem dX12_give_507 : decode cX12_give 507 = .ok (.aload_n 0, 1) := by decide +kernel
theorem dX12_give_508 : decode cX12_give 508 = .ok (.getfield 240, 3) := by decide +kernel
theorem dX12_give_511 : decode cX12_give 511 = .ok (.iload_n 1, 1) := by decide +kernel
theorem dX12_give_512 : decode cX12_give 512 = .ok (.iaload, 1) := by decide +kernel
theorem dX12_give_513 : decode cX12_give 513 = .ok (.iastore, 1) := by decide +kernel
theorem dX12_give_514 : decode cX12_give 514 = .ok (.iinc 1 1, 3) := by decide +kernel
theorem dX12_give_517 : decode cX12_give 517 = .ok (.goto (-115), 3) := by decide +kernel
theorem dX12_give_520 : decode cX12_give 520 = .ok (.aload_n 0, 1) := by decide +kernel
theorem dX12_give_521 : decode cX12_give 521 = .ok (.iconst 1, 1) := by decide +kernel
theorem dX12_give_522 : decode cX12_give 522 = .ok (.putfield 219, 3) := by decide +kernel
theorem dX12_give_525 : decode cX12_give 525 = .ok (.aload_n 0, 1) := by decide +kernel
theorem dX12_give_526 : decode cX12_give 526 = .ok (.iconst 0, 1) := by decide +kernel
theorem dX12_give_527 : decode cX12_give 527 = .ok (.putfield 255, 3) := by decide +kernel
theorem dX12_give_530 : decode cX12_give 530 = .ok (.aload_n 0, 1) := by decide +kernel
theorem dX12_give_531 : decode cX12_give 531 = .ok (.getfield 249, 3) := by decide +kernel
theorem dX12_give_534 : decode cX12_give 534 = .ok (.ireturn, 1) := by decide +kernel
theorem dX12_given_0 : decode cX12_given 0 = .ok (.aload_n 0, 1) := by decide +kernel
theorem dX12_given_1 : decode cX12_given 1 = .ok (.getfield 219, 3) := by decide +kernel
theorem dX12_given_4 : decode cX12_given 4 = .ok (.ifCond .ne 5, 3) := by decide +kernel
theorem dX12_given_7 : decode cX12_given 7 = .ok (.iconst (-1), 1) := by decide +kernel
theorem dX12_given_8 : decode cX12_given 8 = .ok (.ireturn, 1) := by decide +kernel
theorem dX12_given_9 : decode cX12_given 9 = .ok (.iconst 0, 1) := by decide +kernel
theorem dX12_given_10 : decode cX12_given 10 = .ok (.istore_n 2, 1) := by decide +kernel
theorem dX12_given_11 : decode cX12_given 11 = .ok (.iload_n 1, 1) := by decide +kernel
theorem dX12_given_12 : decode cX12_given 12 = .ok (.tableswitch 150 0 3 #[32, 37, 81, 118], 32) := by decide +kernel
theorem dX12_given_44 : decode cX12_given 44 = .ok (.aload_n 0, 1) := by decide +kernel
theorem dX12_given_45 : decode cX12_given 45 = .ok (.getfield 252, 3) := by decide +kernel
theorem dX12_given_48 : decode cX12_given 48 = .ok (.ireturn, 1) := by decide +kernel
theorem dX12_given_49 : decode cX12_given 49 = .ok (.iconst 0, 1) := by decide +kernel
theorem dX12_given_50 : decode cX12_given 50 = .ok (.istore_n 3, 1) := by decide +kernel
theorem dX12_given_51 : decode cX12_given 51 = .ok (.iload_n 3, 1) := by decide +kernel
theorem dX12_given_52 : decode cX12_given 52 = .ok (.aload_n 0, 1) := by decide +kernel
theorem dX12_given_53 : decode cX12_given 53 = .ok (.getfield 222, 3) := by decide +kernel
theorem dX12_given_56 : decode cX12_given 56 = .ok (.if_icmp .ge 35, 3) := by decide +kernel
theorem dX12_given_59 : decode cX12_given 59 = .ok (.iload_n 2, 1) := by decide +kernel
theorem dX12_given_60 : decode cX12_given 60 = .ok (.aload_n 0, 1) := by decide +kernel
theorem dX12_given_61 : decode cX12_given 61 = .ok (.getfield 240, 3) := by decide +kernel
theorem dX12_given_64 : decode cX12_given 64 = .ok (.iload_n 3, 1) := by decide +kernel
theorem dX12_given_65 : decode cX12_given 65 = .ok (.iaload, 1) := by decide +kernel
theorem dX12_given_66 : decode cX12_given 66 = .ok (.invokestatic 544, 3) := by decide +kernel
theorem dX12_given_69 : decode cX12_given 69 = .ok (.aload_n 0, 1) := by decide +kernel
theorem dX12_given_70 : decode cX12_given 70 = .ok (.getfield 225, 3) := by decide +kernel
theorem dX12_given_73 : decode cX12_given 73 = .ok (.iload_n 3, 1) := by decide +kernel
theorem dX12_given_74 : decode cX12_given 74 = .ok (.iaload, 1) := by decide +kernel
theorem dX12_given_75 : decode cX12_given 75 = .ok (.if_icmp .lt 7, 3) := by decide +kernel
theorem dX12_given_78 : decode cX12_given 78 = .ok (.iconst 1, 1) := by decide +kernel
theorem dX12_given_79 : decode cX12_given 79 = .ok (.goto 4, 3) := by decide +kernel
theorem dX12_given_82 : decode cX12_given 82 = .ok (.iconst 0, 1) := by decide +kernel
theorem dX12_given_83 : decode cX12_given 83 = .ok (.iadd, 1) := by decide +kernel
theorem dX12_given_84 : decode cX12_given 84 = .ok (.istore_n 2, 1) := by decide +kernel
theorem dX12_given_85 : decode cX12_given 85 = .ok (.iinc 3 1, 3) := by decide +kernel
theorem dX12_given_88 : decode cX12_given 88 = .ok (.goto (-37), 3) := by decide +kernel
theorem dX12_given_91 : decode cX12_given 91 = .ok (.iload_n 2, 1) := by decide +kernel
theorem dX12_given_92 : decode cX12_given 92 = .ok (.ireturn, 1) := by decide +kernel
theorem dX12_given_93 : decode cX12_given 93 = .ok (.iconst 0, 1) := by decide +kernel
theorem dX12_given_94 : decode cX12_given 94 = .ok (.istore_n 3, 1) := by decide +kernel
theorem dX12_given_95 : decode cX12_given 95 = .ok (.iload_n 3, 1) := by decide +kernel
theorem dX12_given_96 : decode cX12_given 96 = .ok (.aload_n 0, 1) := by decide +kernel
theorem dX12_given_97 : decode cX12_given 97 = .ok (.getfield 222, 3) := by decide +kernel
theorem dX12_given_100 : decode cX12_given 100 = .ok (.if_icmp .ge 28, 3) := by decide +kernel
theorem dX12_given_103 : decode cX12_given 103 = .ok (.iload_n 2, 1) := by decide +kernel
theorem dX12_given_104 : decode cX12_given 104 = .ok (.aload_n 0, 1) := by decide +kernel
theorem dX12_given_105 : decode cX12_given 105 = .ok (.getfield 225, 3) := by decide +kernel
theorem dX12_given_108 : decode cX12_given 108 = .ok (.iload_n 3, 1) := by decide +kernel
theorem dX12_given_109 : decode cX12_given 109 = .ok (.iaload, 1) := by decide +kernel
theorem dX12_given_110 : decode cX12_given 110 = .ok (.aload_n 0, 1) := by decide +kernel
theorem dX12_given_111 : decode cX12_given 111 = .ok (.getfield 240, 3) := by decide +kernel
theorem dX12_given_114 : decode cX12_given 114 = .ok (.iload_n 3, 1) := by decide +kernel
theorem dX12_given_115 : decode cX12_given 115 = .ok (.iaload, 1) := by decide +kernel
theorem dX12_given_116 : decode cX12_given 116 = .ok (.invokestatic 544, 3) := by decide +kernel
theorem dX12_given_119 : decode cX12_given 119 = .ok (.isub, 1) := by decide +kernel
theorem dX12_given_120 : decode cX12_given 120 = .ok (.iadd, 1) := by decide +kernel
theorem dX12_given_121 : decode cX12_given 121 = .ok (.istore_n 2, 1) := by decide +kernel
theorem dX12_given_122 : decode cX12_given 122 = .ok (.iinc 3 1, 3) := by decide +kernel
theorem dX12_given_125 : decode cX12_given 125 = .ok (.goto (-30), 3) := by decide +kernel
theorem dX12_given_128 : decode cX12_given 128 = .ok (.iload_n 2, 1) := by decide +kernel
theorem dX12_given_129 : decode cX12_given 129 = .ok (.ireturn, 1) := by decide +kernel
theorem dX12_given_130 : decode cX12_given 130 = .ok (.iconst 0, 1) := by decide +kernel
theorem dX12_given_131 : decode cX12_given 131 = .ok (.istore_n 3, 1) := by decide +kernel
theorem dX12_given_132 : decode cX12_given 132 = .ok (.iload_n 3, 1) := by decide +kernel
theorem dX12_given_133 : decode cX12_given 133 = .ok (.aload_n 0, 1) := by decide +kernel
theorem dX12_given_134 : decode cX12_given 134 = .ok (.getfield 54, 3) := by decide +kernel
theorem dX12_given_137 : decode cX12_given 137 = .ok (.aload_n 0, 1) := by decide +kernel
theorem dX12_given_138 : decode cX12_given 138 = .ok (.getfield 48, 3) := by decide +kernel
theorem dX12_given_141 : decode cX12_given 141 = .ok (.iaload, 1) := by decide +kernel
theorem dX12_given_142 : decode cX12_given 142 = .ok (.if_icmp .ge 18, 3) := by decide +kernel
theorem dX12_given_145 : decode cX12_given 145 = .ok (.iload_n 2, 1) := by decide +kernel
theorem dX12_given_146 : decode cX12_given 146 = .ok (.aload_n 0, 1) := by decide +kernel
theorem dX12_given_147 : decode cX12_given 147 = .ok (.getfield 246, 3) := by decide +kernel
theorem dX12_given_150 : decode cX12_given 150 = .ok (.iload_n 3, 1) := by decide +kernel
theorem dX12_given_151 : decode cX12_given 151 = .ok (.iaload, 1) := by decide +kernel
theorem dX12_given_152 : decode cX12_given 152 = .ok (.iadd, 1) := by decide +kernel
theorem dX12_given_153 : decode cX12_given 153 = .ok (.istore_n 2, 1) := by decide +kernel
theorem dX12_given_154 : decode cX12_given 154 = .ok (.iinc 3 1, 3) := by decide +kernel
theorem dX12_given_157 : decode cX12_given 157 = .ok (.goto (-25), 3) := by decide +kernel
theorem dX12_given_160 : decode cX12_given 160 = .ok (.iload_n 2, 1) := by decide +kernel
theorem dX12_given_161 : decode cX12_given 161 = .ok (.ireturn, 1) := by decide +kernel
theorem dX12_given_162 : decode cX12_given 162 = .ok (.iconst (-1), 1) := by decide +kernel
theorem dX12_given_163 : decode cX12_given 163 = .ok (.ireturn, 1) := by decide +kernel
theorem dX12_goes_0 : decode cX12_goes 0 = .ok (.iload_n 2, 1) := by decide +kernel
theorem dX12_goes_1 : decode cX12_goes 1 = .ok (.istore_n 3, 1) := by decide +kernel
theorem dX12_goes_2 : decode cX12_goes 2 = .ok (.iload_n 3, 1) := by decide +kernel
theorem dX12_goes_3 : decode cX12_goes 3 = .ok (.iload_n 1, 1) := by decide +kernel
theorem dX12_goes_4 : decode cX12_goes 4 = .ok (.if_icmp .eq 50, 3) := by decide +kernel
theorem dX12_goes_7 : decode cX12_goes 7 = .ok (.aload_n 0, 1) := by decide +kernel
theorem dX12_goes_8 : decode cX12_goes 8 = .ok (.getfield 195, 3) := by decide +kernel
theorem dX12_goes_11 : decode cX12_goes 11 = .ok (.aload_n 0, 1) := by decide +kernel
theorem dX12_goes_12 : decode cX12_goes 12 = .ok (.getfield 207, 3) := by decide +kernel
theorem dX12_goes_15 : decode cX12_goes 15 = .ok (.iload_n 3, 1) := by decide +kernel
theorem dX12_goes_16 : decode cX12_goes 16 = .ok (.iaload, 1) := by decide +kernel
theorem dX12_goes_17 : decode cX12_goes 17 = .ok (.dup2, 1) := by decide +kernel
theorem dX12_goes_18 : decode cX12_goes 18 = .ok (.iaload, 1) := by decide +kernel
theorem dX12_goes_19 : decode cX12_goes 19 = .ok (.iconst 1, 1) := by decide +kernel
theorem dX12_goes_20 : decode cX12_goes 20 = .ok (.isub, 1) := by decide +kernel
theorem dX12_goes_21 : decode cX12_goes 21 = .ok (.iastore, 1) := by decide +kernel
theorem dX12_goes_22 : decode cX12_goes 22 = .ok (.aload_n 0, 1) := by decide +kernel
theorem dX12_goes_23 : decode cX12_goes 23 = .ok (.getfield 195, 3) := by decide +kernel
theorem dX12_goes_26 : decode cX12_goes 26 = .ok (.aload_n 0, 1) := by decide +kernel
theorem dX12_goes_27 : decode cX12_goes 27 = .ok (.getfield 207, 3) := by decide +kernel
theorem dX12_goes_30 : decode cX12_goes 30 = .ok (.iload_n 3, 1) := by decide +kernel
theorem dX12_goes_31 : decode cX12_goes 31 = .ok (.iaload, 1) := by decide +kernel
theorem dX12_goes_32 : decode cX12_goes 32 = .ok (.iconst 1, 1) := by decide +kernel
theorem dX12_goes_33 : decode cX12_goes 33 = .ok (.ixor, 1) := by decide +kernel
theorem dX12_goes_34 : decode cX12_goes 34 = .ok (.dup2, 1) := by decide +kernel
theorem dX12_goes_35 : decode cX12_goes 35 = .ok (.iaload, 1) := by decide +kernel
theorem dX12_goes_36 : decode cX12_goes 36 = .ok (.iconst 1, 1) := by decide +kernel
theorem dX12_goes_37 : decode cX12_goes 37 = .ok (.iadd, 1) := by decide +kernel
theorem dX12_goes_38 : decode cX12_goes 38 = .ok (.iastore, 1) := by decide +kernel
theorem dX12_goes_39 : decode cX12_goes 39 = .ok (.aload_n 0, 1) := by decide +kernel
theorem dX12_goes_40 : decode cX12_goes 40 = .ok (.getfield 189, 3) := by decide +kernel
theorem dX12_goes_43 : decode cX12_goes 43 = .ok (.aload_n 0, 1) := by decide +kernel
theorem dX12_goes_44 : decode cX12_goes 44 = .ok (.getfield 207, 3) := by decide +kernel
theorem dX12_goes_47 : decode cX12_goes 47 = .ok (.iload_n 3, 1) := by decide +kernel
theorem dX12_goes_48 : decode cX12_goes 48 = .ok (.iaload, 1) := by decide +kernel
theorem dX12_goes_49 : decode cX12_goes 49 = .ok (.iaload, 1) := by decide +kernel
theorem dX12_goes_50 : decode cX12_goes 50 = .ok (.istore_n 3, 1) := by decide +kernel
theorem dX12_goes_51 : decode cX12_goes 51 = .ok (.goto (-49), 3) := by decide +kernel
theorem dX12_goes_54 : decode cX12_goes 54 = .ok (.return_, 1) := by decide +kernel
theorem dX12_goesOn_0 : decode cX12_goesOn 0 = .ok (.aload_n 0, 1) := by decide +kernel
theorem dX12_goesOn_1 : decode cX12_goesOn 1 = .ok (.getfield 110, 3) := by decide +kernel
theorem dX12_goesOn_4 : decode cX12_goesOn 4 = .ok (.iconst 1, 1) := by decide +kernel
theorem dX12_goesOn_5 : decode cX12_goesOn 5 = .ok (.isub, 1) := by decide +kernel
theorem dX12_goesOn_6 : decode cX12_goesOn 6 = .ok (.istore_n 1, 1) := by decide +kernel
theorem dX12_goesOn_7 : decode cX12_goesOn 7 = .ok (.aload_n 0, 1) := by decide +kernel
theorem dX12_goesOn_8 : decode cX12_goesOn 8 = .ok (.getfield 97, 3) := by decide +kernel
theorem dX12_goesOn_11 : decode cX12_goesOn 11 = .ok (.iload_n 1, 1) := by decide +kernel
theorem dX12_goesOn_12 : decode cX12_goesOn 12 = .ok (.iaload, 1) := by decide +kernel
theorem dX12_goesOn_13 : decode cX12_goesOn 13 = .ok (.istore_n 2, 1) := by decide +kernel
theorem dX12_goesOn_14 : decode cX12_goesOn 14 = .ok (.iload_n 2, 1) := by decide +kernel
theorem dX12_goesOn_15 : decode cX12_goesOn 15 = .ok (.ifCond .eq 25, 3) := by decide +kernel
theorem dX12_goesOn_18 : decode cX12_goesOn 18 = .ok (.iload_n 2, 1) := by decide +kernel
theorem dX12_goesOn_19 : decode cX12_goesOn 19 = .ok (.iconst 3, 1) := by decide +kernel
theorem dX12_goesOn_20 : decode cX12_goesOn 20 = .ok (.if_icmp .eq 20, 3) := by decide +kernel
theorem dX12_goesOn_23 : decode cX12_goesOn 23 = .ok (.iload_n 2, 1) := by decide +kernel
theorem dX12_goesOn_24 : decode cX12_goesOn 24 = .ok (.invokestatic 383, 3) := by decide +kernel
theorem dX12_goesOn_27 : decode cX12_goesOn 27 = .ok (.ifCond .eq 17, 3) := by decide +kernel
theorem dX12_goesOn_30 : decode cX12_goesOn 30 = .ok (.aload_n 0, 1) := by decide +kernel
theorem dX12_goesOn_31 : decode cX12_goesOn 31 = .ok (.getfield 100, 3) := by decide +kernel
theorem dX12_goesOn_34 : decode cX12_goesOn 34 = .ok (.iload_n 1, 1) := by decide +kernel
theorem dX12_goesOn_35 : decode cX12_goesOn 35 = .ok (.iaload, 1) := by decide +kernel
theorem dX12_goesOn_36 : decode cX12_goesOn 36 = .ok (.iconst 2, 1) := by decide +kernel
theorem dX12_goesOn_37 : decode cX12_goesOn 37 = .ok (.if_icmp .ge 7, 3) := by decide +kernel
theorem dX12_goesOn_40 : decode cX12_goesOn 40 = .ok (.iconst 1, 1) := by decide +kernel
theorem dX12_goesOn_41 : decode cX12_goesOn 41 = .ok (.goto 4, 3) := by decide +kernel
theorem dX12_goesOn_44 : decode cX12_goesOn 44 = .ok (.iconst 0, 1) := by decide +kernel
theorem dX12_goesOn_45 : decode cX12_goesOn 45 = .ok (.istore_n 3, 1) := by decide +kernel
theorem dX12_goesOn_46 : decode cX12_goesOn 46 = .ok (.iload_n 3, 1) := by decide +kernel
theorem dX12_goesOn_47 : decode cX12_goesOn 47 = .ok (.ifCond .eq 80, 3) := by decide +kernel
theorem dX12_goesOn_50 : decode cX12_goesOn 50 = .ok (.aload_n 0, 1) := by decide +kernel
theorem dX12_goesOn_51 : decode cX12_goesOn 51 = .ok (.bipush 43, 2) := by decide +kernel
theorem dX12_goesOn_53 : decode cX12_goesOn 53 = .ok (.invokevirtual 315, 3) := by decide +kernel
theorem dX12_goesOn_56 : decode cX12_goesOn 56 = .ok (.ifCond .ne 21, 3) := by decide +kernel
theorem dX12_goesOn_59 : decode cX12_goesOn 59 = .ok (.aload_n 0, 1) := by decide +kernel
theorem dX12_goesOn_60 : decode cX12_goesOn 60 = .ok (.bipush 45, 2) := by decide +kernel
theorem dX12_goesOn_62 : decode cX12_goesOn 62 = .ok (.invokevirtual 315, 3) := by decide +kernel
theorem dX12_goesOn_65 : decode cX12_goesOn 65 = .ok (.ifCond .ne 12, 3) := by decide +kernel
theorem dX12_goesOn_68 : decode cX12_goesOn 68 = .ok (.aload_n 0, 1) := by decide +kernel
theorem dX12_goesOn_69 : decode cX12_goesOn 69 = .ok (.bipush 42, 2) := by decide +kernel
theorem dX12_goesOn_71 : decode cX12_goesOn 71 = .ok (.invokevirtual 315, 3) := by decide +kernel
theorem dX12_goesOn_74 : decode cX12_goesOn 74 = .ok (.ifCond .eq 53, 3) := by decide +kernel
theorem dX12_goesOn_77 : decode cX12_goesOn 77 = .ok (.aload_n 0, 1) := by decide +kernel
theorem dX12_goesOn_78 : decode cX12_goesOn 78 = .ok (.iconst 5, 1) := by decide +kernel
theorem dX12_goesOn_79 : decode cX12_goesOn 79 = .ok (.invokevirtual 405, 3) := by decide +kernel
theorem dX12_goesOn_82 : decode cX12_goesOn 82 = .ok (.aload_n 0, 1) := by decide +kernel
theorem dX12_goesOn_83 : decode cX12_goesOn 83 = .ok (.aload_n 0, 1) := by decide +kernel
theorem dX12_goesOn_84 : decode cX12_goesOn 84 = .ok (.bipush 43, 2) := by decide +kernel
theorem dX12_goesOn_86 : decode cX12_goesOn 86 = .ok (.invokevirtual 315, 3) := by decide +kernel
theorem dX12_goesOn_89 : decode cX12_goesOn 89 = .ok (.ifCond .eq 8, 3) := by decide +kernel
theorem dX12_goesOn_92 : decode cX12_goesOn 92 = .ok (.bipush 10, 2) := by decide +kernel
theorem dX12_goesOn_94 : decode cX12_goesOn 94 = .ok (.goto 19, 3) := by decide +kernel
theorem dX12_goesOn_97 : decode cX12_goesOn 97 = .ok (.aload_n 0, 1) := by decide +kernel
theorem dX12_goesOn_98 : decode cX12_goesOn 98 = .ok (.bipush 45, 2) := by decide +kernel
theorem dX12_goesOn_100 : decode cX12_goesOn 100 = .ok (.invokevirtual 315, 3) := by decide +kernel
theorem dX12_goesOn_103 : decode cX12_goesOn 103 = .ok (.ifCond .eq 8, 3) := by decide +kernel
theorem dX12_goesOn_106 : decode cX12_goesOn 106 = .ok (.bipush 11, 2) := by decide +kernel
theorem dX12_goesOn_108 : decode cX12_goesOn 108 = .ok (.goto 5, 3) := by decide +kernel
theorem dX12_goesOn_111 : decode cX12_goesOn 111 = .ok (.bipush 12, 2) := by decide +kernel
theorem dX12_goesOn_113 : decode cX12_goesOn 113 = .ok (.invokevirtual 380, 3) := by decide +kernel
theorem dX12_goesOn_116 : decode cX12_goesOn 116 = .ok (.aload_n 0, 1) := by decide +kernel
theorem dX12_goesOn_117 : decode cX12_goesOn 117 = .ok (.invokevirtual 312, 3) := by decide +kernel
theorem dX12_goesOn_120 : decode cX12_goesOn 120 = .ok (.aload_n 0, 1) := by decide +kernel
theorem dX12_goesOn_121 : decode cX12_goesOn 121 = .ok (.iconst 0, 1) := by decide +kernel
theorem dX12_goesOn_122 : decode cX12_goesOn 122 = .ok (.putfield 122, 3) := by decide +kernel
theorem dX12_goesOn_125 : decode cX12_goesOn 125 = .ok (.iconst 1, 1) := by decide +kernel
theorem dX12_goesOn_126 : decode cX12_goesOn 126 = .ok (.ireturn, 1) := by decide +kernel
theorem dX12_goesOn_127 : decode cX12_goesOn 127 = .ok (.iload_n 2, 1) := by decide +kernel
theorem dX12_goesOn_128 : decode cX12_goesOn 128 = .ok (.invokestatic 383, 3) := by decide +kernel
theorem dX12_goesOn_131 : decode cX12_goesOn 131 = .ok (.ifCond .eq 96, 3) := by decide +kernel
theorem dX12_goesOn_134 : decode cX12_goesOn 134 = .ok (.aload_n 0, 1) := by decide +kernel
theorem dX12_goesOn_135 : decode cX12_goesOn 135 = .ok (.getfield 100, 3) := by decide +kernel
theorem dX12_goesOn_138 : decode cX12_goesOn 138 = .ok (.iload_n 1, 1) := by decide +kernel
theorem dX12_goesOn_139 : decode cX12_goesOn 139 = .ok (.iaload, 1) := by decide +kernel
theorem dX12_goesOn_140 : decode cX12_goesOn 140 = .ok (.ifCond .ne 87, 3) := by decide +kernel
theorem dX12_goesOn_143 : decode cX12_goesOn 143 = .ok (.aload_n 0, 1) := by decide +kernel
theorem dX12_goesOn_144 : decode cX12_goesOn 144 = .ok (.bipush 60, 2) := by decide +kernel
theorem dX12_goesOn_146 : decode cX12_goesOn 146 = .ok (.invokevirtual 315, 3) := by decide +kernel
theorem dX12_goesOn_149 : decode cX12_goesOn 149 = .ok (.ifCond .ne 21, 3) := by decide +kernel
theorem dX12_goesOn_152 : decode cX12_goesOn 152 = .ok (.aload_n 0, 1) := by decide +kernel
theorem dX12_goesOn_153 : decode cX12_goesOn 153 = .ok (.bipush 62, 2) := by decide +kernel
theorem dX12_goesOn_155 : decode cX12_goesOn 155 = .ok (.invokevirtual 315, 3) := by decide +kernel
theorem dX12_goesOn_158 : decode cX12_goesOn 158 = .ok (.ifCond .ne 12, 3) := by decide +kernel
theorem dX12_goesOn_161 : decode cX12_goesOn 161 = .ok (.aload_n 0, 1) := by decide +kernel
theorem dX12_goesOn_162 : decode cX12_goesOn 162 = .ok (.bipush 61, 2) := by decide +kernel
theorem dX12_goesOn_164 : decode cX12_goesOn 164 = .ok (.invokevirtual 315, 3) := by decide +kernel
theorem dX12_goesOn_167 : decode cX12_goesOn 167 = .ok (.ifCond .eq 60, 3) := by decide +kernel
theorem dX12_goesOn_170 : decode cX12_goesOn 170 = .ok (.aload_n 0, 1) := by decide +kernel
theorem dX12_goesOn_171 : decode cX12_goesOn 171 = .ok (.iconst 5, 1) := by decide +kernel
theorem dX12_goesOn_172 : decode cX12_goesOn 172 = .ok (.invokevirtual 405, 3) := by decide +kernel
theorem dX12_goesOn_175 : decode cX12_goesOn 175 = .ok (.aload_n 0, 1) := by decide +kernel
theorem dX12_goesOn_176 : decode cX12_goesOn 176 = .ok (.aload_n 0, 1) := by decide +kernel
theorem dX12_goesOn_177 : decode cX12_goesOn 177 = .ok (.bipush 60, 2) := by decide +kernel
theorem dX12_goesOn_179 : decode cX12_goesOn 179 = .ok (.invokevirtual 315, 3) := by decide +kernel
theorem dX12_goesOn_182 : decode cX12_goesOn 182 = .ok (.ifCond .eq 8, 3) := by decide +kernel
theorem dX12_goesOn_185 : decode cX12_goesOn 185 = .ok (.bipush 13, 2) := by decide +kernel
theorem dX12_goesOn_187 : decode cX12_goesOn 187 = .ok (.goto 19, 3) := by decide +kernel
theorem dX12_goesOn_190 : decode cX12_goesOn 190 = .ok (.aload_n 0, 1) := by decide +kernel
theorem dX12_goesOn_191 : decode cX12_goesOn 191 = .ok (.bipush 62, 2) := by decide +kernel
theorem dX12_goesOn_193 : decode cX12_goesOn 193 = .ok (.invokevirtual 315, 3) := by decide +kernel
theorem dX12_goesOn_196 : decode cX12_goesOn 196 = .ok (.ifCond .eq 8, 3) := by decide +kernel
theorem dX12_goesOn_199 : decode cX12_goesOn 199 = .ok (.bipush 14, 2) := by decide +kernel
theorem dX12_goesOn_201 : decode cX12_goesOn 201 = .ok (.goto 5, 3) := by decide +kernel
theorem dX12_goesOn_204 : decode cX12_goesOn 204 = .ok (.bipush 15, 2) := by decide +kernel
theorem dX12_goesOn_206 : decode cX12_goesOn 206 = .ok (.invokevirtual 380, 3) := by decide +kernel
theorem dX12_goesOn_209 : decode cX12_goesOn 209 = .ok (.aload_n 0, 1) := by decide +kernel
theorem dX12_goesOn_210 : decode cX12_goesOn 210 = .ok (.getfield 100, 3) := by decide +kernel
theorem dX12_goesOn_213 : decode cX12_goesOn 213 = .ok (.iload_n 1, 1) := by decide +kernel
theorem dX12_goesOn_214 : decode cX12_goesOn 214 = .ok (.iconst 1, 1) := by decide +kernel
theorem dX12_goesOn_215 : decode cX12_goesOn 215 = .ok (.iastore, 1) := by decide +kernel
theorem dX12_goesOn_216 : decode cX12_goesOn 216 = .ok (.aload_n 0, 1) := by decide +kernel
theorem dX12_goesOn_217 : decode cX12_goesOn 217 = .ok (.invokevirtual 312, 3) := by decide +kernel
theorem dX12_goesOn_220 : decode cX12_goesOn 220 = .ok (.aload_n 0, 1) := by decide +kernel
theorem dX12_goesOn_221 : decode cX12_goesOn 221 = .ok (.iconst 0, 1) := by decide +kernel
theorem dX12_goesOn_222 : decode cX12_goesOn 222 = .ok (.putfield 122, 3) := by decide +kernel
theorem dX12_goesOn_225 : decode cX12_goesOn 225 = .ok (.iconst 1, 1) := by decide +kernel
theorem dX12_goesOn_226 : decode cX12_goesOn 226 = .ok (.ireturn, 1) := by decide +kernel
theorem dX12_goesOn_227 : decode cX12_goesOn 227 = .ok (.iload_n 2, 1) := by decide +kernel
theorem dX12_goesOn_228 : decode cX12_goesOn 228 = .ok (.invokestatic 383, 3) := by decide +kernel
theorem dX12_goesOn_231 : decode cX12_goesOn 231 = .ok (.ifCond .ne 10, 3) := by decide +kernel
theorem dX12_goesOn_234 : decode cX12_goesOn 234 = .ok (.iload_n 2, 1) := by decide +kernel
theorem dX12_goesOn_235 : decode cX12_goesOn 235 = .ok (.invokestatic 389, 3) := by decide +kernel
theorem dX12_goesOn_238 : decode cX12_goesOn 238 = .ok (.ifCond .eq 114, 3) := by decide +kernel
theorem dX12_goesOn_241 : decode cX12_goesOn 241 = .ok (.aload_n 0, 1) := by decide +kernel
theorem dX12_goesOn_242 : decode cX12_goesOn 242 = .ok (.ldc2_w 350, 3) := by decide +kernel
theorem dX12_goesOn_245 : decode cX12_goesOn 245 = .ok (.invokevirtual 318, 3) := by decide +kernel
theorem dX12_goesOn_248 : decode cX12_goesOn 248 = .ok (.ifCond .ne 13, 3) := by decide +kernel
theorem dX12_goesOn_251 : decode cX12_goesOn 251 = .ok (.aload_n 0, 1) := by decide +kernel
theorem dX12_goesOn_252 : decode cX12_goesOn 252 = .ok (.ldc2_w 348, 3) := by decide +kernel
theorem dX12_goesOn_255 : decode cX12_goesOn 255 = .ok (.invokevirtual 318, 3) := by decide +kernel
theorem dX12_goesOn_258 : decode cX12_goesOn 258 = .ok (.ifCond .eq 94, 3) := by decide +kernel
theorem dX12_goesOn_261 : decode cX12_goesOn 261 = .ok (.aload_n 0, 1) := by decide +kernel
theorem dX12_goesOn_262 : decode cX12_goesOn 262 = .ok (.getfield 100, 3) := by decide +kernel
theorem dX12_goesOn_265 : decode cX12_goesOn 265 = .ok (.iload_n 1, 1) := by decide +kernel
theorem dX12_goesOn_266 : decode cX12_goesOn 266 = .ok (.iaload, 1) := by decide +kernel
theorem dX12_goesOn_267 : decode cX12_goesOn 267 = .ok (.ifCond .ne 12, 3) := by decide +kernel
theorem dX12_goesOn_270 : decode cX12_goesOn 270 = .ok (.aload_n 0, 1) := by decide +kernel
theorem dX12_goesOn_271 : decode cX12_goesOn 271 = .ok (.iconst 1, 1) := by decide +kernel
theorem dX12_goesOn_272 : decode cX12_goesOn 272 = .ok (.aload_n 0, 1) := by decide +kernel
theorem dX12_goesOn_273 : decode cX12_goesOn 273 = .ok (.getfield 23, 3) := by decide +kernel
theorem dX12_goesOn_276 : decode cX12_goesOn 276 = .ok (.invokevirtual 308, 3) := by decide +kernel
theorem dX12_goesOn_279 : decode cX12_goesOn 279 = .ok (.aload_n 0, 1) := by decide +kernel
theorem dX12_goesOn_280 : decode cX12_goesOn 280 = .ok (.getfield 36, 3) := by decide +kernel
theorem dX12_goesOn_283 : decode cX12_goesOn 283 = .ok (.ifCond .le 5, 3) := by decide +kernel
theorem dX12_goesOn_286 : decode cX12_goesOn 286 = .ok (.iconst 0, 1) := by decide +kernel
theorem dX12_goesOn_287 : decode cX12_goesOn 287 = .ok (.ireturn, 1) := by decide +kernel
theorem dX12_goesOn_288 : decode cX12_goesOn 288 = .ok (.aload_n 0, 1) := by decide +kernel
theorem dX12_goesOn_289 : decode cX12_goesOn 289 = .ok (.ldc2_w 350, 3) := by decide +kernel
theorem dX12_goesOn_292 : decode cX12_goesOn 292 = .ok (.invokevirtual 318, 3) := by decide +kernel
theorem dX12_goesOn_295 : decode cX12_goesOn 295 = .ok (.istore 4, 2) := by decide +kernel
theorem dX12_goesOn_297 : decode cX12_goesOn 297 = .ok (.aload_n 0, 1) := by decide +kernel
theorem dX12_goesOn_298 : decode cX12_goesOn 298 = .ok (.iload 4, 2) := by decide +kernel
theorem dX12_goesOn_300 : decode cX12_goesOn 300 = .ok (.ifCond .eq 7, 3) := by decide +kernel
theorem dX12_goesOn_303 : decode cX12_goesOn 303 = .ok (.iconst 2, 1) := by decide +kernel
theorem dX12_goesOn_304 : decode cX12_goesOn 304 = .ok (.goto 4, 3) := by decide +kernel
theorem dX12_goesOn_307 : decode cX12_goesOn 307 = .ok (.iconst 1, 1) := by decide +kernel
theorem dX12_goesOn_308 : decode cX12_goesOn 308 = .ok (.invokevirtual 405, 3) := by decide +kernel
theorem dX12_goesOn_311 : decode cX12_goesOn 311 = .ok (.aload_n 0, 1) := by decide +kernel
theorem dX12_goesOn_312 : decode cX12_goesOn 312 = .ok (.iload 4, 2) := by decide +kernel
theorem dX12_goesOn_314 : decode cX12_goesOn 314 = .ok (.ifCond .eq 8, 3) := by decide +kernel
theorem dX12_goesOn_317 : decode cX12_goesOn 317 = .ok (.bipush 16, 2) := by decide +kernel
theorem dX12_goesOn_319 : decode cX12_goesOn 319 = .ok (.goto 5, 3) := by decide +kernel
theorem dX12_goesOn_322 : decode cX12_goesOn 322 = .ok (.bipush 17, 2) := by decide +kernel
theorem dX12_goesOn_324 : decode cX12_goesOn 324 = .ok (.invokevirtual 380, 3) := by decide +kernel
theorem dX12_goesOn_327 : decode cX12_goesOn 327 = .ok (.aload_n 0, 1) := by decide +kernel
theorem dX12_goesOn_328 : decode cX12_goesOn 328 = .ok (.getfield 100, 3) := by decide +kernel
theorem dX12_goesOn_331 : decode cX12_goesOn 331 = .ok (.iload_n 1, 1) := by decide +kernel
theorem dX12_goesOn_332 : decode cX12_goesOn 332 = .ok (.iconst 0, 1) := by decide +kernel
theorem dX12_goesOn_333 : decode cX12_goesOn 333 = .ok (.iastore, 1) := by decide +kernel
theorem dX12_goesOn_334 : decode cX12_goesOn 334 = .ok (.aload_n 0, 1) := by decide +kernel
theorem dX12_goesOn_335 : decode cX12_goesOn 335 = .ok (.getfield 103, 3) := by decide +kernel
theorem dX12_goesOn_338 : decode cX12_goesOn 338 = .ok (.iload_n 1, 1) := by decide +kernel
theorem dX12_goesOn_339 : decode cX12_goesOn 339 = .ok (.iconst 1, 1) := by decide +kernel
theorem dX12_goesOn_340 : decode cX12_goesOn 340 = .ok (.bastore, 1) := by decide +kernel
theorem dX12_goesOn_341 : decode cX12_goesOn 341 = .ok (.aload_n 0, 1) := by decide +kernel
theorem dX12_goesOn_342 : decode cX12_goesOn 342 = .ok (.invokevirtual 312, 3) := by decide +kernel
theorem dX12_goesOn_345 : decode cX12_goesOn 345 = .ok (.aload_n 0, 1) := by decide +kernel
theorem dX12_goesOn_346 : decode cX12_goesOn 346 = .ok (.iconst 0, 1) := by decide +kernel
theorem dX12_goesOn_347 : decode cX12_goesOn 347 = .ok (.putfield 122, 3) := by decide +kernel
theorem dX12_goesOn_350 : decode cX12_goesOn 350 = .ok (.iconst 1, 1) := by decide +kernel
theorem dX12_goesOn_351 : decode cX12_goesOn 351 = .ok (.ireturn, 1) := by decide +kernel
theorem dX12_goesOn_352 : decode cX12_goesOn 352 = .ok (.iload_n 2, 1) := by decide +kernel
theorem dX12_goesOn_353 : decode cX12_goesOn 353 = .ok (.invokestatic 383, 3) := by decide +kernel
theorem dX12_goesOn_356 : decode cX12_goesOn 356 = .ok (.ifCond .eq 21, 3) := by decide +kernel
theorem dX12_goesOn_359 : decode cX12_goesOn 359 = .ok (.aload_n 0, 1) := by decide +kernel
theorem dX12_goesOn_360 : decode cX12_goesOn 360 = .ok (.getfield 100, 3) := by decide +kernel
theorem dX12_goesOn_363 : decode cX12_goesOn 363 = .ok (.iload_n 1, 1) := by decide +kernel
theorem dX12_goesOn_364 : decode cX12_goesOn 364 = .ok (.iaload, 1) := by decide +kernel
theorem dX12_goesOn_365 : decode cX12_goesOn 365 = .ok (.ifCond .ne 12, 3) := by decide +kernel
theorem dX12_goesOn_368 : decode cX12_goesOn 368 = .ok (.aload_n 0, 1) := by decide +kernel
theorem dX12_goesOn_369 : decode cX12_goesOn 369 = .ok (.iconst 1, 1) := by decide +kernel
theorem dX12_goesOn_370 : decode cX12_goesOn 370 = .ok (.aload_n 0, 1) := by decide +kernel
theorem dX12_goesOn_371 : decode cX12_goesOn 371 = .ok (.getfield 23, 3) := by decide +kernel
theorem dX12_goesOn_374 : decode cX12_goesOn 374 = .ok (.invokevirtual 308, 3) := by decide +kernel
theorem dX12_goesOn_377 : decode cX12_goesOn 377 = .ok (.iload_n 2, 1) := by decide +kernel
theorem dX12_goesOn_378 : decode cX12_goesOn 378 = .ok (.iconst 3, 1) := by decide +kernel
theorem dX12_goesOn_379 : decode cX12_goesOn 379 = .ok (.if_icmp .ge 17, 3) := by decide +kernel
theorem dX12_goesOn_382 : decode cX12_goesOn 382 = .ok (.aload_n 0, 1) := by decide +kernel
theorem dX12_goesOn_383 : decode cX12_goesOn 383 = .ok (.getfield 36, 3) := by decide +kernel
theorem dX12_goesOn_386 : decode cX12_goesOn 386 = .ok (.ifCond .ne 8, 3) := by decide +kernel
theorem dX12_goesOn_389 : decode cX12_goesOn 389 = .ok (.aload_n 0, 1) := by decide +kernel
theorem dX12_goesOn_390 : decode cX12_goesOn 390 = .ok (.iconst 1, 1) := by decide +kernel
theorem dX12_goesOn_391 : decode cX12_goesOn 391 = .ok (.invokevirtual 405, 3) := by decide +kernel
theorem dX12_goesOn_394 : decode cX12_goesOn 394 = .ok (.iconst 0, 1) := by decide +kernel
theorem dX12_goesOn_395 : decode cX12_goesOn 395 = .ok (.ireturn, 1) := by decide +kernel
theorem dX12_goesOn_396 : decode cX12_goesOn 396 = .ok (.aload_n 0, 1) := by decide +kernel
theorem dX12_goesOn_397 : decode cX12_goesOn 397 = .ok (.iload_n 2, 1) := by decide +kernel
theorem dX12_goesOn_398 : decode cX12_goesOn 398 = .ok (.iconst 3, 1) := by decide +kernel
theorem dX12_goesOn_399 : decode cX12_goesOn 399 = .ok (.if_icmp .ne 8, 3) := by decide +kernel
theorem dX12_goesOn_402 : decode cX12_goesOn 402 = .ok (.bipush 41, 2) := by decide +kernel
theorem dX12_goesOn_404 : decode cX12_goesOn 404 = .ok (.goto 5, 3) := by decide +kernel
theorem dX12_goesOn_407 : decode cX12_goesOn 407 = .ok (.bipush 93, 2) := by decide +kernel
theorem dX12_goesOn_409 : decode cX12_goesOn 409 = .ok (.invokevirtual 315, 3) := by decide +kernel
theorem dX12_goesOn_412 : decode cX12_goesOn 412 = .ok (.ifCond .ne 12, 3) := by decide +kernel
theorem dX12_goesOn_415 : decode cX12_goesOn 415 = .ok (.aload_n 0, 1) := by decide +kernel
theorem dX12_goesOn_416 : decode cX12_goesOn 416 = .ok (.iconst 1, 1) := by decide +kernel
theorem dX12_goesOn_417 : decode cX12_goesOn 417 = .ok (.aload_n 0, 1) := by decide +kernel
theorem dX12_goesOn_418 : decode cX12_goesOn 418 = .ok (.getfield 23, 3) := by decide +kernel
theorem dX12_goesOn_421 : decode cX12_goesOn 421 = .ok (.invokevirtual 308, 3) := by decide +kernel
theorem dX12_goesOn_424 : decode cX12_goesOn 424 = .ok (.aload_n 0, 1) := by decide +kernel
theorem dX12_goesOn_425 : decode cX12_goesOn 425 = .ok (.getfield 36, 3) := by decide +kernel
theorem dX12_goesOn_428 : decode cX12_goesOn 428 = .ok (.ifCond .le 5, 3) := by decide +kernel
theorem dX12_goesOn_431 : decode cX12_goesOn 431 = .ok (.iconst 0, 1) := by decide +kernel
theorem dX12_goesOn_432 : decode cX12_goesOn 432 = .ok (.ireturn, 1) := by decide +kernel
theorem dX12_goesOn_433 : decode cX12_goesOn 433 = .ok (.aload_n 0, 1) := by decide +kernel
theorem dX12_goesOn_434 : decode cX12_goesOn 434 = .ok (.iconst 1, 1) := by decide +kernel
theorem dX12_goesOn_435 : decode cX12_goesOn 435 = .ok (.invokevirtual 405, 3) := by decide +kernel
theorem dX12_goesOn_438 : decode cX12_goesOn 438 = .ok (.aload_n 0, 1) := by decide +kernel
theorem dX12_goesOn_439 : decode cX12_goesOn 439 = .ok (.dup, 1) := by decide +kernel
theorem dX12_goesOn_440 : decode cX12_goesOn 440 = .ok (.getfield 110, 3) := by decide +kernel
theorem dX12_goesOn_443 : decode cX12_goesOn 443 = .ok (.iconst 1, 1) := by decide +kernel
theorem dX12_goesOn_444 : decode cX12_goesOn 444 = .ok (.isub, 1) := by decide +kernel
theorem dX12_goesOn_445 : decode cX12_goesOn 445 = .ok (.putfield 110, 3) := by decide +kernel
theorem dX12_goesOn_448 : decode cX12_goesOn 448 = .ok (.aload_n 0, 1) := by decide +kernel
theorem dX12_goesOn_449 : decode cX12_goesOn 449 = .ok (.dup, 1) := by decide +kernel
theorem dX12_goesOn_450 : decode cX12_goesOn 450 = .ok (.getfield 113, 3) := by decide +kernel
theorem dX12_goesOn_453 : decode cX12_goesOn 453 = .ok (.iconst 1, 1) := by decide +kernel
theorem dX12_goesOn_454 : decode cX12_goesOn 454 = .ok (.isub, 1) := by decide +kernel
theorem dX12_goesOn_455 : decode cX12_goesOn 455 = .ok (.putfield 113, 3) := by decide +kernel
theorem dX12_goesOn_458 : decode cX12_goesOn 458 = .ok (.iload_n 2, 1) := by decide +kernel
theorem dX12_goesOn_459 : decode cX12_goesOn 459 = .ok (.iconst 3, 1) := by decide +kernel
theorem dX12_goesOn_460 : decode cX12_goesOn 460 = .ok (.if_icmp .eq 15, 3) := by decide +kernel
theorem dX12_goesOn_463 : decode cX12_goesOn 463 = .ok (.aload_n 0, 1) := by decide +kernel
theorem dX12_goesOn_464 : decode cX12_goesOn 464 = .ok (.getfield 100, 3) := by decide +kernel
theorem dX12_goesOn_467 : decode cX12_goesOn 467 = .ok (.aload_n 0, 1) := by decide +kernel
theorem dX12_goesOn_468 : decode cX12_goesOn 468 = .ok (.getfield 110, 3) := by decide +kernel
theorem dX12_goesOn_471 : decode cX12_goesOn 471 = .ok (.iconst 1, 1) := by decide +kernel
theorem dX12_goesOn_472 : decode cX12_goesOn 472 = .ok (.isub, 1) := by decide +kernel
theorem dX12_goesOn_473 : decode cX12_goesOn 473 = .ok (.iconst 2, 1) := by decide +kernel
theorem dX12_goesOn_474 : decode cX12_goesOn 474 = .ok (.iastore, 1) := by decide +kernel
theorem dX12_goesOn_475 : decode cX12_goesOn 475 = .ok (.aload_n 0, 1) := by decide +kernel
theorem dX12_goesOn_476 : decode cX12_goesOn 476 = .ok (.invokevirtual 312, 3) := by decide +kernel
theorem dX12_goesOn_479 : decode cX12_goesOn 479 = .ok (.iconst 1, 1) := by decide +kernel
theorem dX12_goesOn_480 : decode cX12_goesOn 480 = .ok (.ireturn, 1) := by decide +kernel
theorem dX12_greatest_0 : decode cX12_greatest 0 = .ok (.aload_n 0, 1) := by decide +kernel
theorem dX12_greatest_1 : decode cX12_greatest 1 = .ok (.aload_n 0, 1) := by decide +kernel
theorem dX12_greatest_2 : decode cX12_greatest 2 = .ok (.getfield 243, 3) := by decide +kernel
theorem dX12_greatest_5 : decode cX12_greatest 5 = .ok (.iload_n 1, 1) := by decide +kernel
theorem dX12_greatest_6 : decode cX12_greatest 6 = .ok (.iaload, 1) := by decide +kernel
theorem dX12_greatest_7 : decode cX12_greatest 7 = .ok (.invokevirtual 553, 3) := by decide +kernel
theorem dX12_greatest_10 : decode cX12_greatest 10 = .ok (.istore_n 2, 1) := by decide +kernel
theorem dX12_greatest_11 : decode cX12_greatest 11 = .ok (.iconst 0, 1) := by decide +kernel
theorem dX12_greatest_12 : decode cX12_greatest 12 = .ok (.istore_n 3, 1) := by decide +kernel
theorem dX12_greatest_13 : decode cX12_greatest 13 = .ok (.iload_n 3, 1) := by decide +kernel
theorem dX12_greatest_14 : decode cX12_greatest 14 = .ok (.aload_n 0, 1) := by decide +kernel
theorem dX12_greatest_15 : decode cX12_greatest 15 = .ok (.getfield 222, 3) := by decide +kernel
theorem dX12_greatest_18 : decode cX12_greatest 18 = .ok (.if_icmp .ge 61, 3) := by decide +kernel
theorem dX12_greatest_21 : decode cX12_greatest 21 = .ok (.aload_n 0, 1) := by decide +kernel
theorem dX12_greatest_22 : decode cX12_greatest 22 = .ok (.getfield 228, 3) := by decide +kernel
theorem dX12_greatest_25 : decode cX12_greatest 25 = .ok (.iload_n 1, 1) := by decide +kernel
theorem dX12_greatest_26 : decode cX12_greatest 26 = .ok (.iaload, 1) := by decide +kernel
theorem dX12_greatest_27 : decode cX12_greatest 27 = .ok (.ifCond .eq 46, 3) := by decide +kernel
theorem dX12_greatest_30 : decode cX12_greatest 30 = .ok (.aload_n 0, 1) := by decide +kernel
theorem dX12_greatest_31 : decode cX12_greatest 31 = .ok (.getfield 228, 3) := by decide +kernel
theorem dX12_greatest_34 : decode cX12_greatest 34 = .ok (.iload_n 3, 1) := by decide +kernel
theorem dX12_greatest_35 : decode cX12_greatest 35 = .ok (.iaload, 1) := by decide +kernel
theorem dX12_greatest_36 : decode cX12_greatest 36 = .ok (.aload_n 0, 1) := by decide +kernel
theorem dX12_greatest_37 : decode cX12_greatest 37 = .ok (.getfield 228, 3) := by decide +kernel
theorem dX12_greatest_40 : decode cX12_greatest 40 = .ok (.iload_n 1, 1) := by decide +kernel
theorem dX12_greatest_41 : decode cX12_greatest 41 = .ok (.iaload, 1) := by decide +kernel
theorem dX12_greatest_42 : decode cX12_greatest 42 = .ok (.if_icmp .eq 6, 3) := by decide +kernel
theorem dX12_greatest_45 : decode cX12_greatest 45 = .ok (.goto 28, 3) := by decide +kernel
theorem dX12_greatest_48 : decode cX12_greatest 48 = .ok (.aload_n 0, 1) := by decide +kernel
theorem dX12_greatest_49 : decode cX12_greatest 49 = .ok (.aload_n 0, 1) := by decide +kernel
theorem dX12_greatest_50 : decode cX12_greatest 50 = .ok (.getfield 243, 3) := by decide +kernel
theorem dX12_greatest_53 : decode cX12_greatest 53 = .ok (.iload_n 3, 1) := by decide +kernel
theorem dX12_greatest_54 : decode cX12_greatest 54 = .ok (.iaload, 1) := by decide +kernel
theorem dX12_greatest_55 : decode cX12_greatest 55 = .ok (.invokevirtual 553, 3) := by decide +kernel
theorem dX12_greatest_58 : decode cX12_greatest 58 = .ok (.istore 4, 2) := by decide +kernel
theorem dX12_greatest_60 : decode cX12_greatest 60 = .ok (.iload 4, 2) := by decide +kernel
theorem dX12_greatest_62 : decode cX12_greatest 62 = .ok (.iload_n 2, 1) := by decide +kernel
theorem dX12_greatest_63 : decode cX12_greatest 63 = .ok (.if_icmp .le 8, 3) := by decide +kernel
theorem dX12_greatest_66 : decode cX12_greatest 66 = .ok (.iload 4, 2) := by decide +kernel
theorem dX12_greatest_68 : decode cX12_greatest 68 = .ok (.goto 4, 3) := by decide +kernel
theorem dX12_greatest_71 : decode cX12_greatest 71 = .ok (.iload_n 2, 1) := by decide +kernel
theorem dX12_greatest_72 : decode cX12_greatest 72 = .ok (.istore_n 2, 1) := by decide +kernel
theorem dX12_greatest_73 : decode cX12_greatest 73 = .ok (.iinc 3 1, 3) := by decide +kernel
theorem dX12_greatest_76 : decode cX12_greatest 76 = .ok (.goto (-63), 3) := by decide +kernel
theorem dX12_greatest_79 : decode cX12_greatest 79 = .ok (.iload_n 2, 1) := by decide +kernel
theorem dX12_greatest_80 : decode cX12_greatest 80 = .ok (.ireturn, 1) := by decide +kernel
theorem dX12_hasWish_0 : decode cX12_hasWish 0 = .ok (.iconst 0, 1) := by decide +kernel
theorem dX12_hasWish_1 : decode cX12_hasWish 1 = .ok (.istore 4, 2) := by decide +kernel
theorem dX12_hasWish_3 : decode cX12_hasWish 3 = .ok (.iload 4, 2) := by decide +kernel
theorem dX12_hasWish_5 : decode cX12_hasWish 5 = .ok (.aload_n 0, 1) := by decide +kernel
theorem dX12_hasWish_6 : decode cX12_hasWish 6 = .ok (.getfield 174, 3) := by decide +kernel
theorem dX12_hasWish_9 : decode cX12_hasWish 9 = .ok (.iload_n 1, 1) := by decide +kernel
theorem dX12_hasWish_10 : decode cX12_hasWish 10 = .ok (.iaload, 1) := by decide +kernel
theorem dX12_hasWish_11 : decode cX12_hasWish 11 = .ok (.if_icmp .ge 27, 3) := by decide +kernel
theorem dX12_hasWish_14 : decode cX12_hasWish 14 = .ok (.aload_n 0, 1) := by decide +kernel
theorem dX12_hasWish_15 : decode cX12_hasWish 15 = .ok (.getfield 177, 3) := by decide +kernel
theorem dX12_hasWish_18 : decode cX12_hasWish 18 = .ok (.iconst 4, 1) := by decide +kernel
theorem dX12_hasWish_19 : decode cX12_hasWish 19 = .ok (.iload_n 1, 1) := by decide +kernel
theorem dX12_hasWish_20 : decode cX12_hasWish 20 = .ok (.imul, 1) := by decide +kernel
theorem dX12_hasWish_21 : decode cX12_hasWish 21 = .ok (.iload 4, 2) := by decide +kernel
theorem dX12_hasWish_23 : decode cX12_hasWish 23 = .ok (.iadd, 1) := by decide +kernel
theorem dX12_hasWish_24 : decode cX12_hasWish 24 = .ok (.laload, 1) := by decide +kernel
theorem dX12_hasWish_25 : decode cX12_hasWish 25 = .ok (.lload_n 2, 1) := by decide +kernel
theorem dX12_hasWish_26 : decode cX12_hasWish 26 = .ok (.lcmp, 1) := by decide +kernel
theorem dX12_hasWish_27 : decode cX12_hasWish 27 = .ok (.ifCond .ne 5, 3) := by decide +kernel
theorem dX12_hasWish_30 : decode cX12_hasWish 30 = .ok (.iconst 1, 1) := by decide +kernel
theorem dX12_hasWish_31 : decode cX12_hasWish 31 = .ok (.ireturn, 1) := by decide +kernel
theorem dX12_hasWish_32 : decode cX12_hasWish 32 = .ok (.iinc 4 1, 3) := by decide +kernel
theorem dX12_hasWish_35 : decode cX12_hasWish 35 = .ok (.goto (-32), 3) := by decide +kernel
theorem dX12_hasWish_38 : decode cX12_hasWish 38 = .ok (.iconst 0, 1) := by decide +kernel
theorem dX12_hasWish_39 : decode cX12_hasWish 39 = .ok (.ireturn, 1) := by decide +kernel
theorem dX12_held_0 : decode cX12_held 0 = .ok (.lload_n 0, 1) := by decide +kernel
theorem dX12_held_1 : decode cX12_held 1 = .ok (.ldc2_w 474, 3) := by decide +kernel
theorem dX12_held_4 : decode cX12_held 4 = .ok (.lcmp, 1) := by decide +kernel
theorem dX12_held_5 : decode cX12_held 5 = .ok (.ifCond .le 9, 3) := by decide +kernel
theorem dX12_held_8 : decode cX12_held 8 = .ok (.ldc2_w 474, 3) := by decide +kernel
theorem dX12_held_11 : decode cX12_held 11 = .ok (.goto 18, 3) := by decide +kernel
theorem dX12_held_14 : decode cX12_held 14 = .ok (.lload_n 0, 1) := by decide +kernel
theorem dX12_held_15 : decode cX12_held 15 = .ok (.ldc2_w 476, 3) := by decide +kernel
theorem dX12_held_18 : decode cX12_held 18 = .ok (.lcmp, 1) := by decide +kernel
theorem dX12_held_19 : decode cX12_held 19 = .ok (.ifCond .ge 9, 3) := by decide +kernel
theorem dX12_held_22 : decode cX12_held 22 = .ok (.ldc2_w 476, 3) := by decide +kernel
theorem dX12_held_25 : decode cX12_held 25 = .ok (.goto 4, 3) := by decide +kernel
theorem dX12_held_28 : decode cX12_held 28 = .ok (.lload_n 0, 1) := by decide +kernel
theorem dX12_held_29 : decode cX12_held 29 = .ok (.lreturn, 1) := by decide +kernel
theorem dX12_inHouse_0 : decode cX12_inHouse 0 = .ok (.aload_n 0, 1) := by decide +kernel
theorem dX12_inHouse_1 : decode cX12_inHouse 1 = .ok (.getfield 168, 3) := by decide +kernel
theorem dX12_inHouse_4 : decode cX12_inHouse 4 = .ok (.iload_n 1, 1) := by decide +kernel
theorem dX12_inHouse_5 : decode cX12_inHouse 5 = .ok (.iaload, 1) := by decide +kernel
theorem dX12_inHouse_6 : decode cX12_inHouse 6 = .ok (.ifCond .ne 5, 3) := by decide +kernel
theorem dX12_inHouse_9 : decode cX12_inHouse 9 = .ok (.iconst 1, 1) := by decide +kernel
theorem dX12_inHouse_10 : decode cX12_inHouse 10 = .ok (.ireturn, 1) := by decide +kernel
theorem dX12_inHouse_11 : decode cX12_inHouse 11 = .ok (.iconst 0, 1) := by decide +kernel
theorem dX12_inHouse_12 : decode cX12_inHouse 12 = .ok (.istore_n 2, 1) := by decide +kernel
theorem dX12_inHouse_13 : decode cX12_inHouse 13 = .ok (.iconst 0, 1) := by decide +kernel
theorem dX12_inHouse_14 : decode cX12_inHouse 14 = .ok (.istore_n 3, 1) := by decide +kernel
theorem dX12_inHouse_15 : decode cX12_inHouse 15 = .ok (.iload_n 3, 1) := by decide +kernel
theorem dX12_inHouse_16 : decode cX12_inHouse 16 = .ok (.aload_n 0, 1) := by decide +kernel
theorem dX12_inHouse_17 : decode cX12_inHouse 17 = .ok (.getfield 150, 3) := by decide +kernel
theorem dX12_inHouse_20 : decode cX12_inHouse 20 = .ok (.if_icmp .ge 32, 3) := by decide +kernel
theorem dX12_inHouse_23 : decode cX12_inHouse 23 = .ok (.iload_n 2, 1) := by decide +kernel
theorem dX12_inHouse_24 : decode cX12_inHouse 24 = .ok (.aload_n 0, 1) := by decide +kernel
theorem dX12_inHouse_25 : decode cX12_inHouse 25 = .ok (.getfield 168, 3) := by decide +kernel
theorem dX12_inHouse_28 : decode cX12_inHouse 28 = .ok (.iload_n 3, 1) := by decide +kernel
theorem dX12_inHouse_29 : decode cX12_inHouse 29 = .ok (.iaload, 1) := by decide +kernel
theorem dX12_inHouse_30 : decode cX12_inHouse 30 = .ok (.aload_n 0, 1) := by decide +kernel
theorem dX12_inHouse_31 : decode cX12_inHouse 31 = .ok (.getfield 168, 3) := by decide +kernel
theorem dX12_inHouse_34 : decode cX12_inHouse 34 = .ok (.iload_n 1, 1) := by decide +kernel
theorem dX12_inHouse_35 : decode cX12_inHouse 35 = .ok (.iaload, 1) := by decide +kernel
theorem dX12_inHouse_36 : decode cX12_inHouse 36 = .ok (.if_icmp .ne 7, 3) := by decide +kernel
theorem dX12_inHouse_39 : decode cX12_inHouse 39 = .ok (.iconst 1, 1) := by decide +kernel
theorem dX12_inHouse_40 : decode cX12_inHouse 40 = .ok (.goto 4, 3) := by decide +kernel
theorem dX12_inHouse_43 : decode cX12_inHouse 43 = .ok (.iconst 0, 1) := by decide +kernel
theorem dX12_inHouse_44 : decode cX12_inHouse 44 = .ok (.iadd, 1) := by decide +kernel
theorem dX12_inHouse_45 : decode cX12_inHouse 45 = .ok (.istore_n 2, 1) := by decide +kernel
theorem dX12_inHouse_46 : decode cX12_inHouse 46 = .ok (.iinc 3 1, 3) := by decide +kernel
theorem dX12_inHouse_49 : decode cX12_inHouse 49 = .ok (.goto (-34), 3) := by decide +kernel
theorem dX12_inHouse_52 : decode cX12_inHouse 52 = .ok (.iload_n 2, 1) := by decide +kernel
theorem dX12_inHouse_53 : decode cX12_inHouse 53 = .ok (.ireturn, 1) := by decide +kernel
theorem dX12_init_0 : decode cX12_init 0 = .ok (.aload_n 0, 1) := by decide +kernel
theorem dX12_init_1 : decode cX12_init 1 = .ok (.invokespecial 1, 3) := by decide +kernel
theorem dX12_init_4 : decode cX12_init 4 = .ok (.aload_n 0, 1) := by decide +kernel
theorem dX12_init_5 : decode cX12_init 5 = .ok (.sipush 1000, 3) := by decide +kernel
theorem dX12_init_8 : decode cX12_init 8 = .ok (.newarray .int, 2) := by decide +kernel
theorem dX12_init_10 : decode cX12_init 10 = .ok (.putfield 7, 3) := by decide +kernel
theorem dX12_init_13 : decode cX12_init 13 = .ok (.aload_n 0, 1) := by decide +kernel
theorem dX12_init_14 : decode cX12_init 14 = .ok (.iconst 0, 1) := by decide +kernel
theorem dX12_init_15 : decode cX12_init 15 = .ok (.putfield 13, 3) := by decide +kernel
theorem dX12_init_18 : decode cX12_init 18 = .ok (.aload_n 0, 1) := by decide +kernel
theorem dX12_init_19 : decode cX12_init 19 = .ok (.iconst 0, 1) := by decide +kernel
theorem dX12_init_20 : decode cX12_init 20 = .ok (.putfield 17, 3) := by decide +kernel
theorem dX12_init_23 : decode cX12_init 23 = .ok (.aload_n 0, 1) := by decide +kernel
theorem dX12_init_24 : decode cX12_init 24 = .ok (.iconst 0, 1) := by decide +kernel
theorem dX12_init_25 : decode cX12_init 25 = .ok (.putfield 20, 3) := by decide +kernel
theorem dX12_init_28 : decode cX12_init 28 = .ok (.aload_n 0, 1) := by decide +kernel
theorem dX12_init_29 : decode cX12_init 29 = .ok (.iconst 0, 1) := by decide +kernel
theorem dX12_init_30 : decode cX12_init 30 = .ok (.putfield 23, 3) := by decide +kernel
theorem dX12_init_33 : decode cX12_init 33 = .ok (.aload_n 0, 1) := by decide +kernel
theorem dX12_init_34 : decode cX12_init 34 = .ok (.iconst 0, 1) := by decide +kernel
theorem dX12_init_35 : decode cX12_init 35 = .ok (.putfield 26, 3) := by decide +kernel
theorem dX12_init_38 : decode cX12_init 38 = .ok (.aload_n 0, 1) := by decide +kernel
theorem dX12_init_39 : decode cX12_init 39 = .ok (.iconst 0, 1) := by decide +kernel
theorem dX12_init_40 : decode cX12_init 40 = .ok (.putfield 29, 3) := by decide +kernel
theorem dX12_init_43 : decode cX12_init 43 = .ok (.aload_n 0, 1) := by decide +kernel
theorem dX12_init_44 : decode cX12_init 44 = .ok (.lconst 0, 1) := by decide +kernel
theorem dX12_init_45 : decode cX12_init 45 = .ok (.putfield 32, 3) := by decide +kernel
theorem dX12_init_48 : decode cX12_init 48 = .ok (.aload_n 0, 1) := by decide +kernel
theorem dX12_init_49 : decode cX12_init 49 = .ok (.iconst 0, 1) := by decide +kernel
theorem dX12_init_50 : decode cX12_init 50 = .ok (.putfield 36, 3) := by decide +kernel
theorem dX12_init_53 : decode cX12_init 53 = .ok (.aload_n 0, 1) := by decide +kernel
theorem dX12_init_54 : decode cX12_init 54 = .ok (.iconst (-1), 1) := by decide +kernel
theorem dX12_init_55 : decode cX12_init 55 = .ok (.putfield 39, 3) := by decide +kernel
theorem dX12_init_58 : decode cX12_init 58 = .ok (.aload_n 0, 1) := by decide +kernel
theorem dX12_init_59 : decode cX12_init 59 = .ok (.iconst 0, 1) := by decide +kernel
theorem dX12_init_60 : decode cX12_init 60 = .ok (.putfield 42, 3) := by decide +kernel
theorem dX12_init_63 : decode cX12_init 63 = .ok (.aload_n 0, 1) := by decide +kernel
theorem dX12_init_64 : decode cX12_init 64 = .ok (.iconst (-1), 1) := by decide +kernel
theorem dX12_init_65 : decode cX12_init 65 = .ok (.putfield 45, 3) := by decide +kernel
theorem dX12_init_68 : decode cX12_init 68 = .ok (.aload_n 0, 1) := by decide +kernel
theorem dX12_init_69 : decode cX12_init 69 = .ok (.iconst 0, 1) := by decide +kernel
theorem dX12_init_70 : decode cX12_init 70 = .ok (.putfield 48, 3) := by decide +kernel
theorem dX12_init_73 : decode cX12_init 73 = .ok (.aload_n 0, 1) := by decide +kernel
theorem dX12_init_74 : decode cX12_init 74 = .ok (.iconst 0, 1) := by decide +kernel
theorem dX12_init_75 : decode cX12_init 75 = .ok (.putfield 51, 3) := by decide +kernel
theorem dX12_init_78 : decode cX12_init 78 = .ok (.aload_n 0, 1) := by decide +kernel
theorem dX12_init_79 : decode cX12_init 79 = .ok (.iconst 2, 1) := by decide +kernel
theorem dX12_init_80 : decode cX12_init 80 = .ok (.newarray .int, 2) := by decide +kernel
theorem dX12_init_82 : decode cX12_init 82 = .ok (.putfield 54, 3) := by decide +kernel
theorem dX12_init_85 : decode cX12_init 85 = .ok (.aload_n 0, 1) := by decide +kernel
theorem dX12_init_86 : decode cX12_init 86 = .ok (.iconst 2, 1) := by decide +kernel
theorem dX12_init_87 : decode cX12_init 87 = .ok (.newarray .int, 2) := by decide +kernel
theorem dX12_init_89 : decode cX12_init 89 = .ok (.putfield 57, 3) := by decide +kernel
theorem dX12_init_92 : decode cX12_init 92 = .ok (.aload_n 0, 1) := by decide +kernel
theorem dX12_init_93 : decode cX12_init 93 = .ok (.iconst 2, 1) := by decide +kernel
theorem dX12_init_94 : decode cX12_init 94 = .ok (.newarray .int, 2) := by decide +kernel
theorem dX12_init_96 : decode cX12_init 96 = .ok (.putfield 60, 3) := by decide +kernel
theorem dX12_init_99 : decode cX12_init 99 = .ok (.aload_n 0, 1) := by decide +kernel
theorem dX12_init_100 : decode cX12_init 100 = .ok (.iconst 2, 1) := by decide +kernel
theorem dX12_init_101 : decode cX12_init 101 = .ok (.newarray .int, 2) := by decide +kernel
theorem dX12_init_103 : decode cX12_init 103 = .ok (.dup, 1) := by decide +kernel
theorem dX12_init_104 : decode cX12_init 104 = .ok (.iconst 0, 1) := by decide +kernel
theorem dX12_init_105 : decode cX12_init 105 = .ok (.sipush 1000, 3) := by decide +kernel
theorem dX12_init_108 : decode cX12_init 108 = .ok (.iastore, 1) := by decide +kernel
theorem dX12_init_109 : decode cX12_init 109 = .ok (.dup, 1) := by decide +kernel
theorem dX12_init_110 : decode cX12_init 110 = .ok (.iconst 1, 1) := by decide +kernel
theorem dX12_init_111 : decode cX12_init 111 = .ok (.sipush 1000, 3) := by decide +kernel
theorem dX12_init_114 : decode cX12_init 114 = .ok (.iastore, 1) := by decide +kernel
theorem dX12_init_115 : decode cX12_init 115 = .ok (.putfield 63, 3) := by decide +kernel
theorem dX12_init_118 : decode cX12_init 118 = .ok (.aload_n 0, 1) := by decide +kernel
theorem dX12_init_119 : decode cX12_init 119 = .ok (.bipush 20, 2) := by decide +kernel
theorem dX12_init_121 : decode cX12_init 121 = .ok (.newarray .long, 2) := by decide +kernel
theorem dX12_init_123 : decode cX12_init 123 = .ok (.putfield 66, 3) := by decide +kernel
theorem dX12_init_126 : decode cX12_init 126 = .ok (.aload_n 0, 1) := by decide +kernel
theorem dX12_init_127 : decode cX12_init 127 = .ok (.bipush 16, 2) := by decide +kernel
theorem dX12_init_129 : decode cX12_init 129 = .ok (.newarray .long, 2) := by decide +kernel
theorem dX12_init_131 : decode cX12_init 131 = .ok (.putfield 70, 3) := by decide +kernel
theorem dX12_init_134 : decode cX12_init 134 = .ok (.aload_n 0, 1) := by decide +kernel
theorem dX12_init_135 : decode cX12_init 135 = .ok (.bipush 20, 2) := by decide +kernel
theorem dX12_init_137 : decode cX12_init 137 = .ok (.newarray .int, 2) := by decide +kernel
theorem dX12_init_139 : decode cX12_init 139 = .ok (.putfield 73, 3) := by decide +kernel
theorem dX12_init_142 : decode cX12_init 142 = .ok (.aload_n 0, 1) := by decide +kernel
theorem dX12_init_143 : decode cX12_init 143 = .ok (.bipush 20, 2) := by decide +kernel
theorem dX12_init_145 : decode cX12_init 145 = .ok (.newarray .int, 2) := by decide +kernel
theorem dX12_init_147 : decode cX12_init 147 = .ok (.putfield 76, 3) := by decide +kernel
theorem dX12_init_150 : decode cX12_init 150 = .ok (.aload_n 0, 1) := by decide +kernel
theorem dX12_init_151 : decode cX12_init 151 = .ok (.bipush 20, 2) := by decide +kernel
theorem dX12_init_153 : decode cX12_init 153 = .ok (.newarray .int, 2) := by decide +kernel
theorem dX12_init_155 : decode cX12_init 155 = .ok (.putfield 79, 3) := by decide +kernel
theorem dX12_init_158 : decode cX12_init 158 = .ok (.aload_n 0, 1) := by decide +kernel
theorem dX12_init_159 : decode cX12_init 159 = .ok (.bipush 20, 2) := by decide +kernel
theorem dX12_init_161 : decode cX12_init 161 = .ok (.newarray .int, 2) := by decide +kernel
theorem dX12_init_163 : decode cX12_init 163 = .ok (.putfield 82, 3) := by decide +kernel
theorem dX12_init_166 : decode cX12_init 166 = .ok (.aload_n 0, 1) := by decide +kernel
theorem dX12_init_167 : decode cX12_init 167 = .ok (.sipush 336, 3) := by decide +kernel
theorem dX12_init_170 : decode cX12_init 170 = .ok (.newarray .int, 2) := by decide +kernel
theorem dX12_init_172 : decode cX12_init 172 = .ok (.putfield 85, 3) := by decide +kernel
theorem dX12_init_175 : decode cX12_init 175 = .ok (.aload_n 0, 1) := by decide +kernel
theorem dX12_init_176 : decode cX12_init 176 = .ok (.sipush 4400, 3) := by decide +kernel
theorem dX12_init_179 : decode cX12_init 179 = .ok (.newarray .int, 2) := by decide +kernel
theorem dX12_init_181 : decode cX12_init 181 = .ok (.putfield 88, 3) := by decide +kernel
theorem dX12_init_184 : decode cX12_init 184 = .ok (.aload_n 0, 1) := by decide +kernel
theorem dX12_init_185 : decode cX12_init 185 = .ok (.iconst 2, 1) := by decide +kernel
theorem dX12_init_186 : decode cX12_init 186 = .ok (.newarray .int, 2) := by decide +kernel
theorem dX12_init_188 : decode cX12_init 188 = .ok (.putfield 91, 3) := by decide +kernel
theorem dX12_init_191 : decode cX12_init 191 = .ok (.aload_n 0, 1) := by decide +kernel
theorem dX12_init_192 : decode cX12_init 192 = .ok (.sipush 2200, 3) := by decide +kernel
theorem dX12_init_195 : decode cX12_init 195 = .ok (.newarray .long, 2) := by decide +kernel
theorem dX12_init_197 : decode cX12_init 197 = .ok (.putfield 94, 3) := by decide +kernel
theorem dX12_init_200 : decode cX12_init 200 = .ok (.aload_n 0, 1) := by decide +kernel
theorem dX12_init_201 : decode cX12_init 201 = .ok (.bipush 20, 2) := by decide +kernel
theorem dX12_init_203 : decode cX12_init 203 = .ok (.newarray .int, 2) := by decide +kernel
theorem dX12_init_205 : decode cX12_init 205 = .ok (.putfield 97, 3) := by decide +kernel
theorem dX12_init_208 : decode cX12_init 208 = .ok (.aload_n 0, 1) := by decide +kernel
theorem dX12_init_209 : decode cX12_init 209 = .ok (.bipush 20, 2) := by decide +kernel
theorem dX12_init_211 : decode cX12_init 211 = .ok (.newarray .int, 2) := by decide +kernel
theorem dX12_init_213 : decode cX12_init 213 = .ok (.putfield 100, 3) := by decide +kernel
theorem dX12_init_216 : decode cX12_init 216 = .ok (.aload_n 0, 1) := by decide +kernel
theorem dX12_init_217 : decode cX12_init 217 = .ok (.bipush 20, 2) := by decide +kernel
theorem dX12_init_219 : decode cX12_init 219 = .ok (.newarray .boolean, 2) := by decide +kernel
theorem dX12_init_221 : decode cX12_init 221 = .ok (.putfield 103, 3) := by decide +kernel
theorem dX12_init_224 : decode cX12_init 224 = .ok (.aload_n 0, 1) := by decide +kernel
theorem dX12_init_225 : decode cX12_init 225 = .ok (.bipush 20, 2) := by decide +kernel
theorem dX12_init_227 : decode cX12_init 227 = .ok (.newarray .int, 2) := by decide +kernel
theorem dX12_init_229 : decode cX12_init 229 = .ok (.putfield 107, 3) := by decide +kernel
theorem dX12_init_232 : decode cX12_init 232 = .ok (.aload_n 0, 1) := by decide +kernel
theorem dX12_init_233 : decode cX12_init 233 = .ok (.iconst 0, 1) := by decide +kernel
theorem dX12_init_234 : decode cX12_init 234 = .ok (.putfield 110, 3) := by decide +kernel
theorem dX12_init_237 : decode cX12_init 237 = .ok (.aload_n 0, 1) := by decide +kernel
theorem dX12_init_238 : decode cX12_init 238 = .ok (.iconst 0, 1) := by decide +kernel
theorem dX12_init_239 : decode cX12_init 239 = .ok (.putfield 113, 3) := by decide +kernel
theorem dX12_init_242 : decode cX12_init 242 = .ok (.aload_n 0, 1) := by decide +kernel
theorem dX12_init_243 : decode cX12_init 243 = .ok (.sipush 400, 3) := by decide +kernel
theorem dX12_init_246 : decode cX12_init 246 = .ok (.newarray .int, 2) := by decide +kernel
theorem dX12_init_248 : decode cX12_init 248 = .ok (.putfield 116, 3) := by decide +kernel
theorem dX12_init_251 : decode cX12_init 251 = .ok (.aload_n 0, 1) := by decide +kernel
theorem dX12_init_252 : decode cX12_init 252 = .ok (.iconst 0, 1) := by decide +kernel
theorem dX12_init_253 : decode cX12_init 253 = .ok (.putfield 119, 3) := by decide +kernel
theorem dX12_init_256 : decode cX12_init 256 = .ok (.aload_n 0, 1) := by decide +kernel
theorem dX12_init_257 : decode cX12_init 257 = .ok (.iconst 0, 1) := by decide +kernel
theorem dX12_init_258 : decode cX12_init 258 = .ok (.putfield 122, 3) := by decide +kernel
theorem dX12_init_261 : decode cX12_init 261 = .ok (.aload_n 0, 1) := by decide +kernel
theorem dX12_init_262 : decode cX12_init 262 = .ok (.iconst 0, 1) := by decide +kernel
theorem dX12_init_263 : decode cX12_init 263 = .ok (.putfield 126, 3) := by decide +kernel
theorem dX12_init_266 : decode cX12_init 266 = .ok (.aload_n 0, 1) := by decide +kernel
theorem dX12_init_267 : decode cX12_init 267 = .ok (.iconst 0, 1) := by decide +kernel
theorem dX12_init_268 : decode cX12_init 268 = .ok (.putfield 129, 3) := by decide +kernel
theorem dX12_init_271 : decode cX12_init 271 = .ok (.aload_n 0, 1) := by decide +kernel
theorem dX12_init_272 : decode cX12_init 272 = .ok (.iconst (-1), 1) := by decide +kernel
theorem dX12_init_273 : decode cX12_init 273 = .ok (.putfield 132, 3) := by decide +kernel
theorem dX12_init_276 : decode cX12_init 276 = .ok (.aload_n 0, 1) := by decide +kernel
theorem dX12_init_277 : decode cX12_init 277 = .ok (.sipush 201, 3) := by decide +kernel
theorem dX12_init_280 : decode cX12_init 280 = .ok (.newarray .int, 2) := by decide +kernel
theorem dX12_init_282 : decode cX12_init 282 = .ok (.putfield 135, 3) := by decide +kernel
theorem dX12_init_285 : decode cX12_init 285 = .ok (.aload_n 0, 1) := by decide +kernel
theorem dX12_init_286 : decode cX12_init 286 = .ok (.sipush 1005, 3) := by decide +kernel
theorem dX12_init_289 : decode cX12_init 289 = .ok (.newarray .int, 2) := by decide +kernel
theorem dX12_init_291 : decode cX12_init 291 = .ok (.putfield 138, 3) := by decide +kernel
theorem dX12_init_294 : decode cX12_init 294 = .ok (.aload_n 0, 1) := by decide +kernel
theorem dX12_init_295 : decode cX12_init 295 = .ok (.sipush 201, 3) := by decide +kernel
theorem dX12_init_298 : decode cX12_init 298 = .ok (.newarray .int, 2) := by decide +kernel
theorem dX12_init_300 : decode cX12_init 300 = .ok (.putfield 141, 3) := by decide +kernel
theorem dX12_init_303 : decode cX12_init 303 = .ok (.aload_n 0, 1) := by decide +kernel
theorem dX12_init_304 : decode cX12_init 304 = .ok (.sipush 603, 3) := by decide +kernel
theorem dX12_init_307 : decode cX12_init 307 = .ok (.newarray .long, 2) := by decide +kernel
theorem dX12_init_309 : decode cX12_init 309 = .ok (.putfield 144, 3) := by decide +kernel
theorem dX12_init_312 : decode cX12_init 312 = .ok (.aload_n 0, 1) := by decide +kernel
theorem dX12_init_313 : decode cX12_init 313 = .ok (.iconst 3, 1) := by decide +kernel
theorem dX12_init_314 : decode cX12_init 314 = .ok (.newarray .long, 2) := by decide +kernel
theorem dX12_init_316 : decode cX12_init 316 = .ok (.putfield 147, 3) := by decide +kernel
theorem dX12_init_319 : decode cX12_init 319 = .ok (.aload_n 0, 1) := by decide +kernel
theorem dX12_init_320 : decode cX12_init 320 = .ok (.iconst 0, 1) := by decide +kernel
theorem dX12_init_321 : decode cX12_init 321 = .ok (.putfield 150, 3) := by decide +kernel
theorem dX12_init_324 : decode cX12_init 324 = .ok (.aload_n 0, 1) := by decide +kernel
theorem dX12_init_325 : decode cX12_init 325 = .ok (.bipush 40, 2) := by decide +kernel
theorem dX12_init_327 : decode cX12_init 327 = .ok (.newarray .int, 2) := by decide +kernel
theorem dX12_init_329 : decode cX12_init 329 = .ok (.putfield 153, 3) := by decide +kernel
theorem dX12_init_332 : decode cX12_init 332 = .ok (.aload_n 0, 1) := by decide +kernel
theorem dX12_init_333 : decode cX12_init 333 = .ok (.bipush 40, 2) := by decide +kernel
theorem dX12_init_335 : decode cX12_init 335 = .ok (.newarray .int, 2) := by decide +kernel
theorem dX12_init_337 : decode cX12_init 337 = .ok (.putfield 156, 3) := by decide +kernel
theorem dX12_init_340 : decode cX12_init 340 = .ok (.aload_n 0, 1) := by decide +kernel
theorem dX12_init_341 : decode cX12_init 341 = .ok (.bipush 40, 2) := by decide +kernel
theorem dX12_init_343 : decode cX12_init 343 = .ok (.newarray .int, 2) := by decide +kernel
theorem dX12_init_345 : decode cX12_init 345 = .ok (.putfield 159, 3) := by decide +kernel
theorem dX12_init_348 : decode cX12_init 348 = .ok (.aload_n 0, 1) := by decide +kernel
theorem dX12_init_349 : decode cX12_init 349 = .ok (.bipush 40, 2) := by decide +kernel
theorem dX12_init_351 : decode cX12_init 351 = .ok (.newarray .int, 2) := by decide +kernel
theorem dX12_init_353 : decode cX12_init 353 = .ok (.putfield 162, 3) := by decide +kernel
theorem dX12_init_356 : decode cX12_init 356 = .ok (.aload_n 0, 1) := by decide +kernel
theorem dX12_init_357 : decode cX12_init 357 = .ok (.bipush 40, 2) := by decide +kernel
theorem dX12_init_359 : decode cX12_init 359 = .ok (.newarray .int, 2) := by decide +kernel
theorem dX12_init_361 : decode cX12_init 361 = .ok (.putfield 165, 3) := by decide +kernel
theorem dX12_init_364 : decode cX12_init 364 = .ok (.aload_n 0, 1) := by decide +kernel
theorem dX12_init_365 : decode cX12_init 365 = .ok (.bipush 40, 2) := by decide +kernel
theorem dX12_init_367 : decode cX12_init 367 = .ok (.newarray .int, 2) := by decide +kernel
theorem dX12_init_369 : decode cX12_init 369 = .ok (.putfield 168, 3) := by decide +kernel
theorem dX12_init_372 : decode cX12_init 372 = .ok (.aload_n 0, 1) := by decide +kernel
theorem dX12_init_373 : decode cX12_init 373 = .ok (.bipush 40, 2) := by decide +kernel
theorem dX12_init_375 : decode cX12_init 375 = .ok (.newarray .int, 2) := by decide +kernel
theorem dX12_init_377 : decode cX12_init 377 = .ok (.putfield 171, 3) := by decide +kernel
theorem dX12_init_380 : decode cX12_init 380 = .ok (.aload_n 0, 1) := by decide +kernel
theorem dX12_init_381 : decode cX12_init 381 = .ok (.bipush 40, 2) := by decide +kernel
theorem dX12_init_383 : decode cX12_init 383 = .ok (.newarray .int, 2) := by decide +kernel
theorem dX12_init_385 : decode cX12_init 385 = .ok (.putfield 174, 3) := by decide +kernel
theorem dX12_init_388 : decode cX12_init 388 = .ok (.aload_n 0, 1) := by decide +kernel
theorem dX12_init_389 : decode cX12_init 389 = .ok (.sipush 160, 3) := by decide +kernel
theorem dX12_init_392 : decode cX12_init 392 = .ok (.newarray .long, 2) := by decide +kernel
theorem dX12_init_394 : decode cX12_init 394 = .ok (.putfield 177, 3) := by decide +kernel
theorem dX12_init_397 : decode cX12_init 397 = .ok (.aload_n 0, 1) := by decide +kernel
theorem dX12_init_398 : decode cX12_init 398 = .ok (.bipush 40, 2) := by decide +kernel
theorem dX12_init_400 : decode cX12_init 400 = .ok (.newarray .int, 2) := by decide +kernel
theorem dX12_init_402 : decode cX12_init 402 = .ok (.putfield 180, 3) := by decide +kernel
theorem dX12_init_405 : decode cX12_init 405 = .ok (.aload_n 0, 1) := by decide +kernel
theorem dX12_init_406 : decode cX12_init 406 = .ok (.sipush 201, 3) := by decide +kernel
theorem dX12_init_409 : decode cX12_init 409 = .ok (.newarray .int, 2) := by decide +kernel
theorem dX12_init_411 : decode cX12_init 411 = .ok (.putfield 183, 3) := by decide +kernel
theorem dX12_init_414 : decode cX12_init 414 = .ok (.aload_n 0, 1) := by decide +kernel
theorem dX12_init_415 : decode cX12_init 415 = .ok (.sipush 1200, 3) := by decide +kernel
theorem dX12_init_418 : decode cX12_init 418 = .ok (.newarray .long, 2) := by decide +kernel
theorem dX12_init_420 : decode cX12_init 420 = .ok (.putfield 186, 3) := by decide +kernel
theorem dX12_init_423 : decode cX12_init 423 = .ok (.aload_n 0, 1) := by decide +kernel
theorem dX12_init_424 : decode cX12_init 424 = .ok (.sipush 2200, 3) := by decide +kernel
theorem dX12_init_427 : decode cX12_init 427 = .ok (.newarray .int, 2) := by decide +kernel
theorem dX12_init_429 : decode cX12_init 429 = .ok (.putfield 189, 3) := by decide +kernel
theorem dX12_init_432 : decode cX12_init 432 = .ok (.aload_n 0, 1) := by decide +kernel
theorem dX12_init_433 : decode cX12_init 433 = .ok (.sipush 2200, 3) := by decide +kernel
theorem dX12_init_436 : decode cX12_init 436 = .ok (.newarray .int, 2) := by decide +kernel
theorem dX12_init_438 : decode cX12_init 438 = .ok (.putfield 192, 3) := by decide +kernel
theorem dX12_init_441 : decode cX12_init 441 = .ok (.aload_n 0, 1) := by decide +kernel
theorem dX12_init_442 : decode cX12_init 442 = .ok (.sipush 2200, 3) := by decide +kernel
theorem dX12_init_445 : decode cX12_init 445 = .ok (.newarray .int, 2) := by decide +kernel
theorem dX12_init_447 : decode cX12_init 447 = .ok (.putfield 195, 3) := by decide +kernel
theorem dX12_init_450 : decode cX12_init 450 = .ok (.aload_n 0, 1) := by decide +kernel
theorem dX12_init_451 : decode cX12_init 451 = .ok (.sipush 2200, 3) := by decide +kernel
theorem dX12_init_454 : decode cX12_init 454 = .ok (.newarray .long, 2) := by decide +kernel
theorem dX12_init_456 : decode cX12_init 456 = .ok (.putfield 198, 3) := by decide +kernel
theorem dX12_init_459 : decode cX12_init 459 = .ok (.aload_n 0, 1) := by decide +kernel
theorem dX12_init_460 : decode cX12_init 460 = .ok (.iconst 0, 1) := by decide +kernel
theorem dX12_init_461 : decode cX12_init 461 = .ok (.putfield 201, 3) := by decide +kernel
theorem dX12_init_464 : decode cX12_init 464 = .ok (.aload_n 0, 1) := by decide +kernel
theorem dX12_init_465 : decode cX12_init 465 = .ok (.sipush 290, 3) := by decide +kernel
theorem dX12_init_468 : decode cX12_init 468 = .ok (.newarray .long, 2) := by decide +kernel
theorem dX12_init_470 : decode cX12_init 470 = .ok (.putfield 204, 3) := by decide +kernel
theorem dX12_init_473 : decode cX12_init 473 = .ok (.aload_n 0, 1) := by decide +kernel
theorem dX12_init_474 : decode cX12_init 474 = .ok (.sipush 290, 3) := by decide +kernel
theorem dX12_init_477 : decode cX12_init 477 = .ok (.newarray .int, 2) := by decide +kernel
theorem dX12_init_479 : decode cX12_init 479 = .ok (.putfield 207, 3) := by decide +kernel
theorem dX12_init_482 : decode cX12_init 482 = .ok (.aload_n 0, 1) := by decide +kernel
theorem dX12_init_483 : decode cX12_init 483 = .ok (.sipush 400, 3) := by decide +kernel
theorem dX12_init_486 : decode cX12_init 486 = .ok (.newarray .int, 2) := by decide +kernel
theorem dX12_init_488 : decode cX12_init 488 = .ok (.putfield 210, 3) := by decide +kernel
theorem dX12_init_491 : decode cX12_init 491 = .ok (.aload_n 0, 1) := by decide +kernel
theorem dX12_init_492 : decode cX12_init 492 = .ok (.sipush 400, 3) := by decide +kernel
theorem dX12_init_495 : decode cX12_init 495 = .ok (.newarray .boolean, 2) := by decide +kernel
theorem dX12_init_497 : decode cX12_init 497 = .ok (.putfield 213, 3) := by decide +kernel
theorem dX12_init_500 : decode cX12_init 500 = .ok (.aload_n 0, 1) := by decide +kernel
theorem dX12_init_501 : decode cX12_init 501 = .ok (.sipush 250, 3) := by decide +kernel
theorem dX12_init_504 : decode cX12_init 504 = .ok (.newarray .int, 2) := by decide +kernel
theorem dX12_init_506 : decode cX12_init 506 = .ok (.putfield 216, 3) := by decide +kernel
theorem dX12_init_509 : decode cX12_init 509 = .ok (.aload_n 0, 1) := by decide +kernel
theorem dX12_init_510 : decode cX12_init 510 = .ok (.iconst 0, 1) := by decide +kernel
theorem dX12_init_511 : decode cX12_init 511 = .ok (.putfield 219, 3) := by decide +kernel
theorem dX12_init_514 : decode cX12_init 514 = .ok (.aload_n 0, 1) := by decide +kernel
theorem dX12_init_515 : decode cX12_init 515 = .ok (.iconst 0, 1) := by decide +kernel
theorem dX12_init_516 : decode cX12_init 516 = .ok (.putfield 222, 3) := by decide +kernel
theorem dX12_init_519 : decode cX12_init 519 = .ok (.aload_n 0, 1) := by decide +kernel
theorem dX12_init_520 : decode cX12_init 520 = .ok (.bipush 40, 2) := by decide +kernel
theorem dX12_init_522 : decode cX12_init 522 = .ok (.newarray .int, 2) := by decide +kernel
theorem dX12_init_524 : decode cX12_init 524 = .ok (.putfield 225, 3) := by decide +kernel
theorem dX12_init_527 : decode cX12_init 527 = .ok (.aload_n 0, 1) := by decide +kernel
theorem dX12_init_528 : decode cX12_init 528 = .ok (.bipush 40, 2) := by decide +kernel
theorem dX12_init_530 : decode cX12_init 530 = .ok (.newarray .int, 2) := by decide +kernel
theorem dX12_init_532 : decode cX12_init 532 = .ok (.putfield 228, 3) := by decide +kernel
theorem dX12_init_535 : decode cX12_init 535 = .ok (.aload_n 0, 1) := by decide +kernel
theorem dX12_init_536 : decode cX12_init 536 = .ok (.bipush 40, 2) := by decide +kernel
theorem dX12_init_538 : decode cX12_init 538 = .ok (.newarray .int, 2) := by decide +kernel
theorem dX12_init_540 : decode cX12_init 540 = .ok (.putfield 231, 3) := by decide +kernel
theorem dX12_init_543 : decode cX12_init 543 = .ok (.aload_n 0, 1) := by decide +kernel
theorem dX12_init_544 : decode cX12_init 544 = .ok (.bipush 40, 2) := by decide +kernel
theorem dX12_init_546 : decode cX12_init 546 = .ok (.newarray .int, 2) := by decide +kernel
theorem dX12_init_548 : decode cX12_init 548 = .ok (.putfield 234, 3) := by decide +kernel
theorem dX12_init_551 : decode cX12_init 551 = .ok (.aload_n 0, 1) := by decide +kernel
theorem dX12_init_552 : decode cX12_init 552 = .ok (.sipush 400, 3) := by decide +kernel
theorem dX12_init_555 : decode cX12_init 555 = .ok (.newarray .boolean, 2) := by decide +kernel
theorem dX12_init_557 : decode cX12_init 557 = .ok (.putfield 237, 3) := by decide +kernel
theorem dX12_init_560 : decode cX12_init 560 = .ok (.aload_n 0, 1) := by decide +kernel
theorem dX12_init_561 : decode cX12_init 561 = .ok (.bipush 40, 2) := by decide +kernel
theorem dX12_init_563 : decode cX12_init 563 = .ok (.newarray .int, 2) := by decide +kernel
theorem dX12_init_565 : decode cX12_init 565 = .ok (.putfield 240, 3) := by decide +kernel
theorem dX12_init_568 : decode cX12_init 568 = .ok (.aload_n 0, 1) := by decide +kernel
theorem dX12_init_569 : decode cX12_init 569 = .ok (.bipush 40, 2) := by decide +kernel
theorem dX12_init_571 : decode cX12_init 571 = .ok (.newarray .int, 2) := by decide +kernel
theorem dX12_init_573 : decode cX12_init 573 = .ok (.putfield 243, 3) := by decide +kernel
theorem dX12_init_576 : decode cX12_init 576 = .ok (.aload_n 0, 1) := by decide +kernel
theorem dX12_init_577 : decode cX12_init 577 = .ok (.bipush 10, 2) := by decide +kernel
theorem dX12_init_579 : decode cX12_init 579 = .ok (.newarray .int, 2) := by decide +kernel
theorem dX12_init_581 : decode cX12_init 581 = .ok (.putfield 246, 3) := by decide +kernel
theorem dX12_init_584 : decode cX12_init 584 = .ok (.aload_n 0, 1) := by decide +kernel
theorem dX12_init_585 : decode cX12_init 585 = .ok (.iconst 0, 1) := by decide +kernel
theorem dX12_init_586 : decode cX12_init 586 = .ok (.putfield 249, 3) := by decide +kernel
theorem dX12_init_589 : decode cX12_init 589 = .ok (.aload_n 0, 1) := by decide +kernel
theorem dX12_init_590 : decode cX12_init 590 = .ok (.iconst 0, 1) := by decide +kernel
theorem dX12_init_591 : decode cX12_init 591 = .ok (.putfield 252, 3) := by decide +kernel
theorem dX12_init_594 : decode cX12_init 594 = .ok (.aload_n 0, 1) := by decide +kernel
theorem dX12_init_595 : decode cX12_init 595 = .ok (.iconst 0, 1) := by decide +kernel
theorem dX12_init_596 : decode cX12_init 596 = .ok (.putfield 255, 3) := by decide +kernel
theorem dX12_init_599 : decode cX12_init 599 = .ok (.aload_n 0, 1) := by decide +kernel
theorem dX12_init_600 : decode cX12_init 600 = .ok (.iconst 0, 1) := by decide +kernel
theorem dX12_init_601 : decode cX12_init 601 = .ok (.putfield 258, 3) := by decide +kernel
theorem dX12_init_604 : decode cX12_init 604 = .ok (.aload_n 0, 1) := by decide +kernel
theorem dX12_init_605 : decode cX12_init 605 = .ok (.bipush 10, 2) := by decide +kernel
theorem dX12_init_607 : decode cX12_init 607 = .ok (.newarray .int, 2) := by decide +kernel
theorem dX12_init_609 : decode cX12_init 609 = .ok (.putfield 261, 3) := by decide +kernel
theorem dX12_init_612 : decode cX12_init 612 = .ok (.aload_n 0, 1) := by decide +kernel
theorem dX12_init_613 : decode cX12_init 613 = .ok (.iconst 0, 1) := by decide +kernel
theorem dX12_init_614 : decode cX12_init 614 = .ok (.putfield 264, 3) := by decide +kernel
theorem dX12_init_617 : decode cX12_init 617 = .ok (.aload_n 0, 1) := by decide +kernel
theorem dX12_init_618 : decode cX12_init 618 = .ok (.bipush 40, 2) := by decide +kernel
theorem dX12_init_620 : decode cX12_init 620 = .ok (.newarray .int, 2) := by decide +kernel
theorem dX12_init_622 : decode cX12_init 622 = .ok (.putfield 267, 3) := by decide +kernel
theorem dX12_init_625 : decode cX12_init 625 = .ok (.aload_n 0, 1) := by decide +kernel
theorem dX12_init_626 : decode cX12_init 626 = .ok (.bipush 40, 2) := by decide +kernel
theorem dX12_init_628 : decode cX12_init 628 = .ok (.newarray .int, 2) := by decide +kernel
theorem dX12_init_630 : decode cX12_init 630 = .ok (.putfield 270, 3) := by decide +kernel
theorem dX12_init_633 : decode cX12_init 633 = .ok (.aload_n 0, 1) := by decide +kernel
theorem dX12_init_634 : decode cX12_init 634 = .ok (.bipush 40, 2) := by decide +kernel
theorem dX12_init_636 : decode cX12_init 636 = .ok (.newarray .boolean, 2) := by decide +kernel
theorem dX12_init_638 : decode cX12_init 638 = .ok (.putfield 273, 3) := by decide +kernel
theorem dX12_init_641 : decode cX12_init 641 = .ok (.aload_n 0, 1) := by decide +kernel
theorem dX12_init_642 : decode cX12_init 642 = .ok (.bipush 40, 2) := by decide +kernel
theorem dX12_init_644 : decode cX12_init 644 = .ok (.newarray .int, 2) := by decide +kernel
theorem dX12_init_646 : decode cX12_init 646 = .ok (.putfield 276, 3) := by decide +kernel
theorem dX12_init_649 : decode cX12_init 649 = .ok (.aload_n 0, 1) := by decide +kernel
theorem dX12_init_650 : decode cX12_init 650 = .ok (.iconst 0, 1) := by decide +kernel
theorem dX12_init_651 : decode cX12_init 651 = .ok (.putfield 279, 3) := by decide +kernel
theorem dX12_init_654 : decode cX12_init 654 = .ok (.aload_n 0, 1) := by decide +kernel
theorem dX12_init_655 : decode cX12_init 655 = .ok (.bipush 40, 2) := by decide +kernel
theorem dX12_init_657 : decode cX12_init 657 = .ok (.newarray .int, 2) := by decide +kernel
theorem dX12_init_659 : decode cX12_init 659 = .ok (.putfield 282, 3) := by decide +kernel
theorem dX12_init_662 : decode cX12_init 662 = .ok (.aload_n 0, 1) := by decide +kernel
theorem dX12_init_663 : decode cX12_init 663 = .ok (.bipush 40, 2) := by decide +kernel
theorem dX12_init_665 : decode cX12_init 665 = .ok (.newarray .int, 2) := by decide +kernel
theorem dX12_init_667 : decode cX12_init 667 = .ok (.putfield 285, 3) := by decide +kernel
theorem dX12_init_670 : decode cX12_init 670 = .ok (.aload_n 0, 1) := by decide +kernel
theorem dX12_init_671 : decode cX12_init 671 = .ok (.bipush 9, 2) := by decide +kernel
theorem dX12_init_673 : decode cX12_init 673 = .ok (.newarray .int, 2) := by decide +kernel
theorem dX12_init_675 : decode cX12_init 675 = .ok (.putfield 288, 3) := by decide +kernel
theorem dX12_init_678 : decode cX12_init 678 = .ok (.aload_n 0, 1) := by decide +kernel
theorem dX12_init_679 : decode cX12_init 679 = .ok (.sipush 200, 3) := by decide +kernel
theorem dX12_init_682 : decode cX12_init 682 = .ok (.newarray .int, 2) := by decide +kernel
theorem dX12_init_684 : decode cX12_init 684 = .ok (.putfield 291, 3) := by decide +kernel
theorem dX12_init_687 : decode cX12_init 687 = .ok (.aload_n 0, 1) := by decide +kernel
theorem dX12_init_688 : decode cX12_init 688 = .ok (.iconst 0, 1) := by decide +kernel
theorem dX12_init_689 : decode cX12_init 689 = .ok (.putfield 294, 3) := by decide +kernel
theorem dX12_init_692 : decode cX12_init 692 = .ok (.return_, 1) := by decide +kernel
theorem dX12_is_0 : decode cX12_is 0 = .ok (.iload_n 0, 1) := by decide +kernel
theorem dX12_is_1 : decode cX12_is 1 = .ok (.iload_n 1, 1) := by decide +kernel
theorem dX12_is_2 : decode cX12_is 2 = .ok (.if_icmp .lt 12, 3) := by decide +kernel
theorem dX12_is_5 : decode cX12_is 5 = .ok (.iload_n 0, 1) := by decide +kernel
theorem dX12_is_6 : decode cX12_is 6 = .ok (.iload_n 2, 1) := by decide +kernel
theorem dX12_is_7 : decode cX12_is 7 = .ok (.if_icmp .gt 7, 3) := by decide +kernel
theorem dX12_is_10 : decode cX12_is 10 = .ok (.iconst 1, 1) := by decide +kernel
theorem dX12_is_11 : decode cX12_is 11 = .ok (.goto 4, 3) := by decide +kernel
theorem dX12_is_14 : decode cX12_is 14 = .ok (.iconst 0, 1) := by decide +kernel
theorem dX12_is_15 : decode cX12_is 15 = .ok (.ireturn, 1) := by decide +kernel
theorem dX12_isAhead_0 : decode cX12_isAhead 0 = .ok (.iload_n 0, 1) := by decide +kernel
theorem dX12_isAhead_1 : decode cX12_isAhead 1 = .ok (.iload_n 1, 1) := by decide +kernel
theorem dX12_isAhead_2 : decode cX12_isAhead 2 = .ok (.ixor, 1) := by decide +kernel
theorem dX12_isAhead_3 : decode cX12_isAhead 3 = .ok (.istore_n 2, 1) := by decide +kernel
theorem dX12_isAhead_4 : decode cX12_isAhead 4 = .ok (.iload_n 2, 1) := by decide +kernel
theorem dX12_isAhead_5 : decode cX12_isAhead 5 = .ok (.ifCond .eq 16, 3) := by decide +kernel
theorem dX12_isAhead_8 : decode cX12_isAhead 8 = .ok (.iload_n 0, 1) := by decide +kernel
theorem dX12_isAhead_9 : decode cX12_isAhead 9 = .ok (.iload_n 2, 1) := by decide +kernel
theorem dX12_isAhead_10 : decode cX12_isAhead 10 = .ok (.iand, 1) := by decide +kernel
theorem dX12_isAhead_11 : decode cX12_isAhead 11 = .ok (.iload_n 2, 1) := by decide +kernel
theorem dX12_isAhead_12 : decode cX12_isAhead 12 = .ok (.ineg, 1) := by decide +kernel
theorem dX12_isAhead_13 : decode cX12_isAhead 13 = .ok (.iand, 1) := by decide +kernel
theorem dX12_isAhead_14 : decode cX12_isAhead 14 = .ok (.ifCond .eq 7, 3) := by decide +kernel
theorem dX12_isAhead_17 : decode cX12_isAhead 17 = .ok (.iconst 1, 1) := by decide +kernel
theorem dX12_isAhead_18 : decode cX12_isAhead 18 = .ok (.goto 4, 3) := by decide +kernel
theorem dX12_isAhead_21 : decode cX12_isAhead 21 = .ok (.iconst 0, 1) := by decide +kernel
theorem dX12_isAhead_22 : decode cX12_isAhead 22 = .ok (.ireturn, 1) := by decide +kernel
theorem dX12_isChild_0 : decode cX12_isChild 0 = .ok (.iload_n 1, 1) := by decide +kernel
theorem dX12_isChild_1 : decode cX12_isChild 1 = .ok (.ifCond .lt 15, 3) := by decide +kernel
theorem dX12_isChild_4 : decode cX12_isChild 4 = .ok (.iload_n 1, 1) := by decide +kernel
theorem dX12_isChild_5 : decode cX12_isChild 5 = .ok (.aload_n 0, 1) := by decide +kernel
theorem dX12_isChild_6 : decode cX12_isChild 6 = .ok (.getfield 150, 3) := by decide +kernel
theorem dX12_isChild_9 : decode cX12_isChild 9 = .ok (.if_icmp .ge 7, 3) := by decide +kernel
theorem dX12_isChild_12 : decode cX12_isChild 12 = .ok (.iconst 1, 1) := by decide +kernel
theorem dX12_isChild_13 : decode cX12_isChild 13 = .ok (.goto 4, 3) := by decide +kernel
theorem dX12_isChild_16 : decode cX12_isChild 16 = .ok (.iconst 0, 1) := by decide +kernel
theorem dX12_isChild_17 : decode cX12_isChild 17 = .ok (.ireturn, 1) := by decide +kernel
theorem dX12_isDigit_0 : decode cX12_isDigit 0 = .ok (.iload_n 0, 1) := by decide +kernel
theorem dX12_isDigit_1 : decode cX12_isDigit 1 = .ok (.bipush 48, 2) := by decide +kernel
theorem dX12_isDigit_3 : decode cX12_isDigit 3 = .ok (.if_icmp .lt 13, 3) := by decide +kernel
theorem dX12_isDigit_6 : decode cX12_isDigit 6 = .ok (.iload_n 0, 1) := by decide +kernel
theorem dX12_isDigit_7 : decode cX12_isDigit 7 = .ok (.bipush 57, 2) := by decide +kernel
theorem dX12_isDigit_9 : decode cX12_isDigit 9 = .ok (.if_icmp .gt 7, 3) := by decide +kernel
theorem dX12_isDigit_12 : decode cX12_isDigit 12 = .ok (.iconst 1, 1) := by decide +kernel
theorem dX12_isDigit_13 : decode cX12_isDigit 13 = .ok (.goto 4, 3) := by decide +kernel
theorem dX12_isDigit_16 : decode cX12_isDigit 16 = .ok (.iconst 0, 1) := by decide +kernel
theorem dX12_isDigit_17 : decode cX12_isDigit 17 = .ok (.ireturn, 1) := by decide +kernel
theorem dX12_isFor_0 : decode cX12_isFor 0 = .ok (.aload_n 0, 1) := by decide +kernel
theorem dX12_isFor_1 : decode cX12_isFor 1 = .ok (.aload_n 0, 1) := by decide +kernel
theorem dX12_isFor_2 : decode cX12_isFor 2 = .ok (.getfield 85, 3) := by decide +kernel
theorem dX12_isFor_5 : decode cX12_isFor 5 = .ok (.aload_n 0, 1) := by decide +kernel
theorem dX12_isFor_6 : decode cX12_isFor 6 = .ok (.iload_n 1, 1) := by decide +kernel
theorem dX12_isFor_7 : decode cX12_isFor 7 = .ok (.invokevirtual 493, 3) := by decide +kernel
theorem dX12_isFor_10 : decode cX12_isFor 10 = .ok (.iconst 5, 1) := by decide +kernel
theorem dX12_isFor_11 : decode cX12_isFor 11 = .ok (.iadd, 1) := by decide +kernel
theorem dX12_isFor_12 : decode cX12_isFor 12 = .ok (.iaload, 1) := by decide +kernel
theorem dX12_isFor_13 : decode cX12_isFor 13 = .ok (.aload_n 0, 1) := by decide +kernel
theorem dX12_isFor_14 : decode cX12_isFor 14 = .ok (.getfield 85, 3) := by decide +kernel
theorem dX12_isFor_17 : decode cX12_isFor 17 = .ok (.aload_n 0, 1) := by decide +kernel
theorem dX12_isFor_18 : decode cX12_isFor 18 = .ok (.iload_n 1, 1) := by decide +kernel
theorem dX12_isFor_19 : decode cX12_isFor 19 = .ok (.invokevirtual 493, 3) := by decide +kernel
theorem dX12_isFor_22 : decode cX12_isFor 22 = .ok (.bipush 6, 2) := by decide +kernel
theorem dX12_isFor_24 : decode cX12_isFor 24 = .ok (.iadd, 1) := by decide +kernel
theorem dX12_isFor_25 : decode cX12_isFor 25 = .ok (.iaload, 1) := by decide +kernel
theorem dX12_isFor_26 : decode cX12_isFor 26 = .ok (.iload_n 2, 1) := by decide +kernel
theorem dX12_isFor_27 : decode cX12_isFor 27 = .ok (.iconst 0, 1) := by decide +kernel
theorem dX12_isFor_28 : decode cX12_isFor 28 = .ok (.invokevirtual 496, 3) := by decide +kernel
theorem dX12_isFor_31 : decode cX12_isFor 31 = .ok (.lconst 1, 1) := by decide +kernel
theorem dX12_isFor_32 : decode cX12_isFor 32 = .ok (.lcmp, 1) := by decide +kernel
theorem dX12_isFor_33 : decode cX12_isFor 33 = .ok (.ifCond .ne 7, 3) := by decide +kernel
theorem dX12_isFor_36 : decode cX12_isFor 36 = .ok (.iconst 1, 1) := by decide +kernel
theorem dX12_isFor_37 : decode cX12_isFor 37 = .ok (.goto 4, 3) := by decide +kernel
theorem dX12_isFor_40 : decode cX12_isFor 40 = .ok (.iconst 0, 1) := by decide +kernel
theorem dX12_isFor_41 : decode cX12_isFor 41 = .ok (.ireturn, 1) := by decide +kernel
theorem dX12_isKind_0 : decode cX12_isKind 0 = .ok (.iload_n 1, 1) := by decide +kernel
theorem dX12_isKind_1 : decode cX12_isKind 1 = .ok (.ifCond .lt 20, 3) := by decide +kernel
theorem dX12_isKind_4 : decode cX12_isKind 4 = .ok (.iload_n 1, 1) := by decide +kernel
theorem dX12_isKind_5 : decode cX12_isKind 5 = .ok (.aload_n 0, 1) := by decide +kernel
theorem dX12_isKind_6 : decode cX12_isKind 6 = .ok (.getfield 54, 3) := by decide +kernel
theorem dX12_isKind_9 : decode cX12_isKind 9 = .ok (.aload_n 0, 1) := by decide +kernel
theorem dX12_isKind_10 : decode cX12_isKind 10 = .ok (.getfield 48, 3) := by decide +kernel
theorem dX12_isKind_13 : decode cX12_isKind 13 = .ok (.iaload, 1) := by decide +kernel
theorem dX12_isKind_14 : decode cX12_isKind 14 = .ok (.if_icmp .ge 7, 3) := by decide +kernel
theorem dX12_isKind_17 : decode cX12_isKind 17 = .ok (.iconst 1, 1) := by decide +kernel
theorem dX12_isKind_18 : decode cX12_isKind 18 = .ok (.goto 4, 3) := by decide +kernel
theorem dX12_isKind_21 : decode cX12_isKind 21 = .ok (.iconst 0, 1) := by decide +kernel
theorem dX12_isKind_22 : decode cX12_isKind 22 = .ok (.ireturn, 1) := by decide +kernel
theorem dX12_isLetter_0 : decode cX12_isLetter 0 = .ok (.iload_n 0, 1) := by decide +kernel
theorem dX12_isLetter_1 : decode cX12_isLetter 1 = .ok (.bipush 97, 2) := by decide +kernel
theorem dX12_isLetter_3 : decode cX12_isLetter 3 = .ok (.if_icmp .lt 13, 3) := by decide +kernel
theorem dX12_isLetter_6 : decode cX12_isLetter 6 = .ok (.iload_n 0, 1) := by decide +kernel
theorem dX12_isLetter_7 : decode cX12_isLetter 7 = .ok (.bipush 122, 2) := by decide +kernel
theorem dX12_isLetter_9 : decode cX12_isLetter 9 = .ok (.if_icmp .gt 7, 3) := by decide +kernel
theorem dX12_isLetter_12 : decode cX12_isLetter 12 = .ok (.iconst 1, 1) := by decide +kernel
theorem dX12_isLetter_13 : decode cX12_isLetter 13 = .ok (.goto 4, 3) := by decide +kernel
theorem dX12_isLetter_16 : decode cX12_isLetter 16 = .ok (.iconst 0, 1) := by decide +kernel
theorem dX12_isLetter_17 : decode cX12_isLetter 17 = .ok (.ireturn, 1) := by decide +kernel
theorem dX12_isOf_0 : decode cX12_isOf 0 = .ok (.aload_n 0, 1) := by decide +kernel
theorem dX12_isOf_1 : decode cX12_isOf 1 = .ok (.aload_n 0, 1) := by decide +kernel
theorem dX12_isOf_2 : decode cX12_isOf 2 = .ok (.getfield 85, 3) := by decide +kernel
theorem dX12_isOf_5 : decode cX12_isOf 5 = .ok (.aload_n 0, 1) := by decide +kernel
theorem dX12_isOf_6 : decode cX12_isOf 6 = .ok (.iload_n 1, 1) := by decide +kernel
theorem dX12_isOf_7 : decode cX12_isOf 7 = .ok (.invokevirtual 493, 3) := by decide +kernel
theorem dX12_isOf_10 : decode cX12_isOf 10 = .ok (.iconst 3, 1) := by decide +kernel
theorem dX12_isOf_11 : decode cX12_isOf 11 = .ok (.iadd, 1) := by decide +kernel
theorem dX12_isOf_12 : decode cX12_isOf 12 = .ok (.iaload, 1) := by decide +kernel
theorem dX12_isOf_13 : decode cX12_isOf 13 = .ok (.aload_n 0, 1) := by decide +kernel
theorem dX12_isOf_14 : decode cX12_isOf 14 = .ok (.getfield 85, 3) := by decide +kernel
theorem dX12_isOf_17 : decode cX12_isOf 17 = .ok (.aload_n 0, 1) := by decide +kernel
theorem dX12_isOf_18 : decode cX12_isOf 18 = .ok (.iload_n 1, 1) := by decide +kernel
theorem dX12_isOf_19 : decode cX12_isOf 19 = .ok (.invokevirtual 493, 3) := by decide +kernel
theorem dX12_isOf_22 : decode cX12_isOf 22 = .ok (.iconst 4, 1) := by decide +kernel
theorem dX12_isOf_23 : decode cX12_isOf 23 = .ok (.iadd, 1) := by decide +kernel
theorem dX12_isOf_24 : decode cX12_isOf 24 = .ok (.iaload, 1) := by decide +kernel
theorem dX12_isOf_25 : decode cX12_isOf 25 = .ok (.iload_n 2, 1) := by decide +kernel
theorem dX12_isOf_26 : decode cX12_isOf 26 = .ok (.iload_n 3, 1) := by decide +kernel
theorem dX12_isOf_27 : decode cX12_isOf 27 = .ok (.invokevirtual 496, 3) := by decide +kernel
theorem dX12_isOf_30 : decode cX12_isOf 30 = .ok (.lconst 1, 1) := by decide +kernel
theorem dX12_isOf_31 : decode cX12_isOf 31 = .ok (.lcmp, 1) := by decide +kernel
theorem dX12_isOf_32 : decode cX12_isOf 32 = .ok (.ifCond .ne 7, 3) := by decide +kernel
theorem dX12_isOf_35 : decode cX12_isOf 35 = .ok (.iconst 1, 1) := by decide +kernel
theorem dX12_isOf_36 : decode cX12_isOf 36 = .ok (.goto 4, 3) := by decide +kernel
theorem dX12_isOf_39 : decode cX12_isOf 39 = .ok (.iconst 0, 1) := by decide +kernel
theorem dX12_isOf_40 : decode cX12_isOf 40 = .ok (.ireturn, 1) := by decide +kernel
theorem dX12_isOwn_0 : decode cX12_isOwn 0 = .ok (.lload_n 1, 1) := by decide +kernel
theorem dX12_isOwn_1 : decode cX12_isOwn 1 = .ok (.ldc2_w 326, 3) := by decide +kernel
theorem dX12_isOwn_4 : decode cX12_isOwn 4 = .ok (.lcmp, 1) := by decide +kernel
theorem dX12_isOwn_5 : decode cX12_isOwn 5 = .ok (.ifCond .eq 35, 3) := by decide +kernel
theorem dX12_isOwn_8 : decode cX12_isOwn 8 = .ok (.lload_n 1, 1) := by decide +kernel
theorem dX12_isOwn_9 : decode cX12_isOwn 9 = .ok (.ldc2_w 328, 3) := by decide +kernel
theorem dX12_isOwn_12 : decode cX12_isOwn 12 = .ok (.lcmp, 1) := by decide +kernel
theorem dX12_isOwn_13 : decode cX12_isOwn 13 = .ok (.ifCond .eq 27, 3) := by decide +kernel
theorem dX12_isOwn_16 : decode cX12_isOwn 16 = .ok (.lload_n 1, 1) := by decide +kernel
theorem dX12_isOwn_17 : decode cX12_isOwn 17 = .ok (.ldc2_w 330, 3) := by decide +kernel
theorem dX12_isOwn_20 : decode cX12_isOwn 20 = .ok (.lcmp, 1) := by decide +kernel
theorem dX12_isOwn_21 : decode cX12_isOwn 21 = .ok (.ifCond .eq 19, 3) := by decide +kernel
theorem dX12_isOwn_24 : decode cX12_isOwn 24 = .ok (.lload_n 1, 1) := by decide +kernel
theorem dX12_isOwn_25 : decode cX12_isOwn 25 = .ok (.ldc2_w 332, 3) := by decide +kernel
theorem dX12_isOwn_28 : decode cX12_isOwn 28 = .ok (.lcmp, 1) := by decide +kernel
theorem dX12_isOwn_29 : decode cX12_isOwn 29 = .ok (.ifCond .eq 11, 3) := by decide +kernel
theorem dX12_isOwn_32 : decode cX12_isOwn 32 = .ok (.lload_n 1, 1) := by decide +kernel
theorem dX12_isOwn_33 : decode cX12_isOwn 33 = .ok (.ldc2_w 334, 3) := by decide +kernel
theorem dX12_isOwn_36 : decode cX12_isOwn 36 = .ok (.lcmp, 1) := by decide +kernel
theorem dX12_isOwn_37 : decode cX12_isOwn 37 = .ok (.ifCond .ne 5, 3) := by decide +kernel
theorem dX12_isOwn_40 : decode cX12_isOwn 40 = .ok (.iconst 1, 1) := by decide +kernel
theorem dX12_isOwn_41 : decode cX12_isOwn 41 = .ok (.ireturn, 1) := by decide +kernel
theorem dX12_isOwn_42 : decode cX12_isOwn 42 = .ok (.lload_n 1, 1) := by decide +kernel
theorem dX12_isOwn_43 : decode cX12_isOwn 43 = .ok (.ldc2_w 336, 3) := by decide +kernel
theorem dX12_isOwn_46 : decode cX12_isOwn 46 = .ok (.lcmp, 1) := by decide +kernel
theorem dX12_isOwn_47 : decode cX12_isOwn 47 = .ok (.ifCond .eq 35, 3) := by decide +kernel
theorem dX12_isOwn_50 : decode cX12_isOwn 50 = .ok (.lload_n 1, 1) := by decide +kernel
theorem dX12_isOwn_51 : decode cX12_isOwn 51 = .ok (.ldc2_w 338, 3) := by decide +kernel
theorem dX12_isOwn_54 : decode cX12_isOwn 54 = .ok (.lcmp, 1) := by decide +kernel
theorem dX12_isOwn_55 : decode cX12_isOwn 55 = .ok (.ifCond .eq 27, 3) := by decide +kernel
theorem dX12_isOwn_58 : decode cX12_isOwn 58 = .ok (.lload_n 1, 1) := by decide +kernel
theorem dX12_isOwn_59 : decode cX12_isOwn 59 = .ok (.ldc2_w 340, 3) := by decide +kernel
theorem dX12_isOwn_62 : decode cX12_isOwn 62 = .ok (.lcmp, 1) := by decide +kernel
theorem dX12_isOwn_63 : decode cX12_isOwn 63 = .ok (.ifCond .eq 19, 3) := by decide +kernel
theorem dX12_isOwn_66 : decode cX12_isOwn 66 = .ok (.lload_n 1, 1) := by decide +kernel
theorem dX12_isOwn_67 : decode cX12_isOwn 67 = .ok (.ldc2_w 342, 3) := by decide +kernel
theorem dX12_isOwn_70 : decode cX12_isOwn 70 = .ok (.lcmp, 1) := by decide +kernel
theorem dX12_isOwn_71 : decode cX12_isOwn 71 = .ok (.ifCond .eq 11, 3) := by decide +kernel
theorem dX12_isOwn_74 : decode cX12_isOwn 74 = .ok (.lload_n 1, 1) := by decide +kernel
theorem dX12_isOwn_75 : decode cX12_isOwn 75 = .ok (.ldc2_w 344, 3) := by decide +kernel
theorem dX12_isOwn_78 : decode cX12_isOwn 78 = .ok (.lcmp, 1) := by decide +kernel
theorem dX12_isOwn_79 : decode cX12_isOwn 79 = .ok (.ifCond .ne 5, 3) := by decide +kernel
theorem dX12_isOwn_82 : decode cX12_isOwn 82 = .ok (.iconst 1, 1) := by decide +kernel
theorem dX12_isOwn_83 : decode cX12_isOwn 83 = .ok (.ireturn, 1) := by decide +kernel
theorem dX12_isOwn_84 : decode cX12_isOwn 84 = .ok (.lload_n 1, 1) := by decide +kernel
theorem dX12_isOwn_85 : decode cX12_isOwn 85 = .ok (.ldc2_w 346, 3) := by decide +kernel
theorem dX12_isOwn_88 : decode cX12_isOwn 88 = .ok (.lcmp, 1) := by decide +kernel
theorem dX12_isOwn_89 : decode cX12_isOwn 89 = .ok (.ifCond .eq 35, 3) := by decide +kernel
theorem dX12_isOwn_92 : decode cX12_isOwn 92 = .ok (.lload_n 1, 1) := by decide +kernel
theorem dX12_isOwn_93 : decode cX12_isOwn 93 = .ok (.ldc2_w 348, 3) := by decide +kernel
theorem dX12_isOwn_96 : decode cX12_isOwn 96 = .ok (.lcmp, 1) := by decide +kernel
theorem dX12_isOwn_97 : decode cX12_isOwn 97 = .ok (.ifCond .eq 27, 3) := by decide +kernel
theorem dX12_isOwn_100 : decode cX12_isOwn 100 = .ok (.lload_n 1, 1) := by decide +kernel
theorem dX12_isOwn_101 : decode cX12_isOwn 101 = .ok (.ldc2_w 350, 3) := by decide +kernel
theorem dX12_isOwn_104 : decode cX12_isOwn 104 = .ok (.lcmp, 1) := by decide +kernel
theorem dX12_isOwn_105 : decode cX12_isOwn 105 = .ok (.ifCond .eq 19, 3) := by decide +kernel
theorem dX12_isOwn_108 : decode cX12_isOwn 108 = .ok (.lload_n 1, 1) := by decide +kernel
theorem dX12_isOwn_109 : decode cX12_isOwn 109 = .ok (.ldc2_w 352, 3) := by decide +kernel
theorem dX12_isOwn_112 : decode cX12_isOwn 112 = .ok (.lcmp, 1) := by decide +kernel
theorem dX12_isOwn_113 : decode cX12_isOwn 113 = .ok (.ifCond .eq 11, 3) := by decide +kernel
theorem dX12_isOwn_116 : decode cX12_isOwn 116 = .ok (.lload_n 1, 1) := by decide +kernel
theorem dX12_isOwn_117 : decode cX12_isOwn 117 = .ok (.ldc2_w 354, 3) := by decide +kernel
theorem dX12_isOwn_120 : decode cX12_isOwn 120 = .ok (.lcmp, 1) := by decide +kernel
theorem dX12_isOwn_121 : decode cX12_isOwn 121 = .ok (.ifCond .ne 5, 3) := by decide +kernel
theorem dX12_isOwn_124 : decode cX12_isOwn 124 = .ok (.iconst 1, 1) := by decide +kernel
theorem dX12_isOwn_125 : decode cX12_isOwn 125 = .ok (.ireturn, 1) := by decide +kernel
theorem dX12_isOwn_126 : decode cX12_isOwn 126 = .ok (.lload_n 1, 1) := by decide +kernel
theorem dX12_isOwn_127 : decode cX12_isOwn 127 = .ok (.ldc2_w 356, 3) := by decide +kernel
theorem dX12_isOwn_130 : decode cX12_isOwn 130 = .ok (.lcmp, 1) := by decide +kernel
theorem dX12_isOwn_131 : decode cX12_isOwn 131 = .ok (.ifCond .eq 35, 3) := by decide +kernel
theorem dX12_isOwn_134 : decode cX12_isOwn 134 = .ok (.lload_n 1, 1) := by decide +kernel
theorem dX12_isOwn_135 : decode cX12_isOwn 135 = .ok (.ldc2_w 358, 3) := by decide +kernel
theorem dX12_isOwn_138 : decode cX12_isOwn 138 = .ok (.lcmp, 1) := by decide +kernel
theorem dX12_isOwn_139 : decode cX12_isOwn 139 = .ok (.ifCond .eq 27, 3) := by decide +kernel
theorem dX12_isOwn_142 : decode cX12_isOwn 142 = .ok (.lload_n 1, 1) := by decide +kernel
theorem dX12_isOwn_143 : decode cX12_isOwn 143 = .ok (.ldc2_w 360, 3) := by decide +kernel
theorem dX12_isOwn_146 : decode cX12_isOwn 146 = .ok (.lcmp, 1) := by decide +kernel
theorem dX12_isOwn_147 : decode cX12_isOwn 147 = .ok (.ifCond .eq 19, 3) := by decide +kernel
theorem dX12_isOwn_150 : decode cX12_isOwn 150 = .ok (.lload_n 1, 1) := by decide +kernel
theorem dX12_isOwn_151 : decode cX12_isOwn 151 = .ok (.ldc2_w 362, 3) := by decide +kernel
theorem dX12_isOwn_154 : decode cX12_isOwn 154 = .ok (.lcmp, 1) := by decide +kernel
theorem dX12_isOwn_155 : decode cX12_isOwn 155 = .ok (.ifCond .eq 11, 3) := by decide +kernel
theorem dX12_isOwn_158 : decode cX12_isOwn 158 = .ok (.lload_n 1, 1) := by decide +kernel
theorem dX12_isOwn_159 : decode cX12_isOwn 159 = .ok (.ldc2_w 364, 3) := by decide +kernel
theorem dX12_isOwn_162 : decode cX12_isOwn 162 = .ok (.lcmp, 1) := by decide +kernel
theorem dX12_isOwn_163 : decode cX12_isOwn 163 = .ok (.ifCond .ne 5, 3) := by decide +kernel
theorem dX12_isOwn_166 : decode cX12_isOwn 166 = .ok (.iconst 1, 1) := by decide +kernel
theorem dX12_isOwn_167 : decode cX12_isOwn 167 = .ok (.ireturn, 1) := by decide +kernel
theorem dX12_isOwn_168 : decode cX12_isOwn 168 = .ok (.lload_n 1, 1) := by decide +kernel
theorem dX12_isOwn_169 : decode cX12_isOwn 169 = .ok (.ldc2_w 366, 3) := by decide +kernel
theorem dX12_isOwn_172 : decode cX12_isOwn 172 = .ok (.lcmp, 1) := by decide +kernel
theorem dX12_isOwn_173 : decode cX12_isOwn 173 = .ok (.ifCond .eq 11, 3) := by decide +kernel
theorem dX12_isOwn_176 : decode cX12_isOwn 176 = .ok (.lload_n 1, 1) := by decide +kernel
theorem dX12_isOwn_177 : decode cX12_isOwn 177 = .ok (.ldc2_w 368, 3) := by decide +kernel
theorem dX12_isOwn_180 : decode cX12_isOwn 180 = .ok (.lcmp, 1) := by decide +kernel
theorem dX12_isOwn_181 : decode cX12_isOwn 181 = .ok (.ifCond .ne 5, 3) := by decide +kernel
theorem dX12_isOwn_184 : decode cX12_isOwn 184 = .ok (.iconst 1, 1) := by decide +kernel
theorem dX12_isOwn_185 : decode cX12_isOwn 185 = .ok (.ireturn, 1) := by decide +kernel
theorem dX12_isOwn_186 : decode cX12_isOwn 186 = .ok (.iconst 0, 1) := by decide +kernel
theorem dX12_isOwn_187 : decode cX12_isOwn 187 = .ok (.ireturn, 1) := by decide +kernel
theorem dX12_isRight_0 : decode cX12_isRight 0 = .ok (.aload_n 0, 1) := by decide +kernel
theorem dX12_isRight_1 : decode cX12_isRight 1 = .ok (.getfield 243, 3) := by decide +kernel
theorem dX12_isRight_4 : decode cX12_isRight 4 = .ok (.iload_n 1, 1) := by decide +kernel
theorem dX12_isRight_5 : decode cX12_isRight 5 = .ok (.iaload, 1) := by decide +kernel
theorem dX12_isRight_6 : decode cX12_isRight 6 = .ok (.invokestatic 544, 3) := by decide +kernel
theorem dX12_isRight_9 : decode cX12_isRight 9 = .ok (.aload_n 0, 1) := by decide +kernel
theorem dX12_isRight_10 : decode cX12_isRight 10 = .ok (.getfield 225, 3) := by decide +kernel
theorem dX12_isRight_13 : decode cX12_isRight 13 = .ok (.iload_n 1, 1) := by decide +kernel
theorem dX12_isRight_14 : decode cX12_isRight 14 = .ok (.iaload, 1) := by decide +kernel
theorem dX12_isRight_15 : decode cX12_isRight 15 = .ok (.if_icmp .lt 35, 3) := by decide +kernel
theorem dX12_isRight_18 : decode cX12_isRight 18 = .ok (.aload_n 0, 1) := by decide +kernel
theorem dX12_isRight_19 : decode cX12_isRight 19 = .ok (.aload_n 0, 1) := by decide +kernel
theorem dX12_isRight_20 : decode cX12_isRight 20 = .ok (.getfield 243, 3) := by decide +kernel
theorem dX12_isRight_23 : decode cX12_isRight 23 = .ok (.iload_n 1, 1) := by decide +kernel
theorem dX12_isRight_24 : decode cX12_isRight 24 = .ok (.iaload, 1) := by decide +kernel
theorem dX12_isRight_25 : decode cX12_isRight 25 = .ok (.invokevirtual 553, 3) := by decide +kernel
theorem dX12_isRight_28 : decode cX12_isRight 28 = .ok (.aload_n 0, 1) := by decide +kernel
theorem dX12_isRight_29 : decode cX12_isRight 29 = .ok (.iload_n 1, 1) := by decide +kernel
theorem dX12_isRight_30 : decode cX12_isRight 30 = .ok (.invokevirtual 556, 3) := by decide +kernel
theorem dX12_isRight_33 : decode cX12_isRight 33 = .ok (.aload_n 0, 1) := by decide +kernel
theorem dX12_isRight_34 : decode cX12_isRight 34 = .ok (.getfield 63, 3) := by decide +kernel
theorem dX12_isRight_37 : decode cX12_isRight 37 = .ok (.aload_n 0, 1) := by decide +kernel
theorem dX12_isRight_38 : decode cX12_isRight 38 = .ok (.getfield 48, 3) := by decide +kernel
theorem dX12_isRight_41 : decode cX12_isRight 41 = .ok (.iaload, 1) := by decide +kernel
theorem dX12_isRight_42 : decode cX12_isRight 42 = .ok (.isub, 1) := by decide +kernel
theorem dX12_isRight_43 : decode cX12_isRight 43 = .ok (.if_icmp .lt 7, 3) := by decide +kernel
theorem dX12_isRight_46 : decode cX12_isRight 46 = .ok (.iconst 1, 1) := by decide +kernel
theorem dX12_isRight_47 : decode cX12_isRight 47 = .ok (.goto 4, 3) := by decide +kernel
theorem dX12_isRight_50 : decode cX12_isRight 50 = .ok (.iconst 0, 1) := by decide +kernel
theorem dX12_isRight_51 : decode cX12_isRight 51 = .ok (.ireturn, 1) := by decide +kernel
theorem dX12_isSign_0 : decode cX12_isSign 0 = .ok (.aload_n 0, 1) := by decide +kernel
theorem dX12_isSign_1 : decode cX12_isSign 1 = .ok (.getfield 20, 3) := by decide +kernel
theorem dX12_isSign_4 : decode cX12_isSign 4 = .ok (.iconst 3, 1) := by decide +kernel
theorem dX12_isSign_5 : decode cX12_isSign 5 = .ok (.if_icmp .ne 15, 3) := by decide +kernel
theorem dX12_isSign_8 : decode cX12_isSign 8 = .ok (.aload_n 0, 1) := by decide +kernel
theorem dX12_isSign_9 : decode cX12_isSign 9 = .ok (.getfield 29, 3) := by decide +kernel
theorem dX12_isSign_12 : decode cX12_isSign 12 = .ok (.iload_n 1, 1) := by decide +kernel
theorem dX12_isSign_13 : decode cX12_isSign 13 = .ok (.if_icmp .ne 7, 3) := by decide +kernel
theorem dX12_isSign_16 : decode cX12_isSign 16 = .ok (.iconst 1, 1) := by decide +kernel
theorem dX12_isSign_17 : decode cX12_isSign 17 = .ok (.goto 4, 3) := by decide +kernel
theorem dX12_isSign_20 : decode cX12_isSign 20 = .ok (.iconst 0, 1) := by decide +kernel
theorem dX12_isSign_21 : decode cX12_isSign 21 = .ok (.ireturn, 1) := by decide +kernel
theorem dX12_isSo_0 : decode cX12_isSo 0 = .ok (.iload_n 1, 1) := by decide +kernel
theorem dX12_isSo_1 : decode cX12_isSo 1 = .ok (.aload_n 0, 1) := by decide +kernel
theorem dX12_isSo_2 : decode cX12_isSo 2 = .ok (.invokevirtual 457, 3) := by decide +kernel
theorem dX12_isSo_5 : decode cX12_isSo 5 = .ok (.if_icmp .gt 29, 3) := by decide +kernel
theorem dX12_isSo_8 : decode cX12_isSo 8 = .ok (.aload_n 0, 1) := by decide +kernel
theorem dX12_isSo_9 : decode cX12_isSo 9 = .ok (.getfield 141, 3) := by decide +kernel
theorem dX12_isSo_12 : decode cX12_isSo 12 = .ok (.iload_n 1, 1) := by decide +kernel
theorem dX12_isSo_13 : decode cX12_isSo 13 = .ok (.iaload, 1) := by decide +kernel
theorem dX12_isSo_14 : decode cX12_isSo 14 = .ok (.ifCond .eq 16, 3) := by decide +kernel
theorem dX12_isSo_17 : decode cX12_isSo 17 = .ok (.aload_n 0, 1) := by decide +kernel
theorem dX12_isSo_18 : decode cX12_isSo 18 = .ok (.getfield 141, 3) := by decide +kernel
theorem dX12_isSo_21 : decode cX12_isSo 21 = .ok (.iload_n 1, 1) := by decide +kernel
theorem dX12_isSo_22 : decode cX12_isSo 22 = .ok (.iaload, 1) := by decide +kernel
theorem dX12_isSo_23 : decode cX12_isSo 23 = .ok (.aload_n 0, 1) := by decide +kernel
theorem dX12_isSo_24 : decode cX12_isSo 24 = .ok (.invokevirtual 457, 3) := by decide +kernel
theorem dX12_isSo_27 : decode cX12_isSo 27 = .ok (.if_icmp .le 7, 3) := by decide +kernel
theorem dX12_isSo_30 : decode cX12_isSo 30 = .ok (.iconst 1, 1) := by decide +kernel
theorem dX12_isSo_31 : decode cX12_isSo 31 = .ok (.goto 4, 3) := by decide +kernel
theorem dX12_isSo_34 : decode cX12_isSo 34 = .ok (.iconst 0, 1) := by decide +kernel
theorem dX12_isSo_35 : decode cX12_isSo 35 = .ok (.ireturn, 1) := by decide +kernel
theorem dX12_isTest_0 : decode cX12_isTest 0 = .ok (.iload_n 0, 1) := by decide +kernel
theorem dX12_isTest_1 : decode cX12_isTest 1 = .ok (.iconst 1, 1) := by decide +kernel
theorem dX12_isTest_2 : decode cX12_isTest 2 = .ok (.if_icmp .eq 8, 3) := by decide +kernel
theorem dX12_isTest_5 : decode cX12_isTest 5 = .ok (.iload_n 0, 1) := by decide +kernel
theorem dX12_isTest_6 : decode cX12_isTest 6 = .ok (.iconst 4, 1) := by decide +kernel
theorem dX12_isTest_7 : decode cX12_isTest 7 = .ok (.if_icmp .ne 7, 3) := by decide +kernel
theorem dX12_isTest_10 : decode cX12_isTest 10 = .ok (.iconst 1, 1) := by decide +kernel
theorem dX12_isTest_11 : decode cX12_isTest 11 = .ok (.goto 4, 3) := by decide +kernel
theorem dX12_isTest_14 : decode cX12_isTest 14 = .ok (.iconst 0, 1) := by decide +kernel
theorem dX12_isTest_15 : decode cX12_isTest 15 = .ok (.ireturn, 1) := by decide +kernel
theorem dX12_isWhich_0 : decode cX12_isWhich 0 = .ok (.iload_n 0, 1) := by decide +kernel
theorem dX12_isWhich_1 : decode cX12_isWhich 1 = .ok (.iconst 2, 1) := by decide +kernel
theorem dX12_isWhich_2 : decode cX12_isWhich 2 = .ok (.if_icmp .eq 8, 3) := by decide +kernel
theorem dX12_isWhich_5 : decode cX12_isWhich 5 = .ok (.iload_n 0, 1) := by decide +kernel
theorem dX12_isWhich_6 : decode cX12_isWhich 6 = .ok (.iconst 5, 1) := by decide +kernel
theorem dX12_isWhich_7 : decode cX12_isWhich 7 = .ok (.if_icmp .ne 7, 3) := by decide +kernel
theorem dX12_isWhich_10 : decode cX12_isWhich 10 = .ok (.iconst 1, 1) := by decide +kernel
theorem dX12_isWhich_11 : decode cX12_isWhich 11 = .ok (.goto 4, 3) := by decide +kernel
theorem dX12_isWhich_14 : decode cX12_isWhich 14 = .ok (.iconst 0, 1) := by decide +kernel
theorem dX12_isWhich_15 : decode cX12_isWhich 15 = .ok (.ireturn, 1) := by decide +kernel
theorem dX12_isWord_0 : decode cX12_isWord 0 = .ok (.aload_n 0, 1) := by decide +kernel
theorem dX12_isWord_1 : decode cX12_isWord 1 = .ok (.getfield 20, 3) := by decide +kernel
theorem dX12_isWord_4 : decode cX12_isWord 4 = .ok (.iconst 1, 1) := by decide +kernel
theorem dX12_isWord_5 : decode cX12_isWord 5 = .ok (.if_icmp .ne 16, 3) := by decide +kernel
theorem dX12_isWord_8 : decode cX12_isWord 8 = .ok (.aload_n 0, 1) := by decide +kernel
theorem dX12_isWord_9 : decode cX12_isWord 9 = .ok (.getfield 32, 3) := by decide +kernel
theorem dX12_isWord_12 : decode cX12_isWord 12 = .ok (.lload_n 1, 1) := by decide +kernel
theorem dX12_isWord_13 : decode cX12_isWord 13 = .ok (.lcmp, 1) := by decide +kernel
theorem dX12_isWord_14 : decode cX12_isWord 14 = .ok (.ifCond .ne 7, 3) := by decide +kernel
theorem dX12_isWord_17 : decode cX12_isWord 17 = .ok (.iconst 1, 1) := by decide +kernel
theorem dX12_isWord_18 : decode cX12_isWord 18 = .ok (.goto 4, 3) := by decide +kernel
theorem dX12_isWord_21 : decode cX12_isWord 21 = .ok (.iconst 0, 1) := by decide +kernel
theorem dX12_isWord_22 : decode cX12_isWord 22 = .ok (.ireturn, 1) := by decide +kernel
theorem dX12_joins_0 : decode cX12_joins 0 = .ok (.aload_n 0, 1) := by decide +kernel
theorem dX12_joins_1 : decode cX12_joins 1 = .ok (.getfield 119, 3) := by decide +kernel
theorem dX12_joins_4 : decode cX12_joins 4 = .ok (.aload_n 0, 1) := by decide +kernel
theorem dX12_joins_5 : decode cX12_joins 5 = .ok (.getfield 107, 3) := by decide +kernel
theorem dX12_joins_8 : decode cX12_joins 8 = .ok (.aload_n 0, 1) := by decide +kernel
theorem dX12_joins_9 : decode cX12_joins 9 = .ok (.getfield 110, 3) := by decide +kernel
theorem dX12_joins_12 : decode cX12_joins 12 = .ok (.iconst 1, 1) := by decide +kernel
theorem dX12_joins_13 : decode cX12_joins 13 = .ok (.isub, 1) := by decide +kernel
theorem dX12_joins_14 : decode cX12_joins 14 = .ok (.iaload, 1) := by decide +kernel
theorem dX12_joins_15 : decode cX12_joins 15 = .ok (.if_icmp .le 48, 3) := by decide +kernel
theorem dX12_joins_18 : decode cX12_joins 18 = .ok (.aload_n 0, 1) := by decide +kernel
theorem dX12_joins_19 : decode cX12_joins 19 = .ok (.getfield 116, 3) := by decide +kernel
theorem dX12_joins_22 : decode cX12_joins 22 = .ok (.aload_n 0, 1) := by decide +kernel
theorem dX12_joins_23 : decode cX12_joins 23 = .ok (.getfield 119, 3) := by decide +kernel
theorem dX12_joins_26 : decode cX12_joins 26 = .ok (.iconst 1, 1) := by decide +kernel
theorem dX12_joins_27 : decode cX12_joins 27 = .ok (.isub, 1) := by decide +kernel
theorem dX12_joins_28 : decode cX12_joins 28 = .ok (.iaload, 1) := by decide +kernel
theorem dX12_joins_29 : decode cX12_joins 29 = .ok (.invokestatic 370, 3) := by decide +kernel
theorem dX12_joins_32 : decode cX12_joins 32 = .ok (.iload_n 1, 1) := by decide +kernel
theorem dX12_joins_33 : decode cX12_joins 33 = .ok (.if_icmp .lt 30, 3) := by decide +kernel
theorem dX12_joins_36 : decode cX12_joins 36 = .ok (.aload_n 0, 1) := by decide +kernel
theorem dX12_joins_37 : decode cX12_joins 37 = .ok (.dup, 1) := by decide +kernel
theorem dX12_joins_38 : decode cX12_joins 38 = .ok (.getfield 119, 3) := by decide +kernel
theorem dX12_joins_41 : decode cX12_joins 41 = .ok (.iconst 1, 1) := by decide +kernel
theorem dX12_joins_42 : decode cX12_joins 42 = .ok (.isub, 1) := by decide +kernel
theorem dX12_joins_43 : decode cX12_joins 43 = .ok (.putfield 119, 3) := by decide +kernel
theorem dX12_joins_46 : decode cX12_joins 46 = .ok (.aload_n 0, 1) := by decide +kernel
theorem dX12_joins_47 : decode cX12_joins 47 = .ok (.aload_n 0, 1) := by decide +kernel
theorem dX12_joins_48 : decode cX12_joins 48 = .ok (.getfield 116, 3) := by decide +kernel
theorem dX12_joins_51 : decode cX12_joins 51 = .ok (.aload_n 0, 1) := by decide +kernel
theorem dX12_joins_52 : decode cX12_joins 52 = .ok (.getfield 119, 3) := by decide +kernel
theorem dX12_joins_55 : decode cX12_joins 55 = .ok (.iaload, 1) := by decide +kernel
theorem dX12_joins_56 : decode cX12_joins 56 = .ok (.iconst 0, 1) := by decide +kernel
theorem dX12_joins_57 : decode cX12_joins 57 = .ok (.invokevirtual 374, 3) := by decide +kernel
theorem dX12_joins_60 : decode cX12_joins 60 = .ok (.goto (-60), 3) := by decide +kernel
theorem dX12_joins_63 : decode cX12_joins 63 = .ok (.return_, 1) := by decide +kernel
theorem dX12_kind_0 : decode cX12_kind 0 = .ok (.aload_n 0, 1) := by decide +kernel
theorem dX12_kind_1 : decode cX12_kind 1 = .ok (.getfield 54, 3) := by decide +kernel
theorem dX12_kind_4 : decode cX12_kind 4 = .ok (.aload_n 0, 1) := by decide +kernel
theorem dX12_kind_5 : decode cX12_kind 5 = .ok (.getfield 51, 3) := by decide +kernel
theorem dX12_kind_8 : decode cX12_kind 8 = .ok (.iaload, 1) := by decide +kernel
theorem dX12_kind_9 : decode cX12_kind 9 = .ok (.istore_n 1, 1) := by decide +kernel
theorem dX12_kind_10 : decode cX12_kind 10 = .ok (.iload_n 1, 1) := by decide +kernel
theorem dX12_kind_11 : decode cX12_kind 11 = .ok (.bipush 10, 2) := by decide +kernel
theorem dX12_kind_13 : decode cX12_kind 13 = .ok (.if_icmp .ne 12, 3) := by decide +kernel
theorem dX12_kind_16 : decode cX12_kind 16 = .ok (.aload_n 0, 1) := by decide +kernel
theorem dX12_kind_17 : decode cX12_kind 17 = .ok (.iconst 5, 1) := by decide +kernel
theorem dX12_kind_18 : decode cX12_kind 18 = .ok (.aload_n 0, 1) := by decide +kernel
theorem dX12_kind_19 : decode cX12_kind 19 = .ok (.getfield 23, 3) := by decide +kernel
theorem dX12_kind_22 : decode cX12_kind 22 = .ok (.invokevirtual 308, 3) := by decide +kernel
theorem dX12_kind_25 : decode cX12_kind 25 = .ok (.aload_n 0, 1) := by decide +kernel
theorem dX12_kind_26 : decode cX12_kind 26 = .ok (.getfield 36, 3) := by decide +kernel
theorem dX12_kind_29 : decode cX12_kind 29 = .ok (.ifCond .ne 7, 3) := by decide +kernel
theorem dX12_kind_32 : decode cX12_kind 32 = .ok (.aload_n 0, 1) := by decide +kernel
theorem dX12_kind_33 : decode cX12_kind 33 = .ok (.invokevirtual 312, 3) := by decide +kernel
theorem dX12_kind_36 : decode cX12_kind 36 = .ok (.aload_n 0, 1) := by decide +kernel
theorem dX12_kind_37 : decode cX12_kind 37 = .ok (.getfield 36, 3) := by decide +kernel
theorem dX12_kind_40 : decode cX12_kind 40 = .ok (.ifCond .ne 31, 3) := by decide +kernel
theorem dX12_kind_43 : decode cX12_kind 43 = .ok (.aload_n 0, 1) := by decide +kernel
theorem dX12_kind_44 : decode cX12_kind 44 = .ok (.getfield 20, 3) := by decide +kernel
theorem dX12_kind_47 : decode cX12_kind 47 = .ok (.iconst 1, 1) := by decide +kernel
theorem dX12_kind_48 : decode cX12_kind 48 = .ok (.if_icmp .ne 14, 3) := by decide +kernel
theorem dX12_kind_51 : decode cX12_kind 51 = .ok (.aload_n 0, 1) := by decide +kernel
theorem dX12_kind_52 : decode cX12_kind 52 = .ok (.aload_n 0, 1) := by decide +kernel
theorem dX12_kind_53 : decode cX12_kind 53 = .ok (.getfield 32, 3) := by decide +kernel
theorem dX12_kind_56 : decode cX12_kind 56 = .ok (.invokevirtual 395, 3) := by decide +kernel
theorem dX12_kind_59 : decode cX12_kind 59 = .ok (.ifCond .eq 12, 3) := by decide +kernel
theorem dX12_kind_62 : decode cX12_kind 62 = .ok (.aload_n 0, 1) := by decide +kernel
theorem dX12_kind_63 : decode cX12_kind 63 = .ok (.iconst 1, 1) := by decide +kernel
theorem dX12_kind_64 : decode cX12_kind 64 = .ok (.aload_n 0, 1) := by decide +kernel
theorem dX12_kind_65 : decode cX12_kind 65 = .ok (.getfield 23, 3) := by decide +kernel
theorem dX12_kind_68 : decode cX12_kind 68 = .ok (.invokevirtual 308, 3) := by decide +kernel
theorem dX12_kind_71 : decode cX12_kind 71 = .ok (.aload_n 0, 1) := by decide +kernel
theorem dX12_kind_72 : decode cX12_kind 72 = .ok (.getfield 36, 3) := by decide +kernel
theorem dX12_kind_75 : decode cX12_kind 75 = .ok (.ifCond .ne 34, 3) := by decide +kernel
theorem dX12_kind_78 : decode cX12_kind 78 = .ok (.aload_n 0, 1) := by decide +kernel
theorem dX12_kind_79 : decode cX12_kind 79 = .ok (.aload_n 0, 1) := by decide +kernel
theorem dX12_kind_80 : decode cX12_kind 80 = .ok (.getfield 32, 3) := by decide +kernel
theorem dX12_kind_83 : decode cX12_kind 83 = .ok (.invokevirtual 398, 3) := by decide +kernel
theorem dX12_kind_86 : decode cX12_kind 86 = .ok (.ifCond .ge 14, 3) := by decide +kernel
theorem dX12_kind_89 : decode cX12_kind 89 = .ok (.aload_n 0, 1) := by decide +kernel
theorem dX12_kind_90 : decode cX12_kind 90 = .ok (.aload_n 0, 1) := by decide +kernel
theorem dX12_kind_91 : decode cX12_kind 91 = .ok (.getfield 32, 3) := by decide +kernel
theorem dX12_kind_94 : decode cX12_kind 94 = .ok (.invokevirtual 402, 3) := by decide +kernel
theorem dX12_kind_97 : decode cX12_kind 97 = .ok (.ifCond .lt 12, 3) := by decide +kernel
theorem dX12_kind_100 : decode cX12_kind 100 = .ok (.aload_n 0, 1) := by decide +kernel
theorem dX12_kind_101 : decode cX12_kind 101 = .ok (.iconst 2, 1) := by decide +kernel
theorem dX12_kind_102 : decode cX12_kind 102 = .ok (.aload_n 0, 1) := by decide +kernel
