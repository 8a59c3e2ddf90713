theorem dX0_init_0 : decode cX0_init 0 = .ok (.aload_n 0, 1) := by decide +kernel
theorem dX0_init_1 : decode cX0_init 1 = .ok (.invokespecial 3, 3) := by decide +kernel
theorem dX0_init_4 : decode cX0_init 4 = .ok (.aload_n 0, 1) := by decide +kernel
theorem dX0_init_5 : decode cX0_init 5 = .ok (.bipush 8, 2) := by decide +kernel
theorem dX0_init_7 : decode cX0_init 7 = .ok (.newarray .int, 2) := by decide +kernel
theorem dX0_init_9 : decode cX0_init 9 = .ok (.putfield 9, 3) := by decide +kernel
theorem dX0_init_12 : decode cX0_init 12 = .ok (.aload_n 0, 1) := by decide +kernel
theorem dX0_init_13 : decode cX0_init 13 = .ok (.bipush 8, 2) := by decide +kernel
theorem dX0_init_15 : decode cX0_init 15 = .ok (.newarray .int, 2) := by decide +kernel
theorem dX0_init_17 : decode cX0_init 17 = .ok (.putfield 15, 3) := by decide +kernel
theorem dX0_init_20 : decode cX0_init 20 = .ok (.aload_n 0, 1) := by decide +kernel
theorem dX0_init_21 : decode cX0_init 21 = .ok (.bipush 8, 2) := by decide +kernel
theorem dX0_init_23 : decode cX0_init 23 = .ok (.newarray .int, 2) := by decide +kernel
theorem dX0_init_25 : decode cX0_init 25 = .ok (.putfield 18, 3) := by decide +kernel
theorem dX0_init_28 : decode cX0_init 28 = .ok (.return_, 1) := by decide +kernel
theorem dX0_clear_0 : decode cX0_clear 0 = .ok (.aload_n 0, 1) := by decide +kernel
theorem dX0_clear_1 : decode cX0_clear 1 = .ok (.getfield 9, 3) := by decide +kernel
theorem dX0_clear_4 : decode cX0_clear 4 = .ok (.iconst (-1), 1) := by decide +kernel
theorem dX0_clear_5 : decode cX0_clear 5 = .ok (.invokestatic 21, 3) := by decide +kernel
theorem dX0_clear_8 : decode cX0_clear 8 = .ok (.aload_n 0, 1) := by decide +kernel
theorem dX0_clear_9 : decode cX0_clear 9 = .ok (.getfield 15, 3) := by decide +kernel
theorem dX0_clear_12 : decode cX0_clear 12 = .ok (.iconst 0, 1) := by decide +kernel
theorem dX0_clear_13 : decode cX0_clear 13 = .ok (.invokestatic 21, 3) := by decide +kernel
theorem dX0_clear_16 : decode cX0_clear 16 = .ok (.aload_n 0, 1) := by decide +kernel
theorem dX0_clear_17 : decode cX0_clear 17 = .ok (.getfield 18, 3) := by decide +kernel
theorem dX0_clear_20 : decode cX0_clear 20 = .ok (.iconst 0, 1) := by decide +kernel
theorem dX0_clear_21 : decode cX0_clear 21 = .ok (.invokestatic 21, 3) := by decide +kernel
theorem dX0_clear_24 : decode cX0_clear 24 = .ok (.return_, 1) := by decide +kernel
theorem dX0_add_0 : decode cX0_add 0 = .ok (.iload_n 1, 1) := by decide +kernel
theorem dX0_add_1 : decode cX0_add 1 = .ok (.ifCond .lt 65, 3) := by decide +kernel
theorem dX0_add_4 : decode cX0_add 4 = .ok (.iload_n 1, 1) := by decide +kernel
theorem dX0_add_5 : decode cX0_add 5 = .ok (.bipush 8, 2) := by decide +kernel
theorem dX0_add_7 : decode cX0_add 7 = .ok (.if_icmp .ge 59, 3) := by decide +kernel
theorem dX0_add_10 : decode cX0_add 10 = .ok (.aload_n 0, 1) := by decide +kernel
theorem dX0_add_11 : decode cX0_add 11 = .ok (.getfield 15, 3) := by decide +kernel
theorem dX0_add_14 : decode cX0_add 14 = .ok (.iload_n 1, 1) := by decide +kernel
theorem dX0_add_15 : decode cX0_add 15 = .ok (.iload_n 2, 1) := by decide +kernel
theorem dX0_add_16 : decode cX0_add 16 = .ok (.aload_n 0, 1) := by decide +kernel
theorem dX0_add_17 : decode cX0_add 17 = .ok (.getfield 9, 3) := by decide +kernel
theorem dX0_add_20 : decode cX0_add 20 = .ok (.iload_n 1, 1) := by decide +kernel
theorem dX0_add_21 : decode cX0_add 21 = .ok (.iaload, 1) := by decide +kernel
theorem dX0_add_22 : decode cX0_add 22 = .ok (.if_icmp .ne 14, 3) := by decide +kernel
theorem dX0_add_25 : decode cX0_add 25 = .ok (.aload_n 0, 1) := by decide +kernel
theorem dX0_add_26 : decode cX0_add 26 = .ok (.getfield 15, 3) := by decide +kernel
theorem dX0_add_29 : decode cX0_add 29 = .ok (.iload_n 1, 1) := by decide +kernel
theorem dX0_add_30 : decode cX0_add 30 = .ok (.iaload, 1) := by decide +kernel
theorem dX0_add_31 : decode cX0_add 31 = .ok (.iconst 1, 1) := by decide +kernel
theorem dX0_add_32 : decode cX0_add 32 = .ok (.iadd, 1) := by decide +kernel
theorem dX0_add_33 : decode cX0_add 33 = .ok (.goto 4, 3) := by decide +kernel
theorem dX0_add_36 : decode cX0_add 36 = .ok (.iconst 1, 1) := by decide +kernel
theorem dX0_add_37 : decode cX0_add 37 = .ok (.iastore, 1) := by decide +kernel
theorem dX0_add_38 : decode cX0_add 38 = .ok (.aload_n 0, 1) := by decide +kernel
theorem dX0_add_39 : decode cX0_add 39 = .ok (.getfield 9, 3) := by decide +kernel
theorem dX0_add_42 : decode cX0_add 42 = .ok (.iload_n 1, 1) := by decide +kernel
theorem dX0_add_43 : decode cX0_add 43 = .ok (.iload_n 2, 1) := by decide +kernel
theorem dX0_add_44 : decode cX0_add 44 = .ok (.iastore, 1) := by decide +kernel
theorem dX0_add_45 : decode cX0_add 45 = .ok (.aload_n 0, 1) := by decide +kernel
theorem dX0_add_46 : decode cX0_add 46 = .ok (.getfield 18, 3) := by decide +kernel
theorem dX0_add_49 : decode cX0_add 49 = .ok (.iload_n 1, 1) := by decide +kernel
theorem dX0_add_50 : decode cX0_add 50 = .ok (.aload_n 0, 1) := by decide +kernel
theorem dX0_add_51 : decode cX0_add 51 = .ok (.getfield 18, 3) := by decide +kernel
theorem dX0_add_54 : decode cX0_add 54 = .ok (.iload_n 1, 1) := by decide +kernel
theorem dX0_add_55 : decode cX0_add 55 = .ok (.iaload, 1) := by decide +kernel
theorem dX0_add_56 : decode cX0_add 56 = .ok (.aload_n 0, 1) := by decide +kernel
theorem dX0_add_57 : decode cX0_add 57 = .ok (.getfield 15, 3) := by decide +kernel
theorem dX0_add_60 : decode cX0_add 60 = .ok (.iload_n 1, 1) := by decide +kernel
theorem dX0_add_61 : decode cX0_add 61 = .ok (.iaload, 1) := by decide +kernel
theorem dX0_add_62 : decode cX0_add 62 = .ok (.invokestatic 27, 3) := by decide +kernel
theorem dX0_add_65 : decode cX0_add 65 = .ok (.iastore, 1) := by decide +kernel
theorem dX0_add_66 : decode cX0_add 66 = .ok (.return_, 1) := by decide +kernel
theorem dX0_mostOf_0 : decode cX0_mostOf 0 = .ok (.iload_n 1, 1) := by decide +kernel
theorem dX0_mostOf_1 : decode cX0_mostOf 1 = .ok (.ifCond .lt 18, 3) := by decide +kernel
theorem dX0_mostOf_4 : decode cX0_mostOf 4 = .ok (.iload_n 1, 1) := by decide +kernel
theorem dX0_mostOf_5 : decode cX0_mostOf 5 = .ok (.bipush 8, 2) := by decide +kernel
theorem dX0_mostOf_7 : decode cX0_mostOf 7 = .ok (.if_icmp .ge 12, 3) := by decide +kernel
theorem dX0_mostOf_10 : decode cX0_mostOf 10 = .ok (.aload_n 0, 1) := by decide +kernel
theorem dX0_mostOf_11 : decode cX0_mostOf 11 = .ok (.getfield 18, 3) := by decide +kernel
theorem dX0_mostOf_14 : decode cX0_mostOf 14 = .ok (.iload_n 1, 1) := by decide +kernel
theorem dX0_mostOf_15 : decode cX0_mostOf 15 = .ok (.iaload, 1) := by decide +kernel
theorem dX0_mostOf_16 : decode cX0_mostOf 16 = .ok (.goto 4, 3) := by decide +kernel
theorem dX0_mostOf_19 : decode cX0_mostOf 19 = .ok (.iconst 0, 1) := by decide +kernel
theorem dX0_mostOf_20 : decode cX0_mostOf 20 = .ok (.ireturn, 1) := by decide +kernel
theorem dX1_init_0 : decode cX1_init 0 = .ok (.aload_n 0, 1) := by decide +kernel
theorem dX1_init_1 : decode cX1_init 1 = .ok (.invokespecial 3, 3) := by decide +kernel
theorem dX1_init_4 : decode cX1_init 4 = .ok (.aload_n 0, 1) := by decide +kernel
theorem dX1_init_5 : decode cX1_init 5 = .ok (.sipush 1250, 3) := by decide +kernel
theorem dX1_init_8 : decode cX1_init 8 = .ok (.newarray .long, 2) := by decide +kernel
theorem dX1_init_10 : decode cX1_init 10 = .ok (.putfield 11, 3) := by decide +kernel
theorem dX1_init_13 : decode cX1_init 13 = .ok (.aload_n 0, 1) := by decide +kernel
theorem dX1_init_14 : decode cX1_init 14 = .ok (.ldc 15, 2) := by decide +kernel
theorem dX1_init_16 : decode cX1_init 16 = .ok (.newarray .int, 2) := by decide +kernel
theorem dX1_init_18 : decode cX1_init 18 = .ok (.putfield 16, 3) := by decide +kernel
theorem dX1_init_21 : decode cX1_init 21 = .ok (.return_, 1) := by decide +kernel
theorem dX1_stateOf_0 : decode cX1_stateOf 0 = .ok (.iload_n 0, 1) := by decide +kernel
theorem dX1_stateOf_1 : decode cX1_stateOf 1 = .ok (.sipush 10000, 3) := by decide +kernel
theorem dX1_stateOf_4 : decode cX1_stateOf 4 = .ok (.imul, 1) := by decide +kernel
theorem dX1_stateOf_5 : decode cX1_stateOf 5 = .ok (.iload_n 1, 1) := by decide +kernel
theorem dX1_stateOf_6 : decode cX1_stateOf 6 = .ok (.iadd, 1) := by decide +kernel
theorem dX1_stateOf_7 : decode cX1_stateOf 7 = .ok (.ireturn, 1) := by decide +kernel
theorem dX1_done_0 : decode cX1_done 0 = .ok (.aload_n 0, 1) := by decide +kernel
theorem dX1_done_1 : decode cX1_done 1 = .ok (.getfield 20, 3) := by decide +kernel
theorem dX1_done_4 : decode cX1_done 4 = .ok (.ireturn, 1) := by decide +kernel
theorem dX1_fewest_0 : decode cX1_fewest 0 = .ok (.aload_n 0, 1) := by decide +kernel
theorem dX1_fewest_1 : decode cX1_fewest 1 = .ok (.getfield 24, 3) := by decide +kernel
theorem dX1_fewest_4 : decode cX1_fewest 4 = .ok (.ireturn, 1) := by decide +kernel
theorem dX1_toFirst_0 : decode cX1_toFirst 0 = .ok (.aload_n 0, 1) := by decide +kernel
theorem dX1_toFirst_1 : decode cX1_toFirst 1 = .ok (.getfield 27, 3) := by decide +kernel
theorem dX1_toFirst_4 : decode cX1_toFirst 4 = .ok (.ireturn, 1) := by decide +kernel
theorem dX1_search_0 : decode cX1_search 0 = .ok (.aload_n 0, 1) := by decide +kernel
theorem dX1_search_1 : decode cX1_search 1 = .ok (.dup, 1) := by decide +kernel
theorem dX1_search_2 : decode cX1_search 2 = .ok (.getfield 20, 3) := by decide +kernel
theorem dX1_search_5 : decode cX1_search 5 = .ok (.iconst 1, 1) := by decide +kernel
theorem dX1_search_6 : decode cX1_search 6 = .ok (.iadd, 1) := by decide +kernel
theorem dX1_search_7 : decode cX1_search 7 = .ok (.putfield 20, 3) := by decide +kernel
theorem dX1_search_10 : decode cX1_search 10 = .ok (.aload_n 0, 1) := by decide +kernel
theorem dX1_search_11 : decode cX1_search 11 = .ok (.iload_n 3, 1) := by decide +kernel
theorem dX1_search_12 : decode cX1_search 12 = .ok (.iload 4, 2) := by decide +kernel
theorem dX1_search_14 : decode cX1_search 14 = .ok (.if_icmp .ne 7, 3) := by decide +kernel
theorem dX1_search_17 : decode cX1_search 17 = .ok (.iconst 0, 1) := by decide +kernel
theorem dX1_search_18 : decode cX1_search 18 = .ok (.goto 4, 3) := by decide +kernel
theorem dX1_search_21 : decode cX1_search 21 = .ok (.iconst (-1), 1) := by decide +kernel
theorem dX1_search_22 : decode cX1_search 22 = .ok (.putfield 24, 3) := by decide +kernel
theorem dX1_search_25 : decode cX1_search 25 = .ok (.aload_n 0, 1) := by decide +kernel
theorem dX1_search_26 : decode cX1_search 26 = .ok (.iconst (-1), 1) := by decide +kernel
theorem dX1_search_27 : decode cX1_search 27 = .ok (.putfield 27, 3) := by decide +kernel
theorem dX1_search_30 : decode cX1_search 30 = .ok (.aload_n 0, 1) := by decide +kernel
theorem dX1_search_31 : decode cX1_search 31 = .ok (.iconst 0, 1) := by decide +kernel
theorem dX1_search_32 : decode cX1_search 32 = .ok (.putfield 30, 3) := by decide +kernel
theorem dX1_search_35 : decode cX1_search 35 = .ok (.aload_n 0, 1) := by decide +kernel
theorem dX1_search_36 : decode cX1_search 36 = .ok (.getfield 11, 3) := by decide +kernel
theorem dX1_search_39 : decode cX1_search 39 = .ok (.lconst 0, 1) := by decide +kernel
theorem dX1_search_40 : decode cX1_search 40 = .ok (.invokestatic 33, 3) := by decide +kernel
theorem dX1_search_43 : decode cX1_search 43 = .ok (.aload_n 0, 1) := by decide +kernel
theorem dX1_search_44 : decode cX1_search 44 = .ok (.iconst 0, 1) := by decide +kernel
theorem dX1_search_45 : decode cX1_search 45 = .ok (.iload_n 3, 1) := by decide +kernel
theorem dX1_search_46 : decode cX1_search 46 = .ok (.invokevirtual 39, 3) := by decide +kernel
theorem dX1_search_49 : decode cX1_search 49 = .ok (.iconst 0, 1) := by decide +kernel
theorem dX1_search_50 : decode cX1_search 50 = .ok (.istore 5, 2) := by decide +kernel
theorem dX1_search_52 : decode cX1_search 52 = .ok (.iconst 1, 1) := by decide +kernel
theorem dX1_search_53 : decode cX1_search 53 = .ok (.istore 6, 2) := by decide +kernel
theorem dX1_search_55 : decode cX1_search 55 = .ok (.iload 6, 2) := by decide +kernel
theorem dX1_search_57 : decode cX1_search 57 = .ok (.bipush 20, 2) := by decide +kernel
theorem dX1_search_59 : decode cX1_search 59 = .ok (.if_icmp .gt 56, 3) := by decide +kernel
theorem dX1_search_62 : decode cX1_search 62 = .ok (.aload_n 0, 1) := by decide +kernel
theorem dX1_search_63 : decode cX1_search 63 = .ok (.getfield 24, 3) := by decide +kernel
theorem dX1_search_66 : decode cX1_search 66 = .ok (.iconst (-1), 1) := by decide +kernel
theorem dX1_search_67 : decode cX1_search 67 = .ok (.if_icmp .ne 48, 3) := by decide +kernel
theorem dX1_search_70 : decode cX1_search 70 = .ok (.aload_n 0, 1) := by decide +kernel
theorem dX1_search_71 : decode cX1_search 71 = .ok (.getfield 30, 3) := by decide +kernel
theorem dX1_search_74 : decode cX1_search 74 = .ok (.istore 7, 2) := by decide +kernel
theorem dX1_search_76 : decode cX1_search 76 = .ok (.iload 5, 2) := by decide +kernel
theorem dX1_search_78 : decode cX1_search 78 = .ok (.iload 7, 2) := by decide +kernel
theorem dX1_search_80 : decode cX1_search 80 = .ok (.if_icmp .ge 29, 3) := by decide +kernel
theorem dX1_search_83 : decode cX1_search 83 = .ok (.aload_n 0, 1) := by decide +kernel
theorem dX1_search_84 : decode cX1_search 84 = .ok (.getfield 24, 3) := by decide +kernel
theorem dX1_search_87 : decode cX1_search 87 = .ok (.iconst (-1), 1) := by decide +kernel
theorem dX1_search_88 : decode cX1_search 88 = .ok (.if_icmp .ne 21, 3) := by decide +kernel
theorem dX1_search_91 : decode cX1_search 91 = .ok (.aload_n 0, 1) := by decide +kernel
theorem dX1_search_92 : decode cX1_search 92 = .ok (.aload_n 1, 1) := by decide +kernel
theorem dX1_search_93 : decode cX1_search 93 = .ok (.aload_n 2, 1) := by decide +kernel
theorem dX1_search_94 : decode cX1_search 94 = .ok (.iload 5, 2) := by decide +kernel
theorem dX1_search_96 : decode cX1_search 96 = .ok (.iload 6, 2) := by decide +kernel
theorem dX1_search_98 : decode cX1_search 98 = .ok (.iload 4, 2) := by decide +kernel
theorem dX1_search_100 : decode cX1_search 100 = .ok (.invokevirtual 43, 3) := by decide +kernel
theorem dX1_search_103 : decode cX1_search 103 = .ok (.iinc 5 1, 3) := by decide +kernel
theorem dX1_search_106 : decode cX1_search 106 = .ok (.goto (-30), 3) := by decide +kernel
theorem dX1_search_109 : decode cX1_search 109 = .ok (.iinc 6 1, 3) := by decide +kernel
theorem dX1_search_112 : decode cX1_search 112 = .ok (.goto (-57), 3) := by decide +kernel
theorem dX1_search_115 : decode cX1_search 115 = .ok (.return_, 1) := by decide +kernel
theorem dX1_tellOnFrom_0 : decode cX1_tellOnFrom 0 = .ok (.iload_n 3, 1) := by decide +kernel
theorem dX1_tellOnFrom_1 : decode cX1_tellOnFrom 1 = .ok (.ifCond .lt 9, 3) := by decide +kernel
theorem dX1_tellOnFrom_4 : decode cX1_tellOnFrom 4 = .ok (.iload_n 3, 1) := by decide +kernel
theorem dX1_tellOnFrom_5 : decode cX1_tellOnFrom 5 = .ok (.ldc 15, 2) := by decide +kernel
theorem dX1_tellOnFrom_7 : decode cX1_tellOnFrom 7 = .ok (.if_icmp .lt 4, 3) := by decide +kernel
theorem dX1_tellOnFrom_10 : decode cX1_tellOnFrom 10 = .ok (.return_, 1) := by decide +kernel
theorem dX1_tellOnFrom_11 : decode cX1_tellOnFrom 11 = .ok (.aload_n 0, 1) := by decide +kernel
theorem dX1_tellOnFrom_12 : decode cX1_tellOnFrom 12 = .ok (.getfield 16, 3) := by decide +kernel
theorem dX1_tellOnFrom_15 : decode cX1_tellOnFrom 15 = .ok (.iload_n 3, 1) := by decide +kernel
theorem dX1_tellOnFrom_16 : decode cX1_tellOnFrom 16 = .ok (.iaload, 1) := by decide +kernel
theorem dX1_tellOnFrom_17 : decode cX1_tellOnFrom 17 = .ok (.ldc 15, 2) := by decide +kernel
theorem dX1_tellOnFrom_19 : decode cX1_tellOnFrom 19 = .ok (.irem, 1) := by decide +kernel
theorem dX1_tellOnFrom_20 : decode cX1_tellOnFrom 20 = .ok (.sipush 10000, 3) := by decide +kernel
theorem dX1_tellOnFrom_23 : decode cX1_tellOnFrom 23 = .ok (.idiv, 1) := by decide +kernel
theorem dX1_tellOnFrom_24 : decode cX1_tellOnFrom 24 = .ok (.istore 6, 2) := by decide +kernel
theorem dX1_tellOnFrom_26 : decode cX1_tellOnFrom 26 = .ok (.aload_n 2, 1) := by decide +kernel
theorem dX1_tellOnFrom_27 : decode cX1_tellOnFrom 27 = .ok (.aload_n 1, 1) := by decide +kernel
theorem dX1_tellOnFrom_28 : decode cX1_tellOnFrom 28 = .ok (.iload 6, 2) := by decide +kernel
theorem dX1_tellOnFrom_30 : decode cX1_tellOnFrom 30 = .ok (.invokevirtual 47, 3) := by decide +kernel
theorem dX1_tellOnFrom_33 : decode cX1_tellOnFrom 33 = .ok (.aload_n 0, 1) := by decide +kernel
theorem dX1_tellOnFrom_34 : decode cX1_tellOnFrom 34 = .ok (.getfield 16, 3) := by decide +kernel
theorem dX1_tellOnFrom_37 : decode cX1_tellOnFrom 37 = .ok (.iload_n 3, 1) := by decide +kernel
theorem dX1_tellOnFrom_38 : decode cX1_tellOnFrom 38 = .ok (.iaload, 1) := by decide +kernel
theorem dX1_tellOnFrom_39 : decode cX1_tellOnFrom 39 = .ok (.sipush 10000, 3) := by decide +kernel
theorem dX1_tellOnFrom_42 : decode cX1_tellOnFrom 42 = .ok (.irem, 1) := by decide +kernel
theorem dX1_tellOnFrom_43 : decode cX1_tellOnFrom 43 = .ok (.invokevirtual 53, 3) := by decide +kernel
theorem dX1_tellOnFrom_46 : decode cX1_tellOnFrom 46 = .ok (.istore 7, 2) := by decide +kernel
theorem dX1_tellOnFrom_48 : decode cX1_tellOnFrom 48 = .ok (.aload_n 1, 1) := by decide +kernel
theorem dX1_tellOnFrom_49 : decode cX1_tellOnFrom 49 = .ok (.iload 6, 2) := by decide +kernel
theorem dX1_tellOnFrom_51 : decode cX1_tellOnFrom 51 = .ok (.invokevirtual 59, 3) := by decide +kernel
theorem dX1_tellOnFrom_54 : decode cX1_tellOnFrom 54 = .ok (.istore 8, 2) := by decide +kernel
theorem dX1_tellOnFrom_56 : decode cX1_tellOnFrom 56 = .ok (.iconst 0, 1) := by decide +kernel
theorem dX1_tellOnFrom_57 : decode cX1_tellOnFrom 57 = .ok (.istore 9, 2) := by decide +kernel
theorem dX1_tellOnFrom_59 : decode cX1_tellOnFrom 59 = .ok (.iload 9, 2) := by decide +kernel
theorem dX1_tellOnFrom_61 : decode cX1_tellOnFrom 61 = .ok (.aload_n 1, 1) := by decide +kernel
theorem dX1_tellOnFrom_62 : decode cX1_tellOnFrom 62 = .ok (.invokevirtual 62, 3) := by decide +kernel
theorem dX1_tellOnFrom_65 : decode cX1_tellOnFrom 65 = .ok (.if_icmp .ge 88, 3) := by decide +kernel
theorem dX1_tellOnFrom_68 : decode cX1_tellOnFrom 68 = .ok (.iload 9, 2) := by decide +kernel
theorem dX1_tellOnFrom_70 : decode cX1_tellOnFrom 70 = .ok (.iload 7, 2) := by decide +kernel
theorem dX1_tellOnFrom_72 : decode cX1_tellOnFrom 72 = .ok (.invokestatic 66, 3) := by decide +kernel
theorem dX1_tellOnFrom_75 : decode cX1_tellOnFrom 75 = .ok (.istore 10, 2) := by decide +kernel
theorem dX1_tellOnFrom_77 : decode cX1_tellOnFrom 77 = .ok (.iload 8, 2) := by decide +kernel
theorem dX1_tellOnFrom_79 : decode cX1_tellOnFrom 79 = .ok (.iload 9, 2) := by decide +kernel
theorem dX1_tellOnFrom_81 : decode cX1_tellOnFrom 81 = .ok (.ishr, 1) := by decide +kernel
theorem dX1_tellOnFrom_82 : decode cX1_tellOnFrom 82 = .ok (.iconst 1, 1) := by decide +kernel
theorem dX1_tellOnFrom_83 : decode cX1_tellOnFrom 83 = .ok (.iand, 1) := by decide +kernel
theorem dX1_tellOnFrom_84 : decode cX1_tellOnFrom 84 = .ok (.iconst 1, 1) := by decide +kernel
theorem dX1_tellOnFrom_85 : decode cX1_tellOnFrom 85 = .ok (.if_icmp .ne 62, 3) := by decide +kernel
theorem dX1_tellOnFrom_88 : decode cX1_tellOnFrom 88 = .ok (.aload_n 0, 1) := by decide +kernel
theorem dX1_tellOnFrom_89 : decode cX1_tellOnFrom 89 = .ok (.iload 10, 2) := by decide +kernel
theorem dX1_tellOnFrom_91 : decode cX1_tellOnFrom 91 = .ok (.invokevirtual 69, 3) := by decide +kernel
theorem dX1_tellOnFrom_94 : decode cX1_tellOnFrom 94 = .ok (.ifCond .ne 53, 3) := by decide +kernel
theorem dX1_tellOnFrom_97 : decode cX1_tellOnFrom 97 = .ok (.iload 4, 2) := by decide +kernel
theorem dX1_tellOnFrom_99 : decode cX1_tellOnFrom 99 = .ok (.iconst 1, 1) := by decide +kernel
theorem dX1_tellOnFrom_100 : decode cX1_tellOnFrom 100 = .ok (.if_icmp .ne 8, 3) := by decide +kernel
theorem dX1_tellOnFrom_103 : decode cX1_tellOnFrom 103 = .ok (.iload 9, 2) := by decide +kernel
theorem dX1_tellOnFrom_105 : decode cX1_tellOnFrom 105 = .ok (.goto 12, 3) := by decide +kernel
theorem dX1_tellOnFrom_108 : decode cX1_tellOnFrom 108 = .ok (.aload_n 0, 1) := by decide +kernel
theorem dX1_tellOnFrom_109 : decode cX1_tellOnFrom 109 = .ok (.getfield 16, 3) := by decide +kernel
theorem dX1_tellOnFrom_112 : decode cX1_tellOnFrom 112 = .ok (.iload_n 3, 1) := by decide +kernel
theorem dX1_tellOnFrom_113 : decode cX1_tellOnFrom 113 = .ok (.iaload, 1) := by decide +kernel
theorem dX1_tellOnFrom_114 : decode cX1_tellOnFrom 114 = .ok (.ldc 15, 2) := by decide +kernel
theorem dX1_tellOnFrom_116 : decode cX1_tellOnFrom 116 = .ok (.idiv, 1) := by decide +kernel
theorem dX1_tellOnFrom_117 : decode cX1_tellOnFrom 117 = .ok (.istore 11, 2) := by decide +kernel
theorem dX1_tellOnFrom_119 : decode cX1_tellOnFrom 119 = .ok (.aload_n 0, 1) := by decide +kernel
theorem dX1_tellOnFrom_120 : decode cX1_tellOnFrom 120 = .ok (.iload 11, 2) := by decide +kernel
theorem dX1_tellOnFrom_122 : decode cX1_tellOnFrom 122 = .ok (.iload 10, 2) := by decide +kernel
theorem dX1_tellOnFrom_124 : decode cX1_tellOnFrom 124 = .ok (.invokevirtual 39, 3) := by decide +kernel
theorem dX1_tellOnFrom_127 : decode cX1_tellOnFrom 127 = .ok (.iload 10, 2) := by decide +kernel
theorem dX1_tellOnFrom_129 : decode cX1_tellOnFrom 129 = .ok (.iload 5, 2) := by decide +kernel
theorem dX1_tellOnFrom_131 : decode cX1_tellOnFrom 131 = .ok (.if_icmp .ne 16, 3) := by decide +kernel
theorem dX1_tellOnFrom_134 : decode cX1_tellOnFrom 134 = .ok (.aload_n 0, 1) := by decide +kernel
theorem dX1_tellOnFrom_135 : decode cX1_tellOnFrom 135 = .ok (.iload 4, 2) := by decide +kernel
theorem dX1_tellOnFrom_137 : decode cX1_tellOnFrom 137 = .ok (.putfield 24, 3) := by decide +kernel
theorem dX1_tellOnFrom_140 : decode cX1_tellOnFrom 140 = .ok (.aload_n 0, 1) := by decide +kernel
theorem dX1_tellOnFrom_141 : decode cX1_tellOnFrom 141 = .ok (.iload 11, 2) := by decide +kernel
theorem dX1_tellOnFrom_143 : decode cX1_tellOnFrom 143 = .ok (.putfield 27, 3) := by decide +kernel
theorem dX1_tellOnFrom_146 : decode cX1_tellOnFrom 146 = .ok (.return_, 1) := by decide +kernel
theorem dX1_tellOnFrom_147 : decode cX1_tellOnFrom 147 = .ok (.iinc 9 1, 3) := by decide +kernel
theorem dX1_tellOnFrom_150 : decode cX1_tellOnFrom 150 = .ok (.goto (-91), 3) := by decide +kernel
theorem dX1_tellOnFrom_153 : decode cX1_tellOnFrom 153 = .ok (.return_, 1) := by decide +kernel
theorem dX1_isMet_0 : decode cX1_isMet 0 = .ok (.iload_n 1, 1) := by decide +kernel
theorem dX1_isMet_1 : decode cX1_isMet 1 = .ok (.ifCond .lt 30, 3) := by decide +kernel
theorem dX1_isMet_4 : decode cX1_isMet 4 = .ok (.iload_n 1, 1) := by decide +kernel
theorem dX1_isMet_5 : decode cX1_isMet 5 = .ok (.ldc 15, 2) := by decide +kernel
theorem dX1_isMet_7 : decode cX1_isMet 7 = .ok (.if_icmp .ge 24, 3) := by decide +kernel
theorem dX1_isMet_10 : decode cX1_isMet 10 = .ok (.aload_n 0, 1) := by decide +kernel
theorem dX1_isMet_11 : decode cX1_isMet 11 = .ok (.getfield 11, 3) := by decide +kernel
theorem dX1_isMet_14 : decode cX1_isMet 14 = .ok (.iload_n 1, 1) := by decide +kernel
theorem dX1_isMet_15 : decode cX1_isMet 15 = .ok (.bipush 64, 2) := by decide +kernel
theorem dX1_isMet_17 : decode cX1_isMet 17 = .ok (.idiv, 1) := by decide +kernel
theorem dX1_isMet_18 : decode cX1_isMet 18 = .ok (.laload, 1) := by decide +kernel
theorem dX1_isMet_19 : decode cX1_isMet 19 = .ok (.iload_n 1, 1) := by decide +kernel
theorem dX1_isMet_20 : decode cX1_isMet 20 = .ok (.bipush 64, 2) := by decide +kernel
theorem dX1_isMet_22 : decode cX1_isMet 22 = .ok (.irem, 1) := by decide +kernel
theorem dX1_isMet_23 : decode cX1_isMet 23 = .ok (.lshr, 1) := by decide +kernel
theorem dX1_isMet_24 : decode cX1_isMet 24 = .ok (.lconst 1, 1) := by decide +kernel
theorem dX1_isMet_25 : decode cX1_isMet 25 = .ok (.land, 1) := by decide +kernel
theorem dX1_isMet_26 : decode cX1_isMet 26 = .ok (.lconst 1, 1) := by decide +kernel
theorem dX1_isMet_27 : decode cX1_isMet 27 = .ok (.lcmp, 1) := by decide +kernel
theorem dX1_isMet_28 : decode cX1_isMet 28 = .ok (.ifCond .ne 7, 3) := by decide +kernel
theorem dX1_isMet_31 : decode cX1_isMet 31 = .ok (.iconst 1, 1) := by decide +kernel
theorem dX1_isMet_32 : decode cX1_isMet 32 = .ok (.goto 4, 3) := by decide +kernel
theorem dX1_isMet_35 : decode cX1_isMet 35 = .ok (.iconst 0, 1) := by decide +kernel
theorem dX1_isMet_36 : decode cX1_isMet 36 = .ok (.ireturn, 1) := by decide +kernel
theorem dX1_join_0 : decode cX1_join 0 = .ok (.aload_n 0, 1) := by decide +kernel
theorem dX1_join_1 : decode cX1_join 1 = .ok (.iload_n 2, 1) := by decide +kernel
theorem dX1_join_2 : decode cX1_join 2 = .ok (.invokevirtual 69, 3) := by decide +kernel
theorem dX1_join_5 : decode cX1_join 5 = .ok (.ifCond .ne 55, 3) := by decide +kernel
theorem dX1_join_8 : decode cX1_join 8 = .ok (.aload_n 0, 1) := by decide +kernel
theorem dX1_join_9 : decode cX1_join 9 = .ok (.getfield 30, 3) := by decide +kernel
theorem dX1_join_12 : decode cX1_join 12 = .ok (.ldc 15, 2) := by decide +kernel
theorem dX1_join_14 : decode cX1_join 14 = .ok (.if_icmp .ge 46, 3) := by decide +kernel
theorem dX1_join_17 : decode cX1_join 17 = .ok (.aload_n 0, 1) := by decide +kernel
theorem dX1_join_18 : decode cX1_join 18 = .ok (.getfield 11, 3) := by decide +kernel
theorem dX1_join_21 : decode cX1_join 21 = .ok (.iload_n 2, 1) := by decide +kernel
theorem dX1_join_22 : decode cX1_join 22 = .ok (.bipush 64, 2) := by decide +kernel
theorem dX1_join_24 : decode cX1_join 24 = .ok (.idiv, 1) := by decide +kernel
theorem dX1_join_25 : decode cX1_join 25 = .ok (.dup2, 1) := by decide +kernel
theorem dX1_join_26 : decode cX1_join 26 = .ok (.laload, 1) := by decide +kernel
theorem dX1_join_27 : decode cX1_join 27 = .ok (.lconst 1, 1) := by decide +kernel
theorem dX1_join_28 : decode cX1_join 28 = .ok (.iload_n 2, 1) := by decide +kernel
theorem dX1_join_29 : decode cX1_join 29 = .ok (.bipush 64, 2) := by decide +kernel
theorem dX1_join_31 : decode cX1_join 31 = .ok (.irem, 1) := by decide +kernel
theorem dX1_join_32 : decode cX1_join 32 = .ok (.lshl, 1) := by decide +kernel
theorem dX1_join_33 : decode cX1_join 33 = .ok (.lor, 1) := by decide +kernel
theorem dX1_join_34 : decode cX1_join 34 = .ok (.lastore, 1) := by decide +kernel
theorem dX1_join_35 : decode cX1_join 35 = .ok (.aload_n 0, 1) := by decide +kernel
theorem dX1_join_36 : decode cX1_join 36 = .ok (.getfield 16, 3) := by decide +kernel
theorem dX1_join_39 : decode cX1_join 39 = .ok (.aload_n 0, 1) := by decide +kernel
theorem dX1_join_40 : decode cX1_join 40 = .ok (.getfield 30, 3) := by decide +kernel
theorem dX1_join_43 : decode cX1_join 43 = .ok (.iload_n 1, 1) := by decide +kernel
theorem dX1_join_44 : decode cX1_join 44 = .ok (.ldc 15, 2) := by decide +kernel
theorem dX1_join_46 : decode cX1_join 46 = .ok (.imul, 1) := by decide +kernel
theorem dX1_join_47 : decode cX1_join 47 = .ok (.iload_n 2, 1) := by decide +kernel
theorem dX1_join_48 : decode cX1_join 48 = .ok (.iadd, 1) := by decide +kernel
theorem dX1_join_49 : decode cX1_join 49 = .ok (.iastore, 1) := by decide +kernel
theorem dX1_join_50 : decode cX1_join 50 = .ok (.aload_n 0, 1) := by decide +kernel
theorem dX1_join_51 : decode cX1_join 51 = .ok (.dup, 1) := by decide +kernel
theorem dX1_join_52 : decode cX1_join 52 = .ok (.getfield 30, 3) := by decide +kernel
theorem dX1_join_55 : decode cX1_join 55 = .ok (.iconst 1, 1) := by decide +kernel
theorem dX1_join_56 : decode cX1_join 56 = .ok (.iadd, 1) := by decide +kernel
theorem dX1_join_57 : decode cX1_join 57 = .ok (.putfield 30, 3) := by decide +kernel
theorem dX1_join_60 : decode cX1_join 60 = .ok (.return_, 1) := by decide +kernel
theorem dX2_init_0 : decode cX2_init 0 = .ok (.aload_n 0, 1) := by decide +kernel
theorem dX2_init_1 : decode cX2_init 1 = .ok (.invokespecial 1, 3) := by decide +kernel
theorem dX2_init_4 : decode cX2_init 4 = .ok (.return_, 1) := by decide +kernel
theorem dX2_sow_0 : decode cX2_sow 0 = .ok (.aload_n 0, 1) := by decide +kernel
theorem dX2_sow_1 : decode cX2_sow 1 = .ok (.iload_n 1, 1) := by decide +kernel
theorem dX2_sow_2 : decode cX2_sow 2 = .ok (.i2l, 1) := by decide +kernel
theorem dX2_sow_3 : decode cX2_sow 3 = .ok (.putfield 7, 3) := by decide +kernel
theorem dX2_sow_6 : decode cX2_sow 6 = .ok (.return_, 1) := by decide +kernel
theorem dX2_draw_0 : decode cX2_draw 0 = .ok (.aload_n 0, 1) := by decide +kernel
theorem dX2_draw_1 : decode cX2_draw 1 = .ok (.ldc2_w 13, 3) := by decide +kernel
theorem dX2_draw_4 : decode cX2_draw 4 = .ok (.aload_n 0, 1) := by decide +kernel
theorem dX2_draw_5 : decode cX2_draw 5 = .ok (.getfield 7, 3) := by decide +kernel
theorem dX2_draw_8 : decode cX2_draw 8 = .ok (.lmul, 1) := by decide +kernel
theorem dX2_draw_9 : decode cX2_draw 9 = .ok (.ldc2_w 15, 3) := by decide +kernel
theorem dX2_draw_12 : decode cX2_draw 12 = .ok (.ladd, 1) := by decide +kernel
theorem dX2_draw_13 : decode cX2_draw 13 = .ok (.ldc2_w 17, 3) := by decide +kernel
theorem dX2_draw_16 : decode cX2_draw 16 = .ok (.lrem, 1) := by decide +kernel
theorem dX2_draw_17 : decode cX2_draw 17 = .ok (.putfield 7, 3) := by decide +kernel
theorem dX2_draw_20 : decode cX2_draw 20 = .ok (.iload_n 1, 1) := by decide +kernel
theorem dX2_draw_21 : decode cX2_draw 21 = .ok (.ifCond .le 18, 3) := by decide +kernel
theorem dX2_draw_24 : decode cX2_draw 24 = .ok (.aload_n 0, 1) := by decide +kernel
theorem dX2_draw_25 : decode cX2_draw 25 = .ok (.getfield 7, 3) := by decide +kernel
theorem dX2_draw_28 : decode cX2_draw 28 = .ok (.ldc2_w 19, 3) := by decide +kernel
theorem dX2_draw_31 : decode cX2_draw 31 = .ok (.ldiv, 1) := by decide +kernel
theorem dX2_draw_32 : decode cX2_draw 32 = .ok (.iload_n 1, 1) := by decide +kernel
theorem dX2_draw_33 : decode cX2_draw 33 = .ok (.i2l, 1) := by decide +kernel
theorem dX2_draw_34 : decode cX2_draw 34 = .ok (.lrem, 1) := by decide +kernel
theorem dX2_draw_35 : decode cX2_draw 35 = .ok (.l2i, 1) := by decide +kernel
theorem dX2_draw_36 : decode cX2_draw 36 = .ok (.goto 4, 3) := by decide +kernel
theorem dX2_draw_39 : decode cX2_draw 39 = .ok (.iconst 0, 1) := by decide +kernel
theorem dX2_draw_40 : decode cX2_draw 40 = .ok (.ireturn, 1) := by decide +kernel
theorem dX2_seed_0 : decode cX2_seed 0 = .ok (.aload_n 0, 1) := by decide +kernel
theorem dX2_seed_1 : decode cX2_seed 1 = .ok (.getfield 7, 3) := by decide +kernel
theorem dX2_seed_4 : decode cX2_seed 4 = .ok (.l2i, 1) := by decide +kernel
theorem dX2_seed_5 : decode cX2_seed 5 = .ok (.ireturn, 1) := by decide +kernel
theorem dX3_init_0 : decode cX3_init 0 = .ok (.aload_n 0, 1) := by decide +kernel
theorem dX3_init_1 : decode cX3_init 1 = .ok (.invokespecial 3, 3) := by decide +kernel
theorem dX3_init_4 : decode cX3_init 4 = .ok (.aload_n 0, 1) := by decide +kernel
theorem dX3_init_5 : decode cX3_init 5 = .ok (.bipush 8, 2) := by decide +kernel
theorem dX3_init_7 : decode cX3_init 7 = .ok (.newarray .int, 2) := by decide +kernel
theorem dX3_init_9 : decode cX3_init 9 = .ok (.putfield 9, 3) := by decide +kernel
theorem dX3_init_12 : decode cX3_init 12 = .ok (.aload_n 0, 1) := by decide +kernel
theorem dX3_init_13 : decode cX3_init 13 = .ok (.bipush 8, 2) := by decide +kernel
theorem dX3_init_15 : decode cX3_init 15 = .ok (.newarray .int, 2) := by decide +kernel
theorem dX3_init_17 : decode cX3_init 17 = .ok (.putfield 15, 3) := by decide +kernel
theorem dX3_init_20 : decode cX3_init 20 = .ok (.aload_n 0, 1) := by decide +kernel
theorem dX3_init_21 : decode cX3_init 21 = .ok (.iconst 4, 1) := by decide +kernel
theorem dX3_init_22 : decode cX3_init 22 = .ok (.newarray .int, 2) := by decide +kernel
theorem dX3_init_24 : decode cX3_init 24 = .ok (.putfield 18, 3) := by decide +kernel
theorem dX3_init_27 : decode cX3_init 27 = .ok (.aload_n 0, 1) := by decide +kernel
theorem dX3_init_28 : decode cX3_init 28 = .ok (.iconst 4, 1) := by decide +kernel
theorem dX3_init_29 : decode cX3_init 29 = .ok (.newarray .int, 2) := by decide +kernel
theorem dX3_init_31 : decode cX3_init 31 = .ok (.putfield 21, 3) := by decide +kernel
theorem dX3_init_34 : decode cX3_init 34 = .ok (.aload_n 0, 1) := by decide +kernel
theorem dX3_init_35 : decode cX3_init 35 = .ok (.getfield 18, 3) := by decide +kernel
theorem dX3_init_38 : decode cX3_init 38 = .ok (.iconst (-1), 1) := by decide +kernel
theorem dX3_init_39 : decode cX3_init 39 = .ok (.invokestatic 24, 3) := by decide +kernel
theorem dX3_init_42 : decode cX3_init 42 = .ok (.return_, 1) := by decide +kernel
theorem dX3_takeAll_0 : decode cX3_takeAll 0 = .ok (.aload_n 1, 1) := by decide +kernel
theorem dX3_takeAll_1 : decode cX3_takeAll 1 = .ok (.getfield 9, 3) := by decide +kernel
theorem dX3_takeAll_4 : decode cX3_takeAll 4 = .ok (.iconst 0, 1) := by decide +kernel
theorem dX3_takeAll_5 : decode cX3_takeAll 5 = .ok (.aload_n 0, 1) := by decide +kernel
theorem dX3_takeAll_6 : decode cX3_takeAll 6 = .ok (.getfield 9, 3) := by decide +kernel
theorem dX3_takeAll_9 : decode cX3_takeAll 9 = .ok (.iconst 0, 1) := by decide +kernel
theorem dX3_takeAll_10 : decode cX3_takeAll 10 = .ok (.bipush 8, 2) := by decide +kernel
theorem dX3_takeAll_12 : decode cX3_takeAll 12 = .ok (.invokestatic 30, 3) := by decide +kernel
theorem dX3_takeAll_15 : decode cX3_takeAll 15 = .ok (.aload_n 1, 1) := by decide +kernel
theorem dX3_takeAll_16 : decode cX3_takeAll 16 = .ok (.getfield 15, 3) := by decide +kernel
theorem dX3_takeAll_19 : decode cX3_takeAll 19 = .ok (.iconst 0, 1) := by decide +kernel
theorem dX3_takeAll_20 : decode cX3_takeAll 20 = .ok (.aload_n 0, 1) := by decide +kernel
theorem dX3_takeAll_21 : decode cX3_takeAll 21 = .ok (.getfield 15, 3) := by decide +kernel
theorem dX3_takeAll_24 : decode cX3_takeAll 24 = .ok (.iconst 0, 1) := by decide +kernel
theorem dX3_takeAll_25 : decode cX3_takeAll 25 = .ok (.bipush 8, 2) := by decide +kernel
theorem dX3_takeAll_27 : decode cX3_takeAll 27 = .ok (.invokestatic 30, 3) := by decide +kernel
theorem dX3_takeAll_30 : decode cX3_takeAll 30 = .ok (.aload_n 1, 1) := by decide +kernel
theorem dX3_takeAll_31 : decode cX3_takeAll 31 = .ok (.getfield 18, 3) := by decide +kernel
theorem dX3_takeAll_34 : decode cX3_takeAll 34 = .ok (.iconst 0, 1) := by decide +kernel
theorem dX3_takeAll_35 : decode cX3_takeAll 35 = .ok (.aload_n 0, 1) := by decide +kernel
theorem dX3_takeAll_36 : decode cX3_takeAll 36 = .ok (.getfield 18, 3) := by decide +kernel
theorem dX3_takeAll_39 : decode cX3_takeAll 39 = .ok (.iconst 0, 1) := by decide +kernel
theorem dX3_takeAll_40 : decode cX3_takeAll 40 = .ok (.iconst 4, 1) := by decide +kernel
theorem dX3_takeAll_41 : decode cX3_takeAll 41 = .ok (.invokestatic 30, 3) := by decide +kernel
theorem dX3_takeAll_44 : decode cX3_takeAll 44 = .ok (.aload_n 1, 1) := by decide +kernel
theorem dX3_takeAll_45 : decode cX3_takeAll 45 = .ok (.getfield 21, 3) := by decide +kernel
theorem dX3_takeAll_48 : decode cX3_takeAll 48 = .ok (.iconst 0, 1) := by decide +kernel
theorem dX3_takeAll_49 : decode cX3_takeAll 49 = .ok (.aload_n 0, 1) := by decide +kernel
theorem dX3_takeAll_50 : decode cX3_takeAll 50 = .ok (.getfield 21, 3) := by decide +kernel
theorem dX3_takeAll_53 : decode cX3_takeAll 53 = .ok (.iconst 0, 1) := by decide +kernel
theorem dX3_takeAll_54 : decode cX3_takeAll 54 = .ok (.iconst 4, 1) := by decide +kernel
theorem dX3_takeAll_55 : decode cX3_takeAll 55 = .ok (.invokestatic 30, 3) := by decide +kernel
theorem dX3_takeAll_58 : decode cX3_takeAll 58 = .ok (.aload_n 0, 1) := by decide +kernel
theorem dX3_takeAll_59 : decode cX3_takeAll 59 = .ok (.aload_n 1, 1) := by decide +kernel
theorem dX3_takeAll_60 : decode cX3_takeAll 60 = .ok (.getfield 36, 3) := by decide +kernel
theorem dX3_takeAll_63 : decode cX3_takeAll 63 = .ok (.putfield 36, 3) := by decide +kernel
theorem dX3_takeAll_66 : decode cX3_takeAll 66 = .ok (.return_, 1) := by decide +kernel
theorem dX3_people_0 : decode cX3_people 0 = .ok (.aload_n 0, 1) := by decide +kernel
theorem dX3_people_1 : decode cX3_people 1 = .ok (.getfield 36, 3) := by decide +kernel
theorem dX3_people_4 : decode cX3_people 4 = .ok (.ireturn, 1) := by decide +kernel
theorem dX3_has_0 : decode cX3_has 0 = .ok (.iload_n 1, 1) := by decide +kernel
theorem dX3_has_1 : decode cX3_has 1 = .ok (.ifCond .lt 15, 3) := by decide +kernel
theorem dX3_has_4 : decode cX3_has 4 = .ok (.iload_n 1, 1) := by decide +kernel
theorem dX3_has_5 : decode cX3_has 5 = .ok (.aload_n 0, 1) := by decide +kernel
theorem dX3_has_6 : decode cX3_has 6 = .ok (.getfield 36, 3) := by decide +kernel
theorem dX3_has_9 : decode cX3_has 9 = .ok (.if_icmp .ge 7, 3) := by decide +kernel
theorem dX3_has_12 : decode cX3_has 12 = .ok (.iconst 1, 1) := by decide +kernel
theorem dX3_has_13 : decode cX3_has 13 = .ok (.goto 4, 3) := by decide +kernel
theorem dX3_has_16 : decode cX3_has 16 = .ok (.iconst 0, 1) := by decide +kernel
theorem dX3_has_17 : decode cX3_has 17 = .ok (.ireturn, 1) := by decide +kernel
theorem dX3_hasBoth_0 : decode cX3_hasBoth 0 = .ok (.aload_n 0, 1) := by decide +kernel
theorem dX3_hasBoth_1 : decode cX3_hasBoth 1 = .ok (.iload_n 1, 1) := by decide +kernel
theorem dX3_hasBoth_2 : decode cX3_hasBoth 2 = .ok (.invokevirtual 40, 3) := by decide +kernel
theorem dX3_hasBoth_5 : decode cX3_hasBoth 5 = .ok (.ifCond .eq 20, 3) := by decide +kernel
theorem dX3_hasBoth_8 : decode cX3_hasBoth 8 = .ok (.aload_n 0, 1) := by decide +kernel
theorem dX3_hasBoth_9 : decode cX3_hasBoth 9 = .ok (.iload_n 2, 1) := by decide +kernel
theorem dX3_hasBoth_10 : decode cX3_hasBoth 10 = .ok (.invokevirtual 40, 3) := by decide +kernel
theorem dX3_hasBoth_13 : decode cX3_hasBoth 13 = .ok (.ifCond .eq 12, 3) := by decide +kernel
theorem dX3_hasBoth_16 : decode cX3_hasBoth 16 = .ok (.iload_n 1, 1) := by decide +kernel
theorem dX3_hasBoth_17 : decode cX3_hasBoth 17 = .ok (.iload_n 2, 1) := by decide +kernel
theorem dX3_hasBoth_18 : decode cX3_hasBoth 18 = .ok (.if_icmp .eq 7, 3) := by decide +kernel
theorem dX3_hasBoth_21 : decode cX3_hasBoth 21 = .ok (.iconst 1, 1) := by decide +kernel
theorem dX3_hasBoth_22 : decode cX3_hasBoth 22 = .ok (.goto 4, 3) := by decide +kernel
theorem dX3_hasBoth_25 : decode cX3_hasBoth 25 = .ok (.iconst 0, 1) := by decide +kernel
theorem dX3_hasBoth_26 : decode cX3_hasBoth 26 = .ok (.ireturn, 1) := by decide +kernel
theorem dX3_hasRoom_0 : decode cX3_hasRoom 0 = .ok (.aload_n 0, 1) := by decide +kernel
theorem dX3_hasRoom_1 : decode cX3_hasRoom 1 = .ok (.getfield 36, 3) := by decide +kernel
theorem dX3_hasRoom_4 : decode cX3_hasRoom 4 = .ok (.bipush 8, 2) := by decide +kernel
theorem dX3_hasRoom_6 : decode cX3_hasRoom 6 = .ok (.if_icmp .ge 7, 3) := by decide +kernel
theorem dX3_hasRoom_9 : decode cX3_hasRoom 9 = .ok (.iconst 1, 1) := by decide +kernel
theorem dX3_hasRoom_10 : decode cX3_hasRoom 10 = .ok (.goto 4, 3) := by decide +kernel
theorem dX3_hasRoom_13 : decode cX3_hasRoom 13 = .ok (.iconst 0, 1) := by decide +kernel
theorem dX3_hasRoom_14 : decode cX3_hasRoom 14 = .ok (.ireturn, 1) := by decide +kernel
theorem dX3_add_0 : decode cX3_add 0 = .ok (.aload_n 0, 1) := by decide +kernel
theorem dX3_add_1 : decode cX3_add 1 = .ok (.invokevirtual 44, 3) := by decide +kernel
theorem dX3_add_4 : decode cX3_add 4 = .ok (.ifCond .ne 5, 3) := by decide +kernel
theorem dX3_add_7 : decode cX3_add 7 = .ok (.iconst (-1), 1) := by decide +kernel
theorem dX3_add_8 : decode cX3_add 8 = .ok (.ireturn, 1) := by decide +kernel
theorem dX3_add_9 : decode cX3_add 9 = .ok (.aload_n 0, 1) := by decide +kernel
theorem dX3_add_10 : decode cX3_add 10 = .ok (.getfield 9, 3) := by decide +kernel
theorem dX3_add_13 : decode cX3_add 13 = .ok (.aload_n 0, 1) := by decide +kernel
theorem dX3_add_14 : decode cX3_add 14 = .ok (.getfield 36, 3) := by decide +kernel
theorem dX3_add_17 : decode cX3_add 17 = .ok (.iload_n 1, 1) := by decide +kernel
theorem dX3_add_18 : decode cX3_add 18 = .ok (.iastore, 1) := by decide +kernel
theorem dX3_add_19 : decode cX3_add 19 = .ok (.aload_n 0, 1) := by decide +kernel
theorem dX3_add_20 : decode cX3_add 20 = .ok (.dup, 1) := by decide +kernel
theorem dX3_add_21 : decode cX3_add 21 = .ok (.getfield 36, 3) := by decide +kernel
theorem dX3_add_24 : decode cX3_add 24 = .ok (.iconst 1, 1) := by decide +kernel
theorem dX3_add_25 : decode cX3_add 25 = .ok (.iadd, 1) := by decide +kernel
theorem dX3_add_26 : decode cX3_add 26 = .ok (.putfield 36, 3) := by decide +kernel
theorem dX3_add_29 : decode cX3_add 29 = .ok (.aload_n 0, 1) := by decide +kernel
theorem dX3_add_30 : decode cX3_add 30 = .ok (.getfield 36, 3) := by decide +kernel
theorem dX3_add_33 : decode cX3_add 33 = .ok (.iconst 1, 1) := by decide +kernel
theorem dX3_add_34 : decode cX3_add 34 = .ok (.isub, 1) := by decide +kernel
theorem dX3_add_35 : decode cX3_add 35 = .ok (.ireturn, 1) := by decide +kernel
theorem dX3_kindOf_0 : decode cX3_kindOf 0 = .ok (.aload_n 0, 1) := by decide +kernel
theorem dX3_kindOf_1 : decode cX3_kindOf 1 = .ok (.iload_n 1, 1) := by decide +kernel
theorem dX3_kindOf_2 : decode cX3_kindOf 2 = .ok (.invokevirtual 40, 3) := by decide +kernel
theorem dX3_kindOf_5 : decode cX3_kindOf 5 = .ok (.ifCond .eq 12, 3) := by decide +kernel
theorem dX3_kindOf_8 : decode cX3_kindOf 8 = .ok (.aload_n 0, 1) := by decide +kernel
theorem dX3_kindOf_9 : decode cX3_kindOf 9 = .ok (.getfield 9, 3) := by decide +kernel
theorem dX3_kindOf_12 : decode cX3_kindOf 12 = .ok (.iload_n 1, 1) := by decide +kernel
theorem dX3_kindOf_13 : decode cX3_kindOf 13 = .ok (.iaload, 1) := by decide +kernel
theorem dX3_kindOf_14 : decode cX3_kindOf 14 = .ok (.goto 4, 3) := by decide +kernel
theorem dX3_kindOf_17 : decode cX3_kindOf 17 = .ok (.iconst (-1), 1) := by decide +kernel
theorem dX3_kindOf_18 : decode cX3_kindOf 18 = .ok (.ireturn, 1) := by decide +kernel
theorem dX3_knownBy_0 : decode cX3_knownBy 0 = .ok (.aload_n 0, 1) := by decide +kernel
theorem dX3_knownBy_1 : decode cX3_knownBy 1 = .ok (.iload_n 1, 1) := by decide +kernel
theorem dX3_knownBy_2 : decode cX3_knownBy 2 = .ok (.invokevirtual 40, 3) := by decide +kernel
theorem dX3_knownBy_5 : decode cX3_knownBy 5 = .ok (.ifCond .eq 12, 3) := by decide +kernel
theorem dX3_knownBy_8 : decode cX3_knownBy 8 = .ok (.aload_n 0, 1) := by decide +kernel
theorem dX3_knownBy_9 : decode cX3_knownBy 9 = .ok (.getfield 15, 3) := by decide +kernel
theorem dX3_knownBy_12 : decode cX3_knownBy 12 = .ok (.iload_n 1, 1) := by decide +kernel
theorem dX3_knownBy_13 : decode cX3_knownBy 13 = .ok (.iaload, 1) := by decide +kernel
theorem dX3_knownBy_14 : decode cX3_knownBy 14 = .ok (.goto 4, 3) := by decide +kernel
theorem dX3_knownBy_17 : decode cX3_knownBy 17 = .ok (.iconst 0, 1) := by decide +kernel
theorem dX3_knownBy_18 : decode cX3_knownBy 18 = .ok (.ireturn, 1) := by decide +kernel
theorem dX3_isKnown_0 : decode cX3_isKnown 0 = .ok (.aload_n 0, 1) := by decide +kernel
theorem dX3_isKnown_1 : decode cX3_isKnown 1 = .ok (.iload_n 1, 1) := by decide +kernel
theorem dX3_isKnown_2 : decode cX3_isKnown 2 = .ok (.iload_n 2, 1) := by decide +kernel
theorem dX3_isKnown_3 : decode cX3_isKnown 3 = .ok (.invokevirtual 48, 3) := by decide +kernel
theorem dX3_isKnown_6 : decode cX3_isKnown 6 = .ok (.ifCond .eq 21, 3) := by decide +kernel
theorem dX3_isKnown_9 : decode cX3_isKnown 9 = .ok (.aload_n 0, 1) := by decide +kernel
theorem dX3_isKnown_10 : decode cX3_isKnown 10 = .ok (.getfield 15, 3) := by decide +kernel
theorem dX3_isKnown_13 : decode cX3_isKnown 13 = .ok (.iload_n 1, 1) := by decide +kernel
theorem dX3_isKnown_14 : decode cX3_isKnown 14 = .ok (.iaload, 1) := by decide +kernel
theorem dX3_isKnown_15 : decode cX3_isKnown 15 = .ok (.iload_n 2, 1) := by decide +kernel
theorem dX3_isKnown_16 : decode cX3_isKnown 16 = .ok (.ishr, 1) := by decide +kernel
theorem dX3_isKnown_17 : decode cX3_isKnown 17 = .ok (.iconst 1, 1) := by decide +kernel
theorem dX3_isKnown_18 : decode cX3_isKnown 18 = .ok (.iand, 1) := by decide +kernel
theorem dX3_isKnown_19 : decode cX3_isKnown 19 = .ok (.iconst 1, 1) := by decide +kernel
theorem dX3_isKnown_20 : decode cX3_isKnown 20 = .ok (.if_icmp .ne 7, 3) := by decide +kernel
theorem dX3_isKnown_23 : decode cX3_isKnown 23 = .ok (.iconst 1, 1) := by decide +kernel
theorem dX3_isKnown_24 : decode cX3_isKnown 24 = .ok (.goto 4, 3) := by decide +kernel
theorem dX3_isKnown_27 : decode cX3_isKnown 27 = .ok (.iconst 0, 1) := by decide +kernel
theorem dX3_isKnown_28 : decode cX3_isKnown 28 = .ok (.ireturn, 1) := by decide +kernel
theorem dX3_setKnown_0 : decode cX3_setKnown 0 = .ok (.aload_n 0, 1) := by decide +kernel
theorem dX3_setKnown_1 : decode cX3_setKnown 1 = .ok (.iload_n 1, 1) := by decide +kernel
theorem dX3_setKnown_2 : decode cX3_setKnown 2 = .ok (.iload_n 2, 1) := by decide +kernel
theorem dX3_setKnown_3 : decode cX3_setKnown 3 = .ok (.invokevirtual 48, 3) := by decide +kernel
theorem dX3_setKnown_6 : decode cX3_setKnown 6 = .ok (.ifCond .eq 38, 3) := by decide +kernel
theorem dX3_setKnown_9 : decode cX3_setKnown 9 = .ok (.aload_n 0, 1) := by decide +kernel
theorem dX3_setKnown_10 : decode cX3_setKnown 10 = .ok (.getfield 15, 3) := by decide +kernel
theorem dX3_setKnown_13 : decode cX3_setKnown 13 = .ok (.iload_n 1, 1) := by decide +kernel
theorem dX3_setKnown_14 : decode cX3_setKnown 14 = .ok (.iload_n 3, 1) := by decide +kernel
theorem dX3_setKnown_15 : decode cX3_setKnown 15 = .ok (.ifCond .eq 16, 3) := by decide +kernel
theorem dX3_setKnown_18 : decode cX3_setKnown 18 = .ok (.aload_n 0, 1) := by decide +kernel
theorem dX3_setKnown_19 : decode cX3_setKnown 19 = .ok (.getfield 15, 3) := by decide +kernel
theorem dX3_setKnown_22 : decode cX3_setKnown 22 = .ok (.iload_n 1, 1) := by decide +kernel
theorem dX3_setKnown_23 : decode cX3_setKnown 23 = .ok (.iaload, 1) := by decide +kernel
theorem dX3_setKnown_24 : decode cX3_setKnown 24 = .ok (.iconst 1, 1) := by decide +kernel
theorem dX3_setKnown_25 : decode cX3_setKnown 25 = .ok (.iload_n 2, 1) := by decide +kernel
theorem dX3_setKnown_26 : decode cX3_setKnown 26 = .ok (.ishl, 1) := by decide +kernel
theorem dX3_setKnown_27 : decode cX3_setKnown 27 = .ok (.ior, 1) := by decide +kernel
theorem dX3_setKnown_28 : decode cX3_setKnown 28 = .ok (.goto 15, 3) := by decide +kernel
theorem dX3_setKnown_31 : decode cX3_setKnown 31 = .ok (.aload_n 0, 1) := by decide +kernel
theorem dX3_setKnown_32 : decode cX3_setKnown 32 = .ok (.getfield 15, 3) := by decide +kernel
theorem dX3_setKnown_35 : decode cX3_setKnown 35 = .ok (.iload_n 1, 1) := by decide +kernel
theorem dX3_setKnown_36 : decode cX3_setKnown 36 = .ok (.iaload, 1) := by decide +kernel
theorem dX3_setKnown_37 : decode cX3_setKnown 37 = .ok (.iconst 1, 1) := by decide +kernel
theorem dX3_setKnown_38 : decode cX3_setKnown 38 = .ok (.iload_n 2, 1) := by decide +kernel
theorem dX3_setKnown_39 : decode cX3_setKnown 39 = .ok (.ishl, 1) := by decide +kernel
theorem dX3_setKnown_40 : decode cX3_setKnown 40 = .ok (.iconst (-1), 1) := by decide +kernel
theorem dX3_setKnown_41 : decode cX3_setKnown 41 = .ok (.ixor, 1) := by decide +kernel
theorem dX3_setKnown_42 : decode cX3_setKnown 42 = .ok (.iand, 1) := by decide +kernel
theorem dX3_setKnown_43 : decode cX3_setKnown 43 = .ok (.iastore, 1) := by decide +kernel
theorem dX3_setKnown_44 : decode cX3_setKnown 44 = .ok (.return_, 1) := by decide +kernel
theorem dX3_witnessOf_0 : decode cX3_witnessOf 0 = .ok (.iload_n 1, 1) := by decide +kernel
theorem dX3_witnessOf_1 : decode cX3_witnessOf 1 = .ok (.invokestatic 52, 3) := by decide +kernel
theorem dX3_witnessOf_4 : decode cX3_witnessOf 4 = .ok (.ifCond .eq 12, 3) := by decide +kernel
theorem dX3_witnessOf_7 : decode cX3_witnessOf 7 = .ok (.aload_n 0, 1) := by decide +kernel
theorem dX3_witnessOf_8 : decode cX3_witnessOf 8 = .ok (.getfield 18, 3) := by decide +kernel
theorem dX3_witnessOf_11 : decode cX3_witnessOf 11 = .ok (.iload_n 1, 1) := by decide +kernel
theorem dX3_witnessOf_12 : decode cX3_witnessOf 12 = .ok (.iaload, 1) := by decide +kernel
theorem dX3_witnessOf_13 : decode cX3_witnessOf 13 = .ok (.goto 4, 3) := by decide +kernel
theorem dX3_witnessOf_16 : decode cX3_witnessOf 16 = .ok (.iconst (-1), 1) := by decide +kernel
theorem dX3_witnessOf_17 : decode cX3_witnessOf 17 = .ok (.ireturn, 1) := by decide +kernel
theorem dX3_seenSizeOf_0 : decode cX3_seenSizeOf 0 = .ok (.iload_n 1, 1) := by decide +kernel
theorem dX3_seenSizeOf_1 : decode cX3_seenSizeOf 1 = .ok (.invokestatic 52, 3) := by decide +kernel
theorem dX3_seenSizeOf_4 : decode cX3_seenSizeOf 4 = .ok (.ifCond .eq 12, 3) := by decide +kernel
theorem dX3_seenSizeOf_7 : decode cX3_seenSizeOf 7 = .ok (.aload_n 0, 1) := by decide +kernel
theorem dX3_seenSizeOf_8 : decode cX3_seenSizeOf 8 = .ok (.getfield 21, 3) := by decide +kernel
theorem dX3_seenSizeOf_11 : decode cX3_seenSizeOf 11 = .ok (.iload_n 1, 1) := by decide +kernel
theorem dX3_seenSizeOf_12 : decode cX3_seenSizeOf 12 = .ok (.iaload, 1) := by decide +kernel
theorem dX3_seenSizeOf_13 : decode cX3_seenSizeOf 13 = .ok (.goto 4, 3) := by decide +kernel
theorem dX3_seenSizeOf_16 : decode cX3_seenSizeOf 16 = .ok (.iconst (-1), 1) := by decide +kernel
theorem dX3_seenSizeOf_17 : decode cX3_seenSizeOf 17 = .ok (.ireturn, 1) := by decide +kernel
theorem dX3_setSeen_0 : decode cX3_setSeen 0 = .ok (.aload_n 0, 1) := by decide +kernel
theorem dX3_setSeen_1 : decode cX3_setSeen 1 = .ok (.iload_n 1, 1) := by decide +kernel
theorem dX3_setSeen_2 : decode cX3_setSeen 2 = .ok (.invokevirtual 55, 3) := by decide +kernel
theorem dX3_setSeen_5 : decode cX3_setSeen 5 = .ok (.istore 4, 2) := by decide +kernel
theorem dX3_setSeen_7 : decode cX3_setSeen 7 = .ok (.iload_n 1, 1) := by decide +kernel
theorem dX3_setSeen_8 : decode cX3_setSeen 8 = .ok (.invokestatic 52, 3) := by decide +kernel
theorem dX3_setSeen_11 : decode cX3_setSeen 11 = .ok (.ifCond .eq 17, 3) := by decide +kernel
theorem dX3_setSeen_14 : decode cX3_setSeen 14 = .ok (.aload_n 0, 1) := by decide +kernel
theorem dX3_setSeen_15 : decode cX3_setSeen 15 = .ok (.getfield 18, 3) := by decide +kernel
theorem dX3_setSeen_18 : decode cX3_setSeen 18 = .ok (.iload_n 1, 1) := by decide +kernel
theorem dX3_setSeen_19 : decode cX3_setSeen 19 = .ok (.iload_n 2, 1) := by decide +kernel
theorem dX3_setSeen_20 : decode cX3_setSeen 20 = .ok (.iastore, 1) := by decide +kernel
theorem dX3_setSeen_21 : decode cX3_setSeen 21 = .ok (.aload_n 0, 1) := by decide +kernel
theorem dX3_setSeen_22 : decode cX3_setSeen 22 = .ok (.getfield 21, 3) := by decide +kernel
theorem dX3_setSeen_25 : decode cX3_setSeen 25 = .ok (.iload_n 1, 1) := by decide +kernel
theorem dX3_setSeen_26 : decode cX3_setSeen 26 = .ok (.iload_n 3, 1) := by decide +kernel
theorem dX3_setSeen_27 : decode cX3_setSeen 27 = .ok (.iastore, 1) := by decide +kernel
theorem dX3_setSeen_28 : decode cX3_setSeen 28 = .ok (.iload 4, 2) := by decide +kernel
theorem dX3_setSeen_30 : decode cX3_setSeen 30 = .ok (.ireturn, 1) := by decide +kernel
theorem dX3_talesSeen_0 : decode cX3_talesSeen 0 = .ok (.iconst 0, 1) := by decide +kernel
theorem dX3_talesSeen_1 : decode cX3_talesSeen 1 = .ok (.istore_n 1, 1) := by decide +kernel
theorem dX3_talesSeen_2 : decode cX3_talesSeen 2 = .ok (.iconst 0, 1) := by decide +kernel
theorem dX3_talesSeen_3 : decode cX3_talesSeen 3 = .ok (.istore_n 2, 1) := by decide +kernel
theorem dX3_talesSeen_4 : decode cX3_talesSeen 4 = .ok (.iload_n 2, 1) := by decide +kernel
theorem dX3_talesSeen_5 : decode cX3_talesSeen 5 = .ok (.iconst 4, 1) := by decide +kernel
theorem dX3_talesSeen_6 : decode cX3_talesSeen 6 = .ok (.if_icmp .ge 27, 3) := by decide +kernel
theorem dX3_talesSeen_9 : decode cX3_talesSeen 9 = .ok (.iload_n 1, 1) := by decide +kernel
theorem dX3_talesSeen_10 : decode cX3_talesSeen 10 = .ok (.aload_n 0, 1) := by decide +kernel
theorem dX3_talesSeen_11 : decode cX3_talesSeen 11 = .ok (.getfield 18, 3) := by decide +kernel
theorem dX3_talesSeen_14 : decode cX3_talesSeen 14 = .ok (.iload_n 2, 1) := by decide +kernel
theorem dX3_talesSeen_15 : decode cX3_talesSeen 15 = .ok (.iaload, 1) := by decide +kernel
theorem dX3_talesSeen_16 : decode cX3_talesSeen 16 = .ok (.iconst (-1), 1) := by decide +kernel
theorem dX3_talesSeen_17 : decode cX3_talesSeen 17 = .ok (.if_icmp .eq 7, 3) := by decide +kernel
theorem dX3_talesSeen_20 : decode cX3_talesSeen 20 = .ok (.iconst 1, 1) := by decide +kernel
theorem dX3_talesSeen_21 : decode cX3_talesSeen 21 = .ok (.goto 4, 3) := by decide +kernel
theorem dX3_talesSeen_24 : decode cX3_talesSeen 24 = .ok (.iconst 0, 1) := by decide +kernel
theorem dX3_talesSeen_25 : decode cX3_talesSeen 25 = .ok (.iadd, 1) := by decide +kernel
theorem dX3_talesSeen_26 : decode cX3_talesSeen 26 = .ok (.istore_n 1, 1) := by decide +kernel
theorem dX3_talesSeen_27 : decode cX3_talesSeen 27 = .ok (.iinc 2 1, 3) := by decide +kernel
theorem dX3_talesSeen_30 : decode cX3_talesSeen 30 = .ok (.goto (-26), 3) := by decide +kernel
theorem dX3_talesSeen_33 : decode cX3_talesSeen 33 = .ok (.iload_n 1, 1) := by decide +kernel
theorem dX3_talesSeen_34 : decode cX3_talesSeen 34 = .ok (.ireturn, 1) := by decide +kernel
theorem dX4_init_0 : decode cX4_init 0 = .ok (.aload_n 0, 1) := by decide +kernel
theorem dX4_init_1 : decode cX4_init 1 = .ok (.invokespecial 3, 3) := by decide +kernel
theorem dX4_init_4 : decode cX4_init 4 = .ok (.aload_n 0, 1) := by decide +kernel
theorem dX4_init_5 : decode cX4_init 5 = .ok (.iconst 4, 1) := by decide +kernel
theorem dX4_init_6 : decode cX4_init 6 = .ok (.newarray .int, 2) := by decide +kernel
theorem dX4_init_8 : decode cX4_init 8 = .ok (.putfield 11, 3) := by decide +kernel
theorem dX4_init_11 : decode cX4_init 11 = .ok (.aload_n 0, 1) := by decide +kernel
theorem dX4_init_12 : decode cX4_init 12 = .ok (.iconst 4, 1) := by decide +kernel
theorem dX4_init_13 : decode cX4_init 13 = .ok (.newarray .int, 2) := by decide +kernel
theorem dX4_init_15 : decode cX4_init 15 = .ok (.putfield 15, 3) := by decide +kernel
theorem dX4_init_18 : decode cX4_init 18 = .ok (.aload_n 0, 1) := by decide +kernel
theorem dX4_init_19 : decode cX4_init 19 = .ok (.sipush 10000, 3) := by decide +kernel
theorem dX4_init_22 : decode cX4_init 22 = .ok (.newarray .int, 2) := by decide +kernel
theorem dX4_init_24 : decode cX4_init 24 = .ok (.putfield 18, 3) := by decide +kernel
theorem dX4_init_27 : decode cX4_init 27 = .ok (.aload_n 0, 1) := by decide +kernel
theorem dX4_init_28 : decode cX4_init 28 = .ok (.bipush 104, 2) := by decide +kernel
theorem dX4_init_30 : decode cX4_init 30 = .ok (.iconst 0, 1) := by decide +kernel
theorem dX4_init_31 : decode cX4_init 31 = .ok (.invokevirtual 21, 3) := by decide +kernel
theorem dX4_init_34 : decode cX4_init 34 = .ok (.aload_n 0, 1) := by decide +kernel
theorem dX4_init_35 : decode cX4_init 35 = .ok (.invokevirtual 25, 3) := by decide +kernel
theorem dX4_init_38 : decode cX4_init 38 = .ok (.return_, 1) := by decide +kernel
theorem dX4_faultIn_0 : decode cX4_faultIn 0 = .ok (.iconst 0, 1) := by decide +kernel
theorem dX4_faultIn_1 : decode cX4_faultIn 1 = .ok (.istore_n 1, 1) := by decide +kernel
theorem dX4_faultIn_2 : decode cX4_faultIn 2 = .ok (.iconst 0, 1) := by decide +kernel
theorem dX4_faultIn_3 : decode cX4_faultIn 3 = .ok (.istore_n 2, 1) := by decide +kernel
theorem dX4_faultIn_4 : decode cX4_faultIn 4 = .ok (.iload_n 2, 1) := by decide +kernel
theorem dX4_faultIn_5 : decode cX4_faultIn 5 = .ok (.aload_n 0, 1) := by decide +kernel
theorem dX4_faultIn_6 : decode cX4_faultIn 6 = .ok (.invokevirtual 28, 3) := by decide +kernel
theorem dX4_faultIn_9 : decode cX4_faultIn 9 = .ok (.if_icmp .ge 63, 3) := by decide +kernel
theorem dX4_faultIn_12 : decode cX4_faultIn 12 = .ok (.aload_n 0, 1) := by decide +kernel
theorem dX4_faultIn_13 : decode cX4_faultIn 13 = .ok (.iload_n 2, 1) := by decide +kernel
theorem dX4_faultIn_14 : decode cX4_faultIn 14 = .ok (.iconst 1, 1) := by decide +kernel
theorem dX4_faultIn_15 : decode cX4_faultIn 15 = .ok (.isub, 1) := by decide +kernel
theorem dX4_faultIn_16 : decode cX4_faultIn 16 = .ok (.invokevirtual 34, 3) := by decide +kernel
theorem dX4_faultIn_19 : decode cX4_faultIn 19 = .ok (.istore_n 3, 1) := by decide +kernel
theorem dX4_faultIn_20 : decode cX4_faultIn 20 = .ok (.aload_n 0, 1) := by decide +kernel
theorem dX4_faultIn_21 : decode cX4_faultIn 21 = .ok (.iload_n 2, 1) := by decide +kernel
theorem dX4_faultIn_22 : decode cX4_faultIn 22 = .ok (.invokevirtual 34, 3) := by decide +kernel
theorem dX4_faultIn_25 : decode cX4_faultIn 25 = .ok (.istore 4, 2) := by decide +kernel
theorem dX4_faultIn_27 : decode cX4_faultIn 27 = .ok (.iload_n 3, 1) := by decide +kernel
theorem dX4_faultIn_28 : decode cX4_faultIn 28 = .ok (.invokestatic 38, 3) := by decide +kernel
theorem dX4_faultIn_31 : decode cX4_faultIn 31 = .ok (.ifCond .eq 14, 3) := by decide +kernel
theorem dX4_faultIn_34 : decode cX4_faultIn 34 = .ok (.iload_n 3, 1) := by decide +kernel
theorem dX4_faultIn_35 : decode cX4_faultIn 35 = .ok (.iload 4, 2) := by decide +kernel
theorem dX4_faultIn_37 : decode cX4_faultIn 37 = .ok (.invokestatic 42, 3) := by decide +kernel
theorem dX4_faultIn_40 : decode cX4_faultIn 40 = .ok (.ifCond .ne 26, 3) := by decide +kernel
theorem dX4_faultIn_43 : decode cX4_faultIn 43 = .ok (.iload_n 2, 1) := by decide +kernel
theorem dX4_faultIn_44 : decode cX4_faultIn 44 = .ok (.ireturn, 1) := by decide +kernel
theorem dX4_faultIn_45 : decode cX4_faultIn 45 = .ok (.iload 4, 2) := by decide +kernel
theorem dX4_faultIn_47 : decode cX4_faultIn 47 = .ok (.invokestatic 46, 3) := by decide +kernel
theorem dX4_faultIn_50 : decode cX4_faultIn 50 = .ok (.ifCond .eq 14, 3) := by decide +kernel
theorem dX4_faultIn_53 : decode cX4_faultIn 53 = .ok (.iload_n 1, 1) := by decide +kernel
theorem dX4_faultIn_54 : decode cX4_faultIn 54 = .ok (.iconst 4, 1) := by decide +kernel
theorem dX4_faultIn_55 : decode cX4_faultIn 55 = .ok (.if_icmp .ge 9, 3) := by decide +kernel
theorem dX4_faultIn_58 : decode cX4_faultIn 58 = .ok (.iinc 1 1, 3) := by decide +kernel
theorem dX4_faultIn_61 : decode cX4_faultIn 61 = .ok (.goto 5, 3) := by decide +kernel
theorem dX4_faultIn_64 : decode cX4_faultIn 64 = .ok (.iload_n 2, 1) := by decide +kernel
theorem dX4_faultIn_65 : decode cX4_faultIn 65 = .ok (.ireturn, 1) := by decide +kernel
theorem dX4_faultIn_66 : decode cX4_faultIn 66 = .ok (.iinc 2 1, 3) := by decide +kernel
theorem dX4_faultIn_69 : decode cX4_faultIn 69 = .ok (.goto (-65), 3) := by decide +kernel
theorem dX4_faultIn_72 : decode cX4_faultIn 72 = .ok (.aload_n 0, 1) := by decide +kernel
theorem dX4_faultIn_73 : decode cX4_faultIn 73 = .ok (.invokevirtual 28, 3) := by decide +kernel
theorem dX4_faultIn_76 : decode cX4_faultIn 76 = .ok (.ireturn, 1) := by decide +kernel
theorem dX4_isLaw_0 : decode cX4_isLaw 0 = .ok (.aload_n 0, 1) := by decide +kernel
theorem dX4_isLaw_1 : decode cX4_isLaw 1 = .ok (.invokevirtual 28, 3) := by decide +kernel
theorem dX4_isLaw_4 : decode cX4_isLaw 4 = .ok (.istore_n 1, 1) := by decide +kernel
theorem dX4_isLaw_5 : decode cX4_isLaw 5 = .ok (.iload_n 1, 1) := by decide +kernel
theorem dX4_isLaw_6 : decode cX4_isLaw 6 = .ok (.ifCond .le 28, 3) := by decide +kernel
theorem dX4_isLaw_9 : decode cX4_isLaw 9 = .ok (.aload_n 0, 1) := by decide +kernel
theorem dX4_isLaw_10 : decode cX4_isLaw 10 = .ok (.invokestatic 49, 3) := by decide +kernel
theorem dX4_isLaw_13 : decode cX4_isLaw 13 = .ok (.iload_n 1, 1) := by decide +kernel
theorem dX4_isLaw_14 : decode cX4_isLaw 14 = .ok (.if_icmp .ne 20, 3) := by decide +kernel
theorem dX4_isLaw_17 : decode cX4_isLaw 17 = .ok (.aload_n 0, 1) := by decide +kernel
theorem dX4_isLaw_18 : decode cX4_isLaw 18 = .ok (.iload_n 1, 1) := by decide +kernel
theorem dX4_isLaw_19 : decode cX4_isLaw 19 = .ok (.iconst 1, 1) := by decide +kernel
theorem dX4_isLaw_20 : decode cX4_isLaw 20 = .ok (.isub, 1) := by decide +kernel
theorem dX4_isLaw_21 : decode cX4_isLaw 21 = .ok (.invokevirtual 34, 3) := by decide +kernel
theorem dX4_isLaw_24 : decode cX4_isLaw 24 = .ok (.invokestatic 38, 3) := by decide +kernel
theorem dX4_isLaw_27 : decode cX4_isLaw 27 = .ok (.ifCond .ne 7, 3) := by decide +kernel
theorem dX4_isLaw_30 : decode cX4_isLaw 30 = .ok (.iconst 1, 1) := by decide +kernel
theorem dX4_isLaw_31 : decode cX4_isLaw 31 = .ok (.goto 4, 3) := by decide +kernel
theorem dX4_isLaw_34 : decode cX4_isLaw 34 = .ok (.iconst 0, 1) := by decide +kernel
theorem dX4_isLaw_35 : decode cX4_isLaw 35 = .ok (.ireturn, 1) := by decide +kernel
theorem dX4_opensStep_0 : decode cX4_opensStep 0 = .ok (.iload_n 0, 1) := by decide +kernel
theorem dX4_opensStep_1 : decode cX4_opensStep 1 = .ok (.bipush 104, 2) := by decide +kernel
theorem dX4_opensStep_3 : decode cX4_opensStep 3 = .ok (.if_icmp .eq 16, 3) := by decide +kernel
theorem dX4_opensStep_6 : decode cX4_opensStep 6 = .ok (.iload_n 0, 1) := by decide +kernel
theorem dX4_opensStep_7 : decode cX4_opensStep 7 = .ok (.bipush 100, 2) := by decide +kernel
theorem dX4_opensStep_9 : decode cX4_opensStep 9 = .ok (.if_icmp .eq 10, 3) := by decide +kernel
theorem dX4_opensStep_12 : decode cX4_opensStep 12 = .ok (.iload_n 0, 1) := by decide +kernel
theorem dX4_opensStep_13 : decode cX4_opensStep 13 = .ok (.invokestatic 38, 3) := by decide +kernel
theorem dX4_opensStep_16 : decode cX4_opensStep 16 = .ok (.ifCond .eq 7, 3) := by decide +kernel
theorem dX4_opensStep_19 : decode cX4_opensStep 19 = .ok (.iconst 1, 1) := by decide +kernel
theorem dX4_opensStep_20 : decode cX4_opensStep 20 = .ok (.goto 4, 3) := by decide +kernel
theorem dX4_opensStep_23 : decode cX4_opensStep 23 = .ok (.iconst 0, 1) := by decide +kernel
theorem dX4_opensStep_24 : decode cX4_opensStep 24 = .ok (.ireturn, 1) := by decide +kernel
theorem dX4_wantsDigit_0 : decode cX4_wantsDigit 0 = .ok (.iload_n 0, 1) := by decide +kernel
theorem dX4_wantsDigit_1 : decode cX4_wantsDigit 1 = .ok (.bipush 43, 2) := by decide +kernel
theorem dX4_wantsDigit_3 : decode cX4_wantsDigit 3 = .ok (.if_icmp .eq 15, 3) := by decide +kernel
theorem dX4_wantsDigit_6 : decode cX4_wantsDigit 6 = .ok (.iload_n 0, 1) := by decide +kernel
theorem dX4_wantsDigit_7 : decode cX4_wantsDigit 7 = .ok (.bipush 45, 2) := by decide +kernel
theorem dX4_wantsDigit_9 : decode cX4_wantsDigit 9 = .ok (.if_icmp .eq 9, 3) := by decide +kernel
theorem dX4_wantsDigit_12 : decode cX4_wantsDigit 12 = .ok (.iload_n 0, 1) := by decide +kernel
theorem dX4_wantsDigit_13 : decode cX4_wantsDigit 13 = .ok (.bipush 47, 2) := by decide +kernel
theorem dX4_wantsDigit_15 : decode cX4_wantsDigit 15 = .ok (.if_icmp .ne 7, 3) := by decide +kernel
theorem dX4_wantsDigit_18 : decode cX4_wantsDigit 18 = .ok (.iconst 1, 1) := by decide +kernel
theorem dX4_wantsDigit_19 : decode cX4_wantsDigit 19 = .ok (.goto 4, 3) := by decide +kernel
theorem dX4_wantsDigit_22 : decode cX4_wantsDigit 22 = .ok (.iconst 0, 1) := by decide +kernel
theorem dX4_wantsDigit_23 : decode cX4_wantsDigit 23 = .ok (.ireturn, 1) := by decide +kernel
theorem dX4_isDigitOf_0 : decode cX4_isDigitOf 0 = .ok (.iload_n 1, 1) := by decide +kernel
theorem dX4_isDigitOf_1 : decode cX4_isDigitOf 1 = .ok (.iload_n 0, 1) := by decide +kernel
theorem dX4_isDigitOf_2 : decode cX4_isDigitOf 2 = .ok (.bipush 47, 2) := by decide +kernel
theorem dX4_isDigitOf_4 : decode cX4_isDigitOf 4 = .ok (.if_icmp .ne 8, 3) := by decide +kernel
theorem dX4_isDigitOf_7 : decode cX4_isDigitOf 7 = .ok (.bipush 50, 2) := by decide +kernel
theorem dX4_isDigitOf_9 : decode cX4_isDigitOf 9 = .ok (.goto 5, 3) := by decide +kernel
theorem dX4_isDigitOf_12 : decode cX4_isDigitOf 12 = .ok (.bipush 48, 2) := by decide +kernel
theorem dX4_isDigitOf_14 : decode cX4_isDigitOf 14 = .ok (.bipush 57, 2) := by decide +kernel
theorem dX4_isDigitOf_16 : decode cX4_isDigitOf 16 = .ok (.invokestatic 53, 3) := by decide +kernel
theorem dX4_isDigitOf_19 : decode cX4_isDigitOf 19 = .ok (.ireturn, 1) := by decide +kernel
theorem dX4_read_0 : decode cX4_read 0 = .ok (.aload_n 0, 1) := by decide +kernel
theorem dX4_read_1 : decode cX4_read 1 = .ok (.iconst 0, 1) := by decide +kernel
theorem dX4_read_2 : decode cX4_read 2 = .ok (.putfield 57, 3) := by decide +kernel
theorem dX4_read_5 : decode cX4_read 5 = .ok (.iconst 0, 1) := by decide +kernel
theorem dX4_read_6 : decode cX4_read 6 = .ok (.istore_n 2, 1) := by decide +kernel
theorem dX4_read_7 : decode cX4_read 7 = .ok (.iload_n 2, 1) := by decide +kernel
theorem dX4_read_8 : decode cX4_read 8 = .ok (.aload_n 1, 1) := by decide +kernel
theorem dX4_read_9 : decode cX4_read 9 = .ok (.invokevirtual 28, 3) := by decide +kernel
theorem dX4_read_12 : decode cX4_read 12 = .ok (.if_icmp .ge 39, 3) := by decide +kernel
theorem dX4_read_15 : decode cX4_read 15 = .ok (.aload_n 1, 1) := by decide +kernel
theorem dX4_read_16 : decode cX4_read 16 = .ok (.iload_n 2, 1) := by decide +kernel
theorem dX4_read_17 : decode cX4_read 17 = .ok (.invokevirtual 34, 3) := by decide +kernel
theorem dX4_read_20 : decode cX4_read 20 = .ok (.invokestatic 46, 3) := by decide +kernel
theorem dX4_read_23 : decode cX4_read 23 = .ok (.ifCond .eq 22, 3) := by decide +kernel
theorem dX4_read_26 : decode cX4_read 26 = .ok (.aload_n 0, 1) := by decide +kernel
theorem dX4_read_27 : decode cX4_read 27 = .ok (.aload_n 1, 1) := by decide +kernel
theorem dX4_read_28 : decode cX4_read 28 = .ok (.iload_n 2, 1) := by decide +kernel
theorem dX4_read_29 : decode cX4_read 29 = .ok (.invokevirtual 34, 3) := by decide +kernel
theorem dX4_read_32 : decode cX4_read 32 = .ok (.aload_n 1, 1) := by decide +kernel
theorem dX4_read_33 : decode cX4_read 33 = .ok (.iload_n 2, 1) := by decide +kernel
theorem dX4_read_34 : decode cX4_read 34 = .ok (.iconst 1, 1) := by decide +kernel
theorem dX4_read_35 : decode cX4_read 35 = .ok (.iadd, 1) := by decide +kernel
theorem dX4_read_36 : decode cX4_read 36 = .ok (.invokevirtual 34, 3) := by decide +kernel
theorem dX4_read_39 : decode cX4_read 39 = .ok (.bipush 48, 2) := by decide +kernel
theorem dX4_read_41 : decode cX4_read 41 = .ok (.isub, 1) := by decide +kernel
theorem dX4_read_42 : decode cX4_read 42 = .ok (.invokevirtual 21, 3) := by decide +kernel
theorem dX4_read_45 : decode cX4_read 45 = .ok (.iinc 2 1, 3) := by decide +kernel
theorem dX4_read_48 : decode cX4_read 48 = .ok (.goto (-41), 3) := by decide +kernel
theorem dX4_read_51 : decode cX4_read 51 = .ok (.aload_n 0, 1) := by decide +kernel
theorem dX4_read_52 : decode cX4_read 52 = .ok (.invokevirtual 25, 3) := by decide +kernel
theorem dX4_read_55 : decode cX4_read 55 = .ok (.aload_n 0, 1) := by decide +kernel
theorem dX4_read_56 : decode cX4_read 56 = .ok (.dup, 1) := by decide +kernel
theorem dX4_read_57 : decode cX4_read 57 = .ok (.getfield 61, 3) := by decide +kernel
theorem dX4_read_60 : decode cX4_read 60 = .ok (.iconst 1, 1) := by decide +kernel
theorem dX4_read_61 : decode cX4_read 61 = .ok (.iadd, 1) := by decide +kernel
theorem dX4_read_62 : decode cX4_read 62 = .ok (.putfield 61, 3) := by decide +kernel
theorem dX4_read_65 : decode cX4_read 65 = .ok (.return_, 1) := by decide +kernel
theorem dX4_addStep_0 : decode cX4_addStep 0 = .ok (.aload_n 0, 1) := by decide +kernel
theorem dX4_addStep_1 : decode cX4_addStep 1 = .ok (.getfield 57, 3) := by decide +kernel
theorem dX4_addStep_4 : decode cX4_addStep 4 = .ok (.iconst 4, 1) := by decide +kernel
theorem dX4_addStep_5 : decode cX4_addStep 5 = .ok (.if_icmp .ge 33, 3) := by decide +kernel
theorem dX4_addStep_8 : decode cX4_addStep 8 = .ok (.aload_n 0, 1) := by decide +kernel
theorem dX4_addStep_9 : decode cX4_addStep 9 = .ok (.getfield 11, 3) := by decide +kernel
theorem dX4_addStep_12 : decode cX4_addStep 12 = .ok (.aload_n 0, 1) := by decide +kernel
theorem dX4_addStep_13 : decode cX4_addStep 13 = .ok (.getfield 57, 3) := by decide +kernel
theorem dX4_addStep_16 : decode cX4_addStep 16 = .ok (.iload_n 1, 1) := by decide +kernel
theorem dX4_addStep_17 : decode cX4_addStep 17 = .ok (.iastore, 1) := by decide +kernel
theorem dX4_addStep_18 : decode cX4_addStep 18 = .ok (.aload_n 0, 1) := by decide +kernel
theorem dX4_addStep_19 : decode cX4_addStep 19 = .ok (.getfield 15, 3) := by decide +kernel
theorem dX4_addStep_22 : decode cX4_addStep 22 = .ok (.aload_n 0, 1) := by decide +kernel
theorem dX4_addStep_23 : decode cX4_addStep 23 = .ok (.getfield 57, 3) := by decide +kernel
theorem dX4_addStep_26 : decode cX4_addStep 26 = .ok (.iload_n 2, 1) := by decide +kernel
theorem dX4_addStep_27 : decode cX4_addStep 27 = .ok (.iastore, 1) := by decide +kernel
theorem dX4_addStep_28 : decode cX4_addStep 28 = .ok (.aload_n 0, 1) := by decide +kernel
theorem dX4_addStep_29 : decode cX4_addStep 29 = .ok (.dup, 1) := by decide +kernel
theorem dX4_addStep_30 : decode cX4_addStep 30 = .ok (.getfield 57, 3) := by decide +kernel
theorem dX4_addStep_33 : decode cX4_addStep 33 = .ok (.iconst 1, 1) := by decide +kernel
theorem dX4_addStep_34 : decode cX4_addStep 34 = .ok (.iadd, 1) := by decide +kernel
theorem dX4_addStep_35 : decode cX4_addStep 35 = .ok (.putfield 57, 3) := by decide +kernel
theorem dX4_addStep_38 : decode cX4_addStep 38 = .ok (.return_, 1) := by decide +kernel
theorem dX4_makeAll_0 : decode cX4_makeAll 0 = .ok (.iconst 0, 1) := by decide +kernel
theorem dX4_makeAll_1 : decode cX4_makeAll 1 = .ok (.istore_n 1, 1) := by decide +kernel
theorem dX4_makeAll_2 : decode cX4_makeAll 2 = .ok (.iload_n 1, 1) := by decide +kernel
theorem dX4_makeAll_3 : decode cX4_makeAll 3 = .ok (.sipush 10000, 3) := by decide +kernel
theorem dX4_makeAll_6 : decode cX4_makeAll 6 = .ok (.if_icmp .ge 62, 3) := by decide +kernel
theorem dX4_makeAll_9 : decode cX4_makeAll 9 = .ok (.iload_n 1, 1) := by decide +kernel
theorem dX4_makeAll_10 : decode cX4_makeAll 10 = .ok (.istore_n 2, 1) := by decide +kernel
theorem dX4_makeAll_11 : decode cX4_makeAll 11 = .ok (.iconst 0, 1) := by decide +kernel
theorem dX4_makeAll_12 : decode cX4_makeAll 12 = .ok (.istore_n 3, 1) := by decide +kernel
theorem dX4_makeAll_13 : decode cX4_makeAll 13 = .ok (.iload_n 3, 1) := by decide +kernel
theorem dX4_makeAll_14 : decode cX4_makeAll 14 = .ok (.aload_n 0, 1) := by decide +kernel
theorem dX4_makeAll_15 : decode cX4_makeAll 15 = .ok (.getfield 57, 3) := by decide +kernel
theorem dX4_makeAll_18 : decode cX4_makeAll 18 = .ok (.if_icmp .ge 37, 3) := by decide +kernel
theorem dX4_makeAll_21 : decode cX4_makeAll 21 = .ok (.iload_n 3, 1) := by decide +kernel
theorem dX4_makeAll_22 : decode cX4_makeAll 22 = .ok (.iconst 4, 1) := by decide +kernel
theorem dX4_makeAll_23 : decode cX4_makeAll 23 = .ok (.if_icmp .ge 32, 3) := by decide +kernel
theorem dX4_makeAll_26 : decode cX4_makeAll 26 = .ok (.sipush 9999, 3) := by decide +kernel
theorem dX4_makeAll_29 : decode cX4_makeAll 29 = .ok (.aload_n 0, 1) := by decide +kernel
theorem dX4_makeAll_30 : decode cX4_makeAll 30 = .ok (.getfield 11, 3) := by decide +kernel
theorem dX4_makeAll_33 : decode cX4_makeAll 33 = .ok (.iload_n 3, 1) := by decide +kernel
theorem dX4_makeAll_34 : decode cX4_makeAll 34 = .ok (.iaload, 1) := by decide +kernel
theorem dX4_makeAll_35 : decode cX4_makeAll 35 = .ok (.aload_n 0, 1) := by decide +kernel
theorem dX4_makeAll_36 : decode cX4_makeAll 36 = .ok (.getfield 15, 3) := by decide +kernel
theorem dX4_makeAll_39 : decode cX4_makeAll 39 = .ok (.iload_n 3, 1) := by decide +kernel
theorem dX4_makeAll_40 : decode cX4_makeAll 40 = .ok (.iaload, 1) := by decide +kernel
theorem dX4_makeAll_41 : decode cX4_makeAll 41 = .ok (.iload_n 2, 1) := by decide +kernel
theorem dX4_makeAll_42 : decode cX4_makeAll 42 = .ok (.invokestatic 64, 3) := by decide +kernel
theorem dX4_makeAll_45 : decode cX4_makeAll 45 = .ok (.invokestatic 68, 3) := by decide +kernel
theorem dX4_makeAll_48 : decode cX4_makeAll 48 = .ok (.istore_n 2, 1) := by decide +kernel
theorem dX4_makeAll_49 : decode cX4_makeAll 49 = .ok (.iinc 3 1, 3) := by decide +kernel
theorem dX4_makeAll_52 : decode cX4_makeAll 52 = .ok (.goto (-39), 3) := by decide +kernel
theorem dX4_makeAll_55 : decode cX4_makeAll 55 = .ok (.aload_n 0, 1) := by decide +kernel
theorem dX4_makeAll_56 : decode cX4_makeAll 56 = .ok (.getfield 18, 3) := by decide +kernel
theorem dX4_makeAll_59 : decode cX4_makeAll 59 = .ok (.iload_n 1, 1) := by decide +kernel
theorem dX4_makeAll_60 : decode cX4_makeAll 60 = .ok (.iload_n 2, 1) := by decide +kernel
theorem dX4_makeAll_61 : decode cX4_makeAll 61 = .ok (.iastore, 1) := by decide +kernel
theorem dX4_makeAll_62 : decode cX4_makeAll 62 = .ok (.iinc 1 1, 3) := by decide +kernel
theorem dX4_makeAll_65 : decode cX4_makeAll 65 = .ok (.goto (-63), 3) := by decide +kernel
theorem dX4_makeAll_68 : decode cX4_makeAll 68 = .ok (.return_, 1) := by decide +kernel
theorem dX4_stepped_0 : decode cX4_stepped 0 = .ok (.iload_n 0, 1) := by decide +kernel
theorem dX4_stepped_1 : decode cX4_stepped 1 = .ok (.lookupswitch 65 #[(43, 53), (45, 57), (100, 49), (104, 43)], 43) := by decide +kernel
theorem dX4_stepped_44 : decode cX4_stepped 44 = .ok (.iload_n 2, 1) := by decide +kernel
theorem dX4_stepped_45 : decode cX4_stepped 45 = .ok (.iload_n 2, 1) := by decide +kernel
theorem dX4_stepped_46 : decode cX4_stepped 46 = .ok (.iconst 2, 1) := by decide +kernel
theorem dX4_stepped_47 : decode cX4_stepped 47 = .ok (.idiv, 1) := by decide +kernel
theorem dX4_stepped_48 : decode cX4_stepped 48 = .ok (.iadd, 1) := by decide +kernel
theorem dX4_stepped_49 : decode cX4_stepped 49 = .ok (.ireturn, 1) := by decide +kernel
theorem dX4_stepped_50 : decode cX4_stepped 50 = .ok (.iconst 2, 1) := by decide +kernel
theorem dX4_stepped_51 : decode cX4_stepped 51 = .ok (.iload_n 2, 1) := by decide +kernel
theorem dX4_stepped_52 : decode cX4_stepped 52 = .ok (.imul, 1) := by decide +kernel
theorem dX4_stepped_53 : decode cX4_stepped 53 = .ok (.ireturn, 1) := by decide +kernel
theorem dX4_stepped_54 : decode cX4_stepped 54 = .ok (.iload_n 2, 1) := by decide +kernel
theorem dX4_stepped_55 : decode cX4_stepped 55 = .ok (.iload_n 1, 1) := by decide +kernel
theorem dX4_stepped_56 : decode cX4_stepped 56 = .ok (.iadd, 1) := by decide +kernel
theorem dX4_stepped_57 : decode cX4_stepped 57 = .ok (.ireturn, 1) := by decide +kernel
theorem dX4_stepped_58 : decode cX4_stepped 58 = .ok (.iconst 0, 1) := by decide +kernel
theorem dX4_stepped_59 : decode cX4_stepped 59 = .ok (.iload_n 2, 1) := by decide +kernel
theorem dX4_stepped_60 : decode cX4_stepped 60 = .ok (.iload_n 1, 1) := by decide +kernel
theorem dX4_stepped_61 : decode cX4_stepped 61 = .ok (.isub, 1) := by decide +kernel
theorem dX4_stepped_62 : decode cX4_stepped 62 = .ok (.invokestatic 74, 3) := by decide +kernel
theorem dX4_stepped_65 : decode cX4_stepped 65 = .ok (.ireturn, 1) := by decide +kernel
theorem dX4_stepped_66 : decode cX4_stepped 66 = .ok (.iload_n 1, 1) := by decide +kernel
theorem dX4_stepped_67 : decode cX4_stepped 67 = .ok (.ifCond .le 9, 3) := by decide +kernel
theorem dX4_stepped_70 : decode cX4_stepped 70 = .ok (.iload_n 2, 1) := by decide +kernel
theorem dX4_stepped_71 : decode cX4_stepped 71 = .ok (.iload_n 1, 1) := by decide +kernel
theorem dX4_stepped_72 : decode cX4_stepped 72 = .ok (.idiv, 1) := by decide +kernel
theorem dX4_stepped_73 : decode cX4_stepped 73 = .ok (.goto 4, 3) := by decide +kernel
theorem dX4_stepped_76 : decode cX4_stepped 76 = .ok (.iload_n 2, 1) := by decide +kernel
theorem dX4_stepped_77 : decode cX4_stepped 77 = .ok (.ireturn, 1) := by decide +kernel
theorem dX4_steps_0 : decode cX4_steps 0 = .ok (.aload_n 0, 1) := by decide +kernel
theorem dX4_steps_1 : decode cX4_steps 1 = .ok (.getfield 57, 3) := by decide +kernel
theorem dX4_steps_4 : decode cX4_steps 4 = .ok (.ireturn, 1) := by decide +kernel
theorem dX4_readings_0 : decode cX4_readings 0 = .ok (.aload_n 0, 1) := by decide +kernel
theorem dX4_readings_1 : decode cX4_readings 1 = .ok (.getfield 61, 3) := by decide +kernel
theorem dX4_readings_4 : decode cX4_readings 4 = .ok (.ireturn, 1) := by decide +kernel
theorem dX4_makes_0 : decode cX4_makes 0 = .ok (.iload_n 1, 1) := by decide +kernel
theorem dX4_makes_1 : decode cX4_makes 1 = .ok (.ifCond .lt 19, 3) := by decide +kernel
theorem dX4_makes_4 : decode cX4_makes 4 = .ok (.iload_n 1, 1) := by decide +kernel
theorem dX4_makes_5 : decode cX4_makes 5 = .ok (.sipush 10000, 3) := by decide +kernel
theorem dX4_makes_8 : decode cX4_makes 8 = .ok (.if_icmp .ge 12, 3) := by decide +kernel
theorem dX4_makes_11 : decode cX4_makes 11 = .ok (.aload_n 0, 1) := by decide +kernel
theorem dX4_makes_12 : decode cX4_makes 12 = .ok (.getfield 18, 3) := by decide +kernel
theorem dX4_makes_15 : decode cX4_makes 15 = .ok (.iload_n 1, 1) := by decide +kernel
theorem dX4_makes_16 : decode cX4_makes 16 = .ok (.iaload, 1) := by decide +kernel
theorem dX4_makes_17 : decode cX4_makes 17 = .ok (.goto 4, 3) := by decide +kernel
theorem dX4_makes_20 : decode cX4_makes 20 = .ok (.iconst (-1), 1) := by decide +kernel
theorem dX4_makes_21 : decode cX4_makes 21 = .ok (.ireturn, 1) := by decide +kernel
theorem dX4_toldBy_0 : decode cX4_toldBy 0 = .ok (.iload_n 1, 1) := by decide +kernel
theorem dX4_toldBy_1 : decode cX4_toldBy 1 = .ok (.tableswitch 43 1 3 #[27, 29, 33], 27) := by decide +kernel
theorem dX4_toldBy_28 : decode cX4_toldBy 28 = .ok (.iload_n 2, 1) := by decide +kernel
theorem dX4_toldBy_29 : decode cX4_toldBy 29 = .ok (.ireturn, 1) := by decide +kernel
theorem dX4_toldBy_30 : decode cX4_toldBy 30 = .ok (.iload_n 2, 1) := by decide +kernel
theorem dX4_toldBy_31 : decode cX4_toldBy 31 = .ok (.iconst 2, 1) := by decide +kernel
theorem dX4_toldBy_32 : decode cX4_toldBy 32 = .ok (.idiv, 1) := by decide +kernel
theorem dX4_toldBy_33 : decode cX4_toldBy 33 = .ok (.ireturn, 1) := by decide +kernel
theorem dX4_toldBy_34 : decode cX4_toldBy 34 = .ok (.aload_n 0, 1) := by decide +kernel
theorem dX4_toldBy_35 : decode cX4_toldBy 35 = .ok (.aload_n 0, 1) := by decide +kernel
theorem dX4_toldBy_36 : decode cX4_toldBy 36 = .ok (.iload_n 2, 1) := by decide +kernel
theorem dX4_toldBy_37 : decode cX4_toldBy 37 = .ok (.invokevirtual 77, 3) := by decide +kernel
theorem dX4_toldBy_40 : decode cX4_toldBy 40 = .ok (.invokevirtual 77, 3) := by decide +kernel
theorem dX4_toldBy_43 : decode cX4_toldBy 43 = .ok (.ireturn, 1) := by decide +kernel
theorem dX4_toldBy_44 : decode cX4_toldBy 44 = .ok (.aload_n 0, 1) := by decide +kernel
theorem dX4_toldBy_45 : decode cX4_toldBy 45 = .ok (.iload_n 2, 1) := by decide +kernel
theorem dX4_toldBy_46 : decode cX4_toldBy 46 = .ok (.invokevirtual 77, 3) := by decide +kernel
theorem dX4_toldBy_49 : decode cX4_toldBy 49 = .ok (.ireturn, 1) := by decide +kernel
theorem dX5_init_0 : decode cX5_init 0 = .ok (.aload_n 0, 1) := by decide +kernel
theorem dX5_init_1 : decode cX5_init 1 = .ok (.invokespecial 3, 3) := by decide +kernel
theorem dX5_init_4 : decode cX5_init 4 = .ok (.aload_n 0, 1) := by decide +kernel
theorem dX5_init_5 : decode cX5_init 5 = .ok (.bipush 10, 2) := by decide +kernel
theorem dX5_init_7 : decode cX5_init 7 = .ok (.newarray .long, 2) := by decide +kernel
theorem dX5_init_9 : decode cX5_init 9 = .ok (.putfield 9, 3) := by decide +kernel
theorem dX5_init_12 : decode cX5_init 12 = .ok (.return_, 1) := by decide +kernel
theorem dX5_weigh_0 : decode cX5_weigh 0 = .ok (.aload_n 0, 1) := by decide +kernel
theorem dX5_weigh_1 : decode cX5_weigh 1 = .ok (.iload_n 1, 1) := by decide +kernel
theorem dX5_weigh_2 : decode cX5_weigh 2 = .ok (.bipush 9, 2) := by decide +kernel
theorem dX5_weigh_4 : decode cX5_weigh 4 = .ok (.invokestatic 15, 3) := by decide +kernel
theorem dX5_weigh_7 : decode cX5_weigh 7 = .ok (.putfield 21, 3) := by decide +kernel
theorem dX5_weigh_10 : decode cX5_weigh 10 = .ok (.aload_n 0, 1) := by decide +kernel
theorem dX5_weigh_11 : decode cX5_weigh 11 = .ok (.getfield 9, 3) := by decide +kernel
theorem dX5_weigh_14 : decode cX5_weigh 14 = .ok (.lconst 0, 1) := by decide +kernel
theorem dX5_weigh_15 : decode cX5_weigh 15 = .ok (.invokestatic 25, 3) := by decide +kernel
theorem dX5_weigh_18 : decode cX5_weigh 18 = .ok (.aload_n 0, 1) := by decide +kernel
theorem dX5_weigh_19 : decode cX5_weigh 19 = .ok (.getfield 9, 3) := by decide +kernel
theorem dX5_weigh_22 : decode cX5_weigh 22 = .ok (.iconst 0, 1) := by decide +kernel
theorem dX5_weigh_23 : decode cX5_weigh 23 = .ok (.lconst 1, 1) := by decide +kernel
theorem dX5_weigh_24 : decode cX5_weigh 24 = .ok (.lastore, 1) := by decide +kernel
theorem dX5_weigh_25 : decode cX5_weigh 25 = .ok (.iconst 1, 1) := by decide +kernel
theorem dX5_weigh_26 : decode cX5_weigh 26 = .ok (.istore_n 3, 1) := by decide +kernel
theorem dX5_weigh_27 : decode cX5_weigh 27 = .ok (.iload_n 3, 1) := by decide +kernel
theorem dX5_weigh_28 : decode cX5_weigh 28 = .ok (.aload_n 0, 1) := by decide +kernel
theorem dX5_weigh_29 : decode cX5_weigh 29 = .ok (.getfield 21, 3) := by decide +kernel
theorem dX5_weigh_32 : decode cX5_weigh 32 = .ok (.if_icmp .gt 67, 3) := by decide +kernel
theorem dX5_weigh_35 : decode cX5_weigh 35 = .ok (.iload_n 3, 1) := by decide +kernel
theorem dX5_weigh_36 : decode cX5_weigh 36 = .ok (.istore 4, 2) := by decide +kernel
theorem dX5_weigh_38 : decode cX5_weigh 38 = .ok (.iload 4, 2) := by decide +kernel
theorem dX5_weigh_40 : decode cX5_weigh 40 = .ok (.ifCond .le 42, 3) := by decide +kernel
theorem dX5_weigh_43 : decode cX5_weigh 43 = .ok (.aload_n 0, 1) := by decide +kernel
theorem dX5_weigh_44 : decode cX5_weigh 44 = .ok (.getfield 9, 3) := by decide +kernel
theorem dX5_weigh_47 : decode cX5_weigh 47 = .ok (.iload 4, 2) := by decide +kernel
theorem dX5_weigh_49 : decode cX5_weigh 49 = .ok (.aload_n 0, 1) := by decide +kernel
theorem dX5_weigh_50 : decode cX5_weigh 50 = .ok (.getfield 9, 3) := by decide +kernel
theorem dX5_weigh_53 : decode cX5_weigh 53 = .ok (.iload 4, 2) := by decide +kernel
theorem dX5_weigh_55 : decode cX5_weigh 55 = .ok (.laload, 1) := by decide +kernel
theorem dX5_weigh_56 : decode cX5_weigh 56 = .ok (.iload_n 2, 1) := by decide +kernel
theorem dX5_weigh_57 : decode cX5_weigh 57 = .ok (.i2l, 1) := by decide +kernel
theorem dX5_weigh_58 : decode cX5_weigh 58 = .ok (.lmul, 1) := by decide +kernel
theorem dX5_weigh_59 : decode cX5_weigh 59 = .ok (.aload_n 0, 1) := by decide +kernel
theorem dX5_weigh_60 : decode cX5_weigh 60 = .ok (.getfield 9, 3) := by decide +kernel
theorem dX5_weigh_63 : decode cX5_weigh 63 = .ok (.iload 4, 2) := by decide +kernel
theorem dX5_weigh_65 : decode cX5_weigh 65 = .ok (.iconst 1, 1) := by decide +kernel
theorem dX5_weigh_66 : decode cX5_weigh 66 = .ok (.isub, 1) := by decide +kernel
theorem dX5_weigh_67 : decode cX5_weigh 67 = .ok (.laload, 1) := by decide +kernel
theorem dX5_weigh_68 : decode cX5_weigh 68 = .ok (.bipush 10, 2) := by decide +kernel
theorem dX5_weigh_70 : decode cX5_weigh 70 = .ok (.iload_n 2, 1) := by decide +kernel
theorem dX5_weigh_71 : decode cX5_weigh 71 = .ok (.isub, 1) := by decide +kernel
theorem dX5_weigh_72 : decode cX5_weigh 72 = .ok (.i2l, 1) := by decide +kernel
theorem dX5_weigh_73 : decode cX5_weigh 73 = .ok (.lmul, 1) := by decide +kernel
theorem dX5_weigh_74 : decode cX5_weigh 74 = .ok (.ladd, 1) := by decide +kernel
theorem dX5_weigh_75 : decode cX5_weigh 75 = .ok (.lastore, 1) := by decide +kernel
theorem dX5_weigh_76 : decode cX5_weigh 76 = .ok (.iinc 4 (-1), 3) := by decide +kernel
theorem dX5_weigh_79 : decode cX5_weigh 79 = .ok (.goto (-41), 3) := by decide +kernel
theorem dX5_weigh_82 : decode cX5_weigh 82 = .ok (.aload_n 0, 1) := by decide +kernel
theorem dX5_weigh_83 : decode cX5_weigh 83 = .ok (.getfield 9, 3) := by decide +kernel
theorem dX5_weigh_86 : decode cX5_weigh 86 = .ok (.iconst 0, 1) := by decide +kernel
theorem dX5_weigh_87 : decode cX5_weigh 87 = .ok (.dup2, 1) := by decide +kernel
theorem dX5_weigh_88 : decode cX5_weigh 88 = .ok (.laload, 1) := by decide +kernel
theorem dX5_weigh_89 : decode cX5_weigh 89 = .ok (.iload_n 2, 1) := by decide +kernel
theorem dX5_weigh_90 : decode cX5_weigh 90 = .ok (.i2l, 1) := by decide +kernel
theorem dX5_weigh_91 : decode cX5_weigh 91 = .ok (.lmul, 1) := by decide +kernel
theorem dX5_weigh_92 : decode cX5_weigh 92 = .ok (.lastore, 1) := by decide +kernel
theorem dX5_weigh_93 : decode cX5_weigh 93 = .ok (.iinc 3 1, 3) := by decide +kernel
theorem dX5_weigh_96 : decode cX5_weigh 96 = .ok (.goto (-69), 3) := by decide +kernel
theorem dX5_weigh_99 : decode cX5_weigh 99 = .ok (.return_, 1) := by decide +kernel
theorem dX5_allWays_0 : decode cX5_allWays 0 = .ok (.lconst 1, 1) := by decide +kernel
theorem dX5_allWays_1 : decode cX5_allWays 1 = .ok (.lstore_n 1, 1) := by decide +kernel
theorem dX5_allWays_2 : decode cX5_allWays 2 = .ok (.iconst 0, 1) := by decide +kernel
theorem dX5_allWays_3 : decode cX5_allWays 3 = .ok (.istore_n 3, 1) := by decide +kernel
theorem dX5_allWays_4 : decode cX5_allWays 4 = .ok (.iload_n 3, 1) := by decide +kernel
theorem dX5_allWays_5 : decode cX5_allWays 5 = .ok (.aload_n 0, 1) := by decide +kernel
theorem dX5_allWays_6 : decode cX5_allWays 6 = .ok (.getfield 21, 3) := by decide +kernel
theorem dX5_allWays_9 : decode cX5_allWays 9 = .ok (.if_icmp .ge 15, 3) := by decide +kernel
theorem dX5_allWays_12 : decode cX5_allWays 12 = .ok (.lload_n 1, 1) := by decide +kernel
theorem dX5_allWays_13 : decode cX5_allWays 13 = .ok (.ldc2_w 31, 3) := by decide +kernel
theorem dX5_allWays_16 : decode cX5_allWays 16 = .ok (.lmul, 1) := by decide +kernel
theorem dX5_allWays_17 : decode cX5_allWays 17 = .ok (.lstore_n 1, 1) := by decide +kernel
theorem dX5_allWays_18 : decode cX5_allWays 18 = .ok (.iinc 3 1, 3) := by decide +kernel
theorem dX5_allWays_21 : decode cX5_allWays 21 = .ok (.goto (-17), 3) := by decide +kernel
theorem dX5_allWays_24 : decode cX5_allWays 24 = .ok (.lload_n 1, 1) := by decide +kernel
theorem dX5_allWays_25 : decode cX5_allWays 25 = .ok (.lreturn, 1) := by decide +kernel
theorem dX5_waysFrom_0 : decode cX5_waysFrom 0 = .ok (.lconst 0, 1) := by decide +kernel
theorem dX5_waysFrom_1 : decode cX5_waysFrom 1 = .ok (.lstore 4, 2) := by decide +kernel
theorem dX5_waysFrom_3 : decode cX5_waysFrom 3 = .ok (.iload_n 2, 1) := by decide +kernel
theorem dX5_waysFrom_4 : decode cX5_waysFrom 4 = .ok (.istore 6, 2) := by decide +kernel
theorem dX5_waysFrom_6 : decode cX5_waysFrom 6 = .ok (.iconst 0, 1) := by decide +kernel
theorem dX5_waysFrom_7 : decode cX5_waysFrom 7 = .ok (.istore 7, 2) := by decide +kernel
theorem dX5_waysFrom_9 : decode cX5_waysFrom 9 = .ok (.iload 7, 2) := by decide +kernel
theorem dX5_waysFrom_11 : decode cX5_waysFrom 11 = .ok (.aload_n 0, 1) := by decide +kernel
theorem dX5_waysFrom_12 : decode cX5_waysFrom 12 = .ok (.getfield 21, 3) := by decide +kernel
theorem dX5_waysFrom_15 : decode cX5_waysFrom 15 = .ok (.if_icmp .gt 46, 3) := by decide +kernel
theorem dX5_waysFrom_18 : decode cX5_waysFrom 18 = .ok (.iload 7, 2) := by decide +kernel
theorem dX5_waysFrom_20 : decode cX5_waysFrom 20 = .ok (.bipush 9, 2) := by decide +kernel
theorem dX5_waysFrom_22 : decode cX5_waysFrom 22 = .ok (.if_icmp .gt 39, 3) := by decide +kernel
theorem dX5_waysFrom_25 : decode cX5_waysFrom 25 = .ok (.lload 4, 2) := by decide +kernel
theorem dX5_waysFrom_27 : decode cX5_waysFrom 27 = .ok (.iload 6, 2) := by decide +kernel
theorem dX5_waysFrom_29 : decode cX5_waysFrom 29 = .ok (.iload_n 3, 1) := by decide +kernel
theorem dX5_waysFrom_30 : decode cX5_waysFrom 30 = .ok (.if_icmp .ne 13, 3) := by decide +kernel
theorem dX5_waysFrom_33 : decode cX5_waysFrom 33 = .ok (.aload_n 0, 1) := by decide +kernel
theorem dX5_waysFrom_34 : decode cX5_waysFrom 34 = .ok (.getfield 9, 3) := by decide +kernel
theorem dX5_waysFrom_37 : decode cX5_waysFrom 37 = .ok (.iload 7, 2) := by decide +kernel
theorem dX5_waysFrom_39 : decode cX5_waysFrom 39 = .ok (.laload, 1) := by decide +kernel
theorem dX5_waysFrom_40 : decode cX5_waysFrom 40 = .ok (.goto 4, 3) := by decide +kernel
theorem dX5_waysFrom_43 : decode cX5_waysFrom 43 = .ok (.lconst 0, 1) := by decide +kernel
theorem dX5_waysFrom_44 : decode cX5_waysFrom 44 = .ok (.ladd, 1) := by decide +kernel
theorem dX5_waysFrom_45 : decode cX5_waysFrom 45 = .ok (.lstore 4, 2) := by decide +kernel
theorem dX5_waysFrom_47 : decode cX5_waysFrom 47 = .ok (.aload_n 1, 1) := by decide +kernel
theorem dX5_waysFrom_48 : decode cX5_waysFrom 48 = .ok (.iload 6, 2) := by decide +kernel
theorem dX5_waysFrom_50 : decode cX5_waysFrom 50 = .ok (.invokevirtual 33, 3) := by decide +kernel
theorem dX5_waysFrom_53 : decode cX5_waysFrom 53 = .ok (.istore 6, 2) := by decide +kernel
theorem dX5_waysFrom_55 : decode cX5_waysFrom 55 = .ok (.iinc 7 1, 3) := by decide +kernel
theorem dX5_waysFrom_58 : decode cX5_waysFrom 58 = .ok (.goto (-49), 3) := by decide +kernel
theorem dX5_waysFrom_61 : decode cX5_waysFrom 61 = .ok (.lload 4, 2) := by decide +kernel
theorem dX5_waysFrom_63 : decode cX5_waysFrom 63 = .ok (.lreturn, 1) := by decide +kernel
theorem dX6_init_0 : decode cX6_init 0 = .ok (.aload_n 0, 1) := by decide +kernel
theorem dX6_init_1 : decode cX6_init 1 = .ok (.invokespecial 3, 3) := by decide +kernel
theorem dX6_init_4 : decode cX6_init 4 = .ok (.aload_n 0, 1) := by decide +kernel
theorem dX6_init_5 : decode cX6_init 5 = .ok (.bipush 50, 2) := by decide +kernel
theorem dX6_init_7 : decode cX6_init 7 = .ok (.newarray .int, 2) := by decide +kernel
theorem dX6_init_9 : decode cX6_init 9 = .ok (.putfield 11, 3) := by decide +kernel
theorem dX6_init_12 : decode cX6_init 12 = .ok (.return_, 1) := by decide +kernel
theorem dX6_lettersIn_0 : decode cX6_lettersIn 0 = .ok (.iconst 0, 1) := by decide +kernel
theorem dX6_lettersIn_1 : decode cX6_lettersIn 1 = .ok (.istore_n 2, 1) := by decide +kernel
theorem dX6_lettersIn_2 : decode cX6_lettersIn 2 = .ok (.iconst 0, 1) := by decide +kernel
theorem dX6_lettersIn_3 : decode cX6_lettersIn 3 = .ok (.istore_n 3, 1) := by decide +kernel
theorem dX6_lettersIn_4 : decode cX6_lettersIn 4 = .ok (.iload_n 3, 1) := by decide +kernel
theorem dX6_lettersIn_5 : decode cX6_lettersIn 5 = .ok (.bipush 8, 2) := by decide +kernel
theorem dX6_lettersIn_7 : decode cX6_lettersIn 7 = .ok (.if_icmp .ge 48, 3) := by decide +kernel
theorem dX6_lettersIn_10 : decode cX6_lettersIn 10 = .ok (.lload_n 0, 1) := by decide +kernel
theorem dX6_lettersIn_11 : decode cX6_lettersIn 11 = .ok (.iload_n 3, 1) := by decide +kernel
theorem dX6_lettersIn_12 : decode cX6_lettersIn 12 = .ok (.invokestatic 15, 3) := by decide +kernel
theorem dX6_lettersIn_15 : decode cX6_lettersIn 15 = .ok (.istore 4, 2) := by decide +kernel
theorem dX6_lettersIn_17 : decode cX6_lettersIn 17 = .ok (.iload 4, 2) := by decide +kernel
theorem dX6_lettersIn_19 : decode cX6_lettersIn 19 = .ok (.bipush 126, 2) := by decide +kernel
theorem dX6_lettersIn_21 : decode cX6_lettersIn 21 = .ok (.if_icmp .gt 13, 3) := by decide +kernel
theorem dX6_lettersIn_24 : decode cX6_lettersIn 24 = .ok (.iload 4, 2) := by decide +kernel
theorem dX6_lettersIn_26 : decode cX6_lettersIn 26 = .ok (.ifCond .eq 10, 3) := by decide +kernel
theorem dX6_lettersIn_29 : decode cX6_lettersIn 29 = .ok (.iload_n 2, 1) := by decide +kernel
theorem dX6_lettersIn_30 : decode cX6_lettersIn 30 = .ok (.iload_n 3, 1) := by decide +kernel
theorem dX6_lettersIn_31 : decode cX6_lettersIn 31 = .ok (.if_icmp .ge 5, 3) := by decide +kernel
theorem dX6_lettersIn_34 : decode cX6_lettersIn 34 = .ok (.iconst (-1), 1) := by decide +kernel
theorem dX6_lettersIn_35 : decode cX6_lettersIn 35 = .ok (.ireturn, 1) := by decide +kernel
theorem dX6_lettersIn_36 : decode cX6_lettersIn 36 = .ok (.iload_n 2, 1) := by decide +kernel
theorem dX6_lettersIn_37 : decode cX6_lettersIn 37 = .ok (.iload 4, 2) := by decide +kernel
theorem dX6_lettersIn_39 : decode cX6_lettersIn 39 = .ok (.ifCond .eq 7, 3) := by decide +kernel
theorem dX6_lettersIn_42 : decode cX6_lettersIn 42 = .ok (.iconst 1, 1) := by decide +kernel
theorem dX6_lettersIn_43 : decode cX6_lettersIn 43 = .ok (.goto 4, 3) := by decide +kernel
theorem dX6_lettersIn_46 : decode cX6_lettersIn 46 = .ok (.iconst 0, 1) := by decide +kernel
theorem dX6_lettersIn_47 : decode cX6_lettersIn 47 = .ok (.iadd, 1) := by decide +kernel
theorem dX6_lettersIn_48 : decode cX6_lettersIn 48 = .ok (.istore_n 2, 1) := by decide +kernel
theorem dX6_lettersIn_49 : decode cX6_lettersIn 49 = .ok (.iinc 3 1, 3) := by decide +kernel
theorem dX6_lettersIn_52 : decode cX6_lettersIn 52 = .ok (.goto (-48), 3) := by decide +kernel
theorem dX6_lettersIn_55 : decode cX6_lettersIn 55 = .ok (.iload_n 2, 1) := by decide +kernel
theorem dX6_lettersIn_56 : decode cX6_lettersIn 56 = .ok (.ireturn, 1) := by decide +kernel
theorem dX6_codeIn_0 : decode cX6_codeIn 0 = .ok (.lload_n 0, 1) := by decide +kernel
theorem dX6_codeIn_1 : decode cX6_codeIn 1 = .ok (.bipush 8, 2) := by decide +kernel
theorem dX6_codeIn_3 : decode cX6_codeIn 3 = .ok (.iload_n 2, 1) := by decide +kernel
theorem dX6_codeIn_4 : decode cX6_codeIn 4 = .ok (.imul, 1) := by decide +kernel
theorem dX6_codeIn_5 : decode cX6_codeIn 5 = .ok (.lushr, 1) := by decide +kernel
theorem dX6_codeIn_6 : decode cX6_codeIn 6 = .ok (.ldc2_w 19, 3) := by decide +kernel
theorem dX6_codeIn_9 : decode cX6_codeIn 9 = .ok (.land, 1) := by decide +kernel
theorem dX6_codeIn_10 : decode cX6_codeIn 10 = .ok (.l2i, 1) := by decide +kernel
theorem dX6_codeIn_11 : decode cX6_codeIn 11 = .ok (.ireturn, 1) := by decide +kernel
theorem dX6_hasRoomFor_0 : decode cX6_hasRoomFor 0 = .ok (.aload_n 0, 1) := by decide +kernel
theorem dX6_hasRoomFor_1 : decode cX6_hasRoomFor 1 = .ok (.getfield 21, 3) := by decide +kernel
theorem dX6_hasRoomFor_4 : decode cX6_hasRoomFor 4 = .ok (.iload_n 1, 1) := by decide +kernel
theorem dX6_hasRoomFor_5 : decode cX6_hasRoomFor 5 = .ok (.iadd, 1) := by decide +kernel
theorem dX6_hasRoomFor_6 : decode cX6_hasRoomFor 6 = .ok (.bipush 50, 2) := by decide +kernel
theorem dX6_hasRoomFor_8 : decode cX6_hasRoomFor 8 = .ok (.if_icmp .gt 7, 3) := by decide +kernel
theorem dX6_hasRoomFor_11 : decode cX6_hasRoomFor 11 = .ok (.iconst 1, 1) := by decide +kernel
theorem dX6_hasRoomFor_12 : decode cX6_hasRoomFor 12 = .ok (.goto 4, 3) := by decide +kernel
theorem dX6_hasRoomFor_15 : decode cX6_hasRoomFor 15 = .ok (.iconst 0, 1) := by decide +kernel
theorem dX6_hasRoomFor_16 : decode cX6_hasRoomFor 16 = .ok (.ireturn, 1) := by decide +kernel
theorem dX6_append_0 : decode cX6_append 0 = .ok (.iconst 0, 1) := by decide +kernel
theorem dX6_append_1 : decode cX6_append 1 = .ok (.istore 4, 2) := by decide +kernel
theorem dX6_append_3 : decode cX6_append 3 = .ok (.iload 4, 2) := by decide +kernel
theorem dX6_append_5 : decode cX6_append 5 = .ok (.iload_n 3, 1) := by decide +kernel
theorem dX6_append_6 : decode cX6_append 6 = .ok (.if_icmp .ge 43, 3) := by decide +kernel
theorem dX6_append_9 : decode cX6_append 9 = .ok (.aload_n 0, 1) := by decide +kernel
theorem dX6_append_10 : decode cX6_append 10 = .ok (.getfield 21, 3) := by decide +kernel
theorem dX6_append_13 : decode cX6_append 13 = .ok (.bipush 50, 2) := by decide +kernel
theorem dX6_append_15 : decode cX6_append 15 = .ok (.if_icmp .ge 34, 3) := by decide +kernel
theorem dX6_append_18 : decode cX6_append 18 = .ok (.aload_n 0, 1) := by decide +kernel
theorem dX6_append_19 : decode cX6_append 19 = .ok (.getfield 11, 3) := by decide +kernel
theorem dX6_append_22 : decode cX6_append 22 = .ok (.aload_n 0, 1) := by decide +kernel
theorem dX6_append_23 : decode cX6_append 23 = .ok (.getfield 21, 3) := by decide +kernel
theorem dX6_append_26 : decode cX6_append 26 = .ok (.lload_n 1, 1) := by decide +kernel
theorem dX6_append_27 : decode cX6_append 27 = .ok (.iload 4, 2) := by decide +kernel
theorem dX6_append_29 : decode cX6_append 29 = .ok (.invokestatic 15, 3) := by decide +kernel
theorem dX6_append_32 : decode cX6_append 32 = .ok (.iastore, 1) := by decide +kernel
theorem dX6_append_33 : decode cX6_append 33 = .ok (.aload_n 0, 1) := by decide +kernel
theorem dX6_append_34 : decode cX6_append 34 = .ok (.dup, 1) := by decide +kernel
theorem dX6_append_35 : decode cX6_append 35 = .ok (.getfield 21, 3) := by decide +kernel
theorem dX6_append_38 : decode cX6_append 38 = .ok (.iconst 1, 1) := by decide +kernel
theorem dX6_append_39 : decode cX6_append 39 = .ok (.iadd, 1) := by decide +kernel
theorem dX6_append_40 : decode cX6_append 40 = .ok (.putfield 21, 3) := by decide +kernel
theorem dX6_append_43 : decode cX6_append 43 = .ok (.iinc 4 1, 3) := by decide +kernel
theorem dX6_append_46 : decode cX6_append 46 = .ok (.goto (-43), 3) := by decide +kernel
theorem dX6_append_49 : decode cX6_append 49 = .ok (.return_, 1) := by decide +kernel
theorem dX6_clear_0 : decode cX6_clear 0 = .ok (.aload_n 0, 1) := by decide +kernel
theorem dX6_clear_1 : decode cX6_clear 1 = .ok (.iconst 0, 1) := by decide +kernel
theorem dX6_clear_2 : decode cX6_clear 2 = .ok (.putfield 21, 3) := by decide +kernel
theorem dX6_clear_5 : decode cX6_clear 5 = .ok (.return_, 1) := by decide +kernel
theorem dX6_length_0 : decode cX6_length 0 = .ok (.aload_n 0, 1) := by decide +kernel
theorem dX6_length_1 : decode cX6_length 1 = .ok (.getfield 21, 3) := by decide +kernel
theorem dX6_length_4 : decode cX6_length 4 = .ok (.ireturn, 1) := by decide +kernel
theorem dX6_letterAt_0 : decode cX6_letterAt 0 = .ok (.iload_n 1, 1) := by decide +kernel
theorem dX6_letterAt_1 : decode cX6_letterAt 1 = .ok (.ifCond .lt 20, 3) := by decide +kernel
theorem dX6_letterAt_4 : decode cX6_letterAt 4 = .ok (.iload_n 1, 1) := by decide +kernel
theorem dX6_letterAt_5 : decode cX6_letterAt 5 = .ok (.aload_n 0, 1) := by decide +kernel
theorem dX6_letterAt_6 : decode cX6_letterAt 6 = .ok (.getfield 21, 3) := by decide +kernel
theorem dX6_letterAt_9 : decode cX6_letterAt 9 = .ok (.if_icmp .ge 12, 3) := by decide +kernel
theorem dX6_letterAt_12 : decode cX6_letterAt 12 = .ok (.aload_n 0, 1) := by decide +kernel
theorem dX6_letterAt_13 : decode cX6_letterAt 13 = .ok (.getfield 11, 3) := by decide +kernel
theorem dX6_letterAt_16 : decode cX6_letterAt 16 = .ok (.iload_n 1, 1) := by decide +kernel
theorem dX6_letterAt_17 : decode cX6_letterAt 17 = .ok (.iaload, 1) := by decide +kernel
theorem dX6_letterAt_18 : decode cX6_letterAt 18 = .ok (.goto 4, 3) := by decide +kernel
theorem dX6_letterAt_21 : decode cX6_letterAt 21 = .ok (.iconst (-1), 1) := by decide +kernel
theorem dX6_letterAt_22 : decode cX6_letterAt 22 = .ok (.ireturn, 1) := by decide +kernel
theorem dX7_init_0 : decode cX7_init 0 = .ok (.aload_n 0, 1) := by decide +kernel
theorem dX7_init_1 : decode cX7_init 1 = .ok (.invokespecial 3, 3) := by decide +kernel
theorem dX7_init_4 : decode cX7_init 4 = .ok (.aload_n 0, 1) := by decide +kernel
theorem dX7_init_5 : decode cX7_init 5 = .ok (.bipush 8, 2) := by decide +kernel
theorem dX7_init_7 : decode cX7_init 7 = .ok (.newarray .int, 2) := by decide +kernel
theorem dX7_init_9 : decode cX7_init 9 = .ok (.putfield 9, 3) := by decide +kernel
theorem dX7_init_12 : decode cX7_init 12 = .ok (.aload_n 0, 1) := by decide +kernel
theorem dX7_init_13 : decode cX7_init 13 = .ok (.bipush 8, 2) := by decide +kernel
theorem dX7_init_15 : decode cX7_init 15 = .ok (.newarray .int, 2) := by decide +kernel
theorem dX7_init_17 : decode cX7_init 17 = .ok (.putfield 15, 3) := by decide +kernel
theorem dX7_init_20 : decode cX7_init 20 = .ok (.return_, 1) := by decide +kernel
theorem dX7_begin_0 : decode cX7_begin 0 = .ok (.aload_n 0, 1) := by decide +kernel
theorem dX7_begin_1 : decode cX7_begin 1 = .ok (.getfield 9, 3) := by decide +kernel
theorem dX7_begin_4 : decode cX7_begin 4 = .ok (.iconst (-1), 1) := by decide +kernel
theorem dX7_begin_5 : decode cX7_begin 5 = .ok (.invokestatic 18, 3) := by decide +kernel
theorem dX7_begin_8 : decode cX7_begin 8 = .ok (.aload_n 0, 1) := by decide +kernel
theorem dX7_begin_9 : decode cX7_begin 9 = .ok (.getfield 15, 3) := by decide +kernel
theorem dX7_begin_12 : decode cX7_begin 12 = .ok (.iconst (-1), 1) := by decide +kernel
theorem dX7_begin_13 : decode cX7_begin 13 = .ok (.invokestatic 18, 3) := by decide +kernel
theorem dX7_begin_16 : decode cX7_begin 16 = .ok (.iload_n 1, 1) := by decide +kernel
theorem dX7_begin_17 : decode cX7_begin 17 = .ok (.invokestatic 24, 3) := by decide +kernel
theorem dX7_begin_20 : decode cX7_begin 20 = .ok (.ifCond .eq 10, 3) := by decide +kernel
theorem dX7_begin_23 : decode cX7_begin 23 = .ok (.aload_n 0, 1) := by decide +kernel
theorem dX7_begin_24 : decode cX7_begin 24 = .ok (.getfield 9, 3) := by decide +kernel
theorem dX7_begin_27 : decode cX7_begin 27 = .ok (.iload_n 1, 1) := by decide +kernel
theorem dX7_begin_28 : decode cX7_begin 28 = .ok (.iload_n 2, 1) := by decide +kernel
theorem dX7_begin_29 : decode cX7_begin 29 = .ok (.iastore, 1) := by decide +kernel
theorem dX7_begin_30 : decode cX7_begin 30 = .ok (.return_, 1) := by decide +kernel
theorem dX7_take_0 : decode cX7_take 0 = .ok (.iload_n 1, 1) := by decide +kernel
theorem dX7_take_1 : decode cX7_take 1 = .ok (.invokestatic 24, 3) := by decide +kernel
theorem dX7_take_4 : decode cX7_take 4 = .ok (.ifCond .eq 27, 3) := by decide +kernel
theorem dX7_take_7 : decode cX7_take 7 = .ok (.iload_n 2, 1) := by decide +kernel
theorem dX7_take_8 : decode cX7_take 8 = .ok (.aload_n 0, 1) := by decide +kernel
theorem dX7_take_9 : decode cX7_take 9 = .ok (.getfield 9, 3) := by decide +kernel
theorem dX7_take_12 : decode cX7_take 12 = .ok (.iload_n 1, 1) := by decide +kernel
theorem dX7_take_13 : decode cX7_take 13 = .ok (.iaload, 1) := by decide +kernel
theorem dX7_take_14 : decode cX7_take 14 = .ok (.if_icmp .le 17, 3) := by decide +kernel
theorem dX7_take_17 : decode cX7_take 17 = .ok (.aload_n 0, 1) := by decide +kernel
theorem dX7_take_18 : decode cX7_take 18 = .ok (.getfield 9, 3) := by decide +kernel
theorem dX7_take_21 : decode cX7_take 21 = .ok (.iload_n 1, 1) := by decide +kernel
theorem dX7_take_22 : decode cX7_take 22 = .ok (.iload_n 2, 1) := by decide +kernel
theorem dX7_take_23 : decode cX7_take 23 = .ok (.iastore, 1) := by decide +kernel
theorem dX7_take_24 : decode cX7_take 24 = .ok (.aload_n 0, 1) := by decide +kernel
theorem dX7_take_25 : decode cX7_take 25 = .ok (.getfield 15, 3) := by decide +kernel
theorem dX7_take_28 : decode cX7_take 28 = .ok (.iload_n 1, 1) := by decide +kernel
theorem dX7_take_29 : decode cX7_take 29 = .ok (.iload_n 3, 1) := by decide +kernel
theorem dX7_take_30 : decode cX7_take 30 = .ok (.iastore, 1) := by decide +kernel
theorem dX7_take_31 : decode cX7_take 31 = .ok (.return_, 1) := by decide +kernel
theorem dX7_isPlace_0 : decode cX7_isPlace 0 = .ok (.iload_n 0, 1) := by decide +kernel
theorem dX7_isPlace_1 : decode cX7_isPlace 1 = .ok (.ifCond .lt 13, 3) := by decide +kernel
theorem dX7_isPlace_4 : decode cX7_isPlace 4 = .ok (.iload_n 0, 1) := by decide +kernel
theorem dX7_isPlace_5 : decode cX7_isPlace 5 = .ok (.bipush 8, 2) := by decide +kernel
theorem dX7_isPlace_7 : decode cX7_isPlace 7 = .ok (.if_icmp .ge 7, 3) := by decide +kernel
theorem dX7_isPlace_10 : decode cX7_isPlace 10 = .ok (.iconst 1, 1) := by decide +kernel
theorem dX7_isPlace_11 : decode cX7_isPlace 11 = .ok (.goto 4, 3) := by decide +kernel
theorem dX7_isPlace_14 : decode cX7_isPlace 14 = .ok (.iconst 0, 1) := by decide +kernel
theorem dX7_isPlace_15 : decode cX7_isPlace 15 = .ok (.ireturn, 1) := by decide +kernel
theorem dX7_sizeAt_0 : decode cX7_sizeAt 0 = .ok (.iload_n 1, 1) := by decide +kernel
theorem dX7_sizeAt_1 : decode cX7_sizeAt 1 = .ok (.invokestatic 24, 3) := by decide +kernel
theorem dX7_sizeAt_4 : decode cX7_sizeAt 4 = .ok (.ifCond .eq 12, 3) := by decide +kernel
theorem dX7_sizeAt_7 : decode cX7_sizeAt 7 = .ok (.aload_n 0, 1) := by decide +kernel
theorem dX7_sizeAt_8 : decode cX7_sizeAt 8 = .ok (.getfield 9, 3) := by decide +kernel
theorem dX7_sizeAt_11 : decode cX7_sizeAt 11 = .ok (.iload_n 1, 1) := by decide +kernel
theorem dX7_sizeAt_12 : decode cX7_sizeAt 12 = .ok (.iaload, 1) := by decide +kernel
theorem dX7_sizeAt_13 : decode cX7_sizeAt 13 = .ok (.goto 4, 3) := by decide +kernel
theorem dX7_sizeAt_16 : decode cX7_sizeAt 16 = .ok (.iconst (-1), 1) := by decide +kernel
theorem dX7_sizeAt_17 : decode cX7_sizeAt 17 = .ok (.ireturn, 1) := by decide +kernel
theorem dX7_fromAt_0 : decode cX7_fromAt 0 = .ok (.iload_n 1, 1) := by decide +kernel
theorem dX7_fromAt_1 : decode cX7_fromAt 1 = .ok (.invokestatic 24, 3) := by decide +kernel
theorem dX7_fromAt_4 : decode cX7_fromAt 4 = .ok (.ifCond .eq 12, 3) := by decide +kernel
theorem dX7_fromAt_7 : decode cX7_fromAt 7 = .ok (.aload_n 0, 1) := by decide +kernel
theorem dX7_fromAt_8 : decode cX7_fromAt 8 = .ok (.getfield 15, 3) := by decide +kernel
theorem dX7_fromAt_11 : decode cX7_fromAt 11 = .ok (.iload_n 1, 1) := by decide +kernel
theorem dX7_fromAt_12 : decode cX7_fromAt 12 = .ok (.iaload, 1) := by decide +kernel
theorem dX7_fromAt_13 : decode cX7_fromAt 13 = .ok (.goto 4, 3) := by decide +kernel
theorem dX7_fromAt_16 : decode cX7_fromAt 16 = .ok (.iconst (-1), 1) := by decide +kernel
theorem dX7_fromAt_17 : decode cX7_fromAt 17 = .ok (.ireturn, 1) := by decide +kernel
theorem dX7_howManyHaveIt_0 : decode cX7_howManyHaveIt 0 = .ok (.iconst 0, 1) := by decide +kernel
theorem dX7_howManyHaveIt_1 : decode cX7_howManyHaveIt 1 = .ok (.istore_n 1, 1) := by decide +kernel
theorem dX7_howManyHaveIt_2 : decode cX7_howManyHaveIt 2 = .ok (.aload_n 0, 1) := by decide +kernel
theorem dX7_howManyHaveIt_3 : decode cX7_howManyHaveIt 3 = .ok (.getfield 9, 3) := by decide +kernel
theorem dX7_howManyHaveIt_6 : decode cX7_howManyHaveIt 6 = .ok (.astore_n 2, 1) := by decide +kernel
theorem dX7_howManyHaveIt_7 : decode cX7_howManyHaveIt 7 = .ok (.aload_n 2, 1) := by decide +kernel
theorem dX7_howManyHaveIt_8 : decode cX7_howManyHaveIt 8 = .ok (.arraylength, 1) := by decide +kernel
theorem dX7_howManyHaveIt_9 : decode cX7_howManyHaveIt 9 = .ok (.istore_n 3, 1) := by decide +kernel
theorem dX7_howManyHaveIt_10 : decode cX7_howManyHaveIt 10 = .ok (.iconst 0, 1) := by decide +kernel
theorem dX7_howManyHaveIt_11 : decode cX7_howManyHaveIt 11 = .ok (.istore 4, 2) := by decide +kernel
theorem dX7_howManyHaveIt_13 : decode cX7_howManyHaveIt 13 = .ok (.iload 4, 2) := by decide +kernel
theorem dX7_howManyHaveIt_15 : decode cX7_howManyHaveIt 15 = .ok (.iload_n 3, 1) := by decide +kernel
theorem dX7_howManyHaveIt_16 : decode cX7_howManyHaveIt 16 = .ok (.if_icmp .ge 29, 3) := by decide +kernel
theorem dX7_howManyHaveIt_19 : decode cX7_howManyHaveIt 19 = .ok (.aload_n 2, 1) := by decide +kernel
theorem dX7_howManyHaveIt_20 : decode cX7_howManyHaveIt 20 = .ok (.iload 4, 2) := by decide +kernel
theorem dX7_howManyHaveIt_22 : decode cX7_howManyHaveIt 22 = .ok (.iaload, 1) := by decide +kernel
theorem dX7_howManyHaveIt_23 : decode cX7_howManyHaveIt 23 = .ok (.istore 5, 2) := by decide +kernel
theorem dX7_howManyHaveIt_25 : decode cX7_howManyHaveIt 25 = .ok (.iload_n 1, 1) := by decide +kernel
theorem dX7_howManyHaveIt_26 : decode cX7_howManyHaveIt 26 = .ok (.iload 5, 2) := by decide +kernel
theorem dX7_howManyHaveIt_28 : decode cX7_howManyHaveIt 28 = .ok (.iconst (-1), 1) := by decide +kernel
theorem dX7_howManyHaveIt_29 : decode cX7_howManyHaveIt 29 = .ok (.if_icmp .eq 7, 3) := by decide +kernel
theorem dX7_howManyHaveIt_32 : decode cX7_howManyHaveIt 32 = .ok (.iconst 1, 1) := by decide +kernel
theorem dX7_howManyHaveIt_33 : decode cX7_howManyHaveIt 33 = .ok (.goto 4, 3) := by decide +kernel
theorem dX7_howManyHaveIt_36 : decode cX7_howManyHaveIt 36 = .ok (.iconst 0, 1) := by decide +kernel
theorem dX7_howManyHaveIt_37 : decode cX7_howManyHaveIt 37 = .ok (.iadd, 1) := by decide +kernel
theorem dX7_howManyHaveIt_38 : decode cX7_howManyHaveIt 38 = .ok (.istore_n 1, 1) := by decide +kernel
theorem dX7_howManyHaveIt_39 : decode cX7_howManyHaveIt 39 = .ok (.iinc 4 1, 3) := by decide +kernel
theorem dX7_howManyHaveIt_42 : decode cX7_howManyHaveIt 42 = .ok (.goto (-29), 3) := by decide +kernel
theorem dX7_howManyHaveIt_45 : decode cX7_howManyHaveIt 45 = .ok (.iload_n 1, 1) := by decide +kernel
theorem dX7_howManyHaveIt_46 : decode cX7_howManyHaveIt 46 = .ok (.ireturn, 1) := by decide +kernel
theorem dX7_biggest_0 : decode cX7_biggest 0 = .ok (.iconst (-1), 1) := by decide +kernel
theorem dX7_biggest_1 : decode cX7_biggest 1 = .ok (.istore_n 1, 1) := by decide +kernel
theorem dX7_biggest_2 : decode cX7_biggest 2 = .ok (.aload_n 0, 1) := by decide +kernel
theorem dX7_biggest_3 : decode cX7_biggest 3 = .ok (.getfield 9, 3) := by decide +kernel
theorem dX7_biggest_6 : decode cX7_biggest 6 = .ok (.astore_n 2, 1) := by decide +kernel
theorem dX7_biggest_7 : decode cX7_biggest 7 = .ok (.aload_n 2, 1) := by decide +kernel
theorem dX7_biggest_8 : decode cX7_biggest 8 = .ok (.arraylength, 1) := by decide +kernel
theorem dX7_biggest_9 : decode cX7_biggest 9 = .ok (.istore_n 3, 1) := by decide +kernel
theorem dX7_biggest_10 : decode cX7_biggest 10 = .ok (.iconst 0, 1) := by decide +kernel
theorem dX7_biggest_11 : decode cX7_biggest 11 = .ok (.istore 4, 2) := by decide +kernel
theorem dX7_biggest_13 : decode cX7_biggest 13 = .ok (.iload 4, 2) := by decide +kernel
theorem dX7_biggest_15 : decode cX7_biggest 15 = .ok (.iload_n 3, 1) := by decide +kernel
theorem dX7_biggest_16 : decode cX7_biggest 16 = .ok (.if_icmp .ge 22, 3) := by decide +kernel
theorem dX7_biggest_19 : decode cX7_biggest 19 = .ok (.aload_n 2, 1) := by decide +kernel
theorem dX7_biggest_20 : decode cX7_biggest 20 = .ok (.iload 4, 2) := by decide +kernel
theorem dX7_biggest_22 : decode cX7_biggest 22 = .ok (.iaload, 1) := by decide +kernel
theorem dX7_biggest_23 : decode cX7_biggest 23 = .ok (.istore 5, 2) := by decide +kernel
theorem dX7_biggest_25 : decode cX7_biggest 25 = .ok (.iload_n 1, 1) := by decide +kernel
theorem dX7_biggest_26 : decode cX7_biggest 26 = .ok (.iload 5, 2) := by decide +kernel
theorem dX7_biggest_28 : decode cX7_biggest 28 = .ok (.invokestatic 28, 3) := by decide +kernel
theorem dX7_biggest_31 : decode cX7_biggest 31 = .ok (.istore_n 1, 1) := by decide +kernel
theorem dX7_biggest_32 : decode cX7_biggest 32 = .ok (.iinc 4 1, 3) := by decide +kernel
theorem dX7_biggest_35 : decode cX7_biggest 35 = .ok (.goto (-22), 3) := by decide +kernel
theorem dX7_biggest_38 : decode cX7_biggest 38 = .ok (.iload_n 1, 1) := by decide +kernel
theorem dX7_biggest_39 : decode cX7_biggest 39 = .ok (.ireturn, 1) := by decide +kernel
theorem dX8_init_0 : decode cX8_init 0 = .ok (.aload_n 0, 1) := by decide +kernel
theorem dX8_init_1 : decode cX8_init 1 = .ok (.invokespecial 3, 3) := by decide +kernel
theorem dX8_init_4 : decode cX8_init 4 = .ok (.aload_n 0, 1) := by decide +kernel
theorem dX8_init_5 : decode cX8_init 5 = .ok (.bipush 16, 2) := by decide +kernel
theorem dX8_init_7 : decode cX8_init 7 = .ok (.newarray .int, 2) := by decide +kernel
theorem dX8_init_9 : decode cX8_init 9 = .ok (.putfield 11, 3) := by decide +kernel
theorem dX8_init_12 : decode cX8_init 12 = .ok (.aload_n 0, 1) := by decide +kernel
theorem dX8_init_13 : decode cX8_init 13 = .ok (.bipush 16, 2) := by decide +kernel
theorem dX8_init_15 : decode cX8_init 15 = .ok (.newarray .int, 2) := by decide +kernel
theorem dX8_init_17 : decode cX8_init 17 = .ok (.putfield 15, 3) := by decide +kernel
theorem dX8_init_20 : decode cX8_init 20 = .ok (.return_, 1) := by decide +kernel
theorem dX8_faultIn_0 : decode cX8_faultIn 0 = .ok (.iconst 0, 1) := by decide +kernel
theorem dX8_faultIn_1 : decode cX8_faultIn 1 = .ok (.istore_n 1, 1) := by decide +kernel
theorem dX8_faultIn_2 : decode cX8_faultIn 2 = .ok (.iload_n 1, 1) := by decide +kernel
theorem dX8_faultIn_3 : decode cX8_faultIn 3 = .ok (.aload_n 0, 1) := by decide +kernel
theorem dX8_faultIn_4 : decode cX8_faultIn 4 = .ok (.invokevirtual 18, 3) := by decide +kernel
theorem dX8_faultIn_7 : decode cX8_faultIn 7 = .ok (.if_icmp .ge 25, 3) := by decide +kernel
theorem dX8_faultIn_10 : decode cX8_faultIn 10 = .ok (.iload_n 1, 1) := by decide +kernel
theorem dX8_faultIn_11 : decode cX8_faultIn 11 = .ok (.bipush 47, 2) := by decide +kernel
theorem dX8_faultIn_13 : decode cX8_faultIn 13 = .ok (.if_icmp .ge 11, 3) := by decide +kernel
theorem dX8_faultIn_16 : decode cX8_faultIn 16 = .ok (.aload_n 0, 1) := by decide +kernel
theorem dX8_faultIn_17 : decode cX8_faultIn 17 = .ok (.iload_n 1, 1) := by decide +kernel
theorem dX8_faultIn_18 : decode cX8_faultIn 18 = .ok (.invokestatic 24, 3) := by decide +kernel
theorem dX8_faultIn_21 : decode cX8_faultIn 21 = .ok (.ifCond .ne 5, 3) := by decide +kernel
theorem dX8_faultIn_24 : decode cX8_faultIn 24 = .ok (.iload_n 1, 1) := by decide +kernel
theorem dX8_faultIn_25 : decode cX8_faultIn 25 = .ok (.ireturn, 1) := by decide +kernel
theorem dX8_faultIn_26 : decode cX8_faultIn 26 = .ok (.iinc 1 1, 3) := by decide +kernel
theorem dX8_faultIn_29 : decode cX8_faultIn 29 = .ok (.goto (-27), 3) := by decide +kernel
theorem dX8_faultIn_32 : decode cX8_faultIn 32 = .ok (.aload_n 0, 1) := by decide +kernel
theorem dX8_faultIn_33 : decode cX8_faultIn 33 = .ok (.invokevirtual 18, 3) := by decide +kernel
theorem dX8_faultIn_36 : decode cX8_faultIn 36 = .ok (.ireturn, 1) := by decide +kernel
theorem dX8_isWeek_0 : decode cX8_isWeek 0 = .ok (.aload_n 0, 1) := by decide +kernel
theorem dX8_isWeek_1 : decode cX8_isWeek 1 = .ok (.invokevirtual 18, 3) := by decide +kernel
theorem dX8_isWeek_4 : decode cX8_isWeek 4 = .ok (.istore_n 1, 1) := by decide +kernel
theorem dX8_isWeek_5 : decode cX8_isWeek 5 = .ok (.aload_n 0, 1) := by decide +kernel
theorem dX8_isWeek_6 : decode cX8_isWeek 6 = .ok (.invokestatic 28, 3) := by decide +kernel
theorem dX8_isWeek_9 : decode cX8_isWeek 9 = .ok (.iload_n 1, 1) := by decide +kernel
theorem dX8_isWeek_10 : decode cX8_isWeek 10 = .ok (.if_icmp .ne 14, 3) := by decide +kernel
theorem dX8_isWeek_13 : decode cX8_isWeek 13 = .ok (.iload_n 1, 1) := by decide +kernel
theorem dX8_isWeek_14 : decode cX8_isWeek 14 = .ok (.iconst 3, 1) := by decide +kernel
theorem dX8_isWeek_15 : decode cX8_isWeek 15 = .ok (.irem, 1) := by decide +kernel
theorem dX8_isWeek_16 : decode cX8_isWeek 16 = .ok (.iconst 2, 1) := by decide +kernel
theorem dX8_isWeek_17 : decode cX8_isWeek 17 = .ok (.if_icmp .ne 7, 3) := by decide +kernel
theorem dX8_isWeek_20 : decode cX8_isWeek 20 = .ok (.iconst 1, 1) := by decide +kernel
theorem dX8_isWeek_21 : decode cX8_isWeek 21 = .ok (.goto 4, 3) := by decide +kernel
theorem dX8_isWeek_24 : decode cX8_isWeek 24 = .ok (.iconst 0, 1) := by decide +kernel
theorem dX8_isWeek_25 : decode cX8_isWeek 25 = .ok (.ireturn, 1) := by decide +kernel
theorem dX8_fits_0 : decode cX8_fits 0 = .ok (.aload_n 0, 1) := by decide +kernel
theorem dX8_fits_1 : decode cX8_fits 1 = .ok (.iload_n 1, 1) := by decide +kernel
theorem dX8_fits_2 : decode cX8_fits 2 = .ok (.invokevirtual 32, 3) := by decide +kernel
theorem dX8_fits_5 : decode cX8_fits 5 = .ok (.istore_n 2, 1) := by decide +kernel
theorem dX8_fits_6 : decode cX8_fits 6 = .ok (.iload_n 1, 1) := by decide +kernel
theorem dX8_fits_7 : decode cX8_fits 7 = .ok (.iconst 3, 1) := by decide +kernel
theorem dX8_fits_8 : decode cX8_fits 8 = .ok (.irem, 1) := by decide +kernel
theorem dX8_fits_9 : decode cX8_fits 9 = .ok (.lookupswitch 56 #[(0, 27), (1, 32)], 27) := by decide +kernel
theorem dX8_fits_36 : decode cX8_fits 36 = .ok (.iload_n 2, 1) := by decide +kernel
theorem dX8_fits_37 : decode cX8_fits 37 = .ok (.invokestatic 36, 3) := by decide +kernel
theorem dX8_fits_40 : decode cX8_fits 40 = .ok (.ireturn, 1) := by decide +kernel
theorem dX8_fits_41 : decode cX8_fits 41 = .ok (.iload_n 2, 1) := by decide +kernel
theorem dX8_fits_42 : decode cX8_fits 42 = .ok (.invokestatic 36, 3) := by decide +kernel
theorem dX8_fits_45 : decode cX8_fits 45 = .ok (.ifCond .eq 18, 3) := by decide +kernel
theorem dX8_fits_48 : decode cX8_fits 48 = .ok (.iload_n 2, 1) := by decide +kernel
theorem dX8_fits_49 : decode cX8_fits 49 = .ok (.aload_n 0, 1) := by decide +kernel
theorem dX8_fits_50 : decode cX8_fits 50 = .ok (.iload_n 1, 1) := by decide +kernel
theorem dX8_fits_51 : decode cX8_fits 51 = .ok (.iconst 1, 1) := by decide +kernel
theorem dX8_fits_52 : decode cX8_fits 52 = .ok (.isub, 1) := by decide +kernel
theorem dX8_fits_53 : decode cX8_fits 53 = .ok (.invokevirtual 32, 3) := by decide +kernel
theorem dX8_fits_56 : decode cX8_fits 56 = .ok (.if_icmp .eq 7, 3) := by decide +kernel
theorem dX8_fits_59 : decode cX8_fits 59 = .ok (.iconst 1, 1) := by decide +kernel
theorem dX8_fits_60 : decode cX8_fits 60 = .ok (.goto 4, 3) := by decide +kernel
theorem dX8_fits_63 : decode cX8_fits 63 = .ok (.iconst 0, 1) := by decide +kernel
theorem dX8_fits_64 : decode cX8_fits 64 = .ok (.ireturn, 1) := by decide +kernel
theorem dX8_fits_65 : decode cX8_fits 65 = .ok (.iload_n 2, 1) := by decide +kernel
theorem dX8_fits_66 : decode cX8_fits 66 = .ok (.bipush 44, 2) := by decide +kernel
theorem dX8_fits_68 : decode cX8_fits 68 = .ok (.if_icmp .ne 7, 3) := by decide +kernel
theorem dX8_fits_71 : decode cX8_fits 71 = .ok (.iconst 1, 1) := by decide +kernel
theorem dX8_fits_72 : decode cX8_fits 72 = .ok (.goto 4, 3) := by decide +kernel
theorem dX8_fits_75 : decode cX8_fits 75 = .ok (.iconst 0, 1) := by decide +kernel
theorem dX8_fits_76 : decode cX8_fits 76 = .ok (.ireturn, 1) := by decide +kernel
theorem dX8_isPersonLetter_0 : decode cX8_isPersonLetter 0 = .ok (.iload_n 0, 1) := by decide +kernel
theorem dX8_isPersonLetter_1 : decode cX8_isPersonLetter 1 = .ok (.bipush 48, 2) := by decide +kernel
theorem dX8_isPersonLetter_3 : decode cX8_isPersonLetter 3 = .ok (.bipush 55, 2) := by decide +kernel
theorem dX8_isPersonLetter_5 : decode cX8_isPersonLetter 5 = .ok (.invokestatic 40, 3) := by decide +kernel
theorem dX8_isPersonLetter_8 : decode cX8_isPersonLetter 8 = .ok (.ireturn, 1) := by decide +kernel
theorem dX8_read_0 : decode cX8_read 0 = .ok (.aload_n 0, 1) := by decide +kernel
theorem dX8_read_1 : decode cX8_read 1 = .ok (.iconst 0, 1) := by decide +kernel
theorem dX8_read_2 : decode cX8_read 2 = .ok (.putfield 44, 3) := by decide +kernel
theorem dX8_read_5 : decode cX8_read 5 = .ok (.iconst 0, 1) := by decide +kernel
theorem dX8_read_6 : decode cX8_read 6 = .ok (.istore_n 2, 1) := by decide +kernel
theorem dX8_read_7 : decode cX8_read 7 = .ok (.iload_n 2, 1) := by decide +kernel
theorem dX8_read_8 : decode cX8_read 8 = .ok (.aload_n 1, 1) := by decide +kernel
theorem dX8_read_9 : decode cX8_read 9 = .ok (.invokevirtual 18, 3) := by decide +kernel
theorem dX8_read_12 : decode cX8_read 12 = .ok (.if_icmp .ge 64, 3) := by decide +kernel
theorem dX8_read_15 : decode cX8_read 15 = .ok (.aload_n 0, 1) := by decide +kernel
theorem dX8_read_16 : decode cX8_read 16 = .ok (.getfield 44, 3) := by decide +kernel
theorem dX8_read_19 : decode cX8_read 19 = .ok (.bipush 16, 2) := by decide +kernel
theorem dX8_read_21 : decode cX8_read 21 = .ok (.if_icmp .ge 55, 3) := by decide +kernel
theorem dX8_read_24 : decode cX8_read 24 = .ok (.aload_n 0, 1) := by decide +kernel
theorem dX8_read_25 : decode cX8_read 25 = .ok (.getfield 11, 3) := by decide +kernel
theorem dX8_read_28 : decode cX8_read 28 = .ok (.aload_n 0, 1) := by decide +kernel
theorem dX8_read_29 : decode cX8_read 29 = .ok (.getfield 44, 3) := by decide +kernel
theorem dX8_read_32 : decode cX8_read 32 = .ok (.aload_n 1, 1) := by decide +kernel
theorem dX8_read_33 : decode cX8_read 33 = .ok (.iload_n 2, 1) := by decide +kernel
theorem dX8_read_34 : decode cX8_read 34 = .ok (.invokevirtual 32, 3) := by decide +kernel
theorem dX8_read_37 : decode cX8_read 37 = .ok (.bipush 48, 2) := by decide +kernel
theorem dX8_read_39 : decode cX8_read 39 = .ok (.isub, 1) := by decide +kernel
theorem dX8_read_40 : decode cX8_read 40 = .ok (.iastore, 1) := by decide +kernel
theorem dX8_read_41 : decode cX8_read 41 = .ok (.aload_n 0, 1) := by decide +kernel
theorem dX8_read_42 : decode cX8_read 42 = .ok (.getfield 15, 3) := by decide +kernel
theorem dX8_read_45 : decode cX8_read 45 = .ok (.aload_n 0, 1) := by decide +kernel
theorem dX8_read_46 : decode cX8_read 46 = .ok (.getfield 44, 3) := by decide +kernel
theorem dX8_read_49 : decode cX8_read 49 = .ok (.aload_n 1, 1) := by decide +kernel
theorem dX8_read_50 : decode cX8_read 50 = .ok (.iload_n 2, 1) := by decide +kernel
theorem dX8_read_51 : decode cX8_read 51 = .ok (.iconst 1, 1) := by decide +kernel
theorem dX8_read_52 : decode cX8_read 52 = .ok (.iadd, 1) := by decide +kernel
theorem dX8_read_53 : decode cX8_read 53 = .ok (.invokevirtual 32, 3) := by decide +kernel
theorem dX8_read_56 : decode cX8_read 56 = .ok (.bipush 48, 2) := by decide +kernel
theorem dX8_read_58 : decode cX8_read 58 = .ok (.isub, 1) := by decide +kernel
theorem dX8_read_59 : decode cX8_read 59 = .ok (.iastore, 1) := by decide +kernel
theorem dX8_read_60 : decode cX8_read 60 = .ok (.aload_n 0, 1) := by decide +kernel
theorem dX8_read_61 : decode cX8_read 61 = .ok (.dup, 1) := by decide +kernel
theorem dX8_read_62 : decode cX8_read 62 = .ok (.getfield 44, 3) := by decide +kernel
theorem dX8_read_65 : decode cX8_read 65 = .ok (.iconst 1, 1) := by decide +kernel
theorem dX8_read_66 : decode cX8_read 66 = .ok (.iadd, 1) := by decide +kernel
theorem dX8_read_67 : decode cX8_read 67 = .ok (.putfield 44, 3) := by decide +kernel
theorem dX8_read_70 : decode cX8_read 70 = .ok (.iinc 2 3, 3) := by decide +kernel
theorem dX8_read_73 : decode cX8_read 73 = .ok (.goto (-66), 3) := by decide +kernel
theorem dX8_read_76 : decode cX8_read 76 = .ok (.aload_n 0, 1) := by decide +kernel
theorem dX8_read_77 : decode cX8_read 77 = .ok (.dup, 1) := by decide +kernel
theorem dX8_read_78 : decode cX8_read 78 = .ok (.getfield 48, 3) := by decide +kernel
theorem dX8_read_81 : decode cX8_read 81 = .ok (.iconst 1, 1) := by decide +kernel
theorem dX8_read_82 : decode cX8_read 82 = .ok (.iadd, 1) := by decide +kernel
theorem dX8_read_83 : decode cX8_read 83 = .ok (.putfield 48, 3) := by decide +kernel
theorem dX8_read_86 : decode cX8_read 86 = .ok (.return_, 1) := by decide +kernel
theorem dX8_has_0 : decode cX8_has 0 = .ok (.iload_n 1, 1) := by decide +kernel
theorem dX8_has_1 : decode cX8_has 1 = .ok (.ifCond .lt 15, 3) := by decide +kernel
theorem dX8_has_4 : decode cX8_has 4 = .ok (.iload_n 1, 1) := by decide +kernel
theorem dX8_has_5 : decode cX8_has 5 = .ok (.aload_n 0, 1) := by decide +kernel
theorem dX8_has_6 : decode cX8_has 6 = .ok (.getfield 44, 3) := by decide +kernel
theorem dX8_has_9 : decode cX8_has 9 = .ok (.if_icmp .ge 7, 3) := by decide +kernel
theorem dX8_has_12 : decode cX8_has 12 = .ok (.iconst 1, 1) := by decide +kernel
theorem dX8_has_13 : decode cX8_has 13 = .ok (.goto 4, 3) := by decide +kernel
theorem dX8_has_16 : decode cX8_has 16 = .ok (.iconst 0, 1) := by decide +kernel
theorem dX8_has_17 : decode cX8_has 17 = .ok (.ireturn, 1) := by decide +kernel
theorem dX8_tellings_0 : decode cX8_tellings 0 = .ok (.aload_n 0, 1) := by decide +kernel
theorem dX8_tellings_1 : decode cX8_tellings 1 = .ok (.getfield 44, 3) := by decide +kernel
theorem dX8_tellings_4 : decode cX8_tellings 4 = .ok (.ireturn, 1) := by decide +kernel
theorem dX8_readings_0 : decode cX8_readings 0 = .ok (.aload_n 0, 1) := by decide +kernel
theorem dX8_readings_1 : decode cX8_readings 1 = .ok (.getfield 48, 3) := by decide +kernel
theorem dX8_readings_4 : decode cX8_readings 4 = .ok (.ireturn, 1) := by decide +kernel
theorem dX8_who_0 : decode cX8_who 0 = .ok (.aload_n 0, 1) := by decide +kernel
theorem dX8_who_1 : decode cX8_who 1 = .ok (.iload_n 1, 1) := by decide +kernel
theorem dX8_who_2 : decode cX8_who 2 = .ok (.invokevirtual 51, 3) := by decide +kernel
theorem dX8_who_5 : decode cX8_who 5 = .ok (.ifCond .eq 12, 3) := by decide +kernel
theorem dX8_who_8 : decode cX8_who 8 = .ok (.aload_n 0, 1) := by decide +kernel
theorem dX8_who_9 : decode cX8_who 9 = .ok (.getfield 11, 3) := by decide +kernel
theorem dX8_who_12 : decode cX8_who 12 = .ok (.iload_n 1, 1) := by decide +kernel
theorem dX8_who_13 : decode cX8_who 13 = .ok (.iaload, 1) := by decide +kernel
theorem dX8_who_14 : decode cX8_who 14 = .ok (.goto 4, 3) := by decide +kernel
theorem dX8_who_17 : decode cX8_who 17 = .ok (.iconst (-1), 1) := by decide +kernel
theorem dX8_who_18 : decode cX8_who 18 = .ok (.ireturn, 1) := by decide +kernel
theorem dX8_whom_0 : decode cX8_whom 0 = .ok (.aload_n 0, 1) := by decide +kernel
theorem dX8_whom_1 : decode cX8_whom 1 = .ok (.iload_n 1, 1) := by decide +kernel
theorem dX8_whom_2 : decode cX8_whom 2 = .ok (.invokevirtual 51, 3) := by decide +kernel
theorem dX8_whom_5 : decode cX8_whom 5 = .ok (.ifCond .eq 12, 3) := by decide +kernel
theorem dX8_whom_8 : decode cX8_whom 8 = .ok (.aload_n 0, 1) := by decide +kernel
theorem dX8_whom_9 : decode cX8_whom 9 = .ok (.getfield 15, 3) := by decide +kernel
theorem dX8_whom_12 : decode cX8_whom 12 = .ok (.iload_n 1, 1) := by decide +kernel
theorem dX8_whom_13 : decode cX8_whom 13 = .ok (.iaload, 1) := by decide +kernel
theorem dX8_whom_14 : decode cX8_whom 14 = .ok (.goto 4, 3) := by decide +kernel
theorem dX8_whom_17 : decode cX8_whom 17 = .ok (.iconst (-1), 1) := by decide +kernel
theorem dX8_whom_18 : decode cX8_whom 18 = .ok (.ireturn, 1) := by decide +kernel
theorem dX9_init_0 : decode cX9_init 0 = .ok (.aload_n 0, 1) := by decide +kernel
theorem dX9_init_1 : decode cX9_init 1 = .ok (.invokespecial 1, 3) := by decide +kernel
theorem dX9_init_4 : decode cX9_init 4 = .ok (.aload_n 0, 1) := by decide +kernel
theorem dX9_init_5 : decode cX9_init 5 = .ok (.new 7, 3) := by decide +kernel
theorem dX9_init_8 : decode cX9_init 8 = .ok (.dup, 1) := by decide +kernel
theorem dX9_init_9 : decode cX9_init 9 = .ok (.invokespecial 9, 3) := by decide +kernel
theorem dX9_init_12 : decode cX9_init 12 = .ok (.putfield 10, 3) := by decide +kernel
theorem dX9_init_15 : decode cX9_init 15 = .ok (.aload_n 0, 1) := by decide +kernel
theorem dX9_init_16 : decode cX9_init 16 = .ok (.new 16, 3) := by decide +kernel
theorem dX9_init_19 : decode cX9_init 19 = .ok (.dup, 1) := by decide +kernel
theorem dX9_init_20 : decode cX9_init 20 = .ok (.invokespecial 18, 3) := by decide +kernel
theorem dX9_init_23 : decode cX9_init 23 = .ok (.putfield 19, 3) := by decide +kernel
theorem dX9_init_26 : decode cX9_init 26 = .ok (.aload_n 0, 1) := by decide +kernel
theorem dX9_init_27 : decode cX9_init 27 = .ok (.new 23, 3) := by decide +kernel
theorem dX9_init_30 : decode cX9_init 30 = .ok (.dup, 1) := by decide +kernel
theorem dX9_init_31 : decode cX9_init 31 = .ok (.invokespecial 25, 3) := by decide +kernel
theorem dX9_init_34 : decode cX9_init 34 = .ok (.putfield 26, 3) := by decide +kernel
theorem dX9_init_37 : decode cX9_init 37 = .ok (.aload_n 0, 1) := by decide +kernel
theorem dX9_init_38 : decode cX9_init 38 = .ok (.new 30, 3) := by decide +kernel
theorem dX9_init_41 : decode cX9_init 41 = .ok (.dup, 1) := by decide +kernel
theorem dX9_init_42 : decode cX9_init 42 = .ok (.invokespecial 32, 3) := by decide +kernel
theorem dX9_init_45 : decode cX9_init 45 = .ok (.putfield 33, 3) := by decide +kernel
theorem dX9_init_48 : decode cX9_init 48 = .ok (.aload_n 0, 1) := by decide +kernel
theorem dX9_init_49 : decode cX9_init 49 = .ok (.new 30, 3) := by decide +kernel
theorem dX9_init_52 : decode cX9_init 52 = .ok (.dup, 1) := by decide +kernel
theorem dX9_init_53 : decode cX9_init 53 = .ok (.invokespecial 32, 3) := by decide +kernel
theorem dX9_init_56 : decode cX9_init 56 = .ok (.putfield 37, 3) := by decide +kernel
theorem dX9_init_59 : decode cX9_init 59 = .ok (.aload_n 0, 1) := by decide +kernel
theorem dX9_init_60 : decode cX9_init 60 = .ok (.new 40, 3) := by decide +kernel
theorem dX9_init_63 : decode cX9_init 63 = .ok (.dup, 1) := by decide +kernel
theorem dX9_init_64 : decode cX9_init 64 = .ok (.invokespecial 42, 3) := by decide +kernel
theorem dX9_init_67 : decode cX9_init 67 = .ok (.putfield 43, 3) := by decide +kernel
