theorem dX9_init_70 : decode cX9_init 70 = .ok (.aload_n 0, 1) := by decide +kernel
theorem dX9_init_71 : decode cX9_init 71 = .ok (.new 47, 3) := by decide +kernel
theorem dX9_init_74 : decode cX9_init 74 = .ok (.dup, 1) := by decide +kernel
theorem dX9_init_75 : decode cX9_init 75 = .ok (.invokespecial 49, 3) := by decide +kernel
theorem dX9_init_78 : decode cX9_init 78 = .ok (.putfield 50, 3) := by decide +kernel
theorem dX9_init_81 : decode cX9_init 81 = .ok (.aload_n 0, 1) := by decide +kernel
theorem dX9_init_82 : decode cX9_init 82 = .ok (.new 54, 3) := by decide +kernel
theorem dX9_init_85 : decode cX9_init 85 = .ok (.dup, 1) := by decide +kernel
theorem dX9_init_86 : decode cX9_init 86 = .ok (.invokespecial 56, 3) := by decide +kernel
theorem dX9_init_89 : decode cX9_init 89 = .ok (.putfield 57, 3) := by decide +kernel
theorem dX9_init_92 : decode cX9_init 92 = .ok (.aload_n 0, 1) := by decide +kernel
theorem dX9_init_93 : decode cX9_init 93 = .ok (.new 61, 3) := by decide +kernel
theorem dX9_init_96 : decode cX9_init 96 = .ok (.dup, 1) := by decide +kernel
theorem dX9_init_97 : decode cX9_init 97 = .ok (.invokespecial 63, 3) := by decide +kernel
theorem dX9_init_100 : decode cX9_init 100 = .ok (.putfield 64, 3) := by decide +kernel
theorem dX9_init_103 : decode cX9_init 103 = .ok (.aload_n 0, 1) := by decide +kernel
theorem dX9_init_104 : decode cX9_init 104 = .ok (.new 68, 3) := by decide +kernel
theorem dX9_init_107 : decode cX9_init 107 = .ok (.dup, 1) := by decide +kernel
theorem dX9_init_108 : decode cX9_init 108 = .ok (.invokespecial 70, 3) := by decide +kernel
theorem dX9_init_111 : decode cX9_init 111 = .ok (.putfield 71, 3) := by decide +kernel
theorem dX9_init_114 : decode cX9_init 114 = .ok (.return_, 1) := by decide +kernel
theorem dX9_letters_0 : decode cX9_letters 0 = .ok (.lload_n 1, 1) := by decide +kernel
theorem dX9_letters_1 : decode cX9_letters 1 = .ok (.invokestatic 75, 3) := by decide +kernel
theorem dX9_letters_4 : decode cX9_letters 4 = .ok (.istore_n 3, 1) := by decide +kernel
theorem dX9_letters_5 : decode cX9_letters 5 = .ok (.iload_n 3, 1) := by decide +kernel
theorem dX9_letters_6 : decode cX9_letters 6 = .ok (.iconst (-1), 1) := by decide +kernel
theorem dX9_letters_7 : decode cX9_letters 7 = .ok (.if_icmp .ne 6, 3) := by decide +kernel
theorem dX9_letters_10 : decode cX9_letters 10 = .ok (.bipush (-102), 2) := by decide +kernel
theorem dX9_letters_12 : decode cX9_letters 12 = .ok (.ireturn, 1) := by decide +kernel
theorem dX9_letters_13 : decode cX9_letters 13 = .ok (.aload_n 0, 1) := by decide +kernel
theorem dX9_letters_14 : decode cX9_letters 14 = .ok (.getfield 10, 3) := by decide +kernel
theorem dX9_letters_17 : decode cX9_letters 17 = .ok (.iload_n 3, 1) := by decide +kernel
theorem dX9_letters_18 : decode cX9_letters 18 = .ok (.invokevirtual 79, 3) := by decide +kernel
theorem dX9_letters_21 : decode cX9_letters 21 = .ok (.ifCond .ne 6, 3) := by decide +kernel
theorem dX9_letters_24 : decode cX9_letters 24 = .ok (.bipush (-104), 2) := by decide +kernel
theorem dX9_letters_26 : decode cX9_letters 26 = .ok (.ireturn, 1) := by decide +kernel
theorem dX9_letters_27 : decode cX9_letters 27 = .ok (.aload_n 0, 1) := by decide +kernel
theorem dX9_letters_28 : decode cX9_letters 28 = .ok (.getfield 10, 3) := by decide +kernel
theorem dX9_letters_31 : decode cX9_letters 31 = .ok (.lload_n 1, 1) := by decide +kernel
theorem dX9_letters_32 : decode cX9_letters 32 = .ok (.iload_n 3, 1) := by decide +kernel
theorem dX9_letters_33 : decode cX9_letters 33 = .ok (.invokevirtual 83, 3) := by decide +kernel
theorem dX9_letters_36 : decode cX9_letters 36 = .ok (.aload_n 0, 1) := by decide +kernel
theorem dX9_letters_37 : decode cX9_letters 37 = .ok (.getfield 10, 3) := by decide +kernel
theorem dX9_letters_40 : decode cX9_letters 40 = .ok (.invokevirtual 87, 3) := by decide +kernel
theorem dX9_letters_43 : decode cX9_letters 43 = .ok (.ireturn, 1) := by decide +kernel
theorem dX9_blank_0 : decode cX9_blank 0 = .ok (.aload_n 0, 1) := by decide +kernel
theorem dX9_blank_1 : decode cX9_blank 1 = .ok (.getfield 10, 3) := by decide +kernel
theorem dX9_blank_4 : decode cX9_blank 4 = .ok (.invokevirtual 87, 3) := by decide +kernel
theorem dX9_blank_7 : decode cX9_blank 7 = .ok (.istore_n 1, 1) := by decide +kernel
theorem dX9_blank_8 : decode cX9_blank 8 = .ok (.aload_n 0, 1) := by decide +kernel
theorem dX9_blank_9 : decode cX9_blank 9 = .ok (.getfield 10, 3) := by decide +kernel
theorem dX9_blank_12 : decode cX9_blank 12 = .ok (.invokevirtual 91, 3) := by decide +kernel
theorem dX9_blank_15 : decode cX9_blank 15 = .ok (.iload_n 1, 1) := by decide +kernel
theorem dX9_blank_16 : decode cX9_blank 16 = .ok (.ireturn, 1) := by decide +kernel
theorem dX9_fault_0 : decode cX9_fault 0 = .ok (.iload_n 1, 1) := by decide +kernel
theorem dX9_fault_1 : decode cX9_fault 1 = .ok (.ifCond .ne 11, 3) := by decide +kernel
theorem dX9_fault_4 : decode cX9_fault 4 = .ok (.aload_n 0, 1) := by decide +kernel
theorem dX9_fault_5 : decode cX9_fault 5 = .ok (.getfield 10, 3) := by decide +kernel
theorem dX9_fault_8 : decode cX9_fault 8 = .ok (.invokestatic 94, 3) := by decide +kernel
theorem dX9_fault_11 : decode cX9_fault 11 = .ok (.ireturn, 1) := by decide +kernel
theorem dX9_fault_12 : decode cX9_fault 12 = .ok (.iload_n 1, 1) := by decide +kernel
theorem dX9_fault_13 : decode cX9_fault 13 = .ok (.iconst 1, 1) := by decide +kernel
theorem dX9_fault_14 : decode cX9_fault 14 = .ok (.if_icmp .ne 13, 3) := by decide +kernel
theorem dX9_fault_17 : decode cX9_fault 17 = .ok (.aload_n 0, 1) := by decide +kernel
theorem dX9_fault_18 : decode cX9_fault 18 = .ok (.getfield 10, 3) := by decide +kernel
theorem dX9_fault_21 : decode cX9_fault 21 = .ok (.invokestatic 98, 3) := by decide +kernel
theorem dX9_fault_24 : decode cX9_fault 24 = .ok (.goto 5, 3) := by decide +kernel
theorem dX9_fault_27 : decode cX9_fault 27 = .ok (.bipush (-102), 2) := by decide +kernel
theorem dX9_fault_29 : decode cX9_fault 29 = .ok (.ireturn, 1) := by decide +kernel
theorem dX9_law_0 : decode cX9_law 0 = .ok (.aload_n 0, 1) := by decide +kernel
theorem dX9_law_1 : decode cX9_law 1 = .ok (.getfield 10, 3) := by decide +kernel
theorem dX9_law_4 : decode cX9_law 4 = .ok (.invokestatic 99, 3) := by decide +kernel
theorem dX9_law_7 : decode cX9_law 7 = .ok (.ifCond .ne 6, 3) := by decide +kernel
theorem dX9_law_10 : decode cX9_law 10 = .ok (.bipush (-103), 2) := by decide +kernel
theorem dX9_law_12 : decode cX9_law 12 = .ok (.ireturn, 1) := by decide +kernel
theorem dX9_law_13 : decode cX9_law 13 = .ok (.aload_n 0, 1) := by decide +kernel
theorem dX9_law_14 : decode cX9_law 14 = .ok (.getfield 19, 3) := by decide +kernel
theorem dX9_law_17 : decode cX9_law 17 = .ok (.aload_n 0, 1) := by decide +kernel
theorem dX9_law_18 : decode cX9_law 18 = .ok (.getfield 10, 3) := by decide +kernel
theorem dX9_law_21 : decode cX9_law 21 = .ok (.invokevirtual 103, 3) := by decide +kernel
theorem dX9_law_24 : decode cX9_law 24 = .ok (.aload_n 0, 1) := by decide +kernel
theorem dX9_law_25 : decode cX9_law 25 = .ok (.getfield 10, 3) := by decide +kernel
theorem dX9_law_28 : decode cX9_law 28 = .ok (.invokevirtual 91, 3) := by decide +kernel
theorem dX9_law_31 : decode cX9_law 31 = .ok (.aload_n 0, 1) := by decide +kernel
theorem dX9_law_32 : decode cX9_law 32 = .ok (.getfield 19, 3) := by decide +kernel
theorem dX9_law_35 : decode cX9_law 35 = .ok (.invokevirtual 107, 3) := by decide +kernel
theorem dX9_law_38 : decode cX9_law 38 = .ok (.ireturn, 1) := by decide +kernel
theorem dX9_week_0 : decode cX9_week 0 = .ok (.aload_n 0, 1) := by decide +kernel
theorem dX9_week_1 : decode cX9_week 1 = .ok (.getfield 10, 3) := by decide +kernel
theorem dX9_week_4 : decode cX9_week 4 = .ok (.invokestatic 110, 3) := by decide +kernel
theorem dX9_week_7 : decode cX9_week 7 = .ok (.ifCond .ne 6, 3) := by decide +kernel
theorem dX9_week_10 : decode cX9_week 10 = .ok (.bipush (-103), 2) := by decide +kernel
theorem dX9_week_12 : decode cX9_week 12 = .ok (.ireturn, 1) := by decide +kernel
theorem dX9_week_13 : decode cX9_week 13 = .ok (.aload_n 0, 1) := by decide +kernel
theorem dX9_week_14 : decode cX9_week 14 = .ok (.getfield 26, 3) := by decide +kernel
theorem dX9_week_17 : decode cX9_week 17 = .ok (.aload_n 0, 1) := by decide +kernel
theorem dX9_week_18 : decode cX9_week 18 = .ok (.getfield 10, 3) := by decide +kernel
theorem dX9_week_21 : decode cX9_week 21 = .ok (.invokevirtual 113, 3) := by decide +kernel
theorem dX9_week_24 : decode cX9_week 24 = .ok (.aload_n 0, 1) := by decide +kernel
theorem dX9_week_25 : decode cX9_week 25 = .ok (.getfield 10, 3) := by decide +kernel
theorem dX9_week_28 : decode cX9_week 28 = .ok (.invokevirtual 91, 3) := by decide +kernel
theorem dX9_week_31 : decode cX9_week 31 = .ok (.aload_n 0, 1) := by decide +kernel
theorem dX9_week_32 : decode cX9_week 32 = .ok (.getfield 26, 3) := by decide +kernel
theorem dX9_week_35 : decode cX9_week 35 = .ok (.invokevirtual 114, 3) := by decide +kernel
theorem dX9_week_38 : decode cX9_week 38 = .ok (.ireturn, 1) := by decide +kernel
theorem dX9_grown_0 : decode cX9_grown 0 = .ok (.iload_n 1, 1) := by decide +kernel
theorem dX9_grown_1 : decode cX9_grown 1 = .ok (.invokestatic 117, 3) := by decide +kernel
theorem dX9_grown_4 : decode cX9_grown 4 = .ok (.ifCond .eq 14, 3) := by decide +kernel
theorem dX9_grown_7 : decode cX9_grown 7 = .ok (.aload_n 0, 1) := by decide +kernel
theorem dX9_grown_8 : decode cX9_grown 8 = .ok (.getfield 19, 3) := by decide +kernel
theorem dX9_grown_11 : decode cX9_grown 11 = .ok (.iload_n 1, 1) := by decide +kernel
theorem dX9_grown_12 : decode cX9_grown 12 = .ok (.invokevirtual 120, 3) := by decide +kernel
theorem dX9_grown_15 : decode cX9_grown 15 = .ok (.goto 5, 3) := by decide +kernel
theorem dX9_grown_18 : decode cX9_grown 18 = .ok (.bipush (-102), 2) := by decide +kernel
theorem dX9_grown_20 : decode cX9_grown 20 = .ok (.ireturn, 1) := by decide +kernel
theorem dX9_telling_0 : decode cX9_telling 0 = .ok (.aload_n 0, 1) := by decide +kernel
theorem dX9_telling_1 : decode cX9_telling 1 = .ok (.getfield 26, 3) := by decide +kernel
theorem dX9_telling_4 : decode cX9_telling 4 = .ok (.iload_n 1, 1) := by decide +kernel
theorem dX9_telling_5 : decode cX9_telling 5 = .ok (.invokevirtual 124, 3) := by decide +kernel
theorem dX9_telling_8 : decode cX9_telling 8 = .ok (.ifCond .ne 6, 3) := by decide +kernel
theorem dX9_telling_11 : decode cX9_telling 11 = .ok (.bipush (-101), 2) := by decide +kernel
theorem dX9_telling_13 : decode cX9_telling 13 = .ok (.ireturn, 1) := by decide +kernel
theorem dX9_telling_14 : decode cX9_telling 14 = .ok (.iload_n 2, 1) := by decide +kernel
theorem dX9_telling_15 : decode cX9_telling 15 = .ok (.iconst 0, 1) := by decide +kernel
theorem dX9_telling_16 : decode cX9_telling 16 = .ok (.iconst 1, 1) := by decide +kernel
theorem dX9_telling_17 : decode cX9_telling 17 = .ok (.invokestatic 127, 3) := by decide +kernel
theorem dX9_telling_20 : decode cX9_telling 20 = .ok (.ifCond .ne 6, 3) := by decide +kernel
theorem dX9_telling_23 : decode cX9_telling 23 = .ok (.bipush (-102), 2) := by decide +kernel
theorem dX9_telling_25 : decode cX9_telling 25 = .ok (.ireturn, 1) := by decide +kernel
theorem dX9_telling_26 : decode cX9_telling 26 = .ok (.iload_n 2, 1) := by decide +kernel
theorem dX9_telling_27 : decode cX9_telling 27 = .ok (.ifCond .ne 14, 3) := by decide +kernel
theorem dX9_telling_30 : decode cX9_telling 30 = .ok (.aload_n 0, 1) := by decide +kernel
theorem dX9_telling_31 : decode cX9_telling 31 = .ok (.getfield 26, 3) := by decide +kernel
theorem dX9_telling_34 : decode cX9_telling 34 = .ok (.iload_n 1, 1) := by decide +kernel
theorem dX9_telling_35 : decode cX9_telling 35 = .ok (.invokevirtual 131, 3) := by decide +kernel
theorem dX9_telling_38 : decode cX9_telling 38 = .ok (.goto 11, 3) := by decide +kernel
theorem dX9_telling_41 : decode cX9_telling 41 = .ok (.aload_n 0, 1) := by decide +kernel
theorem dX9_telling_42 : decode cX9_telling 42 = .ok (.getfield 26, 3) := by decide +kernel
theorem dX9_telling_45 : decode cX9_telling 45 = .ok (.iload_n 1, 1) := by decide +kernel
theorem dX9_telling_46 : decode cX9_telling 46 = .ok (.invokevirtual 134, 3) := by decide +kernel
theorem dX9_telling_49 : decode cX9_telling 49 = .ok (.ireturn, 1) := by decide +kernel
theorem dX9_person_0 : decode cX9_person 0 = .ok (.iload_n 1, 1) := by decide +kernel
theorem dX9_person_1 : decode cX9_person 1 = .ok (.invokestatic 137, 3) := by decide +kernel
theorem dX9_person_4 : decode cX9_person 4 = .ok (.ifCond .ne 6, 3) := by decide +kernel
theorem dX9_person_7 : decode cX9_person 7 = .ok (.bipush (-102), 2) := by decide +kernel
theorem dX9_person_9 : decode cX9_person 9 = .ok (.ireturn, 1) := by decide +kernel
theorem dX9_person_10 : decode cX9_person 10 = .ok (.aload_n 0, 1) := by decide +kernel
theorem dX9_person_11 : decode cX9_person 11 = .ok (.getfield 33, 3) := by decide +kernel
theorem dX9_person_14 : decode cX9_person 14 = .ok (.invokevirtual 140, 3) := by decide +kernel
theorem dX9_person_17 : decode cX9_person 17 = .ok (.ifCond .eq 14, 3) := by decide +kernel
theorem dX9_person_20 : decode cX9_person 20 = .ok (.aload_n 0, 1) := by decide +kernel
theorem dX9_person_21 : decode cX9_person 21 = .ok (.getfield 33, 3) := by decide +kernel
theorem dX9_person_24 : decode cX9_person 24 = .ok (.iload_n 1, 1) := by decide +kernel
theorem dX9_person_25 : decode cX9_person 25 = .ok (.invokevirtual 144, 3) := by decide +kernel
theorem dX9_person_28 : decode cX9_person 28 = .ok (.goto 5, 3) := by decide +kernel
theorem dX9_person_31 : decode cX9_person 31 = .ok (.bipush (-104), 2) := by decide +kernel
theorem dX9_person_33 : decode cX9_person 33 = .ok (.ireturn, 1) := by decide +kernel
theorem dX9_kind_0 : decode cX9_kind 0 = .ok (.aload_n 0, 1) := by decide +kernel
theorem dX9_kind_1 : decode cX9_kind 1 = .ok (.getfield 33, 3) := by decide +kernel
theorem dX9_kind_4 : decode cX9_kind 4 = .ok (.iload_n 1, 1) := by decide +kernel
theorem dX9_kind_5 : decode cX9_kind 5 = .ok (.invokevirtual 147, 3) := by decide +kernel
theorem dX9_kind_8 : decode cX9_kind 8 = .ok (.ifCond .eq 14, 3) := by decide +kernel
theorem dX9_kind_11 : decode cX9_kind 11 = .ok (.aload_n 0, 1) := by decide +kernel
theorem dX9_kind_12 : decode cX9_kind 12 = .ok (.getfield 33, 3) := by decide +kernel
theorem dX9_kind_15 : decode cX9_kind 15 = .ok (.iload_n 1, 1) := by decide +kernel
theorem dX9_kind_16 : decode cX9_kind 16 = .ok (.invokevirtual 148, 3) := by decide +kernel
theorem dX9_kind_19 : decode cX9_kind 19 = .ok (.goto 5, 3) := by decide +kernel
theorem dX9_kind_22 : decode cX9_kind 22 = .ok (.bipush (-101), 2) := by decide +kernel
theorem dX9_kind_24 : decode cX9_kind 24 = .ok (.ireturn, 1) := by decide +kernel
theorem dX9_as_0 : decode cX9_as 0 = .ok (.aload_n 0, 1) := by decide +kernel
theorem dX9_as_1 : decode cX9_as 1 = .ok (.getfield 33, 3) := by decide +kernel
theorem dX9_as_4 : decode cX9_as 4 = .ok (.iload_n 1, 1) := by decide +kernel
theorem dX9_as_5 : decode cX9_as 5 = .ok (.invokevirtual 147, 3) := by decide +kernel
theorem dX9_as_8 : decode cX9_as 8 = .ok (.ifCond .ne 6, 3) := by decide +kernel
theorem dX9_as_11 : decode cX9_as 11 = .ok (.bipush (-101), 2) := by decide +kernel
theorem dX9_as_13 : decode cX9_as 13 = .ok (.ireturn, 1) := by decide +kernel
theorem dX9_as_14 : decode cX9_as 14 = .ok (.iload_n 2, 1) := by decide +kernel
theorem dX9_as_15 : decode cX9_as 15 = .ok (.invokestatic 137, 3) := by decide +kernel
theorem dX9_as_18 : decode cX9_as 18 = .ok (.ifCond .ne 6, 3) := by decide +kernel
theorem dX9_as_21 : decode cX9_as 21 = .ok (.bipush (-102), 2) := by decide +kernel
theorem dX9_as_23 : decode cX9_as 23 = .ok (.ireturn, 1) := by decide +kernel
theorem dX9_as_24 : decode cX9_as 24 = .ok (.aload_n 0, 1) := by decide +kernel
theorem dX9_as_25 : decode cX9_as 25 = .ok (.getfield 33, 3) := by decide +kernel
theorem dX9_as_28 : decode cX9_as 28 = .ok (.iload_n 1, 1) := by decide +kernel
theorem dX9_as_29 : decode cX9_as 29 = .ok (.invokevirtual 148, 3) := by decide +kernel
theorem dX9_as_32 : decode cX9_as 32 = .ok (.iload_n 2, 1) := by decide +kernel
theorem dX9_as_33 : decode cX9_as 33 = .ok (.invokestatic 151, 3) := by decide +kernel
theorem dX9_as_36 : decode cX9_as 36 = .ok (.ifCond .eq 7, 3) := by decide +kernel
theorem dX9_as_39 : decode cX9_as 39 = .ok (.iload_n 1, 1) := by decide +kernel
theorem dX9_as_40 : decode cX9_as 40 = .ok (.goto 4, 3) := by decide +kernel
theorem dX9_as_43 : decode cX9_as 43 = .ok (.iconst (-1), 1) := by decide +kernel
theorem dX9_as_44 : decode cX9_as 44 = .ok (.ireturn, 1) := by decide +kernel
theorem dX9_tells_0 : decode cX9_tells 0 = .ok (.aload_n 0, 1) := by decide +kernel
theorem dX9_tells_1 : decode cX9_tells 1 = .ok (.getfield 33, 3) := by decide +kernel
theorem dX9_tells_4 : decode cX9_tells 4 = .ok (.iload_n 1, 1) := by decide +kernel
theorem dX9_tells_5 : decode cX9_tells 5 = .ok (.invokevirtual 147, 3) := by decide +kernel
theorem dX9_tells_8 : decode cX9_tells 8 = .ok (.ifCond .ne 6, 3) := by decide +kernel
theorem dX9_tells_11 : decode cX9_tells 11 = .ok (.bipush (-101), 2) := by decide +kernel
theorem dX9_tells_13 : decode cX9_tells 13 = .ok (.ireturn, 1) := by decide +kernel
theorem dX9_tells_14 : decode cX9_tells 14 = .ok (.iload_n 2, 1) := by decide +kernel
theorem dX9_tells_15 : decode cX9_tells 15 = .ok (.invokestatic 117, 3) := by decide +kernel
theorem dX9_tells_18 : decode cX9_tells 18 = .ok (.ifCond .eq 22, 3) := by decide +kernel
theorem dX9_tells_21 : decode cX9_tells 21 = .ok (.aload_n 0, 1) := by decide +kernel
theorem dX9_tells_22 : decode cX9_tells 22 = .ok (.getfield 19, 3) := by decide +kernel
theorem dX9_tells_25 : decode cX9_tells 25 = .ok (.aload_n 0, 1) := by decide +kernel
theorem dX9_tells_26 : decode cX9_tells 26 = .ok (.getfield 33, 3) := by decide +kernel
theorem dX9_tells_29 : decode cX9_tells 29 = .ok (.iload_n 1, 1) := by decide +kernel
theorem dX9_tells_30 : decode cX9_tells 30 = .ok (.invokevirtual 148, 3) := by decide +kernel
theorem dX9_tells_33 : decode cX9_tells 33 = .ok (.iload_n 2, 1) := by decide +kernel
theorem dX9_tells_34 : decode cX9_tells 34 = .ok (.invokevirtual 155, 3) := by decide +kernel
theorem dX9_tells_37 : decode cX9_tells 37 = .ok (.goto 5, 3) := by decide +kernel
theorem dX9_tells_40 : decode cX9_tells 40 = .ok (.bipush (-102), 2) := by decide +kernel
theorem dX9_tells_42 : decode cX9_tells 42 = .ok (.ireturn, 1) := by decide +kernel
theorem dX9_knows_0 : decode cX9_knows 0 = .ok (.aload_n 0, 1) := by decide +kernel
theorem dX9_knows_1 : decode cX9_knows 1 = .ok (.getfield 33, 3) := by decide +kernel
theorem dX9_knows_4 : decode cX9_knows 4 = .ok (.iload_n 1, 1) := by decide +kernel
theorem dX9_knows_5 : decode cX9_knows 5 = .ok (.iload_n 2, 1) := by decide +kernel
theorem dX9_knows_6 : decode cX9_knows 6 = .ok (.invokevirtual 159, 3) := by decide +kernel
theorem dX9_knows_9 : decode cX9_knows 9 = .ok (.ifCond .ne 6, 3) := by decide +kernel
theorem dX9_knows_12 : decode cX9_knows 12 = .ok (.bipush (-101), 2) := by decide +kernel
theorem dX9_knows_14 : decode cX9_knows 14 = .ok (.ireturn, 1) := by decide +kernel
theorem dX9_knows_15 : decode cX9_knows 15 = .ok (.aload_n 0, 1) := by decide +kernel
theorem dX9_knows_16 : decode cX9_knows 16 = .ok (.getfield 33, 3) := by decide +kernel
theorem dX9_knows_19 : decode cX9_knows 19 = .ok (.iload_n 1, 1) := by decide +kernel
theorem dX9_knows_20 : decode cX9_knows 20 = .ok (.iload_n 2, 1) := by decide +kernel
theorem dX9_knows_21 : decode cX9_knows 21 = .ok (.invokevirtual 162, 3) := by decide +kernel
theorem dX9_knows_24 : decode cX9_knows 24 = .ok (.ifCond .eq 7, 3) := by decide +kernel
theorem dX9_knows_27 : decode cX9_knows 27 = .ok (.iconst 1, 1) := by decide +kernel
theorem dX9_knows_28 : decode cX9_knows 28 = .ok (.goto 4, 3) := by decide +kernel
theorem dX9_knows_31 : decode cX9_knows 31 = .ok (.iconst 0, 1) := by decide +kernel
theorem dX9_knows_32 : decode cX9_knows 32 = .ok (.istore 4, 2) := by decide +kernel
theorem dX9_knows_34 : decode cX9_knows 34 = .ok (.aload_n 0, 1) := by decide +kernel
theorem dX9_knows_35 : decode cX9_knows 35 = .ok (.getfield 33, 3) := by decide +kernel
theorem dX9_knows_38 : decode cX9_knows 38 = .ok (.iload_n 1, 1) := by decide +kernel
theorem dX9_knows_39 : decode cX9_knows 39 = .ok (.iload_n 2, 1) := by decide +kernel
theorem dX9_knows_40 : decode cX9_knows 40 = .ok (.iload_n 3, 1) := by decide +kernel
theorem dX9_knows_41 : decode cX9_knows 41 = .ok (.invokevirtual 165, 3) := by decide +kernel
theorem dX9_knows_44 : decode cX9_knows 44 = .ok (.iload 4, 2) := by decide +kernel
theorem dX9_knows_46 : decode cX9_knows 46 = .ok (.ireturn, 1) := by decide +kernel
theorem dX9_see_0 : decode cX9_see 0 = .ok (.iload_n 1, 1) := by decide +kernel
theorem dX9_see_1 : decode cX9_see 1 = .ok (.invokestatic 169, 3) := by decide +kernel
theorem dX9_see_4 : decode cX9_see 4 = .ok (.ifCond .eq 14, 3) := by decide +kernel
theorem dX9_see_7 : decode cX9_see 7 = .ok (.aload_n 0, 1) := by decide +kernel
theorem dX9_see_8 : decode cX9_see 8 = .ok (.getfield 33, 3) := by decide +kernel
theorem dX9_see_11 : decode cX9_see 11 = .ok (.iload_n 2, 1) := by decide +kernel
theorem dX9_see_12 : decode cX9_see 12 = .ok (.invokevirtual 147, 3) := by decide +kernel
theorem dX9_see_15 : decode cX9_see 15 = .ok (.ifCond .ne 6, 3) := by decide +kernel
theorem dX9_see_18 : decode cX9_see 18 = .ok (.bipush (-101), 2) := by decide +kernel
theorem dX9_see_20 : decode cX9_see 20 = .ok (.ireturn, 1) := by decide +kernel
theorem dX9_see_21 : decode cX9_see 21 = .ok (.iload_n 3, 1) := by decide +kernel
theorem dX9_see_22 : decode cX9_see 22 = .ok (.invokestatic 117, 3) := by decide +kernel
theorem dX9_see_25 : decode cX9_see 25 = .ok (.ifCond .eq 16, 3) := by decide +kernel
theorem dX9_see_28 : decode cX9_see 28 = .ok (.aload_n 0, 1) := by decide +kernel
theorem dX9_see_29 : decode cX9_see 29 = .ok (.getfield 33, 3) := by decide +kernel
theorem dX9_see_32 : decode cX9_see 32 = .ok (.iload_n 1, 1) := by decide +kernel
theorem dX9_see_33 : decode cX9_see 33 = .ok (.iload_n 2, 1) := by decide +kernel
theorem dX9_see_34 : decode cX9_see 34 = .ok (.iload_n 3, 1) := by decide +kernel
theorem dX9_see_35 : decode cX9_see 35 = .ok (.invokevirtual 172, 3) := by decide +kernel
theorem dX9_see_38 : decode cX9_see 38 = .ok (.goto 5, 3) := by decide +kernel
theorem dX9_see_41 : decode cX9_see 41 = .ok (.bipush (-102), 2) := by decide +kernel
theorem dX9_see_43 : decode cX9_see 43 = .ok (.ireturn, 1) := by decide +kernel
theorem dX9_drop_0 : decode cX9_drop 0 = .ok (.iload_n 1, 1) := by decide +kernel
theorem dX9_drop_1 : decode cX9_drop 1 = .ok (.invokestatic 169, 3) := by decide +kernel
theorem dX9_drop_4 : decode cX9_drop 4 = .ok (.ifCond .eq 16, 3) := by decide +kernel
theorem dX9_drop_7 : decode cX9_drop 7 = .ok (.aload_n 0, 1) := by decide +kernel
theorem dX9_drop_8 : decode cX9_drop 8 = .ok (.getfield 33, 3) := by decide +kernel
theorem dX9_drop_11 : decode cX9_drop 11 = .ok (.iload_n 1, 1) := by decide +kernel
theorem dX9_drop_12 : decode cX9_drop 12 = .ok (.iconst (-1), 1) := by decide +kernel
theorem dX9_drop_13 : decode cX9_drop 13 = .ok (.iconst 0, 1) := by decide +kernel
theorem dX9_drop_14 : decode cX9_drop 14 = .ok (.invokevirtual 172, 3) := by decide +kernel
theorem dX9_drop_17 : decode cX9_drop 17 = .ok (.goto 5, 3) := by decide +kernel
theorem dX9_drop_20 : decode cX9_drop 20 = .ok (.bipush (-101), 2) := by decide +kernel
theorem dX9_drop_22 : decode cX9_drop 22 = .ok (.ireturn, 1) := by decide +kernel
theorem dX9_size_0 : decode cX9_size 0 = .ok (.aload_n 0, 1) := by decide +kernel
theorem dX9_size_1 : decode cX9_size 1 = .ok (.getfield 33, 3) := by decide +kernel
theorem dX9_size_4 : decode cX9_size 4 = .ok (.iload_n 1, 1) := by decide +kernel
theorem dX9_size_5 : decode cX9_size 5 = .ok (.invokevirtual 147, 3) := by decide +kernel
theorem dX9_size_8 : decode cX9_size 8 = .ok (.ifCond .eq 10, 3) := by decide +kernel
theorem dX9_size_11 : decode cX9_size 11 = .ok (.iload_n 2, 1) := by decide +kernel
theorem dX9_size_12 : decode cX9_size 12 = .ok (.invokestatic 169, 3) := by decide +kernel
theorem dX9_size_15 : decode cX9_size 15 = .ok (.ifCond .ne 6, 3) := by decide +kernel
theorem dX9_size_18 : decode cX9_size 18 = .ok (.bipush (-101), 2) := by decide +kernel
theorem dX9_size_20 : decode cX9_size 20 = .ok (.ireturn, 1) := by decide +kernel
theorem dX9_size_21 : decode cX9_size 21 = .ok (.aload_n 0, 1) := by decide +kernel
theorem dX9_size_22 : decode cX9_size 22 = .ok (.aload_n 0, 1) := by decide +kernel
theorem dX9_size_23 : decode cX9_size 23 = .ok (.getfield 33, 3) := by decide +kernel
theorem dX9_size_26 : decode cX9_size 26 = .ok (.iload_n 2, 1) := by decide +kernel
theorem dX9_size_27 : decode cX9_size 27 = .ok (.invokevirtual 176, 3) := by decide +kernel
theorem dX9_size_30 : decode cX9_size 30 = .ok (.aload_n 0, 1) := by decide +kernel
theorem dX9_size_31 : decode cX9_size 31 = .ok (.getfield 33, 3) := by decide +kernel
theorem dX9_size_34 : decode cX9_size 34 = .ok (.iload_n 2, 1) := by decide +kernel
theorem dX9_size_35 : decode cX9_size 35 = .ok (.invokevirtual 179, 3) := by decide +kernel
theorem dX9_size_38 : decode cX9_size 38 = .ok (.iconst (-1), 1) := by decide +kernel
theorem dX9_size_39 : decode cX9_size 39 = .ok (.invokevirtual 182, 3) := by decide +kernel
theorem dX9_size_42 : decode cX9_size 42 = .ok (.aload_n 0, 1) := by decide +kernel
theorem dX9_size_43 : decode cX9_size 43 = .ok (.getfield 43, 3) := by decide +kernel
theorem dX9_size_46 : decode cX9_size 46 = .ok (.iload_n 1, 1) := by decide +kernel
theorem dX9_size_47 : decode cX9_size 47 = .ok (.invokevirtual 186, 3) := by decide +kernel
theorem dX9_size_50 : decode cX9_size 50 = .ok (.ireturn, 1) := by decide +kernel
theorem dX9_from_0 : decode cX9_from 0 = .ok (.aload_n 0, 1) := by decide +kernel
theorem dX9_from_1 : decode cX9_from 1 = .ok (.getfield 33, 3) := by decide +kernel
theorem dX9_from_4 : decode cX9_from 4 = .ok (.iload_n 1, 1) := by decide +kernel
theorem dX9_from_5 : decode cX9_from 5 = .ok (.invokevirtual 147, 3) := by decide +kernel
theorem dX9_from_8 : decode cX9_from 8 = .ok (.ifCond .eq 10, 3) := by decide +kernel
theorem dX9_from_11 : decode cX9_from 11 = .ok (.iload_n 2, 1) := by decide +kernel
theorem dX9_from_12 : decode cX9_from 12 = .ok (.invokestatic 169, 3) := by decide +kernel
theorem dX9_from_15 : decode cX9_from 15 = .ok (.ifCond .ne 6, 3) := by decide +kernel
theorem dX9_from_18 : decode cX9_from 18 = .ok (.bipush (-101), 2) := by decide +kernel
theorem dX9_from_20 : decode cX9_from 20 = .ok (.ireturn, 1) := by decide +kernel
theorem dX9_from_21 : decode cX9_from 21 = .ok (.aload_n 0, 1) := by decide +kernel
theorem dX9_from_22 : decode cX9_from 22 = .ok (.aload_n 0, 1) := by decide +kernel
theorem dX9_from_23 : decode cX9_from 23 = .ok (.getfield 33, 3) := by decide +kernel
theorem dX9_from_26 : decode cX9_from 26 = .ok (.iload_n 2, 1) := by decide +kernel
theorem dX9_from_27 : decode cX9_from 27 = .ok (.invokevirtual 176, 3) := by decide +kernel
theorem dX9_from_30 : decode cX9_from 30 = .ok (.aload_n 0, 1) := by decide +kernel
theorem dX9_from_31 : decode cX9_from 31 = .ok (.getfield 33, 3) := by decide +kernel
theorem dX9_from_34 : decode cX9_from 34 = .ok (.iload_n 2, 1) := by decide +kernel
theorem dX9_from_35 : decode cX9_from 35 = .ok (.invokevirtual 179, 3) := by decide +kernel
theorem dX9_from_38 : decode cX9_from 38 = .ok (.iconst (-1), 1) := by decide +kernel
theorem dX9_from_39 : decode cX9_from 39 = .ok (.invokevirtual 182, 3) := by decide +kernel
theorem dX9_from_42 : decode cX9_from 42 = .ok (.aload_n 0, 1) := by decide +kernel
theorem dX9_from_43 : decode cX9_from 43 = .ok (.getfield 43, 3) := by decide +kernel
theorem dX9_from_46 : decode cX9_from 46 = .ok (.iload_n 1, 1) := by decide +kernel
theorem dX9_from_47 : decode cX9_from 47 = .ok (.invokevirtual 189, 3) := by decide +kernel
theorem dX9_from_50 : decode cX9_from 50 = .ok (.ireturn, 1) := by decide +kernel
theorem dX9_firsts_0 : decode cX9_firsts 0 = .ok (.iload_n 1, 1) := by decide +kernel
theorem dX9_firsts_1 : decode cX9_firsts 1 = .ok (.invokestatic 169, 3) := by decide +kernel
theorem dX9_firsts_4 : decode cX9_firsts 4 = .ok (.ifCond .eq 14, 3) := by decide +kernel
theorem dX9_firsts_7 : decode cX9_firsts 7 = .ok (.aload_n 0, 1) := by decide +kernel
theorem dX9_firsts_8 : decode cX9_firsts 8 = .ok (.getfield 33, 3) := by decide +kernel
theorem dX9_firsts_11 : decode cX9_firsts 11 = .ok (.iload_n 2, 1) := by decide +kernel
theorem dX9_firsts_12 : decode cX9_firsts 12 = .ok (.invokevirtual 147, 3) := by decide +kernel
theorem dX9_firsts_15 : decode cX9_firsts 15 = .ok (.ifCond .ne 6, 3) := by decide +kernel
theorem dX9_firsts_18 : decode cX9_firsts 18 = .ok (.bipush (-101), 2) := by decide +kernel
theorem dX9_firsts_20 : decode cX9_firsts 20 = .ok (.ireturn, 1) := by decide +kernel
theorem dX9_firsts_21 : decode cX9_firsts 21 = .ok (.iload_n 3, 1) := by decide +kernel
theorem dX9_firsts_22 : decode cX9_firsts 22 = .ok (.invokestatic 117, 3) := by decide +kernel
theorem dX9_firsts_25 : decode cX9_firsts 25 = .ok (.ifCond .eq 13, 3) := by decide +kernel
theorem dX9_firsts_28 : decode cX9_firsts 28 = .ok (.iload 4, 2) := by decide +kernel
theorem dX9_firsts_30 : decode cX9_firsts 30 = .ok (.iconst 0, 1) := by decide +kernel
theorem dX9_firsts_31 : decode cX9_firsts 31 = .ok (.iconst 2, 1) := by decide +kernel
theorem dX9_firsts_32 : decode cX9_firsts 32 = .ok (.invokestatic 127, 3) := by decide +kernel
theorem dX9_firsts_35 : decode cX9_firsts 35 = .ok (.ifCond .ne 6, 3) := by decide +kernel
theorem dX9_firsts_38 : decode cX9_firsts 38 = .ok (.bipush (-102), 2) := by decide +kernel
theorem dX9_firsts_40 : decode cX9_firsts 40 = .ok (.ireturn, 1) := by decide +kernel
theorem dX9_firsts_41 : decode cX9_firsts 41 = .ok (.aload_n 0, 1) := by decide +kernel
theorem dX9_firsts_42 : decode cX9_firsts 42 = .ok (.getfield 33, 3) := by decide +kernel
theorem dX9_firsts_45 : decode cX9_firsts 45 = .ok (.iload_n 1, 1) := by decide +kernel
theorem dX9_firsts_46 : decode cX9_firsts 46 = .ok (.invokevirtual 176, 3) := by decide +kernel
theorem dX9_firsts_49 : decode cX9_firsts 49 = .ok (.istore 5, 2) := by decide +kernel
theorem dX9_firsts_51 : decode cX9_firsts 51 = .ok (.iload 5, 2) := by decide +kernel
theorem dX9_firsts_53 : decode cX9_firsts 53 = .ok (.iconst (-1), 1) := by decide +kernel
theorem dX9_firsts_54 : decode cX9_firsts 54 = .ok (.if_icmp .ne 6, 3) := by decide +kernel
theorem dX9_firsts_57 : decode cX9_firsts 57 = .ok (.bipush (-103), 2) := by decide +kernel
theorem dX9_firsts_59 : decode cX9_firsts 59 = .ok (.ireturn, 1) := by decide +kernel
theorem dX9_firsts_60 : decode cX9_firsts 60 = .ok (.aload_n 0, 1) := by decide +kernel
theorem dX9_firsts_61 : decode cX9_firsts 61 = .ok (.iload 5, 2) := by decide +kernel
theorem dX9_firsts_63 : decode cX9_firsts 63 = .ok (.iload_n 2, 1) := by decide +kernel
theorem dX9_firsts_64 : decode cX9_firsts 64 = .ok (.iload_n 3, 1) := by decide +kernel
theorem dX9_firsts_65 : decode cX9_firsts 65 = .ok (.invokevirtual 192, 3) := by decide +kernel
theorem dX9_firsts_68 : decode cX9_firsts 68 = .ok (.istore 6, 2) := by decide +kernel
theorem dX9_firsts_70 : decode cX9_firsts 70 = .ok (.aload_n 0, 1) := by decide +kernel
theorem dX9_firsts_71 : decode cX9_firsts 71 = .ok (.iload 5, 2) := by decide +kernel
theorem dX9_firsts_73 : decode cX9_firsts 73 = .ok (.iload_n 2, 1) := by decide +kernel
theorem dX9_firsts_74 : decode cX9_firsts 74 = .ok (.iload_n 3, 1) := by decide +kernel
theorem dX9_firsts_75 : decode cX9_firsts 75 = .ok (.iconst 1, 1) := by decide +kernel
theorem dX9_firsts_76 : decode cX9_firsts 76 = .ok (.iadd, 1) := by decide +kernel
theorem dX9_firsts_77 : decode cX9_firsts 77 = .ok (.invokevirtual 192, 3) := by decide +kernel
theorem dX9_firsts_80 : decode cX9_firsts 80 = .ok (.istore 7, 2) := by decide +kernel
theorem dX9_firsts_82 : decode cX9_firsts 82 = .ok (.iload 4, 2) := by decide +kernel
theorem dX9_firsts_84 : decode cX9_firsts 84 = .ok (.ifCond .ne 9, 3) := by decide +kernel
theorem dX9_firsts_87 : decode cX9_firsts 87 = .ok (.iload 7, 2) := by decide +kernel
theorem dX9_firsts_89 : decode cX9_firsts 89 = .ok (.iload 6, 2) := by decide +kernel
theorem dX9_firsts_91 : decode cX9_firsts 91 = .ok (.isub, 1) := by decide +kernel
theorem dX9_firsts_92 : decode cX9_firsts 92 = .ok (.ireturn, 1) := by decide +kernel
theorem dX9_firsts_93 : decode cX9_firsts 93 = .ok (.iload 6, 2) := by decide +kernel
theorem dX9_firsts_95 : decode cX9_firsts 95 = .ok (.iload 7, 2) := by decide +kernel
theorem dX9_firsts_97 : decode cX9_firsts 97 = .ok (.if_icmp .ne 5, 3) := by decide +kernel
theorem dX9_firsts_100 : decode cX9_firsts 100 = .ok (.iconst (-1), 1) := by decide +kernel
theorem dX9_firsts_101 : decode cX9_firsts 101 = .ok (.ireturn, 1) := by decide +kernel
theorem dX9_firsts_102 : decode cX9_firsts 102 = .ok (.iload 4, 2) := by decide +kernel
theorem dX9_firsts_104 : decode cX9_firsts 104 = .ok (.iconst 1, 1) := by decide +kernel
theorem dX9_firsts_105 : decode cX9_firsts 105 = .ok (.if_icmp .ne 8, 3) := by decide +kernel
theorem dX9_firsts_108 : decode cX9_firsts 108 = .ok (.iload 6, 2) := by decide +kernel
theorem dX9_firsts_110 : decode cX9_firsts 110 = .ok (.goto 7, 3) := by decide +kernel
theorem dX9_firsts_113 : decode cX9_firsts 113 = .ok (.iload 7, 2) := by decide +kernel
theorem dX9_firsts_115 : decode cX9_firsts 115 = .ok (.iconst 1, 1) := by decide +kernel
theorem dX9_firsts_116 : decode cX9_firsts 116 = .ok (.isub, 1) := by decide +kernel
theorem dX9_firsts_117 : decode cX9_firsts 117 = .ok (.ireturn, 1) := by decide +kernel
theorem dX9_modest_0 : decode cX9_modest 0 = .ok (.iload_n 1, 1) := by decide +kernel
theorem dX9_modest_1 : decode cX9_modest 1 = .ok (.invokestatic 169, 3) := by decide +kernel
theorem dX9_modest_4 : decode cX9_modest 4 = .ok (.ifCond .eq 14, 3) := by decide +kernel
theorem dX9_modest_7 : decode cX9_modest 7 = .ok (.aload_n 0, 1) := by decide +kernel
theorem dX9_modest_8 : decode cX9_modest 8 = .ok (.getfield 33, 3) := by decide +kernel
theorem dX9_modest_11 : decode cX9_modest 11 = .ok (.iload_n 2, 1) := by decide +kernel
theorem dX9_modest_12 : decode cX9_modest 12 = .ok (.invokevirtual 147, 3) := by decide +kernel
theorem dX9_modest_15 : decode cX9_modest 15 = .ok (.ifCond .ne 6, 3) := by decide +kernel
theorem dX9_modest_18 : decode cX9_modest 18 = .ok (.bipush (-101), 2) := by decide +kernel
theorem dX9_modest_20 : decode cX9_modest 20 = .ok (.ireturn, 1) := by decide +kernel
theorem dX9_modest_21 : decode cX9_modest 21 = .ok (.iload_n 3, 1) := by decide +kernel
theorem dX9_modest_22 : decode cX9_modest 22 = .ok (.invokestatic 117, 3) := by decide +kernel
theorem dX9_modest_25 : decode cX9_modest 25 = .ok (.ifCond .ne 6, 3) := by decide +kernel
theorem dX9_modest_28 : decode cX9_modest 28 = .ok (.bipush (-102), 2) := by decide +kernel
theorem dX9_modest_30 : decode cX9_modest 30 = .ok (.ireturn, 1) := by decide +kernel
theorem dX9_modest_31 : decode cX9_modest 31 = .ok (.aload_n 0, 1) := by decide +kernel
theorem dX9_modest_32 : decode cX9_modest 32 = .ok (.getfield 33, 3) := by decide +kernel
theorem dX9_modest_35 : decode cX9_modest 35 = .ok (.iload_n 1, 1) := by decide +kernel
theorem dX9_modest_36 : decode cX9_modest 36 = .ok (.invokevirtual 176, 3) := by decide +kernel
theorem dX9_modest_39 : decode cX9_modest 39 = .ok (.istore 4, 2) := by decide +kernel
theorem dX9_modest_41 : decode cX9_modest 41 = .ok (.iload 4, 2) := by decide +kernel
theorem dX9_modest_43 : decode cX9_modest 43 = .ok (.iconst (-1), 1) := by decide +kernel
theorem dX9_modest_44 : decode cX9_modest 44 = .ok (.if_icmp .ne 6, 3) := by decide +kernel
theorem dX9_modest_47 : decode cX9_modest 47 = .ok (.bipush (-103), 2) := by decide +kernel
theorem dX9_modest_49 : decode cX9_modest 49 = .ok (.ireturn, 1) := by decide +kernel
theorem dX9_modest_50 : decode cX9_modest 50 = .ok (.iconst 0, 1) := by decide +kernel
theorem dX9_modest_51 : decode cX9_modest 51 = .ok (.istore 5, 2) := by decide +kernel
theorem dX9_modest_53 : decode cX9_modest 53 = .ok (.iconst 0, 1) := by decide +kernel
theorem dX9_modest_54 : decode cX9_modest 54 = .ok (.istore 6, 2) := by decide +kernel
theorem dX9_modest_56 : decode cX9_modest 56 = .ok (.iload 6, 2) := by decide +kernel
theorem dX9_modest_58 : decode cX9_modest 58 = .ok (.aload_n 0, 1) := by decide +kernel
theorem dX9_modest_59 : decode cX9_modest 59 = .ok (.getfield 33, 3) := by decide +kernel
theorem dX9_modest_62 : decode cX9_modest 62 = .ok (.invokevirtual 195, 3) := by decide +kernel
theorem dX9_modest_65 : decode cX9_modest 65 = .ok (.if_icmp .ge 66, 3) := by decide +kernel
theorem dX9_modest_68 : decode cX9_modest 68 = .ok (.aload_n 0, 1) := by decide +kernel
theorem dX9_modest_69 : decode cX9_modest 69 = .ok (.getfield 33, 3) := by decide +kernel
theorem dX9_modest_72 : decode cX9_modest 72 = .ok (.iload 6, 2) := by decide +kernel
theorem dX9_modest_74 : decode cX9_modest 74 = .ok (.invokevirtual 148, 3) := by decide +kernel
theorem dX9_modest_77 : decode cX9_modest 77 = .ok (.iconst 1, 1) := by decide +kernel
theorem dX9_modest_78 : decode cX9_modest 78 = .ok (.invokestatic 151, 3) := by decide +kernel
theorem dX9_modest_81 : decode cX9_modest 81 = .ok (.ifCond .ne 44, 3) := by decide +kernel
theorem dX9_modest_84 : decode cX9_modest 84 = .ok (.aload_n 0, 1) := by decide +kernel
theorem dX9_modest_85 : decode cX9_modest 85 = .ok (.iload 4, 2) := by decide +kernel
theorem dX9_modest_87 : decode cX9_modest 87 = .ok (.aload_n 0, 1) := by decide +kernel
theorem dX9_modest_88 : decode cX9_modest 88 = .ok (.getfield 33, 3) := by decide +kernel
theorem dX9_modest_91 : decode cX9_modest 91 = .ok (.iload_n 1, 1) := by decide +kernel
theorem dX9_modest_92 : decode cX9_modest 92 = .ok (.invokevirtual 179, 3) := by decide +kernel
theorem dX9_modest_95 : decode cX9_modest 95 = .ok (.iload 6, 2) := by decide +kernel
theorem dX9_modest_97 : decode cX9_modest 97 = .ok (.invokevirtual 182, 3) := by decide +kernel
theorem dX9_modest_100 : decode cX9_modest 100 = .ok (.iload 5, 2) := by decide +kernel
theorem dX9_modest_102 : decode cX9_modest 102 = .ok (.aload_n 0, 1) := by decide +kernel
theorem dX9_modest_103 : decode cX9_modest 103 = .ok (.getfield 43, 3) := by decide +kernel
theorem dX9_modest_106 : decode cX9_modest 106 = .ok (.iload_n 2, 1) := by decide +kernel
theorem dX9_modest_107 : decode cX9_modest 107 = .ok (.invokevirtual 186, 3) := by decide +kernel
theorem dX9_modest_110 : decode cX9_modest 110 = .ok (.iload_n 3, 1) := by decide +kernel
theorem dX9_modest_111 : decode cX9_modest 111 = .ok (.if_icmp .ne 10, 3) := by decide +kernel
theorem dX9_modest_114 : decode cX9_modest 114 = .ok (.iconst 1, 1) := by decide +kernel
theorem dX9_modest_115 : decode cX9_modest 115 = .ok (.iload 6, 2) := by decide +kernel
theorem dX9_modest_117 : decode cX9_modest 117 = .ok (.ishl, 1) := by decide +kernel
theorem dX9_modest_118 : decode cX9_modest 118 = .ok (.goto 4, 3) := by decide +kernel
theorem dX9_modest_121 : decode cX9_modest 121 = .ok (.iconst 0, 1) := by decide +kernel
theorem dX9_modest_122 : decode cX9_modest 122 = .ok (.ior, 1) := by decide +kernel
theorem dX9_modest_123 : decode cX9_modest 123 = .ok (.istore 5, 2) := by decide +kernel
theorem dX9_modest_125 : decode cX9_modest 125 = .ok (.iinc 6 1, 3) := by decide +kernel
theorem dX9_modest_128 : decode cX9_modest 128 = .ok (.goto (-72), 3) := by decide +kernel
theorem dX9_modest_131 : decode cX9_modest 131 = .ok (.iload 5, 2) := by decide +kernel
theorem dX9_modest_133 : decode cX9_modest 133 = .ok (.ireturn, 1) := by decide +kernel
theorem dX9_one_0 : decode cX9_one 0 = .ok (.aload_n 0, 1) := by decide +kernel
theorem dX9_one_1 : decode cX9_one 1 = .ok (.getfield 33, 3) := by decide +kernel
theorem dX9_one_4 : decode cX9_one 4 = .ok (.iload_n 1, 1) := by decide +kernel
theorem dX9_one_5 : decode cX9_one 5 = .ok (.iload_n 3, 1) := by decide +kernel
theorem dX9_one_6 : decode cX9_one 6 = .ok (.invokevirtual 159, 3) := by decide +kernel
theorem dX9_one_9 : decode cX9_one 9 = .ok (.ifCond .ne 6, 3) := by decide +kernel
theorem dX9_one_12 : decode cX9_one 12 = .ok (.bipush (-101), 2) := by decide +kernel
theorem dX9_one_14 : decode cX9_one 14 = .ok (.ireturn, 1) := by decide +kernel
theorem dX9_one_15 : decode cX9_one 15 = .ok (.iload_n 2, 1) := by decide +kernel
theorem dX9_one_16 : decode cX9_one 16 = .ok (.invokestatic 117, 3) := by decide +kernel
theorem dX9_one_19 : decode cX9_one 19 = .ok (.ifCond .eq 11, 3) := by decide +kernel
theorem dX9_one_22 : decode cX9_one 22 = .ok (.iload 4, 2) := by decide +kernel
theorem dX9_one_24 : decode cX9_one 24 = .ok (.invokestatic 117, 3) := by decide +kernel
theorem dX9_one_27 : decode cX9_one 27 = .ok (.ifCond .ne 6, 3) := by decide +kernel
theorem dX9_one_30 : decode cX9_one 30 = .ok (.bipush (-102), 2) := by decide +kernel
theorem dX9_one_32 : decode cX9_one 32 = .ok (.ireturn, 1) := by decide +kernel
theorem dX9_one_33 : decode cX9_one 33 = .ok (.iconst 0, 1) := by decide +kernel
theorem dX9_one_34 : decode cX9_one 34 = .ok (.istore 5, 2) := by decide +kernel
theorem dX9_one_36 : decode cX9_one 36 = .ok (.iconst 0, 1) := by decide +kernel
theorem dX9_one_37 : decode cX9_one 37 = .ok (.istore 6, 2) := by decide +kernel
theorem dX9_one_39 : decode cX9_one 39 = .ok (.iload 6, 2) := by decide +kernel
theorem dX9_one_41 : decode cX9_one 41 = .ok (.aload_n 0, 1) := by decide +kernel
theorem dX9_one_42 : decode cX9_one 42 = .ok (.getfield 33, 3) := by decide +kernel
theorem dX9_one_45 : decode cX9_one 45 = .ok (.invokevirtual 195, 3) := by decide +kernel
theorem dX9_one_48 : decode cX9_one 48 = .ok (.if_icmp .ge 71, 3) := by decide +kernel
theorem dX9_one_51 : decode cX9_one 51 = .ok (.aload_n 0, 1) := by decide +kernel
theorem dX9_one_52 : decode cX9_one 52 = .ok (.iload 6, 2) := by decide +kernel
theorem dX9_one_54 : decode cX9_one 54 = .ok (.iload_n 1, 1) := by decide +kernel
theorem dX9_one_55 : decode cX9_one 55 = .ok (.iload_n 2, 1) := by decide +kernel
theorem dX9_one_56 : decode cX9_one 56 = .ok (.invokevirtual 192, 3) := by decide +kernel
theorem dX9_one_59 : decode cX9_one 59 = .ok (.aload_n 0, 1) := by decide +kernel
theorem dX9_one_60 : decode cX9_one 60 = .ok (.iload 6, 2) := by decide +kernel
theorem dX9_one_62 : decode cX9_one 62 = .ok (.iload_n 3, 1) := by decide +kernel
theorem dX9_one_63 : decode cX9_one 63 = .ok (.iload 4, 2) := by decide +kernel
theorem dX9_one_65 : decode cX9_one 65 = .ok (.invokevirtual 192, 3) := by decide +kernel
theorem dX9_one_68 : decode cX9_one 68 = .ok (.invokestatic 198, 3) := by decide +kernel
theorem dX9_one_71 : decode cX9_one 71 = .ok (.istore 7, 2) := by decide +kernel
theorem dX9_one_73 : decode cX9_one 73 = .ok (.aload_n 0, 1) := by decide +kernel
theorem dX9_one_74 : decode cX9_one 74 = .ok (.iload 6, 2) := by decide +kernel
theorem dX9_one_76 : decode cX9_one 76 = .ok (.iload_n 1, 1) := by decide +kernel
theorem dX9_one_77 : decode cX9_one 77 = .ok (.iload_n 2, 1) := by decide +kernel
theorem dX9_one_78 : decode cX9_one 78 = .ok (.iconst 1, 1) := by decide +kernel
theorem dX9_one_79 : decode cX9_one 79 = .ok (.iadd, 1) := by decide +kernel
theorem dX9_one_80 : decode cX9_one 80 = .ok (.invokevirtual 192, 3) := by decide +kernel
theorem dX9_one_83 : decode cX9_one 83 = .ok (.aload_n 0, 1) := by decide +kernel
theorem dX9_one_84 : decode cX9_one 84 = .ok (.iload 6, 2) := by decide +kernel
theorem dX9_one_86 : decode cX9_one 86 = .ok (.iload_n 3, 1) := by decide +kernel
theorem dX9_one_87 : decode cX9_one 87 = .ok (.iload 4, 2) := by decide +kernel
theorem dX9_one_89 : decode cX9_one 89 = .ok (.iconst 1, 1) := by decide +kernel
theorem dX9_one_90 : decode cX9_one 90 = .ok (.iadd, 1) := by decide +kernel
theorem dX9_one_91 : decode cX9_one 91 = .ok (.invokevirtual 192, 3) := by decide +kernel
theorem dX9_one_94 : decode cX9_one 94 = .ok (.invokestatic 203, 3) := by decide +kernel
theorem dX9_one_97 : decode cX9_one 97 = .ok (.istore 8, 2) := by decide +kernel
theorem dX9_one_99 : decode cX9_one 99 = .ok (.iload 5, 2) := by decide +kernel
theorem dX9_one_101 : decode cX9_one 101 = .ok (.iconst 0, 1) := by decide +kernel
theorem dX9_one_102 : decode cX9_one 102 = .ok (.iload 8, 2) := by decide +kernel
theorem dX9_one_104 : decode cX9_one 104 = .ok (.iload 7, 2) := by decide +kernel
theorem dX9_one_106 : decode cX9_one 106 = .ok (.isub, 1) := by decide +kernel
theorem dX9_one_107 : decode cX9_one 107 = .ok (.invokestatic 198, 3) := by decide +kernel
theorem dX9_one_110 : decode cX9_one 110 = .ok (.iadd, 1) := by decide +kernel
theorem dX9_one_111 : decode cX9_one 111 = .ok (.istore 5, 2) := by decide +kernel
theorem dX9_one_113 : decode cX9_one 113 = .ok (.iinc 6 1, 3) := by decide +kernel
theorem dX9_one_116 : decode cX9_one 116 = .ok (.goto (-77), 3) := by decide +kernel
theorem dX9_one_119 : decode cX9_one 119 = .ok (.iload 5, 2) := by decide +kernel
theorem dX9_one_121 : decode cX9_one 121 = .ok (.ireturn, 1) := by decide +kernel
theorem dX9_ask_0 : decode cX9_ask 0 = .ok (.aload_n 0, 1) := by decide +kernel
theorem dX9_ask_1 : decode cX9_ask 1 = .ok (.getfield 33, 3) := by decide +kernel
theorem dX9_ask_4 : decode cX9_ask 4 = .ok (.iload_n 1, 1) := by decide +kernel
theorem dX9_ask_5 : decode cX9_ask 5 = .ok (.invokevirtual 147, 3) := by decide +kernel
theorem dX9_ask_8 : decode cX9_ask 8 = .ok (.ifCond .ne 6, 3) := by decide +kernel
theorem dX9_ask_11 : decode cX9_ask 11 = .ok (.bipush (-101), 2) := by decide +kernel
theorem dX9_ask_13 : decode cX9_ask 13 = .ok (.ireturn, 1) := by decide +kernel
theorem dX9_ask_14 : decode cX9_ask 14 = .ok (.aload_n 0, 1) := by decide +kernel
theorem dX9_ask_15 : decode cX9_ask 15 = .ok (.iload_n 1, 1) := by decide +kernel
theorem dX9_ask_16 : decode cX9_ask 16 = .ok (.invokevirtual 206, 3) := by decide +kernel
theorem dX9_ask_19 : decode cX9_ask 19 = .ok (.iconst (-1), 1) := by decide +kernel
theorem dX9_ask_20 : decode cX9_ask 20 = .ok (.istore_n 2, 1) := by decide +kernel
theorem dX9_ask_21 : decode cX9_ask 21 = .ok (.iconst 0, 1) := by decide +kernel
theorem dX9_ask_22 : decode cX9_ask 22 = .ok (.istore_n 3, 1) := by decide +kernel
theorem dX9_ask_23 : decode cX9_ask 23 = .ok (.iconst 0, 1) := by decide +kernel
theorem dX9_ask_24 : decode cX9_ask 24 = .ok (.istore 4, 2) := by decide +kernel
theorem dX9_ask_26 : decode cX9_ask 26 = .ok (.iload 4, 2) := by decide +kernel
theorem dX9_ask_28 : decode cX9_ask 28 = .ok (.aload_n 0, 1) := by decide +kernel
theorem dX9_ask_29 : decode cX9_ask 29 = .ok (.getfield 33, 3) := by decide +kernel
theorem dX9_ask_32 : decode cX9_ask 32 = .ok (.invokevirtual 195, 3) := by decide +kernel
theorem dX9_ask_35 : decode cX9_ask 35 = .ok (.if_icmp .ge 43, 3) := by decide +kernel
theorem dX9_ask_38 : decode cX9_ask 38 = .ok (.aload_n 0, 1) := by decide +kernel
theorem dX9_ask_39 : decode cX9_ask 39 = .ok (.getfield 50, 3) := by decide +kernel
theorem dX9_ask_42 : decode cX9_ask 42 = .ok (.iload 4, 2) := by decide +kernel
theorem dX9_ask_44 : decode cX9_ask 44 = .ok (.invokevirtual 210, 3) := by decide +kernel
theorem dX9_ask_47 : decode cX9_ask 47 = .ok (.istore 5, 2) := by decide +kernel
theorem dX9_ask_49 : decode cX9_ask 49 = .ok (.iload 4, 2) := by decide +kernel
theorem dX9_ask_51 : decode cX9_ask 51 = .ok (.iload_n 1, 1) := by decide +kernel
theorem dX9_ask_52 : decode cX9_ask 52 = .ok (.if_icmp .eq 20, 3) := by decide +kernel
theorem dX9_ask_55 : decode cX9_ask 55 = .ok (.iload_n 2, 1) := by decide +kernel
theorem dX9_ask_56 : decode cX9_ask 56 = .ok (.iconst (-1), 1) := by decide +kernel
theorem dX9_ask_57 : decode cX9_ask 57 = .ok (.if_icmp .eq 9, 3) := by decide +kernel
theorem dX9_ask_60 : decode cX9_ask 60 = .ok (.iload 5, 2) := by decide +kernel
theorem dX9_ask_62 : decode cX9_ask 62 = .ok (.iload_n 3, 1) := by decide +kernel
theorem dX9_ask_63 : decode cX9_ask 63 = .ok (.if_icmp .ge 9, 3) := by decide +kernel
theorem dX9_ask_66 : decode cX9_ask 66 = .ok (.iload 4, 2) := by decide +kernel
theorem dX9_ask_68 : decode cX9_ask 68 = .ok (.istore_n 2, 1) := by decide +kernel
theorem dX9_ask_69 : decode cX9_ask 69 = .ok (.iload 5, 2) := by decide +kernel
theorem dX9_ask_71 : decode cX9_ask 71 = .ok (.istore_n 3, 1) := by decide +kernel
theorem dX9_ask_72 : decode cX9_ask 72 = .ok (.iinc 4 1, 3) := by decide +kernel
theorem dX9_ask_75 : decode cX9_ask 75 = .ok (.goto (-49), 3) := by decide +kernel
theorem dX9_ask_78 : decode cX9_ask 78 = .ok (.iload_n 2, 1) := by decide +kernel
theorem dX9_ask_79 : decode cX9_ask 79 = .ok (.ireturn, 1) := by decide +kernel
theorem dX9_chain_0 : decode cX9_chain 0 = .ok (.aload_n 0, 1) := by decide +kernel
theorem dX9_chain_1 : decode cX9_chain 1 = .ok (.getfield 33, 3) := by decide +kernel
theorem dX9_chain_4 : decode cX9_chain 4 = .ok (.iload_n 1, 1) := by decide +kernel
theorem dX9_chain_5 : decode cX9_chain 5 = .ok (.invokevirtual 147, 3) := by decide +kernel
theorem dX9_chain_8 : decode cX9_chain 8 = .ok (.ifCond .eq 14, 3) := by decide +kernel
theorem dX9_chain_11 : decode cX9_chain 11 = .ok (.aload_n 0, 1) := by decide +kernel
theorem dX9_chain_12 : decode cX9_chain 12 = .ok (.getfield 33, 3) := by decide +kernel
theorem dX9_chain_15 : decode cX9_chain 15 = .ok (.iload_n 3, 1) := by decide +kernel
theorem dX9_chain_16 : decode cX9_chain 16 = .ok (.invokevirtual 147, 3) := by decide +kernel
theorem dX9_chain_19 : decode cX9_chain 19 = .ok (.ifCond .ne 6, 3) := by decide +kernel
theorem dX9_chain_22 : decode cX9_chain 22 = .ok (.bipush (-101), 2) := by decide +kernel
theorem dX9_chain_24 : decode cX9_chain 24 = .ok (.ireturn, 1) := by decide +kernel
theorem dX9_chain_25 : decode cX9_chain 25 = .ok (.iload_n 2, 1) := by decide +kernel
theorem dX9_chain_26 : decode cX9_chain 26 = .ok (.invokestatic 117, 3) := by decide +kernel
theorem dX9_chain_29 : decode cX9_chain 29 = .ok (.ifCond .eq 21, 3) := by decide +kernel
theorem dX9_chain_32 : decode cX9_chain 32 = .ok (.iload 4, 2) := by decide +kernel
theorem dX9_chain_34 : decode cX9_chain 34 = .ok (.invokestatic 117, 3) := by decide +kernel
theorem dX9_chain_37 : decode cX9_chain 37 = .ok (.ifCond .eq 13, 3) := by decide +kernel
theorem dX9_chain_40 : decode cX9_chain 40 = .ok (.iload 5, 2) := by decide +kernel
theorem dX9_chain_42 : decode cX9_chain 42 = .ok (.iconst 0, 1) := by decide +kernel
theorem dX9_chain_43 : decode cX9_chain 43 = .ok (.iconst 1, 1) := by decide +kernel
theorem dX9_chain_44 : decode cX9_chain 44 = .ok (.invokestatic 127, 3) := by decide +kernel
theorem dX9_chain_47 : decode cX9_chain 47 = .ok (.ifCond .ne 6, 3) := by decide +kernel
theorem dX9_chain_50 : decode cX9_chain 50 = .ok (.bipush (-102), 2) := by decide +kernel
theorem dX9_chain_52 : decode cX9_chain 52 = .ok (.ireturn, 1) := by decide +kernel
theorem dX9_chain_53 : decode cX9_chain 53 = .ok (.aload_n 0, 1) := by decide +kernel
theorem dX9_chain_54 : decode cX9_chain 54 = .ok (.getfield 57, 3) := by decide +kernel
theorem dX9_chain_57 : decode cX9_chain 57 = .ok (.invokevirtual 213, 3) := by decide +kernel
theorem dX9_chain_60 : decode cX9_chain 60 = .ok (.bipush 30, 2) := by decide +kernel
theorem dX9_chain_62 : decode cX9_chain 62 = .ok (.if_icmp .lt 6, 3) := by decide +kernel
theorem dX9_chain_65 : decode cX9_chain 65 = .ok (.bipush (-103), 2) := by decide +kernel
theorem dX9_chain_67 : decode cX9_chain 67 = .ok (.ireturn, 1) := by decide +kernel
theorem dX9_chain_68 : decode cX9_chain 68 = .ok (.aload_n 0, 1) := by decide +kernel
theorem dX9_chain_69 : decode cX9_chain 69 = .ok (.getfield 57, 3) := by decide +kernel
theorem dX9_chain_72 : decode cX9_chain 72 = .ok (.aload_n 0, 1) := by decide +kernel
theorem dX9_chain_73 : decode cX9_chain 73 = .ok (.getfield 33, 3) := by decide +kernel
theorem dX9_chain_76 : decode cX9_chain 76 = .ok (.aload_n 0, 1) := by decide +kernel
theorem dX9_chain_77 : decode cX9_chain 77 = .ok (.getfield 19, 3) := by decide +kernel
theorem dX9_chain_80 : decode cX9_chain 80 = .ok (.iload_n 1, 1) := by decide +kernel
theorem dX9_chain_81 : decode cX9_chain 81 = .ok (.iload_n 2, 1) := by decide +kernel
theorem dX9_chain_82 : decode cX9_chain 82 = .ok (.invokestatic 216, 3) := by decide +kernel
theorem dX9_chain_85 : decode cX9_chain 85 = .ok (.iload_n 3, 1) := by decide +kernel
theorem dX9_chain_86 : decode cX9_chain 86 = .ok (.iload 4, 2) := by decide +kernel
theorem dX9_chain_88 : decode cX9_chain 88 = .ok (.invokestatic 216, 3) := by decide +kernel
theorem dX9_chain_91 : decode cX9_chain 91 = .ok (.invokevirtual 219, 3) := by decide +kernel
theorem dX9_chain_94 : decode cX9_chain 94 = .ok (.iload 5, 2) := by decide +kernel
theorem dX9_chain_96 : decode cX9_chain 96 = .ok (.ifCond .ne 13, 3) := by decide +kernel
theorem dX9_chain_99 : decode cX9_chain 99 = .ok (.aload_n 0, 1) := by decide +kernel
theorem dX9_chain_100 : decode cX9_chain 100 = .ok (.getfield 57, 3) := by decide +kernel
theorem dX9_chain_103 : decode cX9_chain 103 = .ok (.invokevirtual 223, 3) := by decide +kernel
theorem dX9_chain_106 : decode cX9_chain 106 = .ok (.goto 10, 3) := by decide +kernel
theorem dX9_chain_109 : decode cX9_chain 109 = .ok (.aload_n 0, 1) := by decide +kernel
theorem dX9_chain_110 : decode cX9_chain 110 = .ok (.getfield 57, 3) := by decide +kernel
theorem dX9_chain_113 : decode cX9_chain 113 = .ok (.invokevirtual 226, 3) := by decide +kernel
theorem dX9_chain_116 : decode cX9_chain 116 = .ok (.ireturn, 1) := by decide +kernel
theorem dX9_chance_0 : decode cX9_chance 0 = .ok (.iload_n 1, 1) := by decide +kernel
theorem dX9_chance_1 : decode cX9_chance 1 = .ok (.iconst 1, 1) := by decide +kernel
theorem dX9_chance_2 : decode cX9_chance 2 = .ok (.bipush 9, 2) := by decide +kernel
theorem dX9_chance_4 : decode cX9_chance 4 = .ok (.invokestatic 127, 3) := by decide +kernel
theorem dX9_chance_7 : decode cX9_chance 7 = .ok (.ifCond .eq 13, 3) := by decide +kernel
theorem dX9_chance_10 : decode cX9_chance 10 = .ok (.iload_n 2, 1) := by decide +kernel
theorem dX9_chance_11 : decode cX9_chance 11 = .ok (.iconst 0, 1) := by decide +kernel
theorem dX9_chance_12 : decode cX9_chance 12 = .ok (.bipush 10, 2) := by decide +kernel
theorem dX9_chance_14 : decode cX9_chance 14 = .ok (.invokestatic 127, 3) := by decide +kernel
theorem dX9_chance_17 : decode cX9_chance 17 = .ok (.ifCond .ne 7, 3) := by decide +kernel
theorem dX9_chance_20 : decode cX9_chance 20 = .ok (.ldc2_w 229, 3) := by decide +kernel
theorem dX9_chance_23 : decode cX9_chance 23 = .ok (.lreturn, 1) := by decide +kernel
theorem dX9_chance_24 : decode cX9_chance 24 = .ok (.iload_n 3, 1) := by decide +kernel
theorem dX9_chance_25 : decode cX9_chance 25 = .ok (.invokestatic 117, 3) := by decide +kernel
theorem dX9_chance_28 : decode cX9_chance 28 = .ok (.ifCond .eq 21, 3) := by decide +kernel
theorem dX9_chance_31 : decode cX9_chance 31 = .ok (.iload 4, 2) := by decide +kernel
theorem dX9_chance_33 : decode cX9_chance 33 = .ok (.invokestatic 117, 3) := by decide +kernel
theorem dX9_chance_36 : decode cX9_chance 36 = .ok (.ifCond .eq 13, 3) := by decide +kernel
theorem dX9_chance_39 : decode cX9_chance 39 = .ok (.iload 5, 2) := by decide +kernel
theorem dX9_chance_41 : decode cX9_chance 41 = .ok (.iconst 0, 1) := by decide +kernel
theorem dX9_chance_42 : decode cX9_chance 42 = .ok (.iconst 1, 1) := by decide +kernel
theorem dX9_chance_43 : decode cX9_chance 43 = .ok (.invokestatic 127, 3) := by decide +kernel
theorem dX9_chance_46 : decode cX9_chance 46 = .ok (.ifCond .ne 7, 3) := by decide +kernel
theorem dX9_chance_49 : decode cX9_chance 49 = .ok (.ldc2_w 229, 3) := by decide +kernel
theorem dX9_chance_52 : decode cX9_chance 52 = .ok (.lreturn, 1) := by decide +kernel
theorem dX9_chance_53 : decode cX9_chance 53 = .ok (.aload_n 0, 1) := by decide +kernel
theorem dX9_chance_54 : decode cX9_chance 54 = .ok (.getfield 64, 3) := by decide +kernel
theorem dX9_chance_57 : decode cX9_chance 57 = .ok (.iload_n 1, 1) := by decide +kernel
theorem dX9_chance_58 : decode cX9_chance 58 = .ok (.iload_n 2, 1) := by decide +kernel
theorem dX9_chance_59 : decode cX9_chance 59 = .ok (.invokevirtual 231, 3) := by decide +kernel
theorem dX9_chance_62 : decode cX9_chance 62 = .ok (.aload_n 0, 1) := by decide +kernel
theorem dX9_chance_63 : decode cX9_chance 63 = .ok (.getfield 64, 3) := by decide +kernel
theorem dX9_chance_66 : decode cX9_chance 66 = .ok (.aload_n 0, 1) := by decide +kernel
theorem dX9_chance_67 : decode cX9_chance 67 = .ok (.getfield 19, 3) := by decide +kernel
theorem dX9_chance_70 : decode cX9_chance 70 = .ok (.iload_n 3, 1) := by decide +kernel
theorem dX9_chance_71 : decode cX9_chance 71 = .ok (.iload 4, 2) := by decide +kernel
theorem dX9_chance_73 : decode cX9_chance 73 = .ok (.invokevirtual 235, 3) := by decide +kernel
theorem dX9_chance_76 : decode cX9_chance 76 = .ok (.lstore 6, 2) := by decide +kernel
theorem dX9_chance_78 : decode cX9_chance 78 = .ok (.aload_n 0, 1) := by decide +kernel
theorem dX9_chance_79 : decode cX9_chance 79 = .ok (.getfield 64, 3) := by decide +kernel
theorem dX9_chance_82 : decode cX9_chance 82 = .ok (.invokevirtual 239, 3) := by decide +kernel
theorem dX9_chance_85 : decode cX9_chance 85 = .ok (.lstore 8, 2) := by decide +kernel
theorem dX9_chance_87 : decode cX9_chance 87 = .ok (.lload 6, 2) := by decide +kernel
theorem dX9_chance_89 : decode cX9_chance 89 = .ok (.lload 8, 2) := by decide +kernel
theorem dX9_chance_91 : decode cX9_chance 91 = .ok (.invokestatic 243, 3) := by decide +kernel
theorem dX9_chance_94 : decode cX9_chance 94 = .ok (.lstore 10, 2) := by decide +kernel
theorem dX9_chance_96 : decode cX9_chance 96 = .ok (.iload 5, 2) := by decide +kernel
theorem dX9_chance_98 : decode cX9_chance 98 = .ok (.ifCond .ne 8, 3) := by decide +kernel
theorem dX9_chance_101 : decode cX9_chance 101 = .ok (.lload 6, 2) := by decide +kernel
theorem dX9_chance_103 : decode cX9_chance 103 = .ok (.goto 5, 3) := by decide +kernel
theorem dX9_chance_106 : decode cX9_chance 106 = .ok (.lload 8, 2) := by decide +kernel
theorem dX9_chance_108 : decode cX9_chance 108 = .ok (.lload 10, 2) := by decide +kernel
theorem dX9_chance_110 : decode cX9_chance 110 = .ok (.ldiv, 1) := by decide +kernel
theorem dX9_chance_111 : decode cX9_chance 111 = .ok (.lreturn, 1) := by decide +kernel
theorem dX9_likeliest_0 : decode cX9_likeliest 0 = .ok (.iload_n 1, 1) := by decide +kernel
theorem dX9_likeliest_1 : decode cX9_likeliest 1 = .ok (.iconst 1, 1) := by decide +kernel
theorem dX9_likeliest_2 : decode cX9_likeliest 2 = .ok (.bipush 9, 2) := by decide +kernel
theorem dX9_likeliest_4 : decode cX9_likeliest 4 = .ok (.invokestatic 127, 3) := by decide +kernel
theorem dX9_likeliest_7 : decode cX9_likeliest 7 = .ok (.ifCond .eq 20, 3) := by decide +kernel
theorem dX9_likeliest_10 : decode cX9_likeliest 10 = .ok (.iload_n 2, 1) := by decide +kernel
theorem dX9_likeliest_11 : decode cX9_likeliest 11 = .ok (.iconst 0, 1) := by decide +kernel
theorem dX9_likeliest_12 : decode cX9_likeliest 12 = .ok (.bipush 10, 2) := by decide +kernel
theorem dX9_likeliest_14 : decode cX9_likeliest 14 = .ok (.invokestatic 127, 3) := by decide +kernel
theorem dX9_likeliest_17 : decode cX9_likeliest 17 = .ok (.ifCond .eq 10, 3) := by decide +kernel
theorem dX9_likeliest_20 : decode cX9_likeliest 20 = .ok (.iload_n 3, 1) := by decide +kernel
theorem dX9_likeliest_21 : decode cX9_likeliest 21 = .ok (.invokestatic 117, 3) := by decide +kernel
theorem dX9_likeliest_24 : decode cX9_likeliest 24 = .ok (.ifCond .ne 6, 3) := by decide +kernel
theorem dX9_likeliest_27 : decode cX9_likeliest 27 = .ok (.bipush (-102), 2) := by decide +kernel
theorem dX9_likeliest_29 : decode cX9_likeliest 29 = .ok (.ireturn, 1) := by decide +kernel
theorem dX9_likeliest_30 : decode cX9_likeliest 30 = .ok (.aload_n 0, 1) := by decide +kernel
theorem dX9_likeliest_31 : decode cX9_likeliest 31 = .ok (.getfield 64, 3) := by decide +kernel
theorem dX9_likeliest_34 : decode cX9_likeliest 34 = .ok (.iload_n 1, 1) := by decide +kernel
theorem dX9_likeliest_35 : decode cX9_likeliest 35 = .ok (.iload_n 2, 1) := by decide +kernel
theorem dX9_likeliest_36 : decode cX9_likeliest 36 = .ok (.invokevirtual 231, 3) := by decide +kernel
theorem dX9_likeliest_39 : decode cX9_likeliest 39 = .ok (.iconst (-1), 1) := by decide +kernel
theorem dX9_likeliest_40 : decode cX9_likeliest 40 = .ok (.istore 4, 2) := by decide +kernel
theorem dX9_likeliest_42 : decode cX9_likeliest 42 = .ok (.lconst 0, 1) := by decide +kernel
theorem dX9_likeliest_43 : decode cX9_likeliest 43 = .ok (.lstore 5, 2) := by decide +kernel
theorem dX9_likeliest_45 : decode cX9_likeliest 45 = .ok (.iconst 1, 1) := by decide +kernel
theorem dX9_likeliest_46 : decode cX9_likeliest 46 = .ok (.istore 7, 2) := by decide +kernel
theorem dX9_likeliest_48 : decode cX9_likeliest 48 = .ok (.iload 7, 2) := by decide +kernel
theorem dX9_likeliest_50 : decode cX9_likeliest 50 = .ok (.bipush 99, 2) := by decide +kernel
theorem dX9_likeliest_52 : decode cX9_likeliest 52 = .ok (.if_icmp .gt 41, 3) := by decide +kernel
theorem dX9_likeliest_55 : decode cX9_likeliest 55 = .ok (.aload_n 0, 1) := by decide +kernel
theorem dX9_likeliest_56 : decode cX9_likeliest 56 = .ok (.getfield 64, 3) := by decide +kernel
theorem dX9_likeliest_59 : decode cX9_likeliest 59 = .ok (.aload_n 0, 1) := by decide +kernel
theorem dX9_likeliest_60 : decode cX9_likeliest 60 = .ok (.getfield 19, 3) := by decide +kernel
theorem dX9_likeliest_63 : decode cX9_likeliest 63 = .ok (.iload 7, 2) := by decide +kernel
theorem dX9_likeliest_65 : decode cX9_likeliest 65 = .ok (.iload_n 3, 1) := by decide +kernel
theorem dX9_likeliest_66 : decode cX9_likeliest 66 = .ok (.invokevirtual 235, 3) := by decide +kernel
theorem dX9_likeliest_69 : decode cX9_likeliest 69 = .ok (.lstore 8, 2) := by decide +kernel
theorem dX9_likeliest_71 : decode cX9_likeliest 71 = .ok (.lload 8, 2) := by decide +kernel
theorem dX9_likeliest_73 : decode cX9_likeliest 73 = .ok (.lload 5, 2) := by decide +kernel
theorem dX9_likeliest_75 : decode cX9_likeliest 75 = .ok (.lcmp, 1) := by decide +kernel
theorem dX9_likeliest_76 : decode cX9_likeliest 76 = .ok (.ifCond .le 11, 3) := by decide +kernel
theorem dX9_likeliest_79 : decode cX9_likeliest 79 = .ok (.iload 7, 2) := by decide +kernel
theorem dX9_likeliest_81 : decode cX9_likeliest 81 = .ok (.istore 4, 2) := by decide +kernel
theorem dX9_likeliest_83 : decode cX9_likeliest 83 = .ok (.lload 8, 2) := by decide +kernel
theorem dX9_likeliest_85 : decode cX9_likeliest 85 = .ok (.lstore 5, 2) := by decide +kernel
theorem dX9_likeliest_87 : decode cX9_likeliest 87 = .ok (.iinc 7 1, 3) := by decide +kernel
theorem dX9_likeliest_90 : decode cX9_likeliest 90 = .ok (.goto (-42), 3) := by decide +kernel
theorem dX9_likeliest_93 : decode cX9_likeliest 93 = .ok (.iload 4, 2) := by decide +kernel
theorem dX9_likeliest_95 : decode cX9_likeliest 95 = .ok (.ireturn, 1) := by decide +kernel
theorem dX9_gossip_0 : decode cX9_gossip 0 = .ok (.iload_n 1, 1) := by decide +kernel
theorem dX9_gossip_1 : decode cX9_gossip 1 = .ok (.iconst 1, 1) := by decide +kernel
theorem dX9_gossip_2 : decode cX9_gossip 2 = .ok (.bipush 60, 2) := by decide +kernel
theorem dX9_gossip_4 : decode cX9_gossip 4 = .ok (.invokestatic 127, 3) := by decide +kernel
theorem dX9_gossip_7 : decode cX9_gossip 7 = .ok (.ifCond .eq 16, 3) := by decide +kernel
theorem dX9_gossip_10 : decode cX9_gossip 10 = .ok (.iload_n 2, 1) := by decide +kernel
theorem dX9_gossip_11 : decode cX9_gossip 11 = .ok (.ifCond .lt 12, 3) := by decide +kernel
theorem dX9_gossip_14 : decode cX9_gossip 14 = .ok (.iload_n 3, 1) := by decide +kernel
theorem dX9_gossip_15 : decode cX9_gossip 15 = .ok (.iconst 0, 1) := by decide +kernel
theorem dX9_gossip_16 : decode cX9_gossip 16 = .ok (.iconst 2, 1) := by decide +kernel
theorem dX9_gossip_17 : decode cX9_gossip 17 = .ok (.invokestatic 127, 3) := by decide +kernel
theorem dX9_gossip_20 : decode cX9_gossip 20 = .ok (.ifCond .ne 6, 3) := by decide +kernel
theorem dX9_gossip_23 : decode cX9_gossip 23 = .ok (.bipush (-102), 2) := by decide +kernel
theorem dX9_gossip_25 : decode cX9_gossip 25 = .ok (.ireturn, 1) := by decide +kernel
theorem dX9_gossip_26 : decode cX9_gossip 26 = .ok (.aload_n 0, 1) := by decide +kernel
theorem dX9_gossip_27 : decode cX9_gossip 27 = .ok (.getfield 33, 3) := by decide +kernel
theorem dX9_gossip_30 : decode cX9_gossip 30 = .ok (.invokevirtual 195, 3) := by decide +kernel
theorem dX9_gossip_33 : decode cX9_gossip 33 = .ok (.iconst 2, 1) := by decide +kernel
theorem dX9_gossip_34 : decode cX9_gossip 34 = .ok (.if_icmp .ge 6, 3) := by decide +kernel
theorem dX9_gossip_37 : decode cX9_gossip 37 = .ok (.bipush (-103), 2) := by decide +kernel
theorem dX9_gossip_39 : decode cX9_gossip 39 = .ok (.ireturn, 1) := by decide +kernel
theorem dX9_gossip_40 : decode cX9_gossip 40 = .ok (.aload_n 0, 1) := by decide +kernel
theorem dX9_gossip_41 : decode cX9_gossip 41 = .ok (.iload_n 1, 1) := by decide +kernel
theorem dX9_gossip_42 : decode cX9_gossip 42 = .ok (.iload_n 2, 1) := by decide +kernel
theorem dX9_gossip_43 : decode cX9_gossip 43 = .ok (.invokevirtual 247, 3) := by decide +kernel
theorem dX9_gossip_46 : decode cX9_gossip 46 = .ok (.iload_n 3, 1) := by decide +kernel
theorem dX9_gossip_47 : decode cX9_gossip 47 = .ok (.ifCond .ne 11, 3) := by decide +kernel
theorem dX9_gossip_50 : decode cX9_gossip 50 = .ok (.aload_n 0, 1) := by decide +kernel
theorem dX9_gossip_51 : decode cX9_gossip 51 = .ok (.getfield 43, 3) := by decide +kernel
theorem dX9_gossip_54 : decode cX9_gossip 54 = .ok (.invokevirtual 250, 3) := by decide +kernel
theorem dX9_gossip_57 : decode cX9_gossip 57 = .ok (.ireturn, 1) := by decide +kernel
theorem dX9_gossip_58 : decode cX9_gossip 58 = .ok (.iload_n 3, 1) := by decide +kernel
theorem dX9_gossip_59 : decode cX9_gossip 59 = .ok (.iconst 1, 1) := by decide +kernel
theorem dX9_gossip_60 : decode cX9_gossip 60 = .ok (.if_icmp .ne 13, 3) := by decide +kernel
theorem dX9_gossip_63 : decode cX9_gossip 63 = .ok (.aload_n 0, 1) := by decide +kernel
theorem dX9_gossip_64 : decode cX9_gossip 64 = .ok (.getfield 43, 3) := by decide +kernel
theorem dX9_gossip_67 : decode cX9_gossip 67 = .ok (.invokevirtual 253, 3) := by decide +kernel
theorem dX9_gossip_70 : decode cX9_gossip 70 = .ok (.goto 10, 3) := by decide +kernel
theorem dX9_gossip_73 : decode cX9_gossip 73 = .ok (.aload_n 0, 1) := by decide +kernel
theorem dX9_gossip_74 : decode cX9_gossip 74 = .ok (.getfield 71, 3) := by decide +kernel
theorem dX9_gossip_77 : decode cX9_gossip 77 = .ok (.invokevirtual 256, 3) := by decide +kernel
theorem dX9_gossip_80 : decode cX9_gossip 80 = .ok (.ireturn, 1) := by decide +kernel
theorem dX9_image_0 : decode cX9_image 0 = .ok (.aload_n 0, 1) := by decide +kernel
theorem dX9_image_1 : decode cX9_image 1 = .ok (.getfield 37, 3) := by decide +kernel
theorem dX9_image_4 : decode cX9_image 4 = .ok (.aload_n 0, 1) := by decide +kernel
theorem dX9_image_5 : decode cX9_image 5 = .ok (.getfield 33, 3) := by decide +kernel
theorem dX9_image_8 : decode cX9_image 8 = .ok (.invokevirtual 259, 3) := by decide +kernel
theorem dX9_image_11 : decode cX9_image 11 = .ok (.aload_n 0, 1) := by decide +kernel
theorem dX9_image_12 : decode cX9_image 12 = .ok (.iconst 1, 1) := by decide +kernel
theorem dX9_image_13 : decode cX9_image 13 = .ok (.putfield 263, 3) := by decide +kernel
theorem dX9_image_16 : decode cX9_image 16 = .ok (.aload_n 0, 1) := by decide +kernel
theorem dX9_image_17 : decode cX9_image 17 = .ok (.getfield 37, 3) := by decide +kernel
theorem dX9_image_20 : decode cX9_image 20 = .ok (.invokevirtual 195, 3) := by decide +kernel
theorem dX9_image_23 : decode cX9_image 23 = .ok (.ireturn, 1) := by decide +kernel
theorem dX9_restore_0 : decode cX9_restore 0 = .ok (.aload_n 0, 1) := by decide +kernel
theorem dX9_restore_1 : decode cX9_restore 1 = .ok (.getfield 263, 3) := by decide +kernel
theorem dX9_restore_4 : decode cX9_restore 4 = .ok (.ifCond .ne 6, 3) := by decide +kernel
theorem dX9_restore_7 : decode cX9_restore 7 = .ok (.bipush (-103), 2) := by decide +kernel
theorem dX9_restore_9 : decode cX9_restore 9 = .ok (.ireturn, 1) := by decide +kernel
theorem dX9_restore_10 : decode cX9_restore 10 = .ok (.aload_n 0, 1) := by decide +kernel
theorem dX9_restore_11 : decode cX9_restore 11 = .ok (.getfield 33, 3) := by decide +kernel
theorem dX9_restore_14 : decode cX9_restore 14 = .ok (.aload_n 0, 1) := by decide +kernel
theorem dX9_restore_15 : decode cX9_restore 15 = .ok (.getfield 37, 3) := by decide +kernel
theorem dX9_restore_18 : decode cX9_restore 18 = .ok (.invokevirtual 259, 3) := by decide +kernel
theorem dX9_restore_21 : decode cX9_restore 21 = .ok (.aload_n 0, 1) := by decide +kernel
theorem dX9_restore_22 : decode cX9_restore 22 = .ok (.getfield 33, 3) := by decide +kernel
theorem dX9_restore_25 : decode cX9_restore 25 = .ok (.invokevirtual 195, 3) := by decide +kernel
theorem dX9_restore_28 : decode cX9_restore 28 = .ok (.ireturn, 1) := by decide +kernel
theorem dX9_count_0 : decode cX9_count 0 = .ok (.iload_n 1, 1) := by decide +kernel
theorem dX9_count_1 : decode cX9_count 1 = .ok (.tableswitch 111 0 7 #[47, 55, 63, 71, 79, 87, 95, 103], 47) := by decide +kernel
theorem dX9_count_48 : decode cX9_count 48 = .ok (.aload_n 0, 1) := by decide +kernel
theorem dX9_count_49 : decode cX9_count 49 = .ok (.getfield 33, 3) := by decide +kernel
theorem dX9_count_52 : decode cX9_count 52 = .ok (.invokevirtual 195, 3) := by decide +kernel
theorem dX9_count_55 : decode cX9_count 55 = .ok (.ireturn, 1) := by decide +kernel
theorem dX9_count_56 : decode cX9_count 56 = .ok (.aload_n 0, 1) := by decide +kernel
theorem dX9_count_57 : decode cX9_count 57 = .ok (.getfield 19, 3) := by decide +kernel
theorem dX9_count_60 : decode cX9_count 60 = .ok (.invokevirtual 107, 3) := by decide +kernel
theorem dX9_count_63 : decode cX9_count 63 = .ok (.ireturn, 1) := by decide +kernel
theorem dX9_count_64 : decode cX9_count 64 = .ok (.aload_n 0, 1) := by decide +kernel
theorem dX9_count_65 : decode cX9_count 65 = .ok (.getfield 26, 3) := by decide +kernel
theorem dX9_count_68 : decode cX9_count 68 = .ok (.invokevirtual 114, 3) := by decide +kernel
theorem dX9_count_71 : decode cX9_count 71 = .ok (.ireturn, 1) := by decide +kernel
theorem dX9_count_72 : decode cX9_count 72 = .ok (.aload_n 0, 1) := by decide +kernel
theorem dX9_count_73 : decode cX9_count 73 = .ok (.getfield 33, 3) := by decide +kernel
theorem dX9_count_76 : decode cX9_count 76 = .ok (.invokevirtual 267, 3) := by decide +kernel
theorem dX9_count_79 : decode cX9_count 79 = .ok (.ireturn, 1) := by decide +kernel
theorem dX9_count_80 : decode cX9_count 80 = .ok (.aload_n 0, 1) := by decide +kernel
theorem dX9_count_81 : decode cX9_count 81 = .ok (.getfield 10, 3) := by decide +kernel
theorem dX9_count_84 : decode cX9_count 84 = .ok (.invokevirtual 87, 3) := by decide +kernel
theorem dX9_count_87 : decode cX9_count 87 = .ok (.ireturn, 1) := by decide +kernel
theorem dX9_count_88 : decode cX9_count 88 = .ok (.aload_n 0, 1) := by decide +kernel
theorem dX9_count_89 : decode cX9_count 89 = .ok (.getfield 19, 3) := by decide +kernel
theorem dX9_count_92 : decode cX9_count 92 = .ok (.invokevirtual 270, 3) := by decide +kernel
theorem dX9_count_95 : decode cX9_count 95 = .ok (.ireturn, 1) := by decide +kernel
theorem dX9_count_96 : decode cX9_count 96 = .ok (.aload_n 0, 1) := by decide +kernel
theorem dX9_count_97 : decode cX9_count 97 = .ok (.getfield 26, 3) := by decide +kernel
theorem dX9_count_100 : decode cX9_count 100 = .ok (.invokevirtual 273, 3) := by decide +kernel
theorem dX9_count_103 : decode cX9_count 103 = .ok (.ireturn, 1) := by decide +kernel
theorem dX9_count_104 : decode cX9_count 104 = .ok (.aload_n 0, 1) := by decide +kernel
theorem dX9_count_105 : decode cX9_count 105 = .ok (.getfield 57, 3) := by decide +kernel
theorem dX9_count_108 : decode cX9_count 108 = .ok (.invokevirtual 213, 3) := by decide +kernel
theorem dX9_count_111 : decode cX9_count 111 = .ok (.ireturn, 1) := by decide +kernel
theorem dX9_count_112 : decode cX9_count 112 = .ok (.bipush (-102), 2) := by decide +kernel
theorem dX9_count_114 : decode cX9_count 114 = .ok (.ireturn, 1) := by decide +kernel
theorem dX9_digest_0 : decode cX9_digest 0 = .ok (.ldc2_w 274, 3) := by decide +kernel
theorem dX9_digest_3 : decode cX9_digest 3 = .ok (.lstore_n 1, 1) := by decide +kernel
theorem dX9_digest_4 : decode cX9_digest 4 = .ok (.iconst 1, 1) := by decide +kernel
theorem dX9_digest_5 : decode cX9_digest 5 = .ok (.istore_n 3, 1) := by decide +kernel
theorem dX9_digest_6 : decode cX9_digest 6 = .ok (.iload_n 3, 1) := by decide +kernel
theorem dX9_digest_7 : decode cX9_digest 7 = .ok (.sipush 1000, 3) := by decide +kernel
theorem dX9_digest_10 : decode cX9_digest 10 = .ok (.if_icmp .gt 22, 3) := by decide +kernel
theorem dX9_digest_13 : decode cX9_digest 13 = .ok (.lload_n 1, 1) := by decide +kernel
theorem dX9_digest_14 : decode cX9_digest 14 = .ok (.aload_n 0, 1) := by decide +kernel
theorem dX9_digest_15 : decode cX9_digest 15 = .ok (.iload_n 3, 1) := by decide +kernel
theorem dX9_digest_16 : decode cX9_digest 16 = .ok (.invokevirtual 276, 3) := by decide +kernel
theorem dX9_digest_19 : decode cX9_digest 19 = .ok (.i2l, 1) := by decide +kernel
theorem dX9_digest_20 : decode cX9_digest 20 = .ok (.invokestatic 279, 3) := by decide +kernel
theorem dX9_digest_23 : decode cX9_digest 23 = .ok (.lstore_n 1, 1) := by decide +kernel
theorem dX9_digest_24 : decode cX9_digest 24 = .ok (.iload_n 3, 1) := by decide +kernel
theorem dX9_digest_25 : decode cX9_digest 25 = .ok (.bipush 10, 2) := by decide +kernel
theorem dX9_digest_27 : decode cX9_digest 27 = .ok (.imul, 1) := by decide +kernel
theorem dX9_digest_28 : decode cX9_digest 28 = .ok (.istore_n 3, 1) := by decide +kernel
theorem dX9_digest_29 : decode cX9_digest 29 = .ok (.goto (-23), 3) := by decide +kernel
theorem dX9_digest_32 : decode cX9_digest 32 = .ok (.iconst 0, 1) := by decide +kernel
theorem dX9_digest_33 : decode cX9_digest 33 = .ok (.istore_n 3, 1) := by decide +kernel
theorem dX9_digest_34 : decode cX9_digest 34 = .ok (.iload_n 3, 1) := by decide +kernel
theorem dX9_digest_35 : decode cX9_digest 35 = .ok (.aload_n 0, 1) := by decide +kernel
theorem dX9_digest_36 : decode cX9_digest 36 = .ok (.getfield 26, 3) := by decide +kernel
theorem dX9_digest_39 : decode cX9_digest 39 = .ok (.invokevirtual 114, 3) := by decide +kernel
theorem dX9_digest_42 : decode cX9_digest 42 = .ok (.if_icmp .ge 35, 3) := by decide +kernel
theorem dX9_digest_45 : decode cX9_digest 45 = .ok (.lload_n 1, 1) := by decide +kernel
theorem dX9_digest_46 : decode cX9_digest 46 = .ok (.aload_n 0, 1) := by decide +kernel
theorem dX9_digest_47 : decode cX9_digest 47 = .ok (.getfield 26, 3) := by decide +kernel
theorem dX9_digest_50 : decode cX9_digest 50 = .ok (.iload_n 3, 1) := by decide +kernel
theorem dX9_digest_51 : decode cX9_digest 51 = .ok (.invokevirtual 131, 3) := by decide +kernel
theorem dX9_digest_54 : decode cX9_digest 54 = .ok (.i2l, 1) := by decide +kernel
theorem dX9_digest_55 : decode cX9_digest 55 = .ok (.invokestatic 279, 3) := by decide +kernel
theorem dX9_digest_58 : decode cX9_digest 58 = .ok (.aload_n 0, 1) := by decide +kernel
theorem dX9_digest_59 : decode cX9_digest 59 = .ok (.getfield 26, 3) := by decide +kernel
theorem dX9_digest_62 : decode cX9_digest 62 = .ok (.iload_n 3, 1) := by decide +kernel
theorem dX9_digest_63 : decode cX9_digest 63 = .ok (.invokevirtual 134, 3) := by decide +kernel
theorem dX9_digest_66 : decode cX9_digest 66 = .ok (.i2l, 1) := by decide +kernel
theorem dX9_digest_67 : decode cX9_digest 67 = .ok (.invokestatic 279, 3) := by decide +kernel
theorem dX9_digest_70 : decode cX9_digest 70 = .ok (.lstore_n 1, 1) := by decide +kernel
theorem dX9_digest_71 : decode cX9_digest 71 = .ok (.iinc 3 1, 3) := by decide +kernel
theorem dX9_digest_74 : decode cX9_digest 74 = .ok (.goto (-40), 3) := by decide +kernel
theorem dX9_digest_77 : decode cX9_digest 77 = .ok (.aload_n 0, 1) := by decide +kernel
theorem dX9_digest_78 : decode cX9_digest 78 = .ok (.lload_n 1, 1) := by decide +kernel
theorem dX9_digest_79 : decode cX9_digest 79 = .ok (.invokevirtual 282, 3) := by decide +kernel
theorem dX9_digest_82 : decode cX9_digest 82 = .ok (.lstore_n 1, 1) := by decide +kernel
theorem dX9_digest_83 : decode cX9_digest 83 = .ok (.aload_n 0, 1) := by decide +kernel
theorem dX9_digest_84 : decode cX9_digest 84 = .ok (.getfield 33, 3) := by decide +kernel
theorem dX9_digest_87 : decode cX9_digest 87 = .ok (.invokevirtual 195, 3) := by decide +kernel
theorem dX9_digest_90 : decode cX9_digest 90 = .ok (.iconst 2, 1) := by decide +kernel
theorem dX9_digest_91 : decode cX9_digest 91 = .ok (.if_icmp .lt 17, 3) := by decide +kernel
theorem dX9_digest_94 : decode cX9_digest 94 = .ok (.lload_n 1, 1) := by decide +kernel
theorem dX9_digest_95 : decode cX9_digest 95 = .ok (.aload_n 0, 1) := by decide +kernel
theorem dX9_digest_96 : decode cX9_digest 96 = .ok (.iconst 0, 1) := by decide +kernel
theorem dX9_digest_97 : decode cX9_digest 97 = .ok (.iconst 3, 1) := by decide +kernel
theorem dX9_digest_98 : decode cX9_digest 98 = .ok (.iconst 1, 1) := by decide +kernel
theorem dX9_digest_99 : decode cX9_digest 99 = .ok (.iconst 4, 1) := by decide +kernel
theorem dX9_digest_100 : decode cX9_digest 100 = .ok (.invokevirtual 286, 3) := by decide +kernel
theorem dX9_digest_103 : decode cX9_digest 103 = .ok (.i2l, 1) := by decide +kernel
theorem dX9_digest_104 : decode cX9_digest 104 = .ok (.invokestatic 279, 3) := by decide +kernel
theorem dX9_digest_107 : decode cX9_digest 107 = .ok (.lstore_n 1, 1) := by decide +kernel
theorem dX9_digest_108 : decode cX9_digest 108 = .ok (.iconst 0, 1) := by decide +kernel
theorem dX9_digest_109 : decode cX9_digest 109 = .ok (.istore_n 3, 1) := by decide +kernel
theorem dX9_digest_110 : decode cX9_digest 110 = .ok (.iload_n 3, 1) := by decide +kernel
theorem dX9_digest_111 : decode cX9_digest 111 = .ok (.aload_n 0, 1) := by decide +kernel
theorem dX9_digest_112 : decode cX9_digest 112 = .ok (.getfield 33, 3) := by decide +kernel
theorem dX9_digest_115 : decode cX9_digest 115 = .ok (.invokevirtual 195, 3) := by decide +kernel
theorem dX9_digest_118 : decode cX9_digest 118 = .ok (.if_icmp .ge 20, 3) := by decide +kernel
theorem dX9_digest_121 : decode cX9_digest 121 = .ok (.lload_n 1, 1) := by decide +kernel
theorem dX9_digest_122 : decode cX9_digest 122 = .ok (.aload_n 0, 1) := by decide +kernel
theorem dX9_digest_123 : decode cX9_digest 123 = .ok (.iload_n 3, 1) := by decide +kernel
theorem dX9_digest_124 : decode cX9_digest 124 = .ok (.invokevirtual 290, 3) := by decide +kernel
theorem dX9_digest_127 : decode cX9_digest 127 = .ok (.i2l, 1) := by decide +kernel
theorem dX9_digest_128 : decode cX9_digest 128 = .ok (.invokestatic 279, 3) := by decide +kernel
theorem dX9_digest_131 : decode cX9_digest 131 = .ok (.lstore_n 1, 1) := by decide +kernel
theorem dX9_digest_132 : decode cX9_digest 132 = .ok (.iinc 3 1, 3) := by decide +kernel
theorem dX9_digest_135 : decode cX9_digest 135 = .ok (.goto (-25), 3) := by decide +kernel
theorem dX9_digest_138 : decode cX9_digest 138 = .ok (.lload_n 1, 1) := by decide +kernel
theorem dX9_digest_139 : decode cX9_digest 139 = .ok (.aload_n 0, 1) := by decide +kernel
theorem dX9_digest_140 : decode cX9_digest 140 = .ok (.iconst 3, 1) := by decide +kernel
theorem dX9_digest_141 : decode cX9_digest 141 = .ok (.iconst 5, 1) := by decide +kernel
theorem dX9_digest_142 : decode cX9_digest 142 = .ok (.bipush 20, 2) := by decide +kernel
theorem dX9_digest_144 : decode cX9_digest 144 = .ok (.invokevirtual 293, 3) := by decide +kernel
theorem dX9_digest_147 : decode cX9_digest 147 = .ok (.i2l, 1) := by decide +kernel
theorem dX9_digest_148 : decode cX9_digest 148 = .ok (.invokestatic 279, 3) := by decide +kernel
theorem dX9_digest_151 : decode cX9_digest 151 = .ok (.lstore_n 1, 1) := by decide +kernel
theorem dX9_digest_152 : decode cX9_digest 152 = .ok (.iconst 0, 1) := by decide +kernel
theorem dX9_digest_153 : decode cX9_digest 153 = .ok (.istore_n 3, 1) := by decide +kernel
theorem dX9_digest_154 : decode cX9_digest 154 = .ok (.iload_n 3, 1) := by decide +kernel
theorem dX9_digest_155 : decode cX9_digest 155 = .ok (.aload_n 0, 1) := by decide +kernel
theorem dX9_digest_156 : decode cX9_digest 156 = .ok (.getfield 10, 3) := by decide +kernel
theorem dX9_digest_159 : decode cX9_digest 159 = .ok (.invokevirtual 87, 3) := by decide +kernel
theorem dX9_digest_162 : decode cX9_digest 162 = .ok (.if_icmp .ge 23, 3) := by decide +kernel
theorem dX9_digest_165 : decode cX9_digest 165 = .ok (.lload_n 1, 1) := by decide +kernel
theorem dX9_digest_166 : decode cX9_digest 166 = .ok (.aload_n 0, 1) := by decide +kernel
theorem dX9_digest_167 : decode cX9_digest 167 = .ok (.getfield 10, 3) := by decide +kernel
theorem dX9_digest_170 : decode cX9_digest 170 = .ok (.iload_n 3, 1) := by decide +kernel
theorem dX9_digest_171 : decode cX9_digest 171 = .ok (.invokevirtual 296, 3) := by decide +kernel
theorem dX9_digest_174 : decode cX9_digest 174 = .ok (.i2l, 1) := by decide +kernel
theorem dX9_digest_175 : decode cX9_digest 175 = .ok (.invokestatic 279, 3) := by decide +kernel
theorem dX9_digest_178 : decode cX9_digest 178 = .ok (.lstore_n 1, 1) := by decide +kernel
theorem dX9_digest_179 : decode cX9_digest 179 = .ok (.iinc 3 1, 3) := by decide +kernel
theorem dX9_digest_182 : decode cX9_digest 182 = .ok (.goto (-28), 3) := by decide +kernel
theorem dX9_digest_185 : decode cX9_digest 185 = .ok (.iconst 0, 1) := by decide +kernel
theorem dX9_digest_186 : decode cX9_digest 186 = .ok (.istore_n 3, 1) := by decide +kernel
theorem dX9_digest_187 : decode cX9_digest 187 = .ok (.iload_n 3, 1) := by decide +kernel
theorem dX9_digest_188 : decode cX9_digest 188 = .ok (.bipush 7, 2) := by decide +kernel
theorem dX9_digest_190 : decode cX9_digest 190 = .ok (.if_icmp .gt 20, 3) := by decide +kernel
theorem dX9_digest_193 : decode cX9_digest 193 = .ok (.lload_n 1, 1) := by decide +kernel
theorem dX9_digest_194 : decode cX9_digest 194 = .ok (.aload_n 0, 1) := by decide +kernel
theorem dX9_digest_195 : decode cX9_digest 195 = .ok (.iload_n 3, 1) := by decide +kernel
theorem dX9_digest_196 : decode cX9_digest 196 = .ok (.invokevirtual 299, 3) := by decide +kernel
theorem dX9_digest_199 : decode cX9_digest 199 = .ok (.i2l, 1) := by decide +kernel
theorem dX9_digest_200 : decode cX9_digest 200 = .ok (.invokestatic 279, 3) := by decide +kernel
theorem dX9_digest_203 : decode cX9_digest 203 = .ok (.lstore_n 1, 1) := by decide +kernel
theorem dX9_digest_204 : decode cX9_digest 204 = .ok (.iinc 3 1, 3) := by decide +kernel
theorem dX9_digest_207 : decode cX9_digest 207 = .ok (.goto (-20), 3) := by decide +kernel
theorem dX9_digest_210 : decode cX9_digest 210 = .ok (.lload_n 1, 1) := by decide +kernel
theorem dX9_digest_211 : decode cX9_digest 211 = .ok (.lreturn, 1) := by decide +kernel
theorem dX9_isWithin_0 : decode cX9_isWithin 0 = .ok (.iload_n 0, 1) := by decide +kernel
theorem dX9_isWithin_1 : decode cX9_isWithin 1 = .ok (.iload_n 1, 1) := by decide +kernel
theorem dX9_isWithin_2 : decode cX9_isWithin 2 = .ok (.if_icmp .lt 12, 3) := by decide +kernel
theorem dX9_isWithin_5 : decode cX9_isWithin 5 = .ok (.iload_n 0, 1) := by decide +kernel
theorem dX9_isWithin_6 : decode cX9_isWithin 6 = .ok (.iload_n 2, 1) := by decide +kernel
theorem dX9_isWithin_7 : decode cX9_isWithin 7 = .ok (.if_icmp .gt 7, 3) := by decide +kernel
theorem dX9_isWithin_10 : decode cX9_isWithin 10 = .ok (.iconst 1, 1) := by decide +kernel
theorem dX9_isWithin_11 : decode cX9_isWithin 11 = .ok (.goto 4, 3) := by decide +kernel
theorem dX9_isWithin_14 : decode cX9_isWithin 14 = .ok (.iconst 0, 1) := by decide +kernel
theorem dX9_isWithin_15 : decode cX9_isWithin 15 = .ok (.ireturn, 1) := by decide +kernel
theorem dX9_isSize_0 : decode cX9_isSize 0 = .ok (.iload_n 0, 1) := by decide +kernel
theorem dX9_isSize_1 : decode cX9_isSize 1 = .ok (.iconst 0, 1) := by decide +kernel
theorem dX9_isSize_2 : decode cX9_isSize 2 = .ok (.sipush 9999, 3) := by decide +kernel
theorem dX9_isSize_5 : decode cX9_isSize 5 = .ok (.invokestatic 127, 3) := by decide +kernel
theorem dX9_isSize_8 : decode cX9_isSize 8 = .ok (.ireturn, 1) := by decide +kernel
theorem dX9_isTale_0 : decode cX9_isTale 0 = .ok (.iload_n 0, 1) := by decide +kernel
theorem dX9_isTale_1 : decode cX9_isTale 1 = .ok (.iconst 0, 1) := by decide +kernel
theorem dX9_isTale_2 : decode cX9_isTale 2 = .ok (.iconst 3, 1) := by decide +kernel
theorem dX9_isTale_3 : decode cX9_isTale 3 = .ok (.invokestatic 127, 3) := by decide +kernel
theorem dX9_isTale_6 : decode cX9_isTale 6 = .ok (.ireturn, 1) := by decide +kernel
theorem dX9_isKind_0 : decode cX9_isKind 0 = .ok (.iload_n 0, 1) := by decide +kernel
theorem dX9_isKind_1 : decode cX9_isKind 1 = .ok (.iconst 0, 1) := by decide +kernel
theorem dX9_isKind_2 : decode cX9_isKind 2 = .ok (.iconst 3, 1) := by decide +kernel
theorem dX9_isKind_3 : decode cX9_isKind 3 = .ok (.invokestatic 127, 3) := by decide +kernel
theorem dX9_isKind_6 : decode cX9_isKind 6 = .ok (.ireturn, 1) := by decide +kernel
theorem dX9_isSuch_0 : decode cX9_isSuch 0 = .ok (.iload_n 1, 1) := by decide +kernel
theorem dX9_isSuch_1 : decode cX9_isSuch 1 = .ok (.ifCond .eq 18, 3) := by decide +kernel
theorem dX9_isSuch_4 : decode cX9_isSuch 4 = .ok (.iload_n 1, 1) := by decide +kernel
theorem dX9_isSuch_5 : decode cX9_isSuch 5 = .ok (.iload_n 0, 1) := by decide +kernel
theorem dX9_isSuch_6 : decode cX9_isSuch 6 = .ok (.if_icmp .eq 13, 3) := by decide +kernel
theorem dX9_isSuch_9 : decode cX9_isSuch 9 = .ok (.iload_n 1, 1) := by decide +kernel
theorem dX9_isSuch_10 : decode cX9_isSuch 10 = .ok (.iconst 1, 1) := by decide +kernel
theorem dX9_isSuch_11 : decode cX9_isSuch 11 = .ok (.if_icmp .ne 12, 3) := by decide +kernel
theorem dX9_isSuch_14 : decode cX9_isSuch 14 = .ok (.iload_n 0, 1) := by decide +kernel
theorem dX9_isSuch_15 : decode cX9_isSuch 15 = .ok (.iconst 2, 1) := by decide +kernel
theorem dX9_isSuch_16 : decode cX9_isSuch 16 = .ok (.if_icmp .ne 7, 3) := by decide +kernel
theorem dX9_isSuch_19 : decode cX9_isSuch 19 = .ok (.iconst 1, 1) := by decide +kernel
theorem dX9_isSuch_20 : decode cX9_isSuch 20 = .ok (.goto 4, 3) := by decide +kernel
theorem dX9_isSuch_23 : decode cX9_isSuch 23 = .ok (.iconst 0, 1) := by decide +kernel
theorem dX9_isSuch_24 : decode cX9_isSuch 24 = .ok (.ireturn, 1) := by decide +kernel
theorem dX9_mixed_0 : decode cX9_mixed 0 = .ok (.ldc2_w 302, 3) := by decide +kernel
theorem dX9_mixed_3 : decode cX9_mixed 3 = .ok (.lload_n 0, 1) := by decide +kernel
theorem dX9_mixed_4 : decode cX9_mixed 4 = .ok (.lmul, 1) := by decide +kernel
theorem dX9_mixed_5 : decode cX9_mixed 5 = .ok (.lload_n 2, 1) := by decide +kernel
theorem dX9_mixed_6 : decode cX9_mixed 6 = .ok (.ladd, 1) := by decide +kernel
theorem dX9_mixed_7 : decode cX9_mixed 7 = .ok (.lreturn, 1) := by decide +kernel
theorem dX9_peopleMixed_0 : decode cX9_peopleMixed 0 = .ok (.lload_n 1, 1) := by decide +kernel
theorem dX9_peopleMixed_1 : decode cX9_peopleMixed 1 = .ok (.lstore_n 3, 1) := by decide +kernel
theorem dX9_peopleMixed_2 : decode cX9_peopleMixed 2 = .ok (.iconst 0, 1) := by decide +kernel
theorem dX9_peopleMixed_3 : decode cX9_peopleMixed 3 = .ok (.istore 5, 2) := by decide +kernel
theorem dX9_peopleMixed_5 : decode cX9_peopleMixed 5 = .ok (.iload 5, 2) := by decide +kernel
theorem dX9_peopleMixed_7 : decode cX9_peopleMixed 7 = .ok (.aload_n 0, 1) := by decide +kernel
theorem dX9_peopleMixed_8 : decode cX9_peopleMixed 8 = .ok (.getfield 33, 3) := by decide +kernel
theorem dX9_peopleMixed_11 : decode cX9_peopleMixed 11 = .ok (.invokevirtual 195, 3) := by decide +kernel
theorem dX9_peopleMixed_14 : decode cX9_peopleMixed 14 = .ok (.if_icmp .ge 74, 3) := by decide +kernel
theorem dX9_peopleMixed_17 : decode cX9_peopleMixed 17 = .ok (.lload_n 3, 1) := by decide +kernel
theorem dX9_peopleMixed_18 : decode cX9_peopleMixed 18 = .ok (.aload_n 0, 1) := by decide +kernel
theorem dX9_peopleMixed_19 : decode cX9_peopleMixed 19 = .ok (.iload 5, 2) := by decide +kernel
theorem dX9_peopleMixed_21 : decode cX9_peopleMixed 21 = .ok (.invokevirtual 304, 3) := by decide +kernel
theorem dX9_peopleMixed_24 : decode cX9_peopleMixed 24 = .ok (.i2l, 1) := by decide +kernel
theorem dX9_peopleMixed_25 : decode cX9_peopleMixed 25 = .ok (.invokestatic 279, 3) := by decide +kernel
theorem dX9_peopleMixed_28 : decode cX9_peopleMixed 28 = .ok (.aload_n 0, 1) := by decide +kernel
theorem dX9_peopleMixed_29 : decode cX9_peopleMixed 29 = .ok (.iload 5, 2) := by decide +kernel
theorem dX9_peopleMixed_31 : decode cX9_peopleMixed 31 = .ok (.bipush 10, 2) := by decide +kernel
theorem dX9_peopleMixed_33 : decode cX9_peopleMixed 33 = .ok (.invokevirtual 307, 3) := by decide +kernel
theorem dX9_peopleMixed_36 : decode cX9_peopleMixed 36 = .ok (.i2l, 1) := by decide +kernel
theorem dX9_peopleMixed_37 : decode cX9_peopleMixed 37 = .ok (.invokestatic 279, 3) := by decide +kernel
theorem dX9_peopleMixed_40 : decode cX9_peopleMixed 40 = .ok (.lstore_n 3, 1) := by decide +kernel
theorem dX9_peopleMixed_41 : decode cX9_peopleMixed 41 = .ok (.iconst 0, 1) := by decide +kernel
theorem dX9_peopleMixed_42 : decode cX9_peopleMixed 42 = .ok (.istore 6, 2) := by decide +kernel
theorem dX9_peopleMixed_44 : decode cX9_peopleMixed 44 = .ok (.iload 6, 2) := by decide +kernel
theorem dX9_peopleMixed_46 : decode cX9_peopleMixed 46 = .ok (.iconst 4, 1) := by decide +kernel
theorem dX9_peopleMixed_47 : decode cX9_peopleMixed 47 = .ok (.if_icmp .ge 35, 3) := by decide +kernel
theorem dX9_peopleMixed_50 : decode cX9_peopleMixed 50 = .ok (.lload_n 3, 1) := by decide +kernel
theorem dX9_peopleMixed_51 : decode cX9_peopleMixed 51 = .ok (.aload_n 0, 1) := by decide +kernel
theorem dX9_peopleMixed_52 : decode cX9_peopleMixed 52 = .ok (.iload 5, 2) := by decide +kernel
theorem dX9_peopleMixed_54 : decode cX9_peopleMixed 54 = .ok (.iload 6, 2) := by decide +kernel
theorem dX9_peopleMixed_56 : decode cX9_peopleMixed 56 = .ok (.invokevirtual 310, 3) := by decide +kernel
theorem dX9_peopleMixed_59 : decode cX9_peopleMixed 59 = .ok (.i2l, 1) := by decide +kernel
theorem dX9_peopleMixed_60 : decode cX9_peopleMixed 60 = .ok (.invokestatic 279, 3) := by decide +kernel
theorem dX9_peopleMixed_63 : decode cX9_peopleMixed 63 = .ok (.aload_n 0, 1) := by decide +kernel
theorem dX9_peopleMixed_64 : decode cX9_peopleMixed 64 = .ok (.iload 5, 2) := by decide +kernel
theorem dX9_peopleMixed_66 : decode cX9_peopleMixed 66 = .ok (.iload 6, 2) := by decide +kernel
theorem dX9_peopleMixed_68 : decode cX9_peopleMixed 68 = .ok (.invokevirtual 313, 3) := by decide +kernel
theorem dX9_peopleMixed_71 : decode cX9_peopleMixed 71 = .ok (.i2l, 1) := by decide +kernel
theorem dX9_peopleMixed_72 : decode cX9_peopleMixed 72 = .ok (.invokestatic 279, 3) := by decide +kernel
theorem dX9_peopleMixed_75 : decode cX9_peopleMixed 75 = .ok (.lstore_n 3, 1) := by decide +kernel
theorem dX9_peopleMixed_76 : decode cX9_peopleMixed 76 = .ok (.iinc 6 1, 3) := by decide +kernel
theorem dX9_peopleMixed_79 : decode cX9_peopleMixed 79 = .ok (.goto (-35), 3) := by decide +kernel
theorem dX9_peopleMixed_82 : decode cX9_peopleMixed 82 = .ok (.iinc 5 1, 3) := by decide +kernel
theorem dX9_peopleMixed_85 : decode cX9_peopleMixed 85 = .ok (.goto (-80), 3) := by decide +kernel
theorem dX9_peopleMixed_88 : decode cX9_peopleMixed 88 = .ok (.lload_n 3, 1) := by decide +kernel
theorem dX9_peopleMixed_89 : decode cX9_peopleMixed 89 = .ok (.lreturn, 1) := by decide +kernel
theorem dX9_spread_0 : decode cX9_spread 0 = .ok (.aload_n 0, 1) := by decide +kernel
theorem dX9_spread_1 : decode cX9_spread 1 = .ok (.getfield 43, 3) := by decide +kernel
theorem dX9_spread_4 : decode cX9_spread 4 = .ok (.iload_n 1, 1) := by decide +kernel
theorem dX9_spread_5 : decode cX9_spread 5 = .ok (.iload_n 2, 1) := by decide +kernel
theorem dX9_spread_6 : decode cX9_spread 6 = .ok (.invokevirtual 316, 3) := by decide +kernel
theorem dX9_spread_9 : decode cX9_spread 9 = .ok (.iconst 0, 1) := by decide +kernel
theorem dX9_spread_10 : decode cX9_spread 10 = .ok (.istore 4, 2) := by decide +kernel
theorem dX9_spread_12 : decode cX9_spread 12 = .ok (.iload 4, 2) := by decide +kernel
theorem dX9_spread_14 : decode cX9_spread 14 = .ok (.aload_n 0, 1) := by decide +kernel
theorem dX9_spread_15 : decode cX9_spread 15 = .ok (.getfield 26, 3) := by decide +kernel
theorem dX9_spread_18 : decode cX9_spread 18 = .ok (.invokevirtual 114, 3) := by decide +kernel
theorem dX9_spread_21 : decode cX9_spread 21 = .ok (.if_icmp .ge 72, 3) := by decide +kernel
theorem dX9_spread_24 : decode cX9_spread 24 = .ok (.aload_n 0, 1) := by decide +kernel
theorem dX9_spread_25 : decode cX9_spread 25 = .ok (.getfield 26, 3) := by decide +kernel
theorem dX9_spread_28 : decode cX9_spread 28 = .ok (.iload 4, 2) := by decide +kernel
theorem dX9_spread_30 : decode cX9_spread 30 = .ok (.invokevirtual 131, 3) := by decide +kernel
theorem dX9_spread_33 : decode cX9_spread 33 = .ok (.istore 5, 2) := by decide +kernel
theorem dX9_spread_35 : decode cX9_spread 35 = .ok (.aload_n 0, 1) := by decide +kernel
theorem dX9_spread_36 : decode cX9_spread 36 = .ok (.getfield 26, 3) := by decide +kernel
theorem dX9_spread_39 : decode cX9_spread 39 = .ok (.iload 4, 2) := by decide +kernel
theorem dX9_spread_41 : decode cX9_spread 41 = .ok (.invokevirtual 134, 3) := by decide +kernel
theorem dX9_spread_44 : decode cX9_spread 44 = .ok (.istore 6, 2) := by decide +kernel
theorem dX9_spread_46 : decode cX9_spread 46 = .ok (.aload_n 0, 1) := by decide +kernel
theorem dX9_spread_47 : decode cX9_spread 47 = .ok (.getfield 33, 3) := by decide +kernel
theorem dX9_spread_50 : decode cX9_spread 50 = .ok (.iload 5, 2) := by decide +kernel
theorem dX9_spread_52 : decode cX9_spread 52 = .ok (.iload 6, 2) := by decide +kernel
theorem dX9_spread_54 : decode cX9_spread 54 = .ok (.invokevirtual 159, 3) := by decide +kernel
theorem dX9_spread_57 : decode cX9_spread 57 = .ok (.ifCond .eq 30, 3) := by decide +kernel
theorem dX9_spread_60 : decode cX9_spread 60 = .ok (.aload_n 0, 1) := by decide +kernel
theorem dX9_spread_61 : decode cX9_spread 61 = .ok (.iload 5, 2) := by decide +kernel
theorem dX9_spread_63 : decode cX9_spread 63 = .ok (.iload 6, 2) := by decide +kernel
theorem dX9_spread_65 : decode cX9_spread 65 = .ok (.iload 5, 2) := by decide +kernel
theorem dX9_spread_67 : decode cX9_spread 67 = .ok (.iload_n 3, 1) := by decide +kernel
theorem dX9_spread_68 : decode cX9_spread 68 = .ok (.if_icmp .ne 7, 3) := by decide +kernel
theorem dX9_spread_71 : decode cX9_spread 71 = .ok (.iconst 1, 1) := by decide +kernel
theorem dX9_spread_72 : decode cX9_spread 72 = .ok (.goto 12, 3) := by decide +kernel
theorem dX9_spread_75 : decode cX9_spread 75 = .ok (.aload_n 0, 1) := by decide +kernel
theorem dX9_spread_76 : decode cX9_spread 76 = .ok (.getfield 33, 3) := by decide +kernel
theorem dX9_spread_79 : decode cX9_spread 79 = .ok (.iload 5, 2) := by decide +kernel
theorem dX9_spread_81 : decode cX9_spread 81 = .ok (.invokevirtual 148, 3) := by decide +kernel
theorem dX9_spread_84 : decode cX9_spread 84 = .ok (.invokevirtual 319, 3) := by decide +kernel
theorem dX9_spread_87 : decode cX9_spread 87 = .ok (.iinc 4 1, 3) := by decide +kernel
theorem dX9_spread_90 : decode cX9_spread 90 = .ok (.goto (-78), 3) := by decide +kernel
theorem dX9_spread_93 : decode cX9_spread 93 = .ok (.return_, 1) := by decide +kernel
theorem dX9_tellOn_0 : decode cX9_tellOn 0 = .ok (.aload_n 0, 1) := by decide +kernel
theorem dX9_tellOn_1 : decode cX9_tellOn 1 = .ok (.getfield 43, 3) := by decide +kernel
theorem dX9_tellOn_4 : decode cX9_tellOn 4 = .ok (.iload_n 1, 1) := by decide +kernel
theorem dX9_tellOn_5 : decode cX9_tellOn 5 = .ok (.invokevirtual 186, 3) := by decide +kernel
theorem dX9_tellOn_8 : decode cX9_tellOn 8 = .ok (.istore 4, 2) := by decide +kernel
theorem dX9_tellOn_10 : decode cX9_tellOn 10 = .ok (.iload 4, 2) := by decide +kernel
theorem dX9_tellOn_12 : decode cX9_tellOn 12 = .ok (.iconst (-1), 1) := by decide +kernel
theorem dX9_tellOn_13 : decode cX9_tellOn 13 = .ok (.if_icmp .eq 22, 3) := by decide +kernel
theorem dX9_tellOn_16 : decode cX9_tellOn 16 = .ok (.aload_n 0, 1) := by decide +kernel
theorem dX9_tellOn_17 : decode cX9_tellOn 17 = .ok (.getfield 43, 3) := by decide +kernel
theorem dX9_tellOn_20 : decode cX9_tellOn 20 = .ok (.iload_n 2, 1) := by decide +kernel
theorem dX9_tellOn_21 : decode cX9_tellOn 21 = .ok (.aload_n 0, 1) := by decide +kernel
theorem dX9_tellOn_22 : decode cX9_tellOn 22 = .ok (.getfield 19, 3) := by decide +kernel
theorem dX9_tellOn_25 : decode cX9_tellOn 25 = .ok (.iload_n 3, 1) := by decide +kernel
theorem dX9_tellOn_26 : decode cX9_tellOn 26 = .ok (.iload 4, 2) := by decide +kernel
theorem dX9_tellOn_28 : decode cX9_tellOn 28 = .ok (.invokevirtual 155, 3) := by decide +kernel
theorem dX9_tellOn_31 : decode cX9_tellOn 31 = .ok (.iload_n 1, 1) := by decide +kernel
theorem dX9_tellOn_32 : decode cX9_tellOn 32 = .ok (.invokevirtual 322, 3) := by decide +kernel
theorem dX9_tellOn_35 : decode cX9_tellOn 35 = .ok (.return_, 1) := by decide +kernel
theorem dX9_firstsBelow_0 : decode cX9_firstsBelow 0 = .ok (.iconst 0, 1) := by decide +kernel
theorem dX9_firstsBelow_1 : decode cX9_firstsBelow 1 = .ok (.istore 4, 2) := by decide +kernel
theorem dX9_firstsBelow_3 : decode cX9_firstsBelow 3 = .ok (.sipush 512, 3) := by decide +kernel
theorem dX9_firstsBelow_6 : decode cX9_firstsBelow 6 = .ok (.istore 5, 2) := by decide +kernel
theorem dX9_firstsBelow_8 : decode cX9_firstsBelow 8 = .ok (.iload 5, 2) := by decide +kernel
theorem dX9_firstsBelow_10 : decode cX9_firstsBelow 10 = .ok (.ifCond .le 58, 3) := by decide +kernel
theorem dX9_firstsBelow_13 : decode cX9_firstsBelow 13 = .ok (.iload 4, 2) := by decide +kernel
theorem dX9_firstsBelow_15 : decode cX9_firstsBelow 15 = .ok (.iload 5, 2) := by decide +kernel
theorem dX9_firstsBelow_17 : decode cX9_firstsBelow 17 = .ok (.iadd, 1) := by decide +kernel
theorem dX9_firstsBelow_18 : decode cX9_firstsBelow 18 = .ok (.istore 6, 2) := by decide +kernel
theorem dX9_firstsBelow_20 : decode cX9_firstsBelow 20 = .ok (.iload 6, 2) := by decide +kernel
theorem dX9_firstsBelow_22 : decode cX9_firstsBelow 22 = .ok (.sipush 1000, 3) := by decide +kernel
theorem dX9_firstsBelow_25 : decode cX9_firstsBelow 25 = .ok (.if_icmp .gt 34, 3) := by decide +kernel
theorem dX9_firstsBelow_28 : decode cX9_firstsBelow 28 = .ok (.aload_n 0, 1) := by decide +kernel
theorem dX9_firstsBelow_29 : decode cX9_firstsBelow 29 = .ok (.iload_n 1, 1) := by decide +kernel
theorem dX9_firstsBelow_30 : decode cX9_firstsBelow 30 = .ok (.iload 6, 2) := by decide +kernel
theorem dX9_firstsBelow_32 : decode cX9_firstsBelow 32 = .ok (.iconst 1, 1) := by decide +kernel
theorem dX9_firstsBelow_33 : decode cX9_firstsBelow 33 = .ok (.isub, 1) := by decide +kernel
theorem dX9_firstsBelow_34 : decode cX9_firstsBelow 34 = .ok (.iconst (-1), 1) := by decide +kernel
theorem dX9_firstsBelow_35 : decode cX9_firstsBelow 35 = .ok (.invokevirtual 182, 3) := by decide +kernel
theorem dX9_firstsBelow_38 : decode cX9_firstsBelow 38 = .ok (.aload_n 0, 1) := by decide +kernel
theorem dX9_firstsBelow_39 : decode cX9_firstsBelow 39 = .ok (.getfield 43, 3) := by decide +kernel
theorem dX9_firstsBelow_42 : decode cX9_firstsBelow 42 = .ok (.iload_n 2, 1) := by decide +kernel
theorem dX9_firstsBelow_43 : decode cX9_firstsBelow 43 = .ok (.invokevirtual 186, 3) := by decide +kernel
theorem dX9_firstsBelow_46 : decode cX9_firstsBelow 46 = .ok (.iload_n 3, 1) := by decide +kernel
theorem dX9_firstsBelow_47 : decode cX9_firstsBelow 47 = .ok (.if_icmp .ge 8, 3) := by decide +kernel
theorem dX9_firstsBelow_50 : decode cX9_firstsBelow 50 = .ok (.iload 6, 2) := by decide +kernel
theorem dX9_firstsBelow_52 : decode cX9_firstsBelow 52 = .ok (.goto 5, 3) := by decide +kernel
theorem dX9_firstsBelow_55 : decode cX9_firstsBelow 55 = .ok (.iload 4, 2) := by decide +kernel
theorem dX9_firstsBelow_57 : decode cX9_firstsBelow 57 = .ok (.istore 4, 2) := by decide +kernel
theorem dX9_firstsBelow_59 : decode cX9_firstsBelow 59 = .ok (.iload 5, 2) := by decide +kernel
theorem dX9_firstsBelow_61 : decode cX9_firstsBelow 61 = .ok (.iconst 2, 1) := by decide +kernel
theorem dX9_firstsBelow_62 : decode cX9_firstsBelow 62 = .ok (.idiv, 1) := by decide +kernel
theorem dX9_firstsBelow_63 : decode cX9_firstsBelow 63 = .ok (.istore 5, 2) := by decide +kernel
theorem dX9_firstsBelow_65 : decode cX9_firstsBelow 65 = .ok (.goto (-57), 3) := by decide +kernel
theorem dX9_firstsBelow_68 : decode cX9_firstsBelow 68 = .ok (.iload 4, 2) := by decide +kernel
theorem dX9_firstsBelow_70 : decode cX9_firstsBelow 70 = .ok (.ireturn, 1) := by decide +kernel
theorem dX9_countAlike_0 : decode cX9_countAlike 0 = .ok (.aload_n 0, 1) := by decide +kernel
theorem dX9_countAlike_1 : decode cX9_countAlike 1 = .ok (.getfield 50, 3) := by decide +kernel
theorem dX9_countAlike_4 : decode cX9_countAlike 4 = .ok (.invokevirtual 325, 3) := by decide +kernel
theorem dX9_countAlike_7 : decode cX9_countAlike 7 = .ok (.iconst 1, 1) := by decide +kernel
theorem dX9_countAlike_8 : decode cX9_countAlike 8 = .ok (.istore_n 2, 1) := by decide +kernel
theorem dX9_countAlike_9 : decode cX9_countAlike 9 = .ok (.iload_n 2, 1) := by decide +kernel
theorem dX9_countAlike_10 : decode cX9_countAlike 10 = .ok (.bipush 99, 2) := by decide +kernel
theorem dX9_countAlike_12 : decode cX9_countAlike 12 = .ok (.if_icmp .gt 51, 3) := by decide +kernel
theorem dX9_countAlike_15 : decode cX9_countAlike 15 = .ok (.aload_n 0, 1) := by decide +kernel
theorem dX9_countAlike_16 : decode cX9_countAlike 16 = .ok (.iload_n 1, 1) := by decide +kernel
theorem dX9_countAlike_17 : decode cX9_countAlike 17 = .ok (.iload_n 2, 1) := by decide +kernel
theorem dX9_countAlike_18 : decode cX9_countAlike 18 = .ok (.iconst (-1), 1) := by decide +kernel
theorem dX9_countAlike_19 : decode cX9_countAlike 19 = .ok (.invokevirtual 182, 3) := by decide +kernel
theorem dX9_countAlike_22 : decode cX9_countAlike 22 = .ok (.iconst 0, 1) := by decide +kernel
theorem dX9_countAlike_23 : decode cX9_countAlike 23 = .ok (.istore_n 3, 1) := by decide +kernel
theorem dX9_countAlike_24 : decode cX9_countAlike 24 = .ok (.iload_n 3, 1) := by decide +kernel
theorem dX9_countAlike_25 : decode cX9_countAlike 25 = .ok (.aload_n 0, 1) := by decide +kernel
theorem dX9_countAlike_26 : decode cX9_countAlike 26 = .ok (.getfield 33, 3) := by decide +kernel
theorem dX9_countAlike_29 : decode cX9_countAlike 29 = .ok (.invokevirtual 195, 3) := by decide +kernel
theorem dX9_countAlike_32 : decode cX9_countAlike 32 = .ok (.if_icmp .ge 25, 3) := by decide +kernel
theorem dX9_countAlike_35 : decode cX9_countAlike 35 = .ok (.aload_n 0, 1) := by decide +kernel
theorem dX9_countAlike_36 : decode cX9_countAlike 36 = .ok (.getfield 50, 3) := by decide +kernel
theorem dX9_countAlike_39 : decode cX9_countAlike 39 = .ok (.iload_n 3, 1) := by decide +kernel
theorem dX9_countAlike_40 : decode cX9_countAlike 40 = .ok (.aload_n 0, 1) := by decide +kernel
theorem dX9_countAlike_41 : decode cX9_countAlike 41 = .ok (.getfield 43, 3) := by decide +kernel
theorem dX9_countAlike_44 : decode cX9_countAlike 44 = .ok (.iload_n 3, 1) := by decide +kernel
theorem dX9_countAlike_45 : decode cX9_countAlike 45 = .ok (.invokevirtual 186, 3) := by decide +kernel
theorem dX9_countAlike_48 : decode cX9_countAlike 48 = .ok (.invokevirtual 326, 3) := by decide +kernel
theorem dX9_countAlike_51 : decode cX9_countAlike 51 = .ok (.iinc 3 1, 3) := by decide +kernel
theorem dX9_countAlike_54 : decode cX9_countAlike 54 = .ok (.goto (-30), 3) := by decide +kernel
theorem dX9_countAlike_57 : decode cX9_countAlike 57 = .ok (.iinc 2 1, 3) := by decide +kernel
theorem dX9_countAlike_60 : decode cX9_countAlike 60 = .ok (.goto (-51), 3) := by decide +kernel
theorem dX9_countAlike_63 : decode cX9_countAlike 63 = .ok (.return_, 1) := by decide +kernel
theorem dX9_gossipTaleZero_0 : decode cX9_gossipTaleZero 0 = .ok (.aload_n 0, 1) := by decide +kernel
theorem dX9_gossipTaleZero_1 : decode cX9_gossipTaleZero 1 = .ok (.getfield 43, 3) := by decide +kernel
theorem dX9_gossipTaleZero_4 : decode cX9_gossipTaleZero 4 = .ok (.aload_n 0, 1) := by decide +kernel
theorem dX9_gossipTaleZero_5 : decode cX9_gossipTaleZero 5 = .ok (.getfield 33, 3) := by decide +kernel
theorem dX9_gossipTaleZero_8 : decode cX9_gossipTaleZero 8 = .ok (.iconst 0, 1) := by decide +kernel
theorem dX9_gossipTaleZero_9 : decode cX9_gossipTaleZero 9 = .ok (.invokevirtual 176, 3) := by decide +kernel
theorem dX9_gossipTaleZero_12 : decode cX9_gossipTaleZero 12 = .ok (.aload_n 0, 1) := by decide +kernel
theorem dX9_gossipTaleZero_13 : decode cX9_gossipTaleZero 13 = .ok (.getfield 33, 3) := by decide +kernel
theorem dX9_gossipTaleZero_16 : decode cX9_gossipTaleZero 16 = .ok (.iconst 0, 1) := by decide +kernel
theorem dX9_gossipTaleZero_17 : decode cX9_gossipTaleZero 17 = .ok (.invokevirtual 179, 3) := by decide +kernel
theorem dX9_gossipTaleZero_20 : decode cX9_gossipTaleZero 20 = .ok (.invokevirtual 316, 3) := by decide +kernel
theorem dX9_gossipTaleZero_23 : decode cX9_gossipTaleZero 23 = .ok (.aload_n 0, 1) := by decide +kernel
theorem dX9_gossipTaleZero_24 : decode cX9_gossipTaleZero 24 = .ok (.getfield 71, 3) := by decide +kernel
theorem dX9_gossipTaleZero_27 : decode cX9_gossipTaleZero 27 = .ok (.iload_n 2, 1) := by decide +kernel
theorem dX9_gossipTaleZero_28 : decode cX9_gossipTaleZero 28 = .ok (.invokevirtual 328, 3) := by decide +kernel
theorem dX9_gossipTaleZero_31 : decode cX9_gossipTaleZero 31 = .ok (.iconst 0, 1) := by decide +kernel
theorem dX9_gossipTaleZero_32 : decode cX9_gossipTaleZero 32 = .ok (.istore_n 3, 1) := by decide +kernel
theorem dX9_gossipTaleZero_33 : decode cX9_gossipTaleZero 33 = .ok (.iload_n 3, 1) := by decide +kernel
theorem dX9_gossipTaleZero_34 : decode cX9_gossipTaleZero 34 = .ok (.iload_n 1, 1) := by decide +kernel
theorem dX9_gossipTaleZero_35 : decode cX9_gossipTaleZero 35 = .ok (.if_icmp .ge 74, 3) := by decide +kernel
theorem dX9_gossipTaleZero_38 : decode cX9_gossipTaleZero 38 = .ok (.aload_n 0, 1) := by decide +kernel
theorem dX9_gossipTaleZero_39 : decode cX9_gossipTaleZero 39 = .ok (.getfield 71, 3) := by decide +kernel
theorem dX9_gossipTaleZero_42 : decode cX9_gossipTaleZero 42 = .ok (.aload_n 0, 1) := by decide +kernel
theorem dX9_gossipTaleZero_43 : decode cX9_gossipTaleZero 43 = .ok (.getfield 33, 3) := by decide +kernel
theorem dX9_gossipTaleZero_46 : decode cX9_gossipTaleZero 46 = .ok (.invokevirtual 195, 3) := by decide +kernel
theorem dX9_gossipTaleZero_49 : decode cX9_gossipTaleZero 49 = .ok (.invokevirtual 331, 3) := by decide +kernel
theorem dX9_gossipTaleZero_52 : decode cX9_gossipTaleZero 52 = .ok (.istore 4, 2) := by decide +kernel
theorem dX9_gossipTaleZero_54 : decode cX9_gossipTaleZero 54 = .ok (.aload_n 0, 1) := by decide +kernel
theorem dX9_gossipTaleZero_55 : decode cX9_gossipTaleZero 55 = .ok (.getfield 71, 3) := by decide +kernel
theorem dX9_gossipTaleZero_58 : decode cX9_gossipTaleZero 58 = .ok (.aload_n 0, 1) := by decide +kernel
theorem dX9_gossipTaleZero_59 : decode cX9_gossipTaleZero 59 = .ok (.getfield 33, 3) := by decide +kernel
theorem dX9_gossipTaleZero_62 : decode cX9_gossipTaleZero 62 = .ok (.invokevirtual 195, 3) := by decide +kernel
theorem dX9_gossipTaleZero_65 : decode cX9_gossipTaleZero 65 = .ok (.iconst 1, 1) := by decide +kernel
theorem dX9_gossipTaleZero_66 : decode cX9_gossipTaleZero 66 = .ok (.isub, 1) := by decide +kernel
theorem dX9_gossipTaleZero_67 : decode cX9_gossipTaleZero 67 = .ok (.invokevirtual 331, 3) := by decide +kernel
theorem dX9_gossipTaleZero_70 : decode cX9_gossipTaleZero 70 = .ok (.istore 5, 2) := by decide +kernel
theorem dX9_gossipTaleZero_72 : decode cX9_gossipTaleZero 72 = .ok (.aload_n 0, 1) := by decide +kernel
theorem dX9_gossipTaleZero_73 : decode cX9_gossipTaleZero 73 = .ok (.iload 4, 2) := by decide +kernel
theorem dX9_gossipTaleZero_75 : decode cX9_gossipTaleZero 75 = .ok (.iload 5, 2) := by decide +kernel
theorem dX9_gossipTaleZero_77 : decode cX9_gossipTaleZero 77 = .ok (.iload 4, 2) := by decide +kernel
theorem dX9_gossipTaleZero_79 : decode cX9_gossipTaleZero 79 = .ok (.if_icmp .ge 8, 3) := by decide +kernel
theorem dX9_gossipTaleZero_82 : decode cX9_gossipTaleZero 82 = .ok (.iload 5, 2) := by decide +kernel
theorem dX9_gossipTaleZero_84 : decode cX9_gossipTaleZero 84 = .ok (.goto 7, 3) := by decide +kernel
theorem dX9_gossipTaleZero_87 : decode cX9_gossipTaleZero 87 = .ok (.iload 5, 2) := by decide +kernel
theorem dX9_gossipTaleZero_89 : decode cX9_gossipTaleZero 89 = .ok (.iconst 1, 1) := by decide +kernel
theorem dX9_gossipTaleZero_90 : decode cX9_gossipTaleZero 90 = .ok (.iadd, 1) := by decide +kernel
theorem dX9_gossipTaleZero_91 : decode cX9_gossipTaleZero 91 = .ok (.aload_n 0, 1) := by decide +kernel
theorem dX9_gossipTaleZero_92 : decode cX9_gossipTaleZero 92 = .ok (.getfield 33, 3) := by decide +kernel
theorem dX9_gossipTaleZero_95 : decode cX9_gossipTaleZero 95 = .ok (.iload 4, 2) := by decide +kernel
theorem dX9_gossipTaleZero_97 : decode cX9_gossipTaleZero 97 = .ok (.invokevirtual 148, 3) := by decide +kernel
theorem dX9_gossipTaleZero_100 : decode cX9_gossipTaleZero 100 = .ok (.invokevirtual 319, 3) := by decide +kernel
theorem dX9_gossipTaleZero_103 : decode cX9_gossipTaleZero 103 = .ok (.iinc 3 1, 3) := by decide +kernel
theorem dX9_gossipTaleZero_106 : decode cX9_gossipTaleZero 106 = .ok (.goto (-73), 3) := by decide +kernel
theorem dX9_gossipTaleZero_109 : decode cX9_gossipTaleZero 109 = .ok (.return_, 1) := by decide +kernel
theorem dX9_greatestDivisor_0 : decode cX9_greatestDivisor 0 = .ok (.lload_n 2, 1) := by decide +kernel
theorem dX9_greatestDivisor_1 : decode cX9_greatestDivisor 1 = .ok (.lstore 4, 2) := by decide +kernel
theorem dX9_greatestDivisor_3 : decode cX9_greatestDivisor 3 = .ok (.lload_n 0, 1) := by decide +kernel
theorem dX9_greatestDivisor_4 : decode cX9_greatestDivisor 4 = .ok (.lstore 6, 2) := by decide +kernel
theorem dX9_greatestDivisor_6 : decode cX9_greatestDivisor 6 = .ok (.iconst 0, 1) := by decide +kernel
theorem dX9_greatestDivisor_7 : decode cX9_greatestDivisor 7 = .ok (.istore 8, 2) := by decide +kernel
theorem dX9_greatestDivisor_9 : decode cX9_greatestDivisor 9 = .ok (.iload 8, 2) := by decide +kernel
theorem dX9_greatestDivisor_11 : decode cX9_greatestDivisor 11 = .ok (.sipush 200, 3) := by decide +kernel
theorem dX9_greatestDivisor_14 : decode cX9_greatestDivisor 14 = .ok (.if_icmp .ge 31, 3) := by decide +kernel
theorem dX9_greatestDivisor_17 : decode cX9_greatestDivisor 17 = .ok (.lload 6, 2) := by decide +kernel
theorem dX9_greatestDivisor_19 : decode cX9_greatestDivisor 19 = .ok (.lconst 0, 1) := by decide +kernel
theorem dX9_greatestDivisor_20 : decode cX9_greatestDivisor 20 = .ok (.lcmp, 1) := by decide +kernel
theorem dX9_greatestDivisor_21 : decode cX9_greatestDivisor 21 = .ok (.ifCond .eq 24, 3) := by decide +kernel
theorem dX9_greatestDivisor_24 : decode cX9_greatestDivisor 24 = .ok (.lload 4, 2) := by decide +kernel
theorem dX9_greatestDivisor_26 : decode cX9_greatestDivisor 26 = .ok (.lload 6, 2) := by decide +kernel
theorem dX9_greatestDivisor_28 : decode cX9_greatestDivisor 28 = .ok (.lrem, 1) := by decide +kernel
theorem dX9_greatestDivisor_29 : decode cX9_greatestDivisor 29 = .ok (.lstore 9, 2) := by decide +kernel
theorem dX9_greatestDivisor_31 : decode cX9_greatestDivisor 31 = .ok (.lload 6, 2) := by decide +kernel
theorem dX9_greatestDivisor_33 : decode cX9_greatestDivisor 33 = .ok (.lstore 4, 2) := by decide +kernel
theorem dX9_greatestDivisor_35 : decode cX9_greatestDivisor 35 = .ok (.lload 9, 2) := by decide +kernel
theorem dX9_greatestDivisor_37 : decode cX9_greatestDivisor 37 = .ok (.lstore 6, 2) := by decide +kernel
theorem dX9_greatestDivisor_39 : decode cX9_greatestDivisor 39 = .ok (.iinc 8 1, 3) := by decide +kernel
theorem dX9_greatestDivisor_42 : decode cX9_greatestDivisor 42 = .ok (.goto (-33), 3) := by decide +kernel
theorem dX9_greatestDivisor_45 : decode cX9_greatestDivisor 45 = .ok (.lload 4, 2) := by decide +kernel
theorem dX9_greatestDivisor_47 : decode cX9_greatestDivisor 47 = .ok (.lconst 0, 1) := by decide +kernel
theorem dX9_greatestDivisor_48 : decode cX9_greatestDivisor 48 = .ok (.lcmp, 1) := by decide +kernel
theorem dX9_greatestDivisor_49 : decode cX9_greatestDivisor 49 = .ok (.ifCond .ne 7, 3) := by decide +kernel
theorem dX9_greatestDivisor_52 : decode cX9_greatestDivisor 52 = .ok (.lconst 1, 1) := by decide +kernel
theorem dX9_greatestDivisor_53 : decode cX9_greatestDivisor 53 = .ok (.goto 5, 3) := by decide +kernel
theorem dX9_greatestDivisor_56 : decode cX9_greatestDivisor 56 = .ok (.lload 4, 2) := by decide +kernel
theorem dX9_greatestDivisor_58 : decode cX9_greatestDivisor 58 = .ok (.lreturn, 1) := by decide +kernel
theorem dX10_init_0 : decode cX10_init 0 = .ok (.aload_n 0, 1) := by decide +kernel
theorem dX10_init_1 : decode cX10_init 1 = .ok (.invokespecial 1, 3) := by decide +kernel
theorem dX10_init_4 : decode cX10_init 4 = .ok (.aload_n 0, 1) := by decide +kernel
theorem dX10_init_5 : decode cX10_init 5 = .ok (.iconst 1, 1) := by decide +kernel
theorem dX10_init_6 : decode cX10_init 6 = .ok (.putfield 7, 3) := by decide +kernel
theorem dX10_init_9 : decode cX10_init 9 = .ok (.aload_n 0, 1) := by decide +kernel
theorem dX10_init_10 : decode cX10_init 10 = .ok (.iconst 4, 1) := by decide +kernel
theorem dX10_init_11 : decode cX10_init 11 = .ok (.newarray .int, 2) := by decide +kernel
theorem dX10_init_13 : decode cX10_init 13 = .ok (.putfield 13, 3) := by decide +kernel
theorem dX10_init_16 : decode cX10_init 16 = .ok (.aload_n 0, 1) := by decide +kernel
theorem dX10_init_17 : decode cX10_init 17 = .ok (.iconst 4, 1) := by decide +kernel
theorem dX10_init_18 : decode cX10_init 18 = .ok (.newarray .int, 2) := by decide +kernel
theorem dX10_init_20 : decode cX10_init 20 = .ok (.putfield 17, 3) := by decide +kernel
theorem dX10_init_23 : decode cX10_init 23 = .ok (.aload_n 0, 1) := by decide +kernel
theorem dX10_init_24 : decode cX10_init 24 = .ok (.bipush 16, 2) := by decide +kernel
theorem dX10_init_26 : decode cX10_init 26 = .ok (.newarray .int, 2) := by decide +kernel
theorem dX10_init_28 : decode cX10_init 28 = .ok (.putfield 20, 3) := by decide +kernel
theorem dX10_init_31 : decode cX10_init 31 = .ok (.aload_n 0, 1) := by decide +kernel
theorem dX10_init_32 : decode cX10_init 32 = .ok (.bipush 16, 2) := by decide +kernel
theorem dX10_init_34 : decode cX10_init 34 = .ok (.newarray .int, 2) := by decide +kernel
theorem dX10_init_36 : decode cX10_init 36 = .ok (.putfield 23, 3) := by decide +kernel
theorem dX10_init_39 : decode cX10_init 39 = .ok (.aload_n 0, 1) := by decide +kernel
theorem dX10_init_40 : decode cX10_init 40 = .ok (.bipush 8, 2) := by decide +kernel
theorem dX10_init_42 : decode cX10_init 42 = .ok (.newarray .int, 2) := by decide +kernel
theorem dX10_init_44 : decode cX10_init 44 = .ok (.putfield 26, 3) := by decide +kernel
theorem dX10_init_47 : decode cX10_init 47 = .ok (.aload_n 0, 1) := by decide +kernel
theorem dX10_init_48 : decode cX10_init 48 = .ok (.bipush 8, 2) := by decide +kernel
theorem dX10_init_50 : decode cX10_init 50 = .ok (.newarray .int, 2) := by decide +kernel
theorem dX10_init_52 : decode cX10_init 52 = .ok (.putfield 29, 3) := by decide +kernel
theorem dX10_init_55 : decode cX10_init 55 = .ok (.aload_n 0, 1) := by decide +kernel
theorem dX10_init_56 : decode cX10_init 56 = .ok (.iconst 4, 1) := by decide +kernel
theorem dX10_init_57 : decode cX10_init 57 = .ok (.newarray .int, 2) := by decide +kernel
theorem dX10_init_59 : decode cX10_init 59 = .ok (.putfield 32, 3) := by decide +kernel
theorem dX10_init_62 : decode cX10_init 62 = .ok (.aload_n 0, 1) := by decide +kernel
theorem dX10_init_63 : decode cX10_init 63 = .ok (.iconst 4, 1) := by decide +kernel
theorem dX10_init_64 : decode cX10_init 64 = .ok (.newarray .int, 2) := by decide +kernel
theorem dX10_init_66 : decode cX10_init 66 = .ok (.putfield 35, 3) := by decide +kernel
theorem dX10_init_69 : decode cX10_init 69 = .ok (.aload_n 0, 1) := by decide +kernel
theorem dX10_init_70 : decode cX10_init 70 = .ok (.bipush 50, 2) := by decide +kernel
theorem dX10_init_72 : decode cX10_init 72 = .ok (.newarray .byte, 2) := by decide +kernel
theorem dX10_init_74 : decode cX10_init 74 = .ok (.putfield 38, 3) := by decide +kernel
theorem dX10_init_77 : decode cX10_init 77 = .ok (.aload_n 0, 1) := by decide +kernel
theorem dX10_init_78 : decode cX10_init 78 = .ok (.iconst 4, 1) := by decide +kernel
theorem dX10_init_79 : decode cX10_init 79 = .ok (.newarray .int, 2) := by decide +kernel
theorem dX10_init_81 : decode cX10_init 81 = .ok (.putfield 42, 3) := by decide +kernel
theorem dX10_init_84 : decode cX10_init 84 = .ok (.aload_n 0, 1) := by decide +kernel
theorem dX10_init_85 : decode cX10_init 85 = .ok (.iconst 4, 1) := by decide +kernel
theorem dX10_init_86 : decode cX10_init 86 = .ok (.newarray .int, 2) := by decide +kernel
theorem dX10_init_88 : decode cX10_init 88 = .ok (.putfield 45, 3) := by decide +kernel
theorem dX10_init_91 : decode cX10_init 91 = .ok (.aload_n 0, 1) := by decide +kernel
theorem dX10_init_92 : decode cX10_init 92 = .ok (.bipush 16, 2) := by decide +kernel
theorem dX10_init_94 : decode cX10_init 94 = .ok (.newarray .int, 2) := by decide +kernel
theorem dX10_init_96 : decode cX10_init 96 = .ok (.putfield 48, 3) := by decide +kernel
theorem dX10_init_99 : decode cX10_init 99 = .ok (.aload_n 0, 1) := by decide +kernel
theorem dX10_init_100 : decode cX10_init 100 = .ok (.bipush 16, 2) := by decide +kernel
theorem dX10_init_102 : decode cX10_init 102 = .ok (.newarray .int, 2) := by decide +kernel
theorem dX10_init_104 : decode cX10_init 104 = .ok (.putfield 51, 3) := by decide +kernel
theorem dX10_init_107 : decode cX10_init 107 = .ok (.aload_n 0, 1) := by decide +kernel
theorem dX10_init_108 : decode cX10_init 108 = .ok (.bipush 8, 2) := by decide +kernel
theorem dX10_init_110 : decode cX10_init 110 = .ok (.newarray .int, 2) := by decide +kernel
theorem dX10_init_112 : decode cX10_init 112 = .ok (.putfield 54, 3) := by decide +kernel
theorem dX10_init_115 : decode cX10_init 115 = .ok (.aload_n 0, 1) := by decide +kernel
theorem dX10_init_116 : decode cX10_init 116 = .ok (.bipush 8, 2) := by decide +kernel
theorem dX10_init_118 : decode cX10_init 118 = .ok (.newarray .int, 2) := by decide +kernel
theorem dX10_init_120 : decode cX10_init 120 = .ok (.putfield 57, 3) := by decide +kernel
theorem dX10_init_123 : decode cX10_init 123 = .ok (.aload_n 0, 1) := by decide +kernel
theorem dX10_init_124 : decode cX10_init 124 = .ok (.bipush 100, 2) := by decide +kernel
theorem dX10_init_126 : decode cX10_init 126 = .ok (.newarray .int, 2) := by decide +kernel
theorem dX10_init_128 : decode cX10_init 128 = .ok (.putfield 60, 3) := by decide +kernel
theorem dX10_init_131 : decode cX10_init 131 = .ok (.aload_n 0, 1) := by decide +kernel
theorem dX10_init_132 : decode cX10_init 132 = .ok (.ldc 63, 2) := by decide +kernel
theorem dX10_init_134 : decode cX10_init 134 = .ok (.newarray .byte, 2) := by decide +kernel
theorem dX10_init_136 : decode cX10_init 136 = .ok (.putfield 64, 3) := by decide +kernel
theorem dX10_init_139 : decode cX10_init 139 = .ok (.aload_n 0, 1) := by decide +kernel
theorem dX10_init_140 : decode cX10_init 140 = .ok (.ldc 63, 2) := by decide +kernel
theorem dX10_init_142 : decode cX10_init 142 = .ok (.newarray .int, 2) := by decide +kernel
theorem dX10_init_144 : decode cX10_init 144 = .ok (.putfield 67, 3) := by decide +kernel
theorem dX10_init_147 : decode cX10_init 147 = .ok (.aload_n 0, 1) := by decide +kernel
theorem dX10_init_148 : decode cX10_init 148 = .ok (.bipush 8, 2) := by decide +kernel
theorem dX10_init_150 : decode cX10_init 150 = .ok (.newarray .int, 2) := by decide +kernel
theorem dX10_init_152 : decode cX10_init 152 = .ok (.putfield 70, 3) := by decide +kernel
theorem dX10_init_155 : decode cX10_init 155 = .ok (.aload_n 0, 1) := by decide +kernel
theorem dX10_init_156 : decode cX10_init 156 = .ok (.iconst 4, 1) := by decide +kernel
theorem dX10_init_157 : decode cX10_init 157 = .ok (.newarray .int, 2) := by decide +kernel
theorem dX10_init_159 : decode cX10_init 159 = .ok (.putfield 73, 3) := by decide +kernel
theorem dX10_init_162 : decode cX10_init 162 = .ok (.aload_n 0, 1) := by decide +kernel
theorem dX10_init_163 : decode cX10_init 163 = .ok (.iconst 4, 1) := by decide +kernel
theorem dX10_init_164 : decode cX10_init 164 = .ok (.newarray .int, 2) := by decide +kernel
theorem dX10_init_166 : decode cX10_init 166 = .ok (.putfield 76, 3) := by decide +kernel
theorem dX10_init_169 : decode cX10_init 169 = .ok (.iconst 0, 1) := by decide +kernel
theorem dX10_init_170 : decode cX10_init 170 = .ok (.istore_n 1, 1) := by decide +kernel
theorem dX10_init_171 : decode cX10_init 171 = .ok (.iload_n 1, 1) := by decide +kernel
theorem dX10_init_172 : decode cX10_init 172 = .ok (.iconst 4, 1) := by decide +kernel
theorem dX10_init_173 : decode cX10_init 173 = .ok (.if_icmp .ge 16, 3) := by decide +kernel
theorem dX10_init_176 : decode cX10_init 176 = .ok (.aload_n 0, 1) := by decide +kernel
theorem dX10_init_177 : decode cX10_init 177 = .ok (.getfield 32, 3) := by decide +kernel
theorem dX10_init_180 : decode cX10_init 180 = .ok (.iload_n 1, 1) := by decide +kernel
theorem dX10_init_181 : decode cX10_init 181 = .ok (.iconst (-1), 1) := by decide +kernel
theorem dX10_init_182 : decode cX10_init 182 = .ok (.iastore, 1) := by decide +kernel
theorem dX10_init_183 : decode cX10_init 183 = .ok (.iinc 1 1, 3) := by decide +kernel
theorem dX10_init_186 : decode cX10_init 186 = .ok (.goto (-15), 3) := by decide +kernel
theorem dX10_init_189 : decode cX10_init 189 = .ok (.return_, 1) := by decide +kernel
theorem dX10_within_0 : decode cX10_within 0 = .ok (.iload_n 0, 1) := by decide +kernel
theorem dX10_within_1 : decode cX10_within 1 = .ok (.iload_n 1, 1) := by decide +kernel
theorem dX10_within_2 : decode cX10_within 2 = .ok (.if_icmp .lt 12, 3) := by decide +kernel
theorem dX10_within_5 : decode cX10_within 5 = .ok (.iload_n 0, 1) := by decide +kernel
theorem dX10_within_6 : decode cX10_within 6 = .ok (.iload_n 2, 1) := by decide +kernel
theorem dX10_within_7 : decode cX10_within 7 = .ok (.if_icmp .gt 7, 3) := by decide +kernel
theorem dX10_within_10 : decode cX10_within 10 = .ok (.iconst 1, 1) := by decide +kernel
theorem dX10_within_11 : decode cX10_within 11 = .ok (.goto 4, 3) := by decide +kernel
theorem dX10_within_14 : decode cX10_within 14 = .ok (.iconst 0, 1) := by decide +kernel
theorem dX10_within_15 : decode cX10_within 15 = .ok (.ireturn, 1) := by decide +kernel
theorem dX10_has_0 : decode cX10_has 0 = .ok (.iload_n 0, 1) := by decide +kernel
theorem dX10_has_1 : decode cX10_has 1 = .ok (.iload_n 1, 1) := by decide +kernel
theorem dX10_has_2 : decode cX10_has 2 = .ok (.ishr, 1) := by decide +kernel
theorem dX10_has_3 : decode cX10_has 3 = .ok (.iconst 1, 1) := by decide +kernel
theorem dX10_has_4 : decode cX10_has 4 = .ok (.iand, 1) := by decide +kernel
theorem dX10_has_5 : decode cX10_has 5 = .ok (.iconst 1, 1) := by decide +kernel
theorem dX10_has_6 : decode cX10_has 6 = .ok (.if_icmp .ne 7, 3) := by decide +kernel
theorem dX10_has_9 : decode cX10_has 9 = .ok (.iconst 1, 1) := by decide +kernel
theorem dX10_has_10 : decode cX10_has 10 = .ok (.goto 4, 3) := by decide +kernel
theorem dX10_has_13 : decode cX10_has 13 = .ok (.iconst 0, 1) := by decide +kernel
theorem dX10_has_14 : decode cX10_has 14 = .ok (.ireturn, 1) := by decide +kernel
theorem dX10_letters_0 : decode cX10_letters 0 = .ok (.iconst 0, 1) := by decide +kernel
theorem dX10_letters_1 : decode cX10_letters 1 = .ok (.istore_n 3, 1) := by decide +kernel
theorem dX10_letters_2 : decode cX10_letters 2 = .ok (.iconst 0, 1) := by decide +kernel
theorem dX10_letters_3 : decode cX10_letters 3 = .ok (.istore 4, 2) := by decide +kernel
theorem dX10_letters_5 : decode cX10_letters 5 = .ok (.iconst 0, 1) := by decide +kernel
theorem dX10_letters_6 : decode cX10_letters 6 = .ok (.istore 5, 2) := by decide +kernel
theorem dX10_letters_8 : decode cX10_letters 8 = .ok (.iload 5, 2) := by decide +kernel
theorem dX10_letters_10 : decode cX10_letters 10 = .ok (.bipush 8, 2) := by decide +kernel
theorem dX10_letters_12 : decode cX10_letters 12 = .ok (.if_icmp .ge 73, 3) := by decide +kernel
theorem dX10_letters_15 : decode cX10_letters 15 = .ok (.lload_n 1, 1) := by decide +kernel
theorem dX10_letters_16 : decode cX10_letters 16 = .ok (.bipush 8, 2) := by decide +kernel
theorem dX10_letters_18 : decode cX10_letters 18 = .ok (.iload 5, 2) := by decide +kernel
theorem dX10_letters_20 : decode cX10_letters 20 = .ok (.imul, 1) := by decide +kernel
theorem dX10_letters_21 : decode cX10_letters 21 = .ok (.lshr, 1) := by decide +kernel
theorem dX10_letters_22 : decode cX10_letters 22 = .ok (.ldc2_w 79, 3) := by decide +kernel
theorem dX10_letters_25 : decode cX10_letters 25 = .ok (.land, 1) := by decide +kernel
theorem dX10_letters_26 : decode cX10_letters 26 = .ok (.l2i, 1) := by decide +kernel
theorem dX10_letters_27 : decode cX10_letters 27 = .ok (.istore 6, 2) := by decide +kernel
theorem dX10_letters_29 : decode cX10_letters 29 = .ok (.iload 6, 2) := by decide +kernel
theorem dX10_letters_31 : decode cX10_letters 31 = .ok (.bipush 126, 2) := by decide +kernel
theorem dX10_letters_33 : decode cX10_letters 33 = .ok (.if_icmp .gt 13, 3) := by decide +kernel
theorem dX10_letters_36 : decode cX10_letters 36 = .ok (.iload 4, 2) := by decide +kernel
theorem dX10_letters_38 : decode cX10_letters 38 = .ok (.ifCond .eq 11, 3) := by decide +kernel
theorem dX10_letters_41 : decode cX10_letters 41 = .ok (.iload 6, 2) := by decide +kernel
theorem dX10_letters_43 : decode cX10_letters 43 = .ok (.ifCond .eq 6, 3) := by decide +kernel
theorem dX10_letters_46 : decode cX10_letters 46 = .ok (.bipush (-102), 2) := by decide +kernel
theorem dX10_letters_48 : decode cX10_letters 48 = .ok (.ireturn, 1) := by decide +kernel
theorem dX10_letters_49 : decode cX10_letters 49 = .ok (.iload 4, 2) := by decide +kernel
theorem dX10_letters_51 : decode cX10_letters 51 = .ok (.ifCond .ne 8, 3) := by decide +kernel
theorem dX10_letters_54 : decode cX10_letters 54 = .ok (.iload 6, 2) := by decide +kernel
theorem dX10_letters_56 : decode cX10_letters 56 = .ok (.ifCond .ne 7, 3) := by decide +kernel
theorem dX10_letters_59 : decode cX10_letters 59 = .ok (.iconst 1, 1) := by decide +kernel
theorem dX10_letters_60 : decode cX10_letters 60 = .ok (.goto 4, 3) := by decide +kernel
theorem dX10_letters_63 : decode cX10_letters 63 = .ok (.iconst 0, 1) := by decide +kernel
theorem dX10_letters_64 : decode cX10_letters 64 = .ok (.istore 4, 2) := by decide +kernel
theorem dX10_letters_66 : decode cX10_letters 66 = .ok (.iload_n 3, 1) := by decide +kernel
theorem dX10_letters_67 : decode cX10_letters 67 = .ok (.iload 6, 2) := by decide +kernel
theorem dX10_letters_69 : decode cX10_letters 69 = .ok (.ifCond .ne 7, 3) := by decide +kernel
theorem dX10_letters_72 : decode cX10_letters 72 = .ok (.iconst 0, 1) := by decide +kernel
theorem dX10_letters_73 : decode cX10_letters 73 = .ok (.goto 4, 3) := by decide +kernel
theorem dX10_letters_76 : decode cX10_letters 76 = .ok (.iconst 1, 1) := by decide +kernel
theorem dX10_letters_77 : decode cX10_letters 77 = .ok (.iadd, 1) := by decide +kernel
theorem dX10_letters_78 : decode cX10_letters 78 = .ok (.istore_n 3, 1) := by decide +kernel
theorem dX10_letters_79 : decode cX10_letters 79 = .ok (.iinc 5 1, 3) := by decide +kernel
theorem dX10_letters_82 : decode cX10_letters 82 = .ok (.goto (-74), 3) := by decide +kernel
theorem dX10_letters_85 : decode cX10_letters 85 = .ok (.aload_n 0, 1) := by decide +kernel
theorem dX10_letters_86 : decode cX10_letters 86 = .ok (.getfield 81, 3) := by decide +kernel
theorem dX10_letters_89 : decode cX10_letters 89 = .ok (.iload_n 3, 1) := by decide +kernel
theorem dX10_letters_90 : decode cX10_letters 90 = .ok (.iadd, 1) := by decide +kernel
theorem dX10_letters_91 : decode cX10_letters 91 = .ok (.bipush 50, 2) := by decide +kernel
theorem dX10_letters_93 : decode cX10_letters 93 = .ok (.if_icmp .le 6, 3) := by decide +kernel
theorem dX10_letters_96 : decode cX10_letters 96 = .ok (.bipush (-104), 2) := by decide +kernel
theorem dX10_letters_98 : decode cX10_letters 98 = .ok (.ireturn, 1) := by decide +kernel
theorem dX10_letters_99 : decode cX10_letters 99 = .ok (.iconst 0, 1) := by decide +kernel
theorem dX10_letters_100 : decode cX10_letters 100 = .ok (.istore 5, 2) := by decide +kernel
theorem dX10_letters_102 : decode cX10_letters 102 = .ok (.iload 5, 2) := by decide +kernel
theorem dX10_letters_104 : decode cX10_letters 104 = .ok (.iload_n 3, 1) := by decide +kernel
theorem dX10_letters_105 : decode cX10_letters 105 = .ok (.if_icmp .ge 30, 3) := by decide +kernel
theorem dX10_letters_108 : decode cX10_letters 108 = .ok (.aload_n 0, 1) := by decide +kernel
theorem dX10_letters_109 : decode cX10_letters 109 = .ok (.getfield 38, 3) := by decide +kernel
theorem dX10_letters_112 : decode cX10_letters 112 = .ok (.aload_n 0, 1) := by decide +kernel
theorem dX10_letters_113 : decode cX10_letters 113 = .ok (.getfield 81, 3) := by decide +kernel
theorem dX10_letters_116 : decode cX10_letters 116 = .ok (.iload 5, 2) := by decide +kernel
