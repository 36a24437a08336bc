theorem dX3_init_0 : decode cX3_init 0 = .ok (.aload_n 0, 1) := by decide +kernel
theorem dX3_init_1 : decode cX3_init 1 = .ok (.invokespecial 1, 3) := by decide +kernel
theorem dX3_init_4 : decode cX3_init 4 = .ok (.aload_n 0, 1) := by decide +kernel
theorem dX3_init_5 : decode cX3_init 5 = .ok (.new 7, 3) := by decide +kernel
theorem dX3_init_8 : decode cX3_init 8 = .ok (.dup, 1) := by decide +kernel
theorem dX3_init_9 : decode cX3_init 9 = .ok (.invokespecial 9, 3) := by decide +kernel
theorem dX3_init_12 : decode cX3_init 12 = .ok (.putfield 10, 3) := by decide +kernel
theorem dX3_init_15 : decode cX3_init 15 = .ok (.aload_n 0, 1) := by decide +kernel
theorem dX3_init_16 : decode cX3_init 16 = .ok (.new 7, 3) := by decide +kernel
theorem dX3_init_19 : decode cX3_init 19 = .ok (.dup, 1) := by decide +kernel
theorem dX3_init_20 : decode cX3_init 20 = .ok (.invokespecial 9, 3) := by decide +kernel
theorem dX3_init_23 : decode cX3_init 23 = .ok (.putfield 16, 3) := by decide +kernel
theorem dX3_init_26 : decode cX3_init 26 = .ok (.aload_n 0, 1) := by decide +kernel
theorem dX3_init_27 : decode cX3_init 27 = .ok (.new 7, 3) := by decide +kernel
theorem dX3_init_30 : decode cX3_init 30 = .ok (.dup, 1) := by decide +kernel
theorem dX3_init_31 : decode cX3_init 31 = .ok (.invokespecial 9, 3) := by decide +kernel
theorem dX3_init_34 : decode cX3_init 34 = .ok (.putfield 19, 3) := by decide +kernel
theorem dX3_init_37 : decode cX3_init 37 = .ok (.aload_n 0, 1) := by decide +kernel
theorem dX3_init_38 : decode cX3_init 38 = .ok (.new 7, 3) := by decide +kernel
theorem dX3_init_41 : decode cX3_init 41 = .ok (.dup, 1) := by decide +kernel
theorem dX3_init_42 : decode cX3_init 42 = .ok (.invokespecial 9, 3) := by decide +kernel
theorem dX3_init_45 : decode cX3_init 45 = .ok (.putfield 22, 3) := by decide +kernel
theorem dX3_init_48 : decode cX3_init 48 = .ok (.aload_n 0, 1) := by decide +kernel
theorem dX3_init_49 : decode cX3_init 49 = .ok (.iconst 0, 1) := by decide +kernel
theorem dX3_init_50 : decode cX3_init 50 = .ok (.putfield 25, 3) := by decide +kernel
theorem dX3_init_53 : decode cX3_init 53 = .ok (.aload_n 0, 1) := by decide +kernel
theorem dX3_init_54 : decode cX3_init 54 = .ok (.new 29, 3) := by decide +kernel
theorem dX3_init_57 : decode cX3_init 57 = .ok (.dup, 1) := by decide +kernel
theorem dX3_init_58 : decode cX3_init 58 = .ok (.invokespecial 31, 3) := by decide +kernel
theorem dX3_init_61 : decode cX3_init 61 = .ok (.putfield 32, 3) := by decide +kernel
theorem dX3_init_64 : decode cX3_init 64 = .ok (.aload_n 0, 1) := by decide +kernel
theorem dX3_init_65 : decode cX3_init 65 = .ok (.bipush 12, 2) := by decide +kernel
theorem dX3_init_67 : decode cX3_init 67 = .ok (.newarray .int, 2) := by decide +kernel
theorem dX3_init_69 : decode cX3_init 69 = .ok (.putfield 36, 3) := by decide +kernel
theorem dX3_init_72 : decode cX3_init 72 = .ok (.aload_n 0, 1) := by decide +kernel
theorem dX3_init_73 : decode cX3_init 73 = .ok (.iconst 0, 1) := by decide +kernel
theorem dX3_init_74 : decode cX3_init 74 = .ok (.putfield 40, 3) := by decide +kernel
theorem dX3_init_77 : decode cX3_init 77 = .ok (.aload_n 0, 1) := by decide +kernel
theorem dX3_init_78 : decode cX3_init 78 = .ok (.bipush 7, 2) := by decide +kernel
theorem dX3_init_80 : decode cX3_init 80 = .ok (.newarray .int, 2) := by decide +kernel
theorem dX3_init_82 : decode cX3_init 82 = .ok (.putfield 44, 3) := by decide +kernel
theorem dX3_init_85 : decode cX3_init 85 = .ok (.return_, 1) := by decide +kernel
theorem dX3_letter_0 : decode cX3_letter 0 = .ok (.iload_n 1, 1) := by decide +kernel
theorem dX3_letter_1 : decode cX3_letter 1 = .ok (.ifCond .ge 10, 3) := by decide +kernel
theorem dX3_letter_4 : decode cX3_letter 4 = .ok (.aload_n 0, 1) := by decide +kernel
theorem dX3_letter_5 : decode cX3_letter 5 = .ok (.bipush (-4), 2) := by decide +kernel
theorem dX3_letter_7 : decode cX3_letter 7 = .ok (.invokevirtual 47, 3) := by decide +kernel
theorem dX3_letter_10 : decode cX3_letter 10 = .ok (.ireturn, 1) := by decide +kernel
theorem dX3_letter_11 : decode cX3_letter 11 = .ok (.iload_n 1, 1) := by decide +kernel
theorem dX3_letter_12 : decode cX3_letter 12 = .ok (.sipush 255, 3) := by decide +kernel
theorem dX3_letter_15 : decode cX3_letter 15 = .ok (.if_icmp .gt 13, 3) := by decide +kernel
theorem dX3_letter_18 : decode cX3_letter 18 = .ok (.aload_n 0, 1) := by decide +kernel
theorem dX3_letter_19 : decode cX3_letter 19 = .ok (.getfield 32, 3) := by decide +kernel
theorem dX3_letter_22 : decode cX3_letter 22 = .ok (.invokevirtual 51, 3) := by decide +kernel
theorem dX3_letter_25 : decode cX3_letter 25 = .ok (.ifCond .eq 10, 3) := by decide +kernel
theorem dX3_letter_28 : decode cX3_letter 28 = .ok (.aload_n 0, 1) := by decide +kernel
theorem dX3_letter_29 : decode cX3_letter 29 = .ok (.bipush (-6), 2) := by decide +kernel
theorem dX3_letter_31 : decode cX3_letter 31 = .ok (.invokevirtual 47, 3) := by decide +kernel
theorem dX3_letter_34 : decode cX3_letter 34 = .ok (.ireturn, 1) := by decide +kernel
theorem dX3_letter_35 : decode cX3_letter 35 = .ok (.aload_n 0, 1) := by decide +kernel
theorem dX3_letter_36 : decode cX3_letter 36 = .ok (.getfield 32, 3) := by decide +kernel
theorem dX3_letter_39 : decode cX3_letter 39 = .ok (.iload_n 1, 1) := by decide +kernel
theorem dX3_letter_40 : decode cX3_letter 40 = .ok (.invokevirtual 55, 3) := by decide +kernel
theorem dX3_letter_43 : decode cX3_letter 43 = .ok (.ireturn, 1) := by decide +kernel
theorem dX3_museum_0 : decode cX3_museum 0 = .ok (.aload_n 0, 1) := by decide +kernel
theorem dX3_museum_1 : decode cX3_museum 1 = .ok (.getfield 32, 3) := by decide +kernel
theorem dX3_museum_4 : decode cX3_museum 4 = .ok (.invokevirtual 58, 3) := by decide +kernel
theorem dX3_museum_7 : decode cX3_museum 7 = .ok (.istore_n 1, 1) := by decide +kernel
theorem dX3_museum_8 : decode cX3_museum 8 = .ok (.iload_n 1, 1) := by decide +kernel
theorem dX3_museum_9 : decode cX3_museum 9 = .ok (.ifCond .lt 11, 3) := by decide +kernel
theorem dX3_museum_12 : decode cX3_museum 12 = .ok (.sipush (-1000), 3) := by decide +kernel
theorem dX3_museum_15 : decode cX3_museum 15 = .ok (.iload_n 1, 1) := by decide +kernel
theorem dX3_museum_16 : decode cX3_museum 16 = .ok (.isub, 1) := by decide +kernel
theorem dX3_museum_17 : decode cX3_museum 17 = .ok (.goto 7, 3) := by decide +kernel
theorem dX3_museum_20 : decode cX3_museum 20 = .ok (.aload_n 0, 1) := by decide +kernel
theorem dX3_museum_21 : decode cX3_museum 21 = .ok (.invokevirtual 62, 3) := by decide +kernel
theorem dX3_museum_24 : decode cX3_museum 24 = .ok (.istore_n 2, 1) := by decide +kernel
theorem dX3_museum_25 : decode cX3_museum 25 = .ok (.aload_n 0, 1) := by decide +kernel
theorem dX3_museum_26 : decode cX3_museum 26 = .ok (.getfield 32, 3) := by decide +kernel
theorem dX3_museum_29 : decode cX3_museum 29 = .ok (.invokevirtual 65, 3) := by decide +kernel
theorem dX3_museum_32 : decode cX3_museum 32 = .ok (.iload_n 2, 1) := by decide +kernel
theorem dX3_museum_33 : decode cX3_museum 33 = .ok (.ireturn, 1) := by decide +kernel
theorem dX3_door_0 : decode cX3_door 0 = .ok (.iload_n 1, 1) := by decide +kernel
theorem dX3_door_1 : decode cX3_door 1 = .ok (.invokestatic 68, 3) := by decide +kernel
theorem dX3_door_4 : decode cX3_door 4 = .ok (.ifCond .ne 10, 3) := by decide +kernel
theorem dX3_door_7 : decode cX3_door 7 = .ok (.iload_n 2, 1) := by decide +kernel
theorem dX3_door_8 : decode cX3_door 8 = .ok (.invokestatic 68, 3) := by decide +kernel
theorem dX3_door_11 : decode cX3_door 11 = .ok (.ifCond .eq 9, 3) := by decide +kernel
theorem dX3_door_14 : decode cX3_door 14 = .ok (.aload_n 0, 1) := by decide +kernel
theorem dX3_door_15 : decode cX3_door 15 = .ok (.iconst (-1), 1) := by decide +kernel
theorem dX3_door_16 : decode cX3_door 16 = .ok (.invokevirtual 47, 3) := by decide +kernel
theorem dX3_door_19 : decode cX3_door 19 = .ok (.ireturn, 1) := by decide +kernel
theorem dX3_door_20 : decode cX3_door 20 = .ok (.aload_n 0, 1) := by decide +kernel
theorem dX3_door_21 : decode cX3_door 21 = .ok (.getfield 10, 3) := by decide +kernel
theorem dX3_door_24 : decode cX3_door 24 = .ok (.getfield 72, 3) := by decide +kernel
theorem dX3_door_27 : decode cX3_door 27 = .ok (.iload_n 1, 1) := by decide +kernel
theorem dX3_door_28 : decode cX3_door 28 = .ok (.iload_n 2, 1) := by decide +kernel
theorem dX3_door_29 : decode cX3_door 29 = .ok (.invokevirtual 76, 3) := by decide +kernel
theorem dX3_door_32 : decode cX3_door 32 = .ok (.ireturn, 1) := by decide +kernel
theorem dX3_question_0 : decode cX3_question 0 = .ok (.aload_n 0, 1) := by decide +kernel
theorem dX3_question_1 : decode cX3_question 1 = .ok (.iload_n 1, 1) := by decide +kernel
theorem dX3_question_2 : decode cX3_question 2 = .ok (.invokevirtual 82, 3) := by decide +kernel
theorem dX3_question_5 : decode cX3_question 5 = .ok (.ifCond .eq 9, 3) := by decide +kernel
theorem dX3_question_8 : decode cX3_question 8 = .ok (.aload_n 0, 1) := by decide +kernel
theorem dX3_question_9 : decode cX3_question 9 = .ok (.iconst (-1), 1) := by decide +kernel
theorem dX3_question_10 : decode cX3_question 10 = .ok (.invokevirtual 47, 3) := by decide +kernel
theorem dX3_question_13 : decode cX3_question 13 = .ok (.ireturn, 1) := by decide +kernel
theorem dX3_question_14 : decode cX3_question 14 = .ok (.iload_n 2, 1) := by decide +kernel
theorem dX3_question_15 : decode cX3_question 15 = .ok (.tableswitch 82 0 4 #[33, 43, 53, 63, 73], 33) := by decide +kernel
theorem dX3_question_48 : decode cX3_question 48 = .ok (.aload_n 0, 1) := by decide +kernel
theorem dX3_question_49 : decode cX3_question 49 = .ok (.getfield 10, 3) := by decide +kernel
theorem dX3_question_52 : decode cX3_question 52 = .ok (.getfield 85, 3) := by decide +kernel
theorem dX3_question_55 : decode cX3_question 55 = .ok (.iload_n 1, 1) := by decide +kernel
theorem dX3_question_56 : decode cX3_question 56 = .ok (.iaload, 1) := by decide +kernel
theorem dX3_question_57 : decode cX3_question 57 = .ok (.ireturn, 1) := by decide +kernel
theorem dX3_question_58 : decode cX3_question 58 = .ok (.aload_n 0, 1) := by decide +kernel
theorem dX3_question_59 : decode cX3_question 59 = .ok (.getfield 10, 3) := by decide +kernel
theorem dX3_question_62 : decode cX3_question 62 = .ok (.getfield 88, 3) := by decide +kernel
theorem dX3_question_65 : decode cX3_question 65 = .ok (.iload_n 1, 1) := by decide +kernel
theorem dX3_question_66 : decode cX3_question 66 = .ok (.iaload, 1) := by decide +kernel
theorem dX3_question_67 : decode cX3_question 67 = .ok (.ireturn, 1) := by decide +kernel
theorem dX3_question_68 : decode cX3_question 68 = .ok (.aload_n 0, 1) := by decide +kernel
theorem dX3_question_69 : decode cX3_question 69 = .ok (.getfield 10, 3) := by decide +kernel
theorem dX3_question_72 : decode cX3_question 72 = .ok (.getfield 91, 3) := by decide +kernel
theorem dX3_question_75 : decode cX3_question 75 = .ok (.iload_n 1, 1) := by decide +kernel
theorem dX3_question_76 : decode cX3_question 76 = .ok (.iaload, 1) := by decide +kernel
theorem dX3_question_77 : decode cX3_question 77 = .ok (.ireturn, 1) := by decide +kernel
theorem dX3_question_78 : decode cX3_question 78 = .ok (.aload_n 0, 1) := by decide +kernel
theorem dX3_question_79 : decode cX3_question 79 = .ok (.getfield 10, 3) := by decide +kernel
theorem dX3_question_82 : decode cX3_question 82 = .ok (.getfield 94, 3) := by decide +kernel
theorem dX3_question_85 : decode cX3_question 85 = .ok (.iload_n 1, 1) := by decide +kernel
theorem dX3_question_86 : decode cX3_question 86 = .ok (.iaload, 1) := by decide +kernel
theorem dX3_question_87 : decode cX3_question 87 = .ok (.ireturn, 1) := by decide +kernel
theorem dX3_question_88 : decode cX3_question 88 = .ok (.aload_n 0, 1) := by decide +kernel
theorem dX3_question_89 : decode cX3_question 89 = .ok (.getfield 10, 3) := by decide +kernel
theorem dX3_question_92 : decode cX3_question 92 = .ok (.iload_n 1, 1) := by decide +kernel
theorem dX3_question_93 : decode cX3_question 93 = .ok (.invokevirtual 97, 3) := by decide +kernel
theorem dX3_question_96 : decode cX3_question 96 = .ok (.ireturn, 1) := by decide +kernel
theorem dX3_question_97 : decode cX3_question 97 = .ok (.aload_n 0, 1) := by decide +kernel
theorem dX3_question_98 : decode cX3_question 98 = .ok (.bipush (-2), 2) := by decide +kernel
theorem dX3_question_100 : decode cX3_question 100 = .ok (.invokevirtual 47, 3) := by decide +kernel
theorem dX3_question_103 : decode cX3_question 103 = .ok (.ireturn, 1) := by decide +kernel
theorem dX3_group_0 : decode cX3_group 0 = .ok (.aload_n 0, 1) := by decide +kernel
theorem dX3_group_1 : decode cX3_group 1 = .ok (.iload_n 1, 1) := by decide +kernel
theorem dX3_group_2 : decode cX3_group 2 = .ok (.invokevirtual 100, 3) := by decide +kernel
theorem dX3_group_5 : decode cX3_group 5 = .ok (.ifCond .eq 9, 3) := by decide +kernel
theorem dX3_group_8 : decode cX3_group 8 = .ok (.aload_n 0, 1) := by decide +kernel
theorem dX3_group_9 : decode cX3_group 9 = .ok (.iconst (-1), 1) := by decide +kernel
theorem dX3_group_10 : decode cX3_group 10 = .ok (.invokevirtual 47, 3) := by decide +kernel
theorem dX3_group_13 : decode cX3_group 13 = .ok (.ireturn, 1) := by decide +kernel
theorem dX3_group_14 : decode cX3_group 14 = .ok (.iload_n 2, 1) := by decide +kernel
theorem dX3_group_15 : decode cX3_group 15 = .ok (.tableswitch 96 0 5 #[37, 47, 57, 67, 77, 87], 37) := by decide +kernel
theorem dX3_group_52 : decode cX3_group 52 = .ok (.aload_n 0, 1) := by decide +kernel
theorem dX3_group_53 : decode cX3_group 53 = .ok (.getfield 10, 3) := by decide +kernel
theorem dX3_group_56 : decode cX3_group 56 = .ok (.getfield 103, 3) := by decide +kernel
theorem dX3_group_59 : decode cX3_group 59 = .ok (.iload_n 1, 1) := by decide +kernel
theorem dX3_group_60 : decode cX3_group 60 = .ok (.iaload, 1) := by decide +kernel
theorem dX3_group_61 : decode cX3_group 61 = .ok (.ireturn, 1) := by decide +kernel
theorem dX3_group_62 : decode cX3_group 62 = .ok (.aload_n 0, 1) := by decide +kernel
theorem dX3_group_63 : decode cX3_group 63 = .ok (.getfield 10, 3) := by decide +kernel
theorem dX3_group_66 : decode cX3_group 66 = .ok (.getfield 106, 3) := by decide +kernel
theorem dX3_group_69 : decode cX3_group 69 = .ok (.iload_n 1, 1) := by decide +kernel
theorem dX3_group_70 : decode cX3_group 70 = .ok (.iaload, 1) := by decide +kernel
theorem dX3_group_71 : decode cX3_group 71 = .ok (.ireturn, 1) := by decide +kernel
theorem dX3_group_72 : decode cX3_group 72 = .ok (.aload_n 0, 1) := by decide +kernel
theorem dX3_group_73 : decode cX3_group 73 = .ok (.getfield 10, 3) := by decide +kernel
theorem dX3_group_76 : decode cX3_group 76 = .ok (.getfield 109, 3) := by decide +kernel
theorem dX3_group_79 : decode cX3_group 79 = .ok (.iload_n 1, 1) := by decide +kernel
theorem dX3_group_80 : decode cX3_group 80 = .ok (.iaload, 1) := by decide +kernel
theorem dX3_group_81 : decode cX3_group 81 = .ok (.ireturn, 1) := by decide +kernel
theorem dX3_group_82 : decode cX3_group 82 = .ok (.aload_n 0, 1) := by decide +kernel
theorem dX3_group_83 : decode cX3_group 83 = .ok (.getfield 10, 3) := by decide +kernel
theorem dX3_group_86 : decode cX3_group 86 = .ok (.getfield 112, 3) := by decide +kernel
theorem dX3_group_89 : decode cX3_group 89 = .ok (.iload_n 1, 1) := by decide +kernel
theorem dX3_group_90 : decode cX3_group 90 = .ok (.iaload, 1) := by decide +kernel
theorem dX3_group_91 : decode cX3_group 91 = .ok (.ireturn, 1) := by decide +kernel
theorem dX3_group_92 : decode cX3_group 92 = .ok (.aload_n 0, 1) := by decide +kernel
theorem dX3_group_93 : decode cX3_group 93 = .ok (.getfield 10, 3) := by decide +kernel
theorem dX3_group_96 : decode cX3_group 96 = .ok (.getfield 115, 3) := by decide +kernel
theorem dX3_group_99 : decode cX3_group 99 = .ok (.iload_n 1, 1) := by decide +kernel
theorem dX3_group_100 : decode cX3_group 100 = .ok (.iaload, 1) := by decide +kernel
theorem dX3_group_101 : decode cX3_group 101 = .ok (.ireturn, 1) := by decide +kernel
theorem dX3_group_102 : decode cX3_group 102 = .ok (.aload_n 0, 1) := by decide +kernel
theorem dX3_group_103 : decode cX3_group 103 = .ok (.getfield 10, 3) := by decide +kernel
theorem dX3_group_106 : decode cX3_group 106 = .ok (.iload_n 1, 1) := by decide +kernel
theorem dX3_group_107 : decode cX3_group 107 = .ok (.invokevirtual 118, 3) := by decide +kernel
theorem dX3_group_110 : decode cX3_group 110 = .ok (.ireturn, 1) := by decide +kernel
theorem dX3_group_111 : decode cX3_group 111 = .ok (.aload_n 0, 1) := by decide +kernel
theorem dX3_group_112 : decode cX3_group 112 = .ok (.bipush (-2), 2) := by decide +kernel
theorem dX3_group_114 : decode cX3_group 114 = .ok (.invokevirtual 47, 3) := by decide +kernel
theorem dX3_group_117 : decode cX3_group 117 = .ok (.ireturn, 1) := by decide +kernel
theorem dX3_sheet_0 : decode cX3_sheet 0 = .ok (.aload_n 0, 1) := by decide +kernel
theorem dX3_sheet_1 : decode cX3_sheet 1 = .ok (.iload_n 1, 1) := by decide +kernel
theorem dX3_sheet_2 : decode cX3_sheet 2 = .ok (.invokevirtual 100, 3) := by decide +kernel
theorem dX3_sheet_5 : decode cX3_sheet 5 = .ok (.ifCond .ne 11, 3) := by decide +kernel
theorem dX3_sheet_8 : decode cX3_sheet 8 = .ok (.aload_n 0, 1) := by decide +kernel
theorem dX3_sheet_9 : decode cX3_sheet 9 = .ok (.iload_n 2, 1) := by decide +kernel
theorem dX3_sheet_10 : decode cX3_sheet 10 = .ok (.invokevirtual 82, 3) := by decide +kernel
theorem dX3_sheet_13 : decode cX3_sheet 13 = .ok (.ifCond .eq 9, 3) := by decide +kernel
theorem dX3_sheet_16 : decode cX3_sheet 16 = .ok (.aload_n 0, 1) := by decide +kernel
theorem dX3_sheet_17 : decode cX3_sheet 17 = .ok (.iconst (-1), 1) := by decide +kernel
theorem dX3_sheet_18 : decode cX3_sheet 18 = .ok (.invokevirtual 47, 3) := by decide +kernel
theorem dX3_sheet_21 : decode cX3_sheet 21 = .ok (.ireturn, 1) := by decide +kernel
theorem dX3_sheet_22 : decode cX3_sheet 22 = .ok (.aload_n 0, 1) := by decide +kernel
theorem dX3_sheet_23 : decode cX3_sheet 23 = .ok (.getfield 10, 3) := by decide +kernel
theorem dX3_sheet_26 : decode cX3_sheet 26 = .ok (.iload_n 1, 1) := by decide +kernel
theorem dX3_sheet_27 : decode cX3_sheet 27 = .ok (.iload_n 2, 1) := by decide +kernel
theorem dX3_sheet_28 : decode cX3_sheet 28 = .ok (.invokevirtual 121, 3) := by decide +kernel
theorem dX3_sheet_31 : decode cX3_sheet 31 = .ok (.ireturn, 1) := by decide +kernel
theorem dX3_opens_0 : decode cX3_opens 0 = .ok (.iload_n 1, 1) := by decide +kernel
theorem dX3_opens_1 : decode cX3_opens 1 = .ok (.invokestatic 68, 3) := by decide +kernel
theorem dX3_opens_4 : decode cX3_opens 4 = .ok (.ifCond .ne 15, 3) := by decide +kernel
theorem dX3_opens_7 : decode cX3_opens 7 = .ok (.iload_n 2, 1) := by decide +kernel
theorem dX3_opens_8 : decode cX3_opens 8 = .ok (.invokestatic 68, 3) := by decide +kernel
theorem dX3_opens_11 : decode cX3_opens 11 = .ok (.ifCond .ne 8, 3) := by decide +kernel
theorem dX3_opens_14 : decode cX3_opens 14 = .ok (.iload_n 1, 1) := by decide +kernel
theorem dX3_opens_15 : decode cX3_opens 15 = .ok (.iload_n 2, 1) := by decide +kernel
theorem dX3_opens_16 : decode cX3_opens 16 = .ok (.if_icmp .ne 9, 3) := by decide +kernel
theorem dX3_opens_19 : decode cX3_opens 19 = .ok (.aload_n 0, 1) := by decide +kernel
theorem dX3_opens_20 : decode cX3_opens 20 = .ok (.iconst (-1), 1) := by decide +kernel
theorem dX3_opens_21 : decode cX3_opens 21 = .ok (.invokevirtual 47, 3) := by decide +kernel
theorem dX3_opens_24 : decode cX3_opens 24 = .ok (.ireturn, 1) := by decide +kernel
theorem dX3_opens_25 : decode cX3_opens 25 = .ok (.aload_n 0, 1) := by decide +kernel
theorem dX3_opens_26 : decode cX3_opens 26 = .ok (.getfield 10, 3) := by decide +kernel
theorem dX3_opens_29 : decode cX3_opens 29 = .ok (.getfield 72, 3) := by decide +kernel
theorem dX3_opens_32 : decode cX3_opens 32 = .ok (.iload_n 1, 1) := by decide +kernel
theorem dX3_opens_33 : decode cX3_opens 33 = .ok (.iload_n 2, 1) := by decide +kernel
theorem dX3_opens_34 : decode cX3_opens 34 = .ok (.invokevirtual 124, 3) := by decide +kernel
theorem dX3_opens_37 : decode cX3_opens 37 = .ok (.aload_n 0, 1) := by decide +kernel
theorem dX3_opens_38 : decode cX3_opens 38 = .ok (.getfield 10, 3) := by decide +kernel
theorem dX3_opens_41 : decode cX3_opens 41 = .ok (.getfield 72, 3) := by decide +kernel
theorem dX3_opens_44 : decode cX3_opens 44 = .ok (.iload_n 1, 1) := by decide +kernel
theorem dX3_opens_45 : decode cX3_opens 45 = .ok (.iload_n 2, 1) := by decide +kernel
theorem dX3_opens_46 : decode cX3_opens 46 = .ok (.invokevirtual 128, 3) := by decide +kernel
theorem dX3_opens_49 : decode cX3_opens 49 = .ok (.ifCond .eq 7, 3) := by decide +kernel
theorem dX3_opens_52 : decode cX3_opens 52 = .ok (.iconst 1, 1) := by decide +kernel
theorem dX3_opens_53 : decode cX3_opens 53 = .ok (.goto 4, 3) := by decide +kernel
theorem dX3_opens_56 : decode cX3_opens 56 = .ok (.iconst 0, 1) := by decide +kernel
theorem dX3_opens_57 : decode cX3_opens 57 = .ok (.ireturn, 1) := by decide +kernel
theorem dX3_put_0 : decode cX3_put 0 = .ok (.aload_n 0, 1) := by decide +kernel
theorem dX3_put_1 : decode cX3_put 1 = .ok (.iload_n 1, 1) := by decide +kernel
theorem dX3_put_2 : decode cX3_put 2 = .ok (.invokevirtual 100, 3) := by decide +kernel
theorem dX3_put_5 : decode cX3_put 5 = .ok (.ifCond .ne 10, 3) := by decide +kernel
theorem dX3_put_8 : decode cX3_put 8 = .ok (.iload_n 2, 1) := by decide +kernel
theorem dX3_put_9 : decode cX3_put 9 = .ok (.invokestatic 68, 3) := by decide +kernel
theorem dX3_put_12 : decode cX3_put 12 = .ok (.ifCond .eq 9, 3) := by decide +kernel
theorem dX3_put_15 : decode cX3_put 15 = .ok (.aload_n 0, 1) := by decide +kernel
theorem dX3_put_16 : decode cX3_put 16 = .ok (.iconst (-1), 1) := by decide +kernel
theorem dX3_put_17 : decode cX3_put 17 = .ok (.invokevirtual 47, 3) := by decide +kernel
theorem dX3_put_20 : decode cX3_put 20 = .ok (.ireturn, 1) := by decide +kernel
theorem dX3_put_21 : decode cX3_put 21 = .ok (.aload_n 0, 1) := by decide +kernel
theorem dX3_put_22 : decode cX3_put 22 = .ok (.getfield 10, 3) := by decide +kernel
theorem dX3_put_25 : decode cX3_put 25 = .ok (.getfield 112, 3) := by decide +kernel
theorem dX3_put_28 : decode cX3_put 28 = .ok (.iload_n 1, 1) := by decide +kernel
theorem dX3_put_29 : decode cX3_put 29 = .ok (.iaload, 1) := by decide +kernel
theorem dX3_put_30 : decode cX3_put 30 = .ok (.istore_n 3, 1) := by decide +kernel
theorem dX3_put_31 : decode cX3_put 31 = .ok (.aload_n 0, 1) := by decide +kernel
theorem dX3_put_32 : decode cX3_put 32 = .ok (.getfield 10, 3) := by decide +kernel
theorem dX3_put_35 : decode cX3_put 35 = .ok (.iload_n 1, 1) := by decide +kernel
theorem dX3_put_36 : decode cX3_put 36 = .ok (.iload_n 2, 1) := by decide +kernel
theorem dX3_put_37 : decode cX3_put 37 = .ok (.invokevirtual 132, 3) := by decide +kernel
theorem dX3_put_40 : decode cX3_put 40 = .ok (.iload_n 3, 1) := by decide +kernel
theorem dX3_put_41 : decode cX3_put 41 = .ok (.ireturn, 1) := by decide +kernel
theorem dX3_start_0 : decode cX3_start 0 = .ok (.aload_n 0, 1) := by decide +kernel
theorem dX3_start_1 : decode cX3_start 1 = .ok (.iload_n 1, 1) := by decide +kernel
theorem dX3_start_2 : decode cX3_start 2 = .ok (.invokevirtual 100, 3) := by decide +kernel
theorem dX3_start_5 : decode cX3_start 5 = .ok (.ifCond .eq 9, 3) := by decide +kernel
theorem dX3_start_8 : decode cX3_start 8 = .ok (.aload_n 0, 1) := by decide +kernel
theorem dX3_start_9 : decode cX3_start 9 = .ok (.iconst (-1), 1) := by decide +kernel
theorem dX3_start_10 : decode cX3_start 10 = .ok (.invokevirtual 47, 3) := by decide +kernel
theorem dX3_start_13 : decode cX3_start 13 = .ok (.ireturn, 1) := by decide +kernel
theorem dX3_start_14 : decode cX3_start 14 = .ok (.iload_n 2, 1) := by decide +kernel
theorem dX3_start_15 : decode cX3_start 15 = .ok (.ifCond .ge 10, 3) := by decide +kernel
theorem dX3_start_18 : decode cX3_start 18 = .ok (.aload_n 0, 1) := by decide +kernel
theorem dX3_start_19 : decode cX3_start 19 = .ok (.bipush (-4), 2) := by decide +kernel
theorem dX3_start_21 : decode cX3_start 21 = .ok (.invokevirtual 47, 3) := by decide +kernel
theorem dX3_start_24 : decode cX3_start 24 = .ok (.ireturn, 1) := by decide +kernel
theorem dX3_start_25 : decode cX3_start 25 = .ok (.iload_n 2, 1) := by decide +kernel
theorem dX3_start_26 : decode cX3_start 26 = .ok (.bipush 8, 2) := by decide +kernel
theorem dX3_start_28 : decode cX3_start 28 = .ok (.if_icmp .lt 10, 3) := by decide +kernel
theorem dX3_start_31 : decode cX3_start 31 = .ok (.aload_n 0, 1) := by decide +kernel
theorem dX3_start_32 : decode cX3_start 32 = .ok (.bipush (-6), 2) := by decide +kernel
theorem dX3_start_34 : decode cX3_start 34 = .ok (.invokevirtual 47, 3) := by decide +kernel
theorem dX3_start_37 : decode cX3_start 37 = .ok (.ireturn, 1) := by decide +kernel
theorem dX3_start_38 : decode cX3_start 38 = .ok (.aload_n 0, 1) := by decide +kernel
theorem dX3_start_39 : decode cX3_start 39 = .ok (.getfield 10, 3) := by decide +kernel
theorem dX3_start_42 : decode cX3_start 42 = .ok (.getfield 109, 3) := by decide +kernel
theorem dX3_start_45 : decode cX3_start 45 = .ok (.iload_n 1, 1) := by decide +kernel
theorem dX3_start_46 : decode cX3_start 46 = .ok (.iaload, 1) := by decide +kernel
theorem dX3_start_47 : decode cX3_start 47 = .ok (.istore_n 3, 1) := by decide +kernel
theorem dX3_start_48 : decode cX3_start 48 = .ok (.aload_n 0, 1) := by decide +kernel
theorem dX3_start_49 : decode cX3_start 49 = .ok (.getfield 10, 3) := by decide +kernel
theorem dX3_start_52 : decode cX3_start 52 = .ok (.getfield 109, 3) := by decide +kernel
theorem dX3_start_55 : decode cX3_start 55 = .ok (.iload_n 1, 1) := by decide +kernel
theorem dX3_start_56 : decode cX3_start 56 = .ok (.iload_n 2, 1) := by decide +kernel
theorem dX3_start_57 : decode cX3_start 57 = .ok (.iastore, 1) := by decide +kernel
theorem dX3_start_58 : decode cX3_start 58 = .ok (.iload_n 3, 1) := by decide +kernel
theorem dX3_start_59 : decode cX3_start 59 = .ok (.ireturn, 1) := by decide +kernel
theorem dX3_write_0 : decode cX3_write 0 = .ok (.aload_n 0, 1) := by decide +kernel
theorem dX3_write_1 : decode cX3_write 1 = .ok (.iload_n 1, 1) := by decide +kernel
theorem dX3_write_2 : decode cX3_write 2 = .ok (.invokevirtual 100, 3) := by decide +kernel
theorem dX3_write_5 : decode cX3_write 5 = .ok (.ifCond .ne 11, 3) := by decide +kernel
theorem dX3_write_8 : decode cX3_write 8 = .ok (.aload_n 0, 1) := by decide +kernel
theorem dX3_write_9 : decode cX3_write 9 = .ok (.iload_n 2, 1) := by decide +kernel
theorem dX3_write_10 : decode cX3_write 10 = .ok (.invokevirtual 82, 3) := by decide +kernel
theorem dX3_write_13 : decode cX3_write 13 = .ok (.ifCond .eq 9, 3) := by decide +kernel
theorem dX3_write_16 : decode cX3_write 16 = .ok (.aload_n 0, 1) := by decide +kernel
theorem dX3_write_17 : decode cX3_write 17 = .ok (.iconst (-1), 1) := by decide +kernel
theorem dX3_write_18 : decode cX3_write 18 = .ok (.invokevirtual 47, 3) := by decide +kernel
theorem dX3_write_21 : decode cX3_write 21 = .ok (.ireturn, 1) := by decide +kernel
theorem dX3_write_22 : decode cX3_write 22 = .ok (.iload_n 3, 1) := by decide +kernel
theorem dX3_write_23 : decode cX3_write 23 = .ok (.ifCond .ge 10, 3) := by decide +kernel
theorem dX3_write_26 : decode cX3_write 26 = .ok (.aload_n 0, 1) := by decide +kernel
theorem dX3_write_27 : decode cX3_write 27 = .ok (.bipush (-4), 2) := by decide +kernel
theorem dX3_write_29 : decode cX3_write 29 = .ok (.invokevirtual 47, 3) := by decide +kernel
theorem dX3_write_32 : decode cX3_write 32 = .ok (.ireturn, 1) := by decide +kernel
theorem dX3_write_33 : decode cX3_write 33 = .ok (.iload_n 3, 1) := by decide +kernel
theorem dX3_write_34 : decode cX3_write 34 = .ok (.bipush 10, 2) := by decide +kernel
theorem dX3_write_36 : decode cX3_write 36 = .ok (.if_icmp .le 10, 3) := by decide +kernel
theorem dX3_write_39 : decode cX3_write 39 = .ok (.aload_n 0, 1) := by decide +kernel
theorem dX3_write_40 : decode cX3_write 40 = .ok (.bipush (-6), 2) := by decide +kernel
theorem dX3_write_42 : decode cX3_write 42 = .ok (.invokevirtual 47, 3) := by decide +kernel
theorem dX3_write_45 : decode cX3_write 45 = .ok (.ireturn, 1) := by decide +kernel
theorem dX3_write_46 : decode cX3_write 46 = .ok (.aload_n 0, 1) := by decide +kernel
theorem dX3_write_47 : decode cX3_write 47 = .ok (.getfield 10, 3) := by decide +kernel
theorem dX3_write_50 : decode cX3_write 50 = .ok (.iload_n 1, 1) := by decide +kernel
theorem dX3_write_51 : decode cX3_write 51 = .ok (.iload_n 2, 1) := by decide +kernel
theorem dX3_write_52 : decode cX3_write 52 = .ok (.invokevirtual 121, 3) := by decide +kernel
theorem dX3_write_55 : decode cX3_write 55 = .ok (.istore 4, 2) := by decide +kernel
theorem dX3_write_57 : decode cX3_write 57 = .ok (.aload_n 0, 1) := by decide +kernel
theorem dX3_write_58 : decode cX3_write 58 = .ok (.getfield 10, 3) := by decide +kernel
theorem dX3_write_61 : decode cX3_write 61 = .ok (.iload_n 1, 1) := by decide +kernel
theorem dX3_write_62 : decode cX3_write 62 = .ok (.iload_n 2, 1) := by decide +kernel
theorem dX3_write_63 : decode cX3_write 63 = .ok (.iload_n 3, 1) := by decide +kernel
theorem dX3_write_64 : decode cX3_write 64 = .ok (.bipush 10, 2) := by decide +kernel
theorem dX3_write_66 : decode cX3_write 66 = .ok (.if_icmp .ne 8, 3) := by decide +kernel
theorem dX3_write_69 : decode cX3_write 69 = .ok (.bipush (-9), 2) := by decide +kernel
theorem dX3_write_71 : decode cX3_write 71 = .ok (.goto 4, 3) := by decide +kernel
theorem dX3_write_74 : decode cX3_write 74 = .ok (.iload_n 3, 1) := by decide +kernel
theorem dX3_write_75 : decode cX3_write 75 = .ok (.invokevirtual 135, 3) := by decide +kernel
theorem dX3_write_78 : decode cX3_write 78 = .ok (.iload 4, 2) := by decide +kernel
theorem dX3_write_80 : decode cX3_write 80 = .ok (.ireturn, 1) := by decide +kernel
theorem dX3_minutes_0 : decode cX3_minutes 0 = .ok (.iload_n 1, 1) := by decide +kernel
theorem dX3_minutes_1 : decode cX3_minutes 1 = .ok (.iconst 1, 1) := by decide +kernel
theorem dX3_minutes_2 : decode cX3_minutes 2 = .ok (.if_icmp .ge 10, 3) := by decide +kernel
theorem dX3_minutes_5 : decode cX3_minutes 5 = .ok (.aload_n 0, 1) := by decide +kernel
theorem dX3_minutes_6 : decode cX3_minutes 6 = .ok (.bipush (-4), 2) := by decide +kernel
theorem dX3_minutes_8 : decode cX3_minutes 8 = .ok (.invokevirtual 47, 3) := by decide +kernel
theorem dX3_minutes_11 : decode cX3_minutes 11 = .ok (.ireturn, 1) := by decide +kernel
theorem dX3_minutes_12 : decode cX3_minutes 12 = .ok (.iload_n 1, 1) := by decide +kernel
theorem dX3_minutes_13 : decode cX3_minutes 13 = .ok (.bipush 60, 2) := by decide +kernel
theorem dX3_minutes_15 : decode cX3_minutes 15 = .ok (.if_icmp .gt 18, 3) := by decide +kernel
theorem dX3_minutes_18 : decode cX3_minutes 18 = .ok (.aload_n 0, 1) := by decide +kernel
theorem dX3_minutes_19 : decode cX3_minutes 19 = .ok (.getfield 10, 3) := by decide +kernel
theorem dX3_minutes_22 : decode cX3_minutes 22 = .ok (.getfield 139, 3) := by decide +kernel
theorem dX3_minutes_25 : decode cX3_minutes 25 = .ok (.iload_n 1, 1) := by decide +kernel
theorem dX3_minutes_26 : decode cX3_minutes 26 = .ok (.iadd, 1) := by decide +kernel
theorem dX3_minutes_27 : decode cX3_minutes 27 = .ok (.sipush 999, 3) := by decide +kernel
theorem dX3_minutes_30 : decode cX3_minutes 30 = .ok (.if_icmp .le 10, 3) := by decide +kernel
theorem dX3_minutes_33 : decode cX3_minutes 33 = .ok (.aload_n 0, 1) := by decide +kernel
theorem dX3_minutes_34 : decode cX3_minutes 34 = .ok (.bipush (-6), 2) := by decide +kernel
theorem dX3_minutes_36 : decode cX3_minutes 36 = .ok (.invokevirtual 47, 3) := by decide +kernel
theorem dX3_minutes_39 : decode cX3_minutes 39 = .ok (.ireturn, 1) := by decide +kernel
theorem dX3_minutes_40 : decode cX3_minutes 40 = .ok (.aload_n 0, 1) := by decide +kernel
theorem dX3_minutes_41 : decode cX3_minutes 41 = .ok (.getfield 10, 3) := by decide +kernel
theorem dX3_minutes_44 : decode cX3_minutes 44 = .ok (.iload_n 1, 1) := by decide +kernel
theorem dX3_minutes_45 : decode cX3_minutes 45 = .ok (.invokevirtual 142, 3) := by decide +kernel
theorem dX3_minutes_48 : decode cX3_minutes 48 = .ok (.aload_n 0, 1) := by decide +kernel
theorem dX3_minutes_49 : decode cX3_minutes 49 = .ok (.getfield 10, 3) := by decide +kernel
theorem dX3_minutes_52 : decode cX3_minutes 52 = .ok (.invokevirtual 146, 3) := by decide +kernel
theorem dX3_minutes_55 : decode cX3_minutes 55 = .ok (.ireturn, 1) := by decide +kernel
theorem dX3_behind_0 : decode cX3_behind 0 = .ok (.aload_n 0, 1) := by decide +kernel
theorem dX3_behind_1 : decode cX3_behind 1 = .ok (.iload_n 1, 1) := by decide +kernel
theorem dX3_behind_2 : decode cX3_behind 2 = .ok (.invokevirtual 100, 3) := by decide +kernel
theorem dX3_behind_5 : decode cX3_behind 5 = .ok (.ifCond .eq 9, 3) := by decide +kernel
theorem dX3_behind_8 : decode cX3_behind 8 = .ok (.aload_n 0, 1) := by decide +kernel
theorem dX3_behind_9 : decode cX3_behind 9 = .ok (.iconst (-1), 1) := by decide +kernel
theorem dX3_behind_10 : decode cX3_behind 10 = .ok (.invokevirtual 47, 3) := by decide +kernel
theorem dX3_behind_13 : decode cX3_behind 13 = .ok (.ireturn, 1) := by decide +kernel
theorem dX3_behind_14 : decode cX3_behind 14 = .ok (.iload_n 2, 1) := by decide +kernel
theorem dX3_behind_15 : decode cX3_behind 15 = .ok (.ifCond .ge 10, 3) := by decide +kernel
theorem dX3_behind_18 : decode cX3_behind 18 = .ok (.aload_n 0, 1) := by decide +kernel
theorem dX3_behind_19 : decode cX3_behind 19 = .ok (.bipush (-4), 2) := by decide +kernel
theorem dX3_behind_21 : decode cX3_behind 21 = .ok (.invokevirtual 47, 3) := by decide +kernel
theorem dX3_behind_24 : decode cX3_behind 24 = .ok (.ireturn, 1) := by decide +kernel
theorem dX3_behind_25 : decode cX3_behind 25 = .ok (.iload_n 2, 1) := by decide +kernel
theorem dX3_behind_26 : decode cX3_behind 26 = .ok (.bipush 99, 2) := by decide +kernel
theorem dX3_behind_28 : decode cX3_behind 28 = .ok (.if_icmp .le 10, 3) := by decide +kernel
theorem dX3_behind_31 : decode cX3_behind 31 = .ok (.aload_n 0, 1) := by decide +kernel
theorem dX3_behind_32 : decode cX3_behind 32 = .ok (.bipush (-6), 2) := by decide +kernel
theorem dX3_behind_34 : decode cX3_behind 34 = .ok (.invokevirtual 47, 3) := by decide +kernel
theorem dX3_behind_37 : decode cX3_behind 37 = .ok (.ireturn, 1) := by decide +kernel
theorem dX3_behind_38 : decode cX3_behind 38 = .ok (.iload_n 3, 1) := by decide +kernel
theorem dX3_behind_39 : decode cX3_behind 39 = .ok (.ifCond .lt 8, 3) := by decide +kernel
theorem dX3_behind_42 : decode cX3_behind 42 = .ok (.iload_n 3, 1) := by decide +kernel
theorem dX3_behind_43 : decode cX3_behind 43 = .ok (.iconst 3, 1) := by decide +kernel
theorem dX3_behind_44 : decode cX3_behind 44 = .ok (.if_icmp .le 10, 3) := by decide +kernel
theorem dX3_behind_47 : decode cX3_behind 47 = .ok (.aload_n 0, 1) := by decide +kernel
theorem dX3_behind_48 : decode cX3_behind 48 = .ok (.bipush (-2), 2) := by decide +kernel
theorem dX3_behind_50 : decode cX3_behind 50 = .ok (.invokevirtual 47, 3) := by decide +kernel
theorem dX3_behind_53 : decode cX3_behind 53 = .ok (.ireturn, 1) := by decide +kernel
theorem dX3_behind_54 : decode cX3_behind 54 = .ok (.aload_n 0, 1) := by decide +kernel
theorem dX3_behind_55 : decode cX3_behind 55 = .ok (.iload_n 2, 1) := by decide +kernel
theorem dX3_behind_56 : decode cX3_behind 56 = .ok (.invokevirtual 149, 3) := by decide +kernel
theorem dX3_behind_59 : decode cX3_behind 59 = .ok (.iload_n 3, 1) := by decide +kernel
theorem dX3_behind_60 : decode cX3_behind 60 = .ok (.tableswitch 56 0 2 #[28, 38, 47], 28) := by decide +kernel
theorem dX3_behind_88 : decode cX3_behind 88 = .ok (.aload_n 0, 1) := by decide +kernel
theorem dX3_behind_89 : decode cX3_behind 89 = .ok (.getfield 16, 3) := by decide +kernel
theorem dX3_behind_92 : decode cX3_behind 92 = .ok (.getfield 112, 3) := by decide +kernel
theorem dX3_behind_95 : decode cX3_behind 95 = .ok (.iload_n 1, 1) := by decide +kernel
theorem dX3_behind_96 : decode cX3_behind 96 = .ok (.iaload, 1) := by decide +kernel
theorem dX3_behind_97 : decode cX3_behind 97 = .ok (.ireturn, 1) := by decide +kernel
theorem dX3_behind_98 : decode cX3_behind 98 = .ok (.aload_n 0, 1) := by decide +kernel
theorem dX3_behind_99 : decode cX3_behind 99 = .ok (.getfield 16, 3) := by decide +kernel
theorem dX3_behind_102 : decode cX3_behind 102 = .ok (.iload_n 1, 1) := by decide +kernel
theorem dX3_behind_103 : decode cX3_behind 103 = .ok (.invokevirtual 152, 3) := by decide +kernel
theorem dX3_behind_106 : decode cX3_behind 106 = .ok (.ireturn, 1) := by decide +kernel
theorem dX3_behind_107 : decode cX3_behind 107 = .ok (.aload_n 0, 1) := by decide +kernel
theorem dX3_behind_108 : decode cX3_behind 108 = .ok (.getfield 16, 3) := by decide +kernel
theorem dX3_behind_111 : decode cX3_behind 111 = .ok (.iload_n 1, 1) := by decide +kernel
theorem dX3_behind_112 : decode cX3_behind 112 = .ok (.invokevirtual 155, 3) := by decide +kernel
theorem dX3_behind_115 : decode cX3_behind 115 = .ok (.ireturn, 1) := by decide +kernel
theorem dX3_behind_116 : decode cX3_behind 116 = .ok (.aload_n 0, 1) := by decide +kernel
theorem dX3_behind_117 : decode cX3_behind 117 = .ok (.getfield 16, 3) := by decide +kernel
theorem dX3_behind_120 : decode cX3_behind 120 = .ok (.iload_n 1, 1) := by decide +kernel
theorem dX3_behind_121 : decode cX3_behind 121 = .ok (.invokevirtual 158, 3) := by decide +kernel
theorem dX3_behind_124 : decode cX3_behind 124 = .ok (.ireturn, 1) := by decide +kernel
theorem dX3_done_0 : decode cX3_done 0 = .ok (.aload_n 0, 1) := by decide +kernel
theorem dX3_done_1 : decode cX3_done 1 = .ok (.iload_n 1, 1) := by decide +kernel
theorem dX3_done_2 : decode cX3_done 2 = .ok (.invokevirtual 100, 3) := by decide +kernel
theorem dX3_done_5 : decode cX3_done 5 = .ok (.ifCond .eq 9, 3) := by decide +kernel
theorem dX3_done_8 : decode cX3_done 8 = .ok (.aload_n 0, 1) := by decide +kernel
theorem dX3_done_9 : decode cX3_done 9 = .ok (.iconst (-1), 1) := by decide +kernel
theorem dX3_done_10 : decode cX3_done 10 = .ok (.invokevirtual 47, 3) := by decide +kernel
theorem dX3_done_13 : decode cX3_done 13 = .ok (.ireturn, 1) := by decide +kernel
theorem dX3_done_14 : decode cX3_done 14 = .ok (.aload_n 0, 1) := by decide +kernel
theorem dX3_done_15 : decode cX3_done 15 = .ok (.invokevirtual 161, 3) := by decide +kernel
theorem dX3_done_18 : decode cX3_done 18 = .ok (.aload_n 0, 1) := by decide +kernel
theorem dX3_done_19 : decode cX3_done 19 = .ok (.iload_n 1, 1) := by decide +kernel
theorem dX3_done_20 : decode cX3_done 20 = .ok (.invokevirtual 164, 3) := by decide +kernel
theorem dX3_done_23 : decode cX3_done 23 = .ok (.invokestatic 167, 3) := by decide +kernel
theorem dX3_done_26 : decode cX3_done 26 = .ok (.ireturn, 1) := by decide +kernel
theorem dX3_ended_0 : decode cX3_ended 0 = .ok (.iload_n 1, 1) := by decide +kernel
theorem dX3_ended_1 : decode cX3_ended 1 = .ok (.ifCond .lt 8, 3) := by decide +kernel
theorem dX3_ended_4 : decode cX3_ended 4 = .ok (.iload_n 1, 1) := by decide +kernel
theorem dX3_ended_5 : decode cX3_ended 5 = .ok (.iconst 1, 1) := by decide +kernel
theorem dX3_ended_6 : decode cX3_ended 6 = .ok (.if_icmp .le 10, 3) := by decide +kernel
theorem dX3_ended_9 : decode cX3_ended 9 = .ok (.aload_n 0, 1) := by decide +kernel
theorem dX3_ended_10 : decode cX3_ended 10 = .ok (.bipush (-2), 2) := by decide +kernel
theorem dX3_ended_12 : decode cX3_ended 12 = .ok (.invokevirtual 47, 3) := by decide +kernel
theorem dX3_ended_15 : decode cX3_ended 15 = .ok (.ireturn, 1) := by decide +kernel
theorem dX3_ended_16 : decode cX3_ended 16 = .ok (.aload_n 0, 1) := by decide +kernel
theorem dX3_ended_17 : decode cX3_ended 17 = .ok (.invokevirtual 161, 3) := by decide +kernel
theorem dX3_ended_20 : decode cX3_ended 20 = .ok (.iload_n 1, 1) := by decide +kernel
theorem dX3_ended_21 : decode cX3_ended 21 = .ok (.ifCond .ne 10, 3) := by decide +kernel
theorem dX3_ended_24 : decode cX3_ended 24 = .ok (.aload_n 0, 1) := by decide +kernel
theorem dX3_ended_25 : decode cX3_ended 25 = .ok (.invokevirtual 170, 3) := by decide +kernel
theorem dX3_ended_28 : decode cX3_ended 28 = .ok (.goto 10, 3) := by decide +kernel
theorem dX3_ended_31 : decode cX3_ended 31 = .ok (.aload_n 0, 1) := by decide +kernel
theorem dX3_ended_32 : decode cX3_ended 32 = .ok (.invokevirtual 173, 3) := by decide +kernel
theorem dX3_ended_35 : decode cX3_ended 35 = .ok (.invokestatic 167, 3) := by decide +kernel
theorem dX3_ended_38 : decode cX3_ended 38 = .ok (.ireturn, 1) := by decide +kernel
theorem dX3_answer_0 : decode cX3_answer 0 = .ok (.aload_n 0, 1) := by decide +kernel
theorem dX3_answer_1 : decode cX3_answer 1 = .ok (.iload_n 1, 1) := by decide +kernel
theorem dX3_answer_2 : decode cX3_answer 2 = .ok (.invokevirtual 100, 3) := by decide +kernel
theorem dX3_answer_5 : decode cX3_answer 5 = .ok (.ifCond .ne 11, 3) := by decide +kernel
theorem dX3_answer_8 : decode cX3_answer 8 = .ok (.aload_n 0, 1) := by decide +kernel
theorem dX3_answer_9 : decode cX3_answer 9 = .ok (.iload_n 2, 1) := by decide +kernel
theorem dX3_answer_10 : decode cX3_answer 10 = .ok (.invokevirtual 82, 3) := by decide +kernel
theorem dX3_answer_13 : decode cX3_answer 13 = .ok (.ifCond .eq 9, 3) := by decide +kernel
theorem dX3_answer_16 : decode cX3_answer 16 = .ok (.aload_n 0, 1) := by decide +kernel
theorem dX3_answer_17 : decode cX3_answer 17 = .ok (.iconst (-1), 1) := by decide +kernel
theorem dX3_answer_18 : decode cX3_answer 18 = .ok (.invokevirtual 47, 3) := by decide +kernel
theorem dX3_answer_21 : decode cX3_answer 21 = .ok (.ireturn, 1) := by decide +kernel
theorem dX3_answer_22 : decode cX3_answer 22 = .ok (.iload_n 3, 1) := by decide +kernel
theorem dX3_answer_23 : decode cX3_answer 23 = .ok (.ifCond .lt 8, 3) := by decide +kernel
theorem dX3_answer_26 : decode cX3_answer 26 = .ok (.iload_n 3, 1) := by decide +kernel
theorem dX3_answer_27 : decode cX3_answer 27 = .ok (.iconst 1, 1) := by decide +kernel
theorem dX3_answer_28 : decode cX3_answer 28 = .ok (.if_icmp .le 10, 3) := by decide +kernel
theorem dX3_answer_31 : decode cX3_answer 31 = .ok (.aload_n 0, 1) := by decide +kernel
theorem dX3_answer_32 : decode cX3_answer 32 = .ok (.bipush (-2), 2) := by decide +kernel
theorem dX3_answer_34 : decode cX3_answer 34 = .ok (.invokevirtual 47, 3) := by decide +kernel
theorem dX3_answer_37 : decode cX3_answer 37 = .ok (.ireturn, 1) := by decide +kernel
theorem dX3_answer_38 : decode cX3_answer 38 = .ok (.aload_n 0, 1) := by decide +kernel
theorem dX3_answer_39 : decode cX3_answer 39 = .ok (.bipush 99, 2) := by decide +kernel
theorem dX3_answer_41 : decode cX3_answer 41 = .ok (.invokevirtual 149, 3) := by decide +kernel
theorem dX3_answer_44 : decode cX3_answer 44 = .ok (.iload_n 3, 1) := by decide +kernel
theorem dX3_answer_45 : decode cX3_answer 45 = .ok (.ifCond .ne 15, 3) := by decide +kernel
theorem dX3_answer_48 : decode cX3_answer 48 = .ok (.aload_n 0, 1) := by decide +kernel
theorem dX3_answer_49 : decode cX3_answer 49 = .ok (.getfield 16, 3) := by decide +kernel
theorem dX3_answer_52 : decode cX3_answer 52 = .ok (.iload_n 1, 1) := by decide +kernel
theorem dX3_answer_53 : decode cX3_answer 53 = .ok (.iload_n 2, 1) := by decide +kernel
theorem dX3_answer_54 : decode cX3_answer 54 = .ok (.invokevirtual 121, 3) := by decide +kernel
theorem dX3_answer_57 : decode cX3_answer 57 = .ok (.goto 12, 3) := by decide +kernel
theorem dX3_answer_60 : decode cX3_answer 60 = .ok (.aload_n 0, 1) := by decide +kernel
theorem dX3_answer_61 : decode cX3_answer 61 = .ok (.getfield 16, 3) := by decide +kernel
theorem dX3_answer_64 : decode cX3_answer 64 = .ok (.iload_n 1, 1) := by decide +kernel
theorem dX3_answer_65 : decode cX3_answer 65 = .ok (.iload_n 2, 1) := by decide +kernel
theorem dX3_answer_66 : decode cX3_answer 66 = .ok (.invokevirtual 176, 3) := by decide +kernel
theorem dX3_answer_69 : decode cX3_answer 69 = .ok (.ireturn, 1) := by decide +kernel
theorem dX3_full_0 : decode cX3_full 0 = .ok (.iload_n 1, 1) := by decide +kernel
theorem dX3_full_1 : decode cX3_full 1 = .ok (.ifCond .ge 10, 3) := by decide +kernel
theorem dX3_full_4 : decode cX3_full 4 = .ok (.aload_n 0, 1) := by decide +kernel
theorem dX3_full_5 : decode cX3_full 5 = .ok (.bipush (-4), 2) := by decide +kernel
theorem dX3_full_7 : decode cX3_full 7 = .ok (.invokevirtual 47, 3) := by decide +kernel
theorem dX3_full_10 : decode cX3_full 10 = .ok (.ireturn, 1) := by decide +kernel
theorem dX3_full_11 : decode cX3_full 11 = .ok (.iload_n 1, 1) := by decide +kernel
theorem dX3_full_12 : decode cX3_full 12 = .ok (.bipush 99, 2) := by decide +kernel
theorem dX3_full_14 : decode cX3_full 14 = .ok (.if_icmp .le 10, 3) := by decide +kernel
theorem dX3_full_17 : decode cX3_full 17 = .ok (.aload_n 0, 1) := by decide +kernel
theorem dX3_full_18 : decode cX3_full 18 = .ok (.bipush (-6), 2) := by decide +kernel
theorem dX3_full_20 : decode cX3_full 20 = .ok (.invokevirtual 47, 3) := by decide +kernel
theorem dX3_full_23 : decode cX3_full 23 = .ok (.ireturn, 1) := by decide +kernel
theorem dX3_full_24 : decode cX3_full 24 = .ok (.iload_n 2, 1) := by decide +kernel
theorem dX3_full_25 : decode cX3_full 25 = .ok (.ifCond .lt 8, 3) := by decide +kernel
theorem dX3_full_28 : decode cX3_full 28 = .ok (.iload_n 2, 1) := by decide +kernel
theorem dX3_full_29 : decode cX3_full 29 = .ok (.iconst 2, 1) := by decide +kernel
theorem dX3_full_30 : decode cX3_full 30 = .ok (.if_icmp .le 10, 3) := by decide +kernel
theorem dX3_full_33 : decode cX3_full 33 = .ok (.aload_n 0, 1) := by decide +kernel
theorem dX3_full_34 : decode cX3_full 34 = .ok (.bipush (-2), 2) := by decide +kernel
theorem dX3_full_36 : decode cX3_full 36 = .ok (.invokevirtual 47, 3) := by decide +kernel
theorem dX3_full_39 : decode cX3_full 39 = .ok (.ireturn, 1) := by decide +kernel
theorem dX3_full_40 : decode cX3_full 40 = .ok (.aload_n 0, 1) := by decide +kernel
theorem dX3_full_41 : decode cX3_full 41 = .ok (.invokevirtual 161, 3) := by decide +kernel
theorem dX3_full_44 : decode cX3_full 44 = .ok (.aload_n 0, 1) := by decide +kernel
theorem dX3_full_45 : decode cX3_full 45 = .ok (.iload_n 1, 1) := by decide +kernel
theorem dX3_full_46 : decode cX3_full 46 = .ok (.iload_n 2, 1) := by decide +kernel
theorem dX3_full_47 : decode cX3_full 47 = .ok (.invokevirtual 179, 3) := by decide +kernel
theorem dX3_full_50 : decode cX3_full 50 = .ok (.ireturn, 1) := by decide +kernel
theorem dX3_right_0 : decode cX3_right 0 = .ok (.iload_n 1, 1) := by decide +kernel
theorem dX3_right_1 : decode cX3_right 1 = .ok (.ifCond .ge 10, 3) := by decide +kernel
theorem dX3_right_4 : decode cX3_right 4 = .ok (.aload_n 0, 1) := by decide +kernel
theorem dX3_right_5 : decode cX3_right 5 = .ok (.bipush (-4), 2) := by decide +kernel
theorem dX3_right_7 : decode cX3_right 7 = .ok (.invokevirtual 47, 3) := by decide +kernel
theorem dX3_right_10 : decode cX3_right 10 = .ok (.ireturn, 1) := by decide +kernel
theorem dX3_right_11 : decode cX3_right 11 = .ok (.iload_n 1, 1) := by decide +kernel
theorem dX3_right_12 : decode cX3_right 12 = .ok (.bipush 99, 2) := by decide +kernel
theorem dX3_right_14 : decode cX3_right 14 = .ok (.if_icmp .le 10, 3) := by decide +kernel
theorem dX3_right_17 : decode cX3_right 17 = .ok (.aload_n 0, 1) := by decide +kernel
theorem dX3_right_18 : decode cX3_right 18 = .ok (.bipush (-6), 2) := by decide +kernel
theorem dX3_right_20 : decode cX3_right 20 = .ok (.invokevirtual 47, 3) := by decide +kernel
theorem dX3_right_23 : decode cX3_right 23 = .ok (.ireturn, 1) := by decide +kernel
theorem dX3_right_24 : decode cX3_right 24 = .ok (.aload_n 0, 1) := by decide +kernel
theorem dX3_right_25 : decode cX3_right 25 = .ok (.iload_n 1, 1) := by decide +kernel
theorem dX3_right_26 : decode cX3_right 26 = .ok (.invokevirtual 149, 3) := by decide +kernel
theorem dX3_right_29 : decode cX3_right 29 = .ok (.aload_n 0, 1) := by decide +kernel
theorem dX3_right_30 : decode cX3_right 30 = .ok (.getfield 16, 3) := by decide +kernel
theorem dX3_right_33 : decode cX3_right 33 = .ok (.invokevirtual 146, 3) := by decide +kernel
theorem dX3_right_36 : decode cX3_right 36 = .ok (.ireturn, 1) := by decide +kernel
theorem dX3_bestFirst_0 : decode cX3_bestFirst 0 = .ok (.aload_n 0, 1) := by decide +kernel
theorem dX3_bestFirst_1 : decode cX3_bestFirst 1 = .ok (.iload_n 1, 1) := by decide +kernel
theorem dX3_bestFirst_2 : decode cX3_bestFirst 2 = .ok (.invokevirtual 100, 3) := by decide +kernel
theorem dX3_bestFirst_5 : decode cX3_bestFirst 5 = .ok (.ifCond .eq 9, 3) := by decide +kernel
theorem dX3_bestFirst_8 : decode cX3_bestFirst 8 = .ok (.aload_n 0, 1) := by decide +kernel
theorem dX3_bestFirst_9 : decode cX3_bestFirst 9 = .ok (.iconst (-1), 1) := by decide +kernel
theorem dX3_bestFirst_10 : decode cX3_bestFirst 10 = .ok (.invokevirtual 47, 3) := by decide +kernel
theorem dX3_bestFirst_13 : decode cX3_bestFirst 13 = .ok (.ireturn, 1) := by decide +kernel
theorem dX3_bestFirst_14 : decode cX3_bestFirst 14 = .ok (.iload_n 2, 1) := by decide +kernel
theorem dX3_bestFirst_15 : decode cX3_bestFirst 15 = .ok (.ifCond .lt 8, 3) := by decide +kernel
theorem dX3_bestFirst_18 : decode cX3_bestFirst 18 = .ok (.iload_n 2, 1) := by decide +kernel
theorem dX3_bestFirst_19 : decode cX3_bestFirst 19 = .ok (.iconst 1, 1) := by decide +kernel
theorem dX3_bestFirst_20 : decode cX3_bestFirst 20 = .ok (.if_icmp .le 10, 3) := by decide +kernel
theorem dX3_bestFirst_23 : decode cX3_bestFirst 23 = .ok (.aload_n 0, 1) := by decide +kernel
theorem dX3_bestFirst_24 : decode cX3_bestFirst 24 = .ok (.bipush (-2), 2) := by decide +kernel
theorem dX3_bestFirst_26 : decode cX3_bestFirst 26 = .ok (.invokevirtual 47, 3) := by decide +kernel
theorem dX3_bestFirst_29 : decode cX3_bestFirst 29 = .ok (.ireturn, 1) := by decide +kernel
theorem dX3_bestFirst_30 : decode cX3_bestFirst 30 = .ok (.iload_n 2, 1) := by decide +kernel
theorem dX3_bestFirst_31 : decode cX3_bestFirst 31 = .ok (.ifCond .ne 11, 3) := by decide +kernel
theorem dX3_bestFirst_34 : decode cX3_bestFirst 34 = .ok (.aload_n 0, 1) := by decide +kernel
theorem dX3_bestFirst_35 : decode cX3_bestFirst 35 = .ok (.iload_n 1, 1) := by decide +kernel
theorem dX3_bestFirst_36 : decode cX3_bestFirst 36 = .ok (.invokevirtual 182, 3) := by decide +kernel
theorem dX3_bestFirst_39 : decode cX3_bestFirst 39 = .ok (.goto 8, 3) := by decide +kernel
theorem dX3_bestFirst_42 : decode cX3_bestFirst 42 = .ok (.aload_n 0, 1) := by decide +kernel
theorem dX3_bestFirst_43 : decode cX3_bestFirst 43 = .ok (.iload_n 1, 1) := by decide +kernel
theorem dX3_bestFirst_44 : decode cX3_bestFirst 44 = .ok (.invokevirtual 185, 3) := by decide +kernel
theorem dX3_bestFirst_47 : decode cX3_bestFirst 47 = .ok (.ireturn, 1) := by decide +kernel
theorem dX3_apart_0 : decode cX3_apart 0 = .ok (.iload_n 1, 1) := by decide +kernel
theorem dX3_apart_1 : decode cX3_apart 1 = .ok (.iconst (-1), 1) := by decide +kernel
theorem dX3_apart_2 : decode cX3_apart 2 = .ok (.if_icmp .ge 10, 3) := by decide +kernel
theorem dX3_apart_5 : decode cX3_apart 5 = .ok (.aload_n 0, 1) := by decide +kernel
theorem dX3_apart_6 : decode cX3_apart 6 = .ok (.bipush (-4), 2) := by decide +kernel
theorem dX3_apart_8 : decode cX3_apart 8 = .ok (.invokevirtual 47, 3) := by decide +kernel
theorem dX3_apart_11 : decode cX3_apart 11 = .ok (.ireturn, 1) := by decide +kernel
theorem dX3_apart_12 : decode cX3_apart 12 = .ok (.iload_n 1, 1) := by decide +kernel
theorem dX3_apart_13 : decode cX3_apart 13 = .ok (.aload_n 0, 1) := by decide +kernel
theorem dX3_apart_14 : decode cX3_apart 14 = .ok (.getfield 10, 3) := by decide +kernel
theorem dX3_apart_17 : decode cX3_apart 17 = .ok (.getfield 188, 3) := by decide +kernel
theorem dX3_apart_20 : decode cX3_apart 20 = .ok (.if_icmp .lt 9, 3) := by decide +kernel
theorem dX3_apart_23 : decode cX3_apart 23 = .ok (.aload_n 0, 1) := by decide +kernel
theorem dX3_apart_24 : decode cX3_apart 24 = .ok (.iconst (-1), 1) := by decide +kernel
theorem dX3_apart_25 : decode cX3_apart 25 = .ok (.invokevirtual 47, 3) := by decide +kernel
theorem dX3_apart_28 : decode cX3_apart 28 = .ok (.ireturn, 1) := by decide +kernel
theorem dX3_apart_29 : decode cX3_apart 29 = .ok (.aload_n 0, 1) := by decide +kernel
theorem dX3_apart_30 : decode cX3_apart 30 = .ok (.getfield 10, 3) := by decide +kernel
theorem dX3_apart_33 : decode cX3_apart 33 = .ok (.getfield 188, 3) := by decide +kernel
theorem dX3_apart_36 : decode cX3_apart 36 = .ok (.iconst 3, 1) := by decide +kernel
theorem dX3_apart_37 : decode cX3_apart 37 = .ok (.if_icmp .le 10, 3) := by decide +kernel
theorem dX3_apart_40 : decode cX3_apart 40 = .ok (.aload_n 0, 1) := by decide +kernel
theorem dX3_apart_41 : decode cX3_apart 41 = .ok (.bipush (-3), 2) := by decide +kernel
theorem dX3_apart_43 : decode cX3_apart 43 = .ok (.invokevirtual 47, 3) := by decide +kernel
theorem dX3_apart_46 : decode cX3_apart 46 = .ok (.ireturn, 1) := by decide +kernel
theorem dX3_apart_47 : decode cX3_apart 47 = .ok (.aload_n 0, 1) := by decide +kernel
theorem dX3_apart_48 : decode cX3_apart 48 = .ok (.invokevirtual 191, 3) := by decide +kernel
theorem dX3_apart_51 : decode cX3_apart 51 = .ok (.istore_n 2, 1) := by decide +kernel
theorem dX3_apart_52 : decode cX3_apart 52 = .ok (.iload_n 1, 1) := by decide +kernel
theorem dX3_apart_53 : decode cX3_apart 53 = .ok (.ifCond .lt 10, 3) := by decide +kernel
theorem dX3_apart_56 : decode cX3_apart 56 = .ok (.aload_n 0, 1) := by decide +kernel
theorem dX3_apart_57 : decode cX3_apart 57 = .ok (.iload_n 2, 1) := by decide +kernel
theorem dX3_apart_58 : decode cX3_apart 58 = .ok (.iload_n 1, 1) := by decide +kernel
theorem dX3_apart_59 : decode cX3_apart 59 = .ok (.invokevirtual 194, 3) := by decide +kernel
theorem dX3_apart_62 : decode cX3_apart 62 = .ok (.ireturn, 1) := by decide +kernel
theorem dX3_apart_63 : decode cX3_apart 63 = .ok (.aload_n 0, 1) := by decide +kernel
theorem dX3_apart_64 : decode cX3_apart 64 = .ok (.iload_n 2, 1) := by decide +kernel
theorem dX3_apart_65 : decode cX3_apart 65 = .ok (.invokevirtual 197, 3) := by decide +kernel
theorem dX3_apart_68 : decode cX3_apart 68 = .ok (.ireturn, 1) := by decide +kernel
theorem dX3_leave_0 : decode cX3_leave 0 = .ok (.bipush (-9), 2) := by decide +kernel
theorem dX3_leave_2 : decode cX3_leave 2 = .ok (.istore_n 1, 1) := by decide +kernel
theorem dX3_leave_3 : decode cX3_leave 3 = .ok (.bipush 100, 2) := by decide +kernel
theorem dX3_leave_5 : decode cX3_leave 5 = .ok (.istore_n 2, 1) := by decide +kernel
theorem dX3_leave_6 : decode cX3_leave 6 = .ok (.iconst 0, 1) := by decide +kernel
theorem dX3_leave_7 : decode cX3_leave 7 = .ok (.istore_n 3, 1) := by decide +kernel
theorem dX3_leave_8 : decode cX3_leave 8 = .ok (.iload_n 3, 1) := by decide +kernel
theorem dX3_leave_9 : decode cX3_leave 9 = .ok (.aload_n 0, 1) := by decide +kernel
theorem dX3_leave_10 : decode cX3_leave 10 = .ok (.getfield 10, 3) := by decide +kernel
theorem dX3_leave_13 : decode cX3_leave 13 = .ok (.getfield 200, 3) := by decide +kernel
theorem dX3_leave_16 : decode cX3_leave 16 = .ok (.if_icmp .ge 38, 3) := by decide +kernel
theorem dX3_leave_19 : decode cX3_leave 19 = .ok (.aload_n 0, 1) := by decide +kernel
theorem dX3_leave_20 : decode cX3_leave 20 = .ok (.invokevirtual 161, 3) := by decide +kernel
theorem dX3_leave_23 : decode cX3_leave 23 = .ok (.aload_n 0, 1) := by decide +kernel
theorem dX3_leave_24 : decode cX3_leave 24 = .ok (.getfield 16, 3) := by decide +kernel
theorem dX3_leave_27 : decode cX3_leave 27 = .ok (.iload_n 3, 1) := by decide +kernel
theorem dX3_leave_28 : decode cX3_leave 28 = .ok (.invokevirtual 203, 3) := by decide +kernel
theorem dX3_leave_31 : decode cX3_leave 31 = .ok (.aload_n 0, 1) := by decide +kernel
theorem dX3_leave_32 : decode cX3_leave 32 = .ok (.invokevirtual 173, 3) := by decide +kernel
theorem dX3_leave_35 : decode cX3_leave 35 = .ok (.istore 4, 2) := by decide +kernel
theorem dX3_leave_37 : decode cX3_leave 37 = .ok (.iload 4, 2) := by decide +kernel
theorem dX3_leave_39 : decode cX3_leave 39 = .ok (.iload_n 2, 1) := by decide +kernel
theorem dX3_leave_40 : decode cX3_leave 40 = .ok (.if_icmp .ge 8, 3) := by decide +kernel
theorem dX3_leave_43 : decode cX3_leave 43 = .ok (.iload 4, 2) := by decide +kernel
theorem dX3_leave_45 : decode cX3_leave 45 = .ok (.istore_n 2, 1) := by decide +kernel
theorem dX3_leave_46 : decode cX3_leave 46 = .ok (.iload_n 3, 1) := by decide +kernel
theorem dX3_leave_47 : decode cX3_leave 47 = .ok (.istore_n 1, 1) := by decide +kernel
theorem dX3_leave_48 : decode cX3_leave 48 = .ok (.iinc 3 1, 3) := by decide +kernel
theorem dX3_leave_51 : decode cX3_leave 51 = .ok (.goto (-43), 3) := by decide +kernel
theorem dX3_leave_54 : decode cX3_leave 54 = .ok (.iload_n 1, 1) := by decide +kernel
theorem dX3_leave_55 : decode cX3_leave 55 = .ok (.ireturn, 1) := by decide +kernel
theorem dX3_tell_0 : decode cX3_tell 0 = .ok (.iload_n 1, 1) := by decide +kernel
theorem dX3_tell_1 : decode cX3_tell 1 = .ok (.ifCond .ge 10, 3) := by decide +kernel
theorem dX3_tell_4 : decode cX3_tell 4 = .ok (.aload_n 0, 1) := by decide +kernel
theorem dX3_tell_5 : decode cX3_tell 5 = .ok (.bipush (-4), 2) := by decide +kernel
theorem dX3_tell_7 : decode cX3_tell 7 = .ok (.invokevirtual 47, 3) := by decide +kernel
theorem dX3_tell_10 : decode cX3_tell 10 = .ok (.ireturn, 1) := by decide +kernel
theorem dX3_tell_11 : decode cX3_tell 11 = .ok (.iload_n 1, 1) := by decide +kernel
theorem dX3_tell_12 : decode cX3_tell 12 = .ok (.bipush 99, 2) := by decide +kernel
theorem dX3_tell_14 : decode cX3_tell 14 = .ok (.if_icmp .le 10, 3) := by decide +kernel
theorem dX3_tell_17 : decode cX3_tell 17 = .ok (.aload_n 0, 1) := by decide +kernel
theorem dX3_tell_18 : decode cX3_tell 18 = .ok (.bipush (-6), 2) := by decide +kernel
theorem dX3_tell_20 : decode cX3_tell 20 = .ok (.invokevirtual 47, 3) := by decide +kernel
theorem dX3_tell_23 : decode cX3_tell 23 = .ok (.ireturn, 1) := by decide +kernel
theorem dX3_tell_24 : decode cX3_tell 24 = .ok (.aload_n 0, 1) := by decide +kernel
theorem dX3_tell_25 : decode cX3_tell 25 = .ok (.iload_n 1, 1) := by decide +kernel
theorem dX3_tell_26 : decode cX3_tell 26 = .ok (.invokevirtual 149, 3) := by decide +kernel
theorem dX3_tell_29 : decode cX3_tell 29 = .ok (.aload_n 0, 1) := by decide +kernel
theorem dX3_tell_30 : decode cX3_tell 30 = .ok (.getfield 16, 3) := by decide +kernel
theorem dX3_tell_33 : decode cX3_tell 33 = .ok (.invokevirtual 146, 3) := by decide +kernel
theorem dX3_tell_36 : decode cX3_tell 36 = .ok (.istore_n 2, 1) := by decide +kernel
theorem dX3_tell_37 : decode cX3_tell 37 = .ok (.bipush (-9), 2) := by decide +kernel
theorem dX3_tell_39 : decode cX3_tell 39 = .ok (.istore_n 3, 1) := by decide +kernel
theorem dX3_tell_40 : decode cX3_tell 40 = .ok (.iconst 0, 1) := by decide +kernel
theorem dX3_tell_41 : decode cX3_tell 41 = .ok (.istore 4, 2) := by decide +kernel
theorem dX3_tell_43 : decode cX3_tell 43 = .ok (.iload 4, 2) := by decide +kernel
theorem dX3_tell_45 : decode cX3_tell 45 = .ok (.aload_n 0, 1) := by decide +kernel
theorem dX3_tell_46 : decode cX3_tell 46 = .ok (.getfield 10, 3) := by decide +kernel
theorem dX3_tell_49 : decode cX3_tell 49 = .ok (.getfield 200, 3) := by decide +kernel
theorem dX3_tell_52 : decode cX3_tell 52 = .ok (.if_icmp .ge 54, 3) := by decide +kernel
theorem dX3_tell_55 : decode cX3_tell 55 = .ok (.aload_n 0, 1) := by decide +kernel
theorem dX3_tell_56 : decode cX3_tell 56 = .ok (.invokevirtual 161, 3) := by decide +kernel
theorem dX3_tell_59 : decode cX3_tell 59 = .ok (.aload_n 0, 1) := by decide +kernel
theorem dX3_tell_60 : decode cX3_tell 60 = .ok (.getfield 16, 3) := by decide +kernel
theorem dX3_tell_63 : decode cX3_tell 63 = .ok (.getfield 85, 3) := by decide +kernel
theorem dX3_tell_66 : decode cX3_tell 66 = .ok (.iload 4, 2) := by decide +kernel
theorem dX3_tell_68 : decode cX3_tell 68 = .ok (.iconst 5, 1) := by decide +kernel
theorem dX3_tell_69 : decode cX3_tell 69 = .ok (.iastore, 1) := by decide +kernel
theorem dX3_tell_70 : decode cX3_tell 70 = .ok (.aload_n 0, 1) := by decide +kernel
theorem dX3_tell_71 : decode cX3_tell 71 = .ok (.getfield 16, 3) := by decide +kernel
theorem dX3_tell_74 : decode cX3_tell 74 = .ok (.iload_n 1, 1) := by decide +kernel
theorem dX3_tell_75 : decode cX3_tell 75 = .ok (.invokevirtual 142, 3) := by decide +kernel
theorem dX3_tell_78 : decode cX3_tell 78 = .ok (.aload_n 0, 1) := by decide +kernel
theorem dX3_tell_79 : decode cX3_tell 79 = .ok (.getfield 16, 3) := by decide +kernel
theorem dX3_tell_82 : decode cX3_tell 82 = .ok (.invokevirtual 146, 3) := by decide +kernel
theorem dX3_tell_85 : decode cX3_tell 85 = .ok (.iload_n 2, 1) := by decide +kernel
theorem dX3_tell_86 : decode cX3_tell 86 = .ok (.if_icmp .le 14, 3) := by decide +kernel
theorem dX3_tell_89 : decode cX3_tell 89 = .ok (.aload_n 0, 1) := by decide +kernel
theorem dX3_tell_90 : decode cX3_tell 90 = .ok (.getfield 16, 3) := by decide +kernel
theorem dX3_tell_93 : decode cX3_tell 93 = .ok (.invokevirtual 146, 3) := by decide +kernel
theorem dX3_tell_96 : decode cX3_tell 96 = .ok (.istore_n 2, 1) := by decide +kernel
theorem dX3_tell_97 : decode cX3_tell 97 = .ok (.iload 4, 2) := by decide +kernel
theorem dX3_tell_99 : decode cX3_tell 99 = .ok (.istore_n 3, 1) := by decide +kernel
theorem dX3_tell_100 : decode cX3_tell 100 = .ok (.iinc 4 1, 3) := by decide +kernel
theorem dX3_tell_103 : decode cX3_tell 103 = .ok (.goto (-60), 3) := by decide +kernel
theorem dX3_tell_106 : decode cX3_tell 106 = .ok (.iload_n 3, 1) := by decide +kernel
theorem dX3_tell_107 : decode cX3_tell 107 = .ok (.ireturn, 1) := by decide +kernel
theorem dX3_spreads_0 : decode cX3_spreads 0 = .ok (.aload_n 0, 1) := by decide +kernel
theorem dX3_spreads_1 : decode cX3_spreads 1 = .ok (.iload_n 1, 1) := by decide +kernel
theorem dX3_spreads_2 : decode cX3_spreads 2 = .ok (.invokevirtual 100, 3) := by decide +kernel
theorem dX3_spreads_5 : decode cX3_spreads 5 = .ok (.ifCond .ne 11, 3) := by decide +kernel
theorem dX3_spreads_8 : decode cX3_spreads 8 = .ok (.aload_n 0, 1) := by decide +kernel
theorem dX3_spreads_9 : decode cX3_spreads 9 = .ok (.iload_n 2, 1) := by decide +kernel
theorem dX3_spreads_10 : decode cX3_spreads 10 = .ok (.invokevirtual 82, 3) := by decide +kernel
theorem dX3_spreads_13 : decode cX3_spreads 13 = .ok (.ifCond .eq 9, 3) := by decide +kernel
theorem dX3_spreads_16 : decode cX3_spreads 16 = .ok (.aload_n 0, 1) := by decide +kernel
theorem dX3_spreads_17 : decode cX3_spreads 17 = .ok (.iconst (-1), 1) := by decide +kernel
theorem dX3_spreads_18 : decode cX3_spreads 18 = .ok (.invokevirtual 47, 3) := by decide +kernel
theorem dX3_spreads_21 : decode cX3_spreads 21 = .ok (.ireturn, 1) := by decide +kernel
theorem dX3_spreads_22 : decode cX3_spreads 22 = .ok (.aload_n 0, 1) := by decide +kernel
theorem dX3_spreads_23 : decode cX3_spreads 23 = .ok (.getfield 10, 3) := by decide +kernel
theorem dX3_spreads_26 : decode cX3_spreads 26 = .ok (.iload_n 1, 1) := by decide +kernel
theorem dX3_spreads_27 : decode cX3_spreads 27 = .ok (.iload_n 2, 1) := by decide +kernel
theorem dX3_spreads_28 : decode cX3_spreads 28 = .ok (.invokevirtual 121, 3) := by decide +kernel
theorem dX3_spreads_31 : decode cX3_spreads 31 = .ok (.bipush (-9), 2) := by decide +kernel
theorem dX3_spreads_33 : decode cX3_spreads 33 = .ok (.if_icmp .eq 10, 3) := by decide +kernel
theorem dX3_spreads_36 : decode cX3_spreads 36 = .ok (.aload_n 0, 1) := by decide +kernel
theorem dX3_spreads_37 : decode cX3_spreads 37 = .ok (.bipush (-3), 2) := by decide +kernel
theorem dX3_spreads_39 : decode cX3_spreads 39 = .ok (.invokevirtual 47, 3) := by decide +kernel
theorem dX3_spreads_42 : decode cX3_spreads 42 = .ok (.ireturn, 1) := by decide +kernel
theorem dX3_spreads_43 : decode cX3_spreads 43 = .ok (.aload_n 0, 1) := by decide +kernel
theorem dX3_spreads_44 : decode cX3_spreads 44 = .ok (.getfield 10, 3) := by decide +kernel
theorem dX3_spreads_47 : decode cX3_spreads 47 = .ok (.getfield 94, 3) := by decide +kernel
theorem dX3_spreads_50 : decode cX3_spreads 50 = .ok (.iload_n 2, 1) := by decide +kernel
theorem dX3_spreads_51 : decode cX3_spreads 51 = .ok (.iaload, 1) := by decide +kernel
theorem dX3_spreads_52 : decode cX3_spreads 52 = .ok (.iconst 1, 1) := by decide +kernel
theorem dX3_spreads_53 : decode cX3_spreads 53 = .ok (.iadd, 1) := by decide +kernel
theorem dX3_spreads_54 : decode cX3_spreads 54 = .ok (.bipush 10, 2) := by decide +kernel
theorem dX3_spreads_56 : decode cX3_spreads 56 = .ok (.irem, 1) := by decide +kernel
theorem dX3_spreads_57 : decode cX3_spreads 57 = .ok (.istore_n 3, 1) := by decide +kernel
theorem dX3_spreads_58 : decode cX3_spreads 58 = .ok (.aload_n 0, 1) := by decide +kernel
theorem dX3_spreads_59 : decode cX3_spreads 59 = .ok (.invokevirtual 161, 3) := by decide +kernel
theorem dX3_spreads_62 : decode cX3_spreads 62 = .ok (.aload_n 0, 1) := by decide +kernel
theorem dX3_spreads_63 : decode cX3_spreads 63 = .ok (.getfield 16, 3) := by decide +kernel
theorem dX3_spreads_66 : decode cX3_spreads 66 = .ok (.iload_n 1, 1) := by decide +kernel
theorem dX3_spreads_67 : decode cX3_spreads 67 = .ok (.iload_n 2, 1) := by decide +kernel
theorem dX3_spreads_68 : decode cX3_spreads 68 = .ok (.iload_n 3, 1) := by decide +kernel
theorem dX3_spreads_69 : decode cX3_spreads 69 = .ok (.invokevirtual 135, 3) := by decide +kernel
theorem dX3_spreads_72 : decode cX3_spreads 72 = .ok (.aload_n 0, 1) := by decide +kernel
theorem dX3_spreads_73 : decode cX3_spreads 73 = .ok (.getfield 16, 3) := by decide +kernel
theorem dX3_spreads_76 : decode cX3_spreads 76 = .ok (.bipush 99, 2) := by decide +kernel
theorem dX3_spreads_78 : decode cX3_spreads 78 = .ok (.invokevirtual 142, 3) := by decide +kernel
theorem dX3_spreads_81 : decode cX3_spreads 81 = .ok (.iconst 0, 1) := by decide +kernel
theorem dX3_spreads_82 : decode cX3_spreads 82 = .ok (.istore 4, 2) := by decide +kernel
theorem dX3_spreads_84 : decode cX3_spreads 84 = .ok (.iconst 0, 1) := by decide +kernel
theorem dX3_spreads_85 : decode cX3_spreads 85 = .ok (.istore 5, 2) := by decide +kernel
theorem dX3_spreads_87 : decode cX3_spreads 87 = .ok (.iload 5, 2) := by decide +kernel
theorem dX3_spreads_89 : decode cX3_spreads 89 = .ok (.aload_n 0, 1) := by decide +kernel
theorem dX3_spreads_90 : decode cX3_spreads 90 = .ok (.getfield 16, 3) := by decide +kernel
theorem dX3_spreads_93 : decode cX3_spreads 93 = .ok (.getfield 188, 3) := by decide +kernel
theorem dX3_spreads_96 : decode cX3_spreads 96 = .ok (.if_icmp .ge 33, 3) := by decide +kernel
theorem dX3_spreads_99 : decode cX3_spreads 99 = .ok (.iload 4, 2) := by decide +kernel
theorem dX3_spreads_101 : decode cX3_spreads 101 = .ok (.aload_n 0, 1) := by decide +kernel
theorem dX3_spreads_102 : decode cX3_spreads 102 = .ok (.getfield 16, 3) := by decide +kernel
theorem dX3_spreads_105 : decode cX3_spreads 105 = .ok (.iload 5, 2) := by decide +kernel
theorem dX3_spreads_107 : decode cX3_spreads 107 = .ok (.iload_n 2, 1) := by decide +kernel
theorem dX3_spreads_108 : decode cX3_spreads 108 = .ok (.invokevirtual 121, 3) := by decide +kernel
theorem dX3_spreads_111 : decode cX3_spreads 111 = .ok (.iload_n 3, 1) := by decide +kernel
theorem dX3_spreads_112 : decode cX3_spreads 112 = .ok (.if_icmp .ne 7, 3) := by decide +kernel
theorem dX3_spreads_115 : decode cX3_spreads 115 = .ok (.iconst 1, 1) := by decide +kernel
theorem dX3_spreads_116 : decode cX3_spreads 116 = .ok (.goto 4, 3) := by decide +kernel
theorem dX3_spreads_119 : decode cX3_spreads 119 = .ok (.iconst 0, 1) := by decide +kernel
theorem dX3_spreads_120 : decode cX3_spreads 120 = .ok (.iadd, 1) := by decide +kernel
theorem dX3_spreads_121 : decode cX3_spreads 121 = .ok (.istore 4, 2) := by decide +kernel
theorem dX3_spreads_123 : decode cX3_spreads 123 = .ok (.iinc 5 1, 3) := by decide +kernel
theorem dX3_spreads_126 : decode cX3_spreads 126 = .ok (.goto (-39), 3) := by decide +kernel
theorem dX3_spreads_129 : decode cX3_spreads 129 = .ok (.iload 4, 2) := by decide +kernel
theorem dX3_spreads_131 : decode cX3_spreads 131 = .ok (.ireturn, 1) := by decide +kernel
theorem dX3_missing_0 : decode cX3_missing 0 = .ok (.iload_n 1, 1) := by decide +kernel
theorem dX3_missing_1 : decode cX3_missing 1 = .ok (.ifCond .lt 7, 3) := by decide +kernel
theorem dX3_missing_4 : decode cX3_missing 4 = .ok (.iload_n 2, 1) := by decide +kernel
theorem dX3_missing_5 : decode cX3_missing 5 = .ok (.ifCond .ge 10, 3) := by decide +kernel
theorem dX3_missing_8 : decode cX3_missing 8 = .ok (.aload_n 0, 1) := by decide +kernel
theorem dX3_missing_9 : decode cX3_missing 9 = .ok (.bipush (-4), 2) := by decide +kernel
theorem dX3_missing_11 : decode cX3_missing 11 = .ok (.invokevirtual 47, 3) := by decide +kernel
theorem dX3_missing_14 : decode cX3_missing 14 = .ok (.ireturn, 1) := by decide +kernel
theorem dX3_missing_15 : decode cX3_missing 15 = .ok (.iload_n 1, 1) := by decide +kernel
theorem dX3_missing_16 : decode cX3_missing 16 = .ok (.bipush 99, 2) := by decide +kernel
theorem dX3_missing_18 : decode cX3_missing 18 = .ok (.if_icmp .gt 9, 3) := by decide +kernel
theorem dX3_missing_21 : decode cX3_missing 21 = .ok (.iload_n 2, 1) := by decide +kernel
theorem dX3_missing_22 : decode cX3_missing 22 = .ok (.bipush 9, 2) := by decide +kernel
theorem dX3_missing_24 : decode cX3_missing 24 = .ok (.if_icmp .le 10, 3) := by decide +kernel
theorem dX3_missing_27 : decode cX3_missing 27 = .ok (.aload_n 0, 1) := by decide +kernel
theorem dX3_missing_28 : decode cX3_missing 28 = .ok (.bipush (-6), 2) := by decide +kernel
theorem dX3_missing_30 : decode cX3_missing 30 = .ok (.invokevirtual 47, 3) := by decide +kernel
theorem dX3_missing_33 : decode cX3_missing 33 = .ok (.ireturn, 1) := by decide +kernel
theorem dX3_missing_34 : decode cX3_missing 34 = .ok (.aload_n 0, 1) := by decide +kernel
theorem dX3_missing_35 : decode cX3_missing 35 = .ok (.iload_n 1, 1) := by decide +kernel
theorem dX3_missing_36 : decode cX3_missing 36 = .ok (.invokevirtual 149, 3) := by decide +kernel
theorem dX3_missing_39 : decode cX3_missing 39 = .ok (.iconst 0, 1) := by decide +kernel
theorem dX3_missing_40 : decode cX3_missing 40 = .ok (.istore_n 3, 1) := by decide +kernel
theorem dX3_missing_41 : decode cX3_missing 41 = .ok (.iconst 0, 1) := by decide +kernel
theorem dX3_missing_42 : decode cX3_missing 42 = .ok (.istore 4, 2) := by decide +kernel
theorem dX3_missing_44 : decode cX3_missing 44 = .ok (.iload 4, 2) := by decide +kernel
theorem dX3_missing_46 : decode cX3_missing 46 = .ok (.aload_n 0, 1) := by decide +kernel
theorem dX3_missing_47 : decode cX3_missing 47 = .ok (.getfield 16, 3) := by decide +kernel
theorem dX3_missing_50 : decode cX3_missing 50 = .ok (.getfield 188, 3) := by decide +kernel
theorem dX3_missing_53 : decode cX3_missing 53 = .ok (.if_icmp .ge 52, 3) := by decide +kernel
theorem dX3_missing_56 : decode cX3_missing 56 = .ok (.aload_n 0, 1) := by decide +kernel
theorem dX3_missing_57 : decode cX3_missing 57 = .ok (.getfield 16, 3) := by decide +kernel
theorem dX3_missing_60 : decode cX3_missing 60 = .ok (.getfield 72, 3) := by decide +kernel
theorem dX3_missing_63 : decode cX3_missing 63 = .ok (.aload_n 0, 1) := by decide +kernel
theorem dX3_missing_64 : decode cX3_missing 64 = .ok (.getfield 16, 3) := by decide +kernel
theorem dX3_missing_67 : decode cX3_missing 67 = .ok (.getfield 112, 3) := by decide +kernel
theorem dX3_missing_70 : decode cX3_missing 70 = .ok (.iload 4, 2) := by decide +kernel
theorem dX3_missing_72 : decode cX3_missing 72 = .ok (.iaload, 1) := by decide +kernel
theorem dX3_missing_73 : decode cX3_missing 73 = .ok (.iconst 0, 1) := by decide +kernel
theorem dX3_missing_74 : decode cX3_missing 74 = .ok (.invokevirtual 76, 3) := by decide +kernel
theorem dX3_missing_77 : decode cX3_missing 77 = .ok (.istore 5, 2) := by decide +kernel
theorem dX3_missing_79 : decode cX3_missing 79 = .ok (.iload 5, 2) := by decide +kernel
theorem dX3_missing_81 : decode cX3_missing 81 = .ok (.bipush (-9), 2) := by decide +kernel
theorem dX3_missing_83 : decode cX3_missing 83 = .ok (.if_icmp .eq 9, 3) := by decide +kernel
theorem dX3_missing_86 : decode cX3_missing 86 = .ok (.iload 5, 2) := by decide +kernel
theorem dX3_missing_88 : decode cX3_missing 88 = .ok (.iload_n 2, 1) := by decide +kernel
theorem dX3_missing_89 : decode cX3_missing 89 = .ok (.if_icmp .le 10, 3) := by decide +kernel
theorem dX3_missing_92 : decode cX3_missing 92 = .ok (.iload_n 3, 1) := by decide +kernel
theorem dX3_missing_93 : decode cX3_missing 93 = .ok (.iconst 1, 1) := by decide +kernel
theorem dX3_missing_94 : decode cX3_missing 94 = .ok (.iload 4, 2) := by decide +kernel
theorem dX3_missing_96 : decode cX3_missing 96 = .ok (.ishl, 1) := by decide +kernel
theorem dX3_missing_97 : decode cX3_missing 97 = .ok (.ior, 1) := by decide +kernel
theorem dX3_missing_98 : decode cX3_missing 98 = .ok (.istore_n 3, 1) := by decide +kernel
theorem dX3_missing_99 : decode cX3_missing 99 = .ok (.iinc 4 1, 3) := by decide +kernel
theorem dX3_missing_102 : decode cX3_missing 102 = .ok (.goto (-58), 3) := by decide +kernel
theorem dX3_missing_105 : decode cX3_missing 105 = .ok (.iload_n 3, 1) := by decide +kernel
theorem dX3_missing_106 : decode cX3_missing 106 = .ok (.ireturn, 1) := by decide +kernel
theorem dX3_worth_0 : decode cX3_worth 0 = .ok (.aload_n 0, 1) := by decide +kernel
theorem dX3_worth_1 : decode cX3_worth 1 = .ok (.iload_n 1, 1) := by decide +kernel
theorem dX3_worth_2 : decode cX3_worth 2 = .ok (.invokevirtual 82, 3) := by decide +kernel
theorem dX3_worth_5 : decode cX3_worth 5 = .ok (.ifCond .eq 12, 3) := by decide +kernel
theorem dX3_worth_8 : decode cX3_worth 8 = .ok (.ldc 206, 2) := by decide +kernel
theorem dX3_worth_10 : decode cX3_worth 10 = .ok (.aload_n 0, 1) := by decide +kernel
theorem dX3_worth_11 : decode cX3_worth 11 = .ok (.iconst (-1), 1) := by decide +kernel
theorem dX3_worth_12 : decode cX3_worth 12 = .ok (.invokevirtual 47, 3) := by decide +kernel
theorem dX3_worth_15 : decode cX3_worth 15 = .ok (.isub, 1) := by decide +kernel
theorem dX3_worth_16 : decode cX3_worth 16 = .ok (.ireturn, 1) := by decide +kernel
theorem dX3_worth_17 : decode cX3_worth 17 = .ok (.aload_n 0, 1) := by decide +kernel
theorem dX3_worth_18 : decode cX3_worth 18 = .ok (.invokevirtual 161, 3) := by decide +kernel
theorem dX3_worth_21 : decode cX3_worth 21 = .ok (.aload_n 0, 1) := by decide +kernel
theorem dX3_worth_22 : decode cX3_worth 22 = .ok (.invokevirtual 207, 3) := by decide +kernel
theorem dX3_worth_25 : decode cX3_worth 25 = .ok (.istore_n 2, 1) := by decide +kernel
theorem dX3_worth_26 : decode cX3_worth 26 = .ok (.aload_n 0, 1) := by decide +kernel
theorem dX3_worth_27 : decode cX3_worth 27 = .ok (.invokevirtual 161, 3) := by decide +kernel
theorem dX3_worth_30 : decode cX3_worth 30 = .ok (.aload_n 0, 1) := by decide +kernel
theorem dX3_worth_31 : decode cX3_worth 31 = .ok (.getfield 16, 3) := by decide +kernel
theorem dX3_worth_34 : decode cX3_worth 34 = .ok (.iload_n 1, 1) := by decide +kernel
theorem dX3_worth_35 : decode cX3_worth 35 = .ok (.invokevirtual 203, 3) := by decide +kernel
theorem dX3_worth_38 : decode cX3_worth 38 = .ok (.iload_n 2, 1) := by decide +kernel
theorem dX3_worth_39 : decode cX3_worth 39 = .ok (.aload_n 0, 1) := by decide +kernel
theorem dX3_worth_40 : decode cX3_worth 40 = .ok (.invokevirtual 207, 3) := by decide +kernel
theorem dX3_worth_43 : decode cX3_worth 43 = .ok (.isub, 1) := by decide +kernel
theorem dX3_worth_44 : decode cX3_worth 44 = .ok (.ireturn, 1) := by decide +kernel
theorem dX3_two_0 : decode cX3_two 0 = .ok (.aload_n 0, 1) := by decide +kernel
theorem dX3_two_1 : decode cX3_two 1 = .ok (.iload_n 1, 1) := by decide +kernel
theorem dX3_two_2 : decode cX3_two 2 = .ok (.invokevirtual 100, 3) := by decide +kernel
theorem dX3_two_5 : decode cX3_two 5 = .ok (.ifCond .ne 16, 3) := by decide +kernel
theorem dX3_two_8 : decode cX3_two 8 = .ok (.aload_n 0, 1) := by decide +kernel
theorem dX3_two_9 : decode cX3_two 9 = .ok (.iload_n 2, 1) := by decide +kernel
theorem dX3_two_10 : decode cX3_two 10 = .ok (.invokevirtual 100, 3) := by decide +kernel
theorem dX3_two_13 : decode cX3_two 13 = .ok (.ifCond .ne 8, 3) := by decide +kernel
theorem dX3_two_16 : decode cX3_two 16 = .ok (.iload_n 1, 1) := by decide +kernel
theorem dX3_two_17 : decode cX3_two 17 = .ok (.iload_n 2, 1) := by decide +kernel
theorem dX3_two_18 : decode cX3_two 18 = .ok (.if_icmp .ne 9, 3) := by decide +kernel
theorem dX3_two_21 : decode cX3_two 21 = .ok (.aload_n 0, 1) := by decide +kernel
theorem dX3_two_22 : decode cX3_two 22 = .ok (.iconst (-1), 1) := by decide +kernel
theorem dX3_two_23 : decode cX3_two 23 = .ok (.invokevirtual 47, 3) := by decide +kernel
theorem dX3_two_26 : decode cX3_two 26 = .ok (.ireturn, 1) := by decide +kernel
theorem dX3_two_27 : decode cX3_two 27 = .ok (.iconst 0, 1) := by decide +kernel
theorem dX3_two_28 : decode cX3_two 28 = .ok (.istore_n 3, 1) := by decide +kernel
theorem dX3_two_29 : decode cX3_two 29 = .ok (.iload_n 3, 1) := by decide +kernel
theorem dX3_two_30 : decode cX3_two 30 = .ok (.iconst 2, 1) := by decide +kernel
theorem dX3_two_31 : decode cX3_two 31 = .ok (.if_icmp .ge 56, 3) := by decide +kernel
theorem dX3_two_34 : decode cX3_two 34 = .ok (.iconst 0, 1) := by decide +kernel
theorem dX3_two_35 : decode cX3_two 35 = .ok (.istore 4, 2) := by decide +kernel
theorem dX3_two_37 : decode cX3_two 37 = .ok (.iload 4, 2) := by decide +kernel
theorem dX3_two_39 : decode cX3_two 39 = .ok (.iconst 2, 1) := by decide +kernel
theorem dX3_two_40 : decode cX3_two 40 = .ok (.if_icmp .ge 41, 3) := by decide +kernel
theorem dX3_two_43 : decode cX3_two 43 = .ok (.aload_n 0, 1) := by decide +kernel
theorem dX3_two_44 : decode cX3_two 44 = .ok (.iload_n 1, 1) := by decide +kernel
theorem dX3_two_45 : decode cX3_two 45 = .ok (.iload_n 3, 1) := by decide +kernel
theorem dX3_two_46 : decode cX3_two 46 = .ok (.iload_n 2, 1) := by decide +kernel
theorem dX3_two_47 : decode cX3_two 47 = .ok (.iload 4, 2) := by decide +kernel
theorem dX3_two_49 : decode cX3_two 49 = .ok (.invokevirtual 210, 3) := by decide +kernel
theorem dX3_two_52 : decode cX3_two 52 = .ok (.ifCond .eq 23, 3) := by decide +kernel
theorem dX3_two_55 : decode cX3_two 55 = .ok (.aload_n 0, 1) := by decide +kernel
theorem dX3_two_56 : decode cX3_two 56 = .ok (.iload_n 2, 1) := by decide +kernel
theorem dX3_two_57 : decode cX3_two 57 = .ok (.iload 4, 2) := by decide +kernel
theorem dX3_two_59 : decode cX3_two 59 = .ok (.iload_n 1, 1) := by decide +kernel
theorem dX3_two_60 : decode cX3_two 60 = .ok (.iload_n 3, 1) := by decide +kernel
theorem dX3_two_61 : decode cX3_two 61 = .ok (.invokevirtual 210, 3) := by decide +kernel
theorem dX3_two_64 : decode cX3_two 64 = .ok (.ifCond .eq 11, 3) := by decide +kernel
theorem dX3_two_67 : decode cX3_two 67 = .ok (.bipush 10, 2) := by decide +kernel
theorem dX3_two_69 : decode cX3_two 69 = .ok (.iload_n 3, 1) := by decide +kernel
theorem dX3_two_70 : decode cX3_two 70 = .ok (.imul, 1) := by decide +kernel
theorem dX3_two_71 : decode cX3_two 71 = .ok (.iload 4, 2) := by decide +kernel
theorem dX3_two_73 : decode cX3_two 73 = .ok (.iadd, 1) := by decide +kernel
theorem dX3_two_74 : decode cX3_two 74 = .ok (.ireturn, 1) := by decide +kernel
theorem dX3_two_75 : decode cX3_two 75 = .ok (.iinc 4 1, 3) := by decide +kernel
theorem dX3_two_78 : decode cX3_two 78 = .ok (.goto (-41), 3) := by decide +kernel
theorem dX3_two_81 : decode cX3_two 81 = .ok (.iinc 3 1, 3) := by decide +kernel
theorem dX3_two_84 : decode cX3_two 84 = .ok (.goto (-55), 3) := by decide +kernel
theorem dX3_two_87 : decode cX3_two 87 = .ok (.bipush (-9), 2) := by decide +kernel
theorem dX3_two_89 : decode cX3_two 89 = .ok (.ireturn, 1) := by decide +kernel
theorem dX3_newDoor_0 : decode cX3_newDoor 0 = .ok (.aload_n 0, 1) := by decide +kernel
theorem dX3_newDoor_1 : decode cX3_newDoor 1 = .ok (.invokevirtual 161, 3) := by decide +kernel
theorem dX3_newDoor_4 : decode cX3_newDoor 4 = .ok (.aload_n 0, 1) := by decide +kernel
theorem dX3_newDoor_5 : decode cX3_newDoor 5 = .ok (.invokevirtual 173, 3) := by decide +kernel
theorem dX3_newDoor_8 : decode cX3_newDoor 8 = .ok (.istore_n 1, 1) := by decide +kernel
theorem dX3_newDoor_9 : decode cX3_newDoor 9 = .ok (.bipush (-9), 2) := by decide +kernel
theorem dX3_newDoor_11 : decode cX3_newDoor 11 = .ok (.istore_n 2, 1) := by decide +kernel
theorem dX3_newDoor_12 : decode cX3_newDoor 12 = .ok (.iconst 0, 1) := by decide +kernel
theorem dX3_newDoor_13 : decode cX3_newDoor 13 = .ok (.istore_n 3, 1) := by decide +kernel
theorem dX3_newDoor_14 : decode cX3_newDoor 14 = .ok (.iload_n 3, 1) := by decide +kernel
theorem dX3_newDoor_15 : decode cX3_newDoor 15 = .ok (.bipush 7, 2) := by decide +kernel
theorem dX3_newDoor_17 : decode cX3_newDoor 17 = .ok (.if_icmp .ge 86, 3) := by decide +kernel
theorem dX3_newDoor_20 : decode cX3_newDoor 20 = .ok (.iload_n 3, 1) := by decide +kernel
theorem dX3_newDoor_21 : decode cX3_newDoor 21 = .ok (.iconst 1, 1) := by decide +kernel
theorem dX3_newDoor_22 : decode cX3_newDoor 22 = .ok (.iadd, 1) := by decide +kernel
theorem dX3_newDoor_23 : decode cX3_newDoor 23 = .ok (.istore 4, 2) := by decide +kernel
theorem dX3_newDoor_25 : decode cX3_newDoor 25 = .ok (.iload 4, 2) := by decide +kernel
theorem dX3_newDoor_27 : decode cX3_newDoor 27 = .ok (.bipush 7, 2) := by decide +kernel
theorem dX3_newDoor_29 : decode cX3_newDoor 29 = .ok (.if_icmp .ge 68, 3) := by decide +kernel
theorem dX3_newDoor_32 : decode cX3_newDoor 32 = .ok (.aload_n 0, 1) := by decide +kernel
theorem dX3_newDoor_33 : decode cX3_newDoor 33 = .ok (.getfield 10, 3) := by decide +kernel
theorem dX3_newDoor_36 : decode cX3_newDoor 36 = .ok (.getfield 72, 3) := by decide +kernel
theorem dX3_newDoor_39 : decode cX3_newDoor 39 = .ok (.iload_n 3, 1) := by decide +kernel
theorem dX3_newDoor_40 : decode cX3_newDoor 40 = .ok (.iload 4, 2) := by decide +kernel
theorem dX3_newDoor_42 : decode cX3_newDoor 42 = .ok (.invokevirtual 128, 3) := by decide +kernel
theorem dX3_newDoor_45 : decode cX3_newDoor 45 = .ok (.ifCond .eq 6, 3) := by decide +kernel
theorem dX3_newDoor_48 : decode cX3_newDoor 48 = .ok (.goto 43, 3) := by decide +kernel
theorem dX3_newDoor_51 : decode cX3_newDoor 51 = .ok (.aload_n 0, 1) := by decide +kernel
theorem dX3_newDoor_52 : decode cX3_newDoor 52 = .ok (.invokevirtual 161, 3) := by decide +kernel
theorem dX3_newDoor_55 : decode cX3_newDoor 55 = .ok (.aload_n 0, 1) := by decide +kernel
theorem dX3_newDoor_56 : decode cX3_newDoor 56 = .ok (.getfield 16, 3) := by decide +kernel
theorem dX3_newDoor_59 : decode cX3_newDoor 59 = .ok (.getfield 72, 3) := by decide +kernel
theorem dX3_newDoor_62 : decode cX3_newDoor 62 = .ok (.iload_n 3, 1) := by decide +kernel
theorem dX3_newDoor_63 : decode cX3_newDoor 63 = .ok (.iload 4, 2) := by decide +kernel
theorem dX3_newDoor_65 : decode cX3_newDoor 65 = .ok (.invokevirtual 124, 3) := by decide +kernel
theorem dX3_newDoor_68 : decode cX3_newDoor 68 = .ok (.aload_n 0, 1) := by decide +kernel
theorem dX3_newDoor_69 : decode cX3_newDoor 69 = .ok (.invokevirtual 173, 3) := by decide +kernel
theorem dX3_newDoor_72 : decode cX3_newDoor 72 = .ok (.istore 5, 2) := by decide +kernel
theorem dX3_newDoor_74 : decode cX3_newDoor 74 = .ok (.iload 5, 2) := by decide +kernel
theorem dX3_newDoor_76 : decode cX3_newDoor 76 = .ok (.iload_n 1, 1) := by decide +kernel
theorem dX3_newDoor_77 : decode cX3_newDoor 77 = .ok (.if_icmp .ge 14, 3) := by decide +kernel
theorem dX3_newDoor_80 : decode cX3_newDoor 80 = .ok (.iload 5, 2) := by decide +kernel
theorem dX3_newDoor_82 : decode cX3_newDoor 82 = .ok (.istore_n 1, 1) := by decide +kernel
theorem dX3_newDoor_83 : decode cX3_newDoor 83 = .ok (.bipush 10, 2) := by decide +kernel
theorem dX3_newDoor_85 : decode cX3_newDoor 85 = .ok (.iload_n 3, 1) := by decide +kernel
theorem dX3_newDoor_86 : decode cX3_newDoor 86 = .ok (.imul, 1) := by decide +kernel
theorem dX3_newDoor_87 : decode cX3_newDoor 87 = .ok (.iload 4, 2) := by decide +kernel
theorem dX3_newDoor_89 : decode cX3_newDoor 89 = .ok (.iadd, 1) := by decide +kernel
theorem dX3_newDoor_90 : decode cX3_newDoor 90 = .ok (.istore_n 2, 1) := by decide +kernel
theorem dX3_newDoor_91 : decode cX3_newDoor 91 = .ok (.iinc 4 1, 3) := by decide +kernel
theorem dX3_newDoor_94 : decode cX3_newDoor 94 = .ok (.goto (-69), 3) := by decide +kernel
theorem dX3_newDoor_97 : decode cX3_newDoor 97 = .ok (.iinc 3 1, 3) := by decide +kernel
theorem dX3_newDoor_100 : decode cX3_newDoor 100 = .ok (.goto (-86), 3) := by decide +kernel
theorem dX3_newDoor_103 : decode cX3_newDoor 103 = .ok (.iload_n 2, 1) := by decide +kernel
theorem dX3_newDoor_104 : decode cX3_newDoor 104 = .ok (.ireturn, 1) := by decide +kernel
theorem dX3_which_0 : decode cX3_which 0 = .ok (.aload_n 0, 1) := by decide +kernel
theorem dX3_which_1 : decode cX3_which 1 = .ok (.iload_n 1, 1) := by decide +kernel
theorem dX3_which_2 : decode cX3_which 2 = .ok (.invokevirtual 100, 3) := by decide +kernel
theorem dX3_which_5 : decode cX3_which 5 = .ok (.ifCond .ne 11, 3) := by decide +kernel
theorem dX3_which_8 : decode cX3_which 8 = .ok (.aload_n 0, 1) := by decide +kernel
theorem dX3_which_9 : decode cX3_which 9 = .ok (.iload_n 2, 1) := by decide +kernel
theorem dX3_which_10 : decode cX3_which 10 = .ok (.invokevirtual 82, 3) := by decide +kernel
theorem dX3_which_13 : decode cX3_which 13 = .ok (.ifCond .eq 9, 3) := by decide +kernel
theorem dX3_which_16 : decode cX3_which 16 = .ok (.aload_n 0, 1) := by decide +kernel
theorem dX3_which_17 : decode cX3_which 17 = .ok (.iconst (-1), 1) := by decide +kernel
theorem dX3_which_18 : decode cX3_which 18 = .ok (.invokevirtual 47, 3) := by decide +kernel
theorem dX3_which_21 : decode cX3_which 21 = .ok (.ireturn, 1) := by decide +kernel
theorem dX3_which_22 : decode cX3_which 22 = .ok (.iload_n 3, 1) := by decide +kernel
theorem dX3_which_23 : decode cX3_which 23 = .ok (.ifCond .lt 8, 3) := by decide +kernel
theorem dX3_which_26 : decode cX3_which 26 = .ok (.iload_n 3, 1) := by decide +kernel
theorem dX3_which_27 : decode cX3_which 27 = .ok (.iconst 1, 1) := by decide +kernel
theorem dX3_which_28 : decode cX3_which 28 = .ok (.if_icmp .le 10, 3) := by decide +kernel
theorem dX3_which_31 : decode cX3_which 31 = .ok (.aload_n 0, 1) := by decide +kernel
theorem dX3_which_32 : decode cX3_which 32 = .ok (.bipush (-2), 2) := by decide +kernel
theorem dX3_which_34 : decode cX3_which 34 = .ok (.invokevirtual 47, 3) := by decide +kernel
theorem dX3_which_37 : decode cX3_which 37 = .ok (.ireturn, 1) := by decide +kernel
theorem dX3_which_38 : decode cX3_which 38 = .ok (.aload_n 0, 1) := by decide +kernel
theorem dX3_which_39 : decode cX3_which 39 = .ok (.getfield 40, 3) := by decide +kernel
theorem dX3_which_42 : decode cX3_which 42 = .ok (.aload_n 0, 1) := by decide +kernel
theorem dX3_which_43 : decode cX3_which 43 = .ok (.getfield 10, 3) := by decide +kernel
theorem dX3_which_46 : decode cX3_which 46 = .ok (.getfield 200, 3) := by decide +kernel
theorem dX3_which_49 : decode cX3_which 49 = .ok (.if_icmp .eq 10, 3) := by decide +kernel
theorem dX3_which_52 : decode cX3_which 52 = .ok (.aload_n 0, 1) := by decide +kernel
theorem dX3_which_53 : decode cX3_which 53 = .ok (.bipush (-3), 2) := by decide +kernel
theorem dX3_which_55 : decode cX3_which 55 = .ok (.invokevirtual 47, 3) := by decide +kernel
theorem dX3_which_58 : decode cX3_which 58 = .ok (.ireturn, 1) := by decide +kernel
theorem dX3_which_59 : decode cX3_which 59 = .ok (.iconst 0, 1) := by decide +kernel
theorem dX3_which_60 : decode cX3_which 60 = .ok (.istore 4, 2) := by decide +kernel
theorem dX3_which_62 : decode cX3_which 62 = .ok (.iload_n 3, 1) := by decide +kernel
theorem dX3_which_63 : decode cX3_which 63 = .ok (.ifCond .ne 8, 3) := by decide +kernel
theorem dX3_which_66 : decode cX3_which 66 = .ok (.bipush 6, 2) := by decide +kernel
theorem dX3_which_68 : decode cX3_which 68 = .ok (.goto 5, 3) := by decide +kernel
theorem dX3_which_71 : decode cX3_which 71 = .ok (.bipush 10, 2) := by decide +kernel
theorem dX3_which_73 : decode cX3_which 73 = .ok (.istore 5, 2) := by decide +kernel
theorem dX3_which_75 : decode cX3_which 75 = .ok (.iconst 0, 1) := by decide +kernel
theorem dX3_which_76 : decode cX3_which 76 = .ok (.istore 6, 2) := by decide +kernel
theorem dX3_which_78 : decode cX3_which 78 = .ok (.iload 6, 2) := by decide +kernel
theorem dX3_which_80 : decode cX3_which 80 = .ok (.iload 5, 2) := by decide +kernel
theorem dX3_which_82 : decode cX3_which 82 = .ok (.if_icmp .ge 68, 3) := by decide +kernel
theorem dX3_which_85 : decode cX3_which 85 = .ok (.aload_n 0, 1) := by decide +kernel
theorem dX3_which_86 : decode cX3_which 86 = .ok (.invokevirtual 161, 3) := by decide +kernel
theorem dX3_which_89 : decode cX3_which 89 = .ok (.iload_n 3, 1) := by decide +kernel
theorem dX3_which_90 : decode cX3_which 90 = .ok (.ifCond .ne 17, 3) := by decide +kernel
theorem dX3_which_93 : decode cX3_which 93 = .ok (.aload_n 0, 1) := by decide +kernel
theorem dX3_which_94 : decode cX3_which 94 = .ok (.getfield 16, 3) := by decide +kernel
theorem dX3_which_97 : decode cX3_which 97 = .ok (.getfield 85, 3) := by decide +kernel
theorem dX3_which_100 : decode cX3_which 100 = .ok (.iload_n 2, 1) := by decide +kernel
theorem dX3_which_101 : decode cX3_which 101 = .ok (.iload 6, 2) := by decide +kernel
theorem dX3_which_103 : decode cX3_which 103 = .ok (.iastore, 1) := by decide +kernel
theorem dX3_which_104 : decode cX3_which 104 = .ok (.goto 14, 3) := by decide +kernel
theorem dX3_which_107 : decode cX3_which 107 = .ok (.aload_n 0, 1) := by decide +kernel
theorem dX3_which_108 : decode cX3_which 108 = .ok (.getfield 16, 3) := by decide +kernel
theorem dX3_which_111 : decode cX3_which 111 = .ok (.getfield 106, 3) := by decide +kernel
theorem dX3_which_114 : decode cX3_which 114 = .ok (.iload_n 1, 1) := by decide +kernel
theorem dX3_which_115 : decode cX3_which 115 = .ok (.iload 6, 2) := by decide +kernel
theorem dX3_which_117 : decode cX3_which 117 = .ok (.iastore, 1) := by decide +kernel
theorem dX3_which_118 : decode cX3_which 118 = .ok (.aload_n 0, 1) := by decide +kernel
theorem dX3_which_119 : decode cX3_which 119 = .ok (.getfield 16, 3) := by decide +kernel
theorem dX3_which_122 : decode cX3_which 122 = .ok (.bipush 99, 2) := by decide +kernel
theorem dX3_which_124 : decode cX3_which 124 = .ok (.invokevirtual 142, 3) := by decide +kernel
theorem dX3_which_127 : decode cX3_which 127 = .ok (.aload_n 0, 1) := by decide +kernel
theorem dX3_which_128 : decode cX3_which 128 = .ok (.iload_n 1, 1) := by decide +kernel
theorem dX3_which_129 : decode cX3_which 129 = .ok (.invokevirtual 214, 3) := by decide +kernel
theorem dX3_which_132 : decode cX3_which 132 = .ok (.ifCond .eq 12, 3) := by decide +kernel
theorem dX3_which_135 : decode cX3_which 135 = .ok (.iload 4, 2) := by decide +kernel
theorem dX3_which_137 : decode cX3_which 137 = .ok (.iconst 1, 1) := by decide +kernel
theorem dX3_which_138 : decode cX3_which 138 = .ok (.iload 6, 2) := by decide +kernel
theorem dX3_which_140 : decode cX3_which 140 = .ok (.ishl, 1) := by decide +kernel
theorem dX3_which_141 : decode cX3_which 141 = .ok (.ior, 1) := by decide +kernel
theorem dX3_which_142 : decode cX3_which 142 = .ok (.istore 4, 2) := by decide +kernel
theorem dX3_which_144 : decode cX3_which 144 = .ok (.iinc 6 1, 3) := by decide +kernel
theorem dX3_which_147 : decode cX3_which 147 = .ok (.goto (-69), 3) := by decide +kernel
theorem dX3_which_150 : decode cX3_which 150 = .ok (.iload 4, 2) := by decide +kernel
theorem dX3_which_152 : decode cX3_which 152 = .ok (.ireturn, 1) := by decide +kernel
theorem dX3_row_0 : decode cX3_row 0 = .ok (.iload_n 1, 1) := by decide +kernel
theorem dX3_row_1 : decode cX3_row 1 = .ok (.ifCond .ge 10, 3) := by decide +kernel
theorem dX3_row_4 : decode cX3_row 4 = .ok (.aload_n 0, 1) := by decide +kernel
theorem dX3_row_5 : decode cX3_row 5 = .ok (.bipush (-4), 2) := by decide +kernel
theorem dX3_row_7 : decode cX3_row 7 = .ok (.invokevirtual 47, 3) := by decide +kernel
theorem dX3_row_10 : decode cX3_row 10 = .ok (.ireturn, 1) := by decide +kernel
theorem dX3_row_11 : decode cX3_row 11 = .ok (.iload_n 1, 1) := by decide +kernel
theorem dX3_row_12 : decode cX3_row 12 = .ok (.bipush 99, 2) := by decide +kernel
theorem dX3_row_14 : decode cX3_row 14 = .ok (.if_icmp .gt 12, 3) := by decide +kernel
theorem dX3_row_17 : decode cX3_row 17 = .ok (.aload_n 0, 1) := by decide +kernel
theorem dX3_row_18 : decode cX3_row 18 = .ok (.getfield 40, 3) := by decide +kernel
theorem dX3_row_21 : decode cX3_row 21 = .ok (.bipush 12, 2) := by decide +kernel
theorem dX3_row_23 : decode cX3_row 23 = .ok (.if_icmp .lt 10, 3) := by decide +kernel
theorem dX3_row_26 : decode cX3_row 26 = .ok (.aload_n 0, 1) := by decide +kernel
theorem dX3_row_27 : decode cX3_row 27 = .ok (.bipush (-6), 2) := by decide +kernel
theorem dX3_row_29 : decode cX3_row 29 = .ok (.invokevirtual 47, 3) := by decide +kernel
theorem dX3_row_32 : decode cX3_row 32 = .ok (.ireturn, 1) := by decide +kernel
theorem dX3_row_33 : decode cX3_row 33 = .ok (.aload_n 0, 1) := by decide +kernel
theorem dX3_row_34 : decode cX3_row 34 = .ok (.getfield 36, 3) := by decide +kernel
theorem dX3_row_37 : decode cX3_row 37 = .ok (.aload_n 0, 1) := by decide +kernel
theorem dX3_row_38 : decode cX3_row 38 = .ok (.getfield 40, 3) := by decide +kernel
theorem dX3_row_41 : decode cX3_row 41 = .ok (.iload_n 1, 1) := by decide +kernel
theorem dX3_row_42 : decode cX3_row 42 = .ok (.iastore, 1) := by decide +kernel
theorem dX3_row_43 : decode cX3_row 43 = .ok (.aload_n 0, 1) := by decide +kernel
theorem dX3_row_44 : decode cX3_row 44 = .ok (.dup, 1) := by decide +kernel
theorem dX3_row_45 : decode cX3_row 45 = .ok (.getfield 40, 3) := by decide +kernel
theorem dX3_row_48 : decode cX3_row 48 = .ok (.iconst 1, 1) := by decide +kernel
theorem dX3_row_49 : decode cX3_row 49 = .ok (.iadd, 1) := by decide +kernel
theorem dX3_row_50 : decode cX3_row 50 = .ok (.putfield 40, 3) := by decide +kernel
theorem dX3_row_53 : decode cX3_row 53 = .ok (.aload_n 0, 1) := by decide +kernel
theorem dX3_row_54 : decode cX3_row 54 = .ok (.getfield 40, 3) := by decide +kernel
theorem dX3_row_57 : decode cX3_row 57 = .ok (.ireturn, 1) := by decide +kernel
theorem dX3_judge_0 : decode cX3_judge 0 = .ok (.aload_n 0, 1) := by decide +kernel
theorem dX3_judge_1 : decode cX3_judge 1 = .ok (.iload_n 1, 1) := by decide +kernel
theorem dX3_judge_2 : decode cX3_judge 2 = .ok (.invokevirtual 100, 3) := by decide +kernel
theorem dX3_judge_5 : decode cX3_judge 5 = .ok (.ifCond .eq 9, 3) := by decide +kernel
theorem dX3_judge_8 : decode cX3_judge 8 = .ok (.aload_n 0, 1) := by decide +kernel
theorem dX3_judge_9 : decode cX3_judge 9 = .ok (.iconst (-1), 1) := by decide +kernel
theorem dX3_judge_10 : decode cX3_judge 10 = .ok (.invokevirtual 47, 3) := by decide +kernel
theorem dX3_judge_13 : decode cX3_judge 13 = .ok (.ireturn, 1) := by decide +kernel
theorem dX3_judge_14 : decode cX3_judge 14 = .ok (.bipush (-9), 2) := by decide +kernel
theorem dX3_judge_16 : decode cX3_judge 16 = .ok (.istore_n 2, 1) := by decide +kernel
theorem dX3_judge_17 : decode cX3_judge 17 = .ok (.aload_n 0, 1) := by decide +kernel
theorem dX3_judge_18 : decode cX3_judge 18 = .ok (.invokevirtual 161, 3) := by decide +kernel
theorem dX3_judge_21 : decode cX3_judge 21 = .ok (.iconst 0, 1) := by decide +kernel
theorem dX3_judge_22 : decode cX3_judge 22 = .ok (.istore_n 3, 1) := by decide +kernel
theorem dX3_judge_23 : decode cX3_judge 23 = .ok (.iload_n 3, 1) := by decide +kernel
theorem dX3_judge_24 : decode cX3_judge 24 = .ok (.aload_n 0, 1) := by decide +kernel
theorem dX3_judge_25 : decode cX3_judge 25 = .ok (.getfield 40, 3) := by decide +kernel
theorem dX3_judge_28 : decode cX3_judge 28 = .ok (.if_icmp .ge 41, 3) := by decide +kernel
theorem dX3_judge_31 : decode cX3_judge 31 = .ok (.iload_n 2, 1) := by decide +kernel
theorem dX3_judge_32 : decode cX3_judge 32 = .ok (.bipush (-9), 2) := by decide +kernel
theorem dX3_judge_34 : decode cX3_judge 34 = .ok (.if_icmp .ne 35, 3) := by decide +kernel
theorem dX3_judge_37 : decode cX3_judge 37 = .ok (.aload_n 0, 1) := by decide +kernel
theorem dX3_judge_38 : decode cX3_judge 38 = .ok (.getfield 16, 3) := by decide +kernel
theorem dX3_judge_41 : decode cX3_judge 41 = .ok (.iload_n 1, 1) := by decide +kernel
theorem dX3_judge_42 : decode cX3_judge 42 = .ok (.invokevirtual 152, 3) := by decide +kernel
theorem dX3_judge_45 : decode cX3_judge 45 = .ok (.aload_n 0, 1) := by decide +kernel
theorem dX3_judge_46 : decode cX3_judge 46 = .ok (.getfield 36, 3) := by decide +kernel
theorem dX3_judge_49 : decode cX3_judge 49 = .ok (.iload_n 3, 1) := by decide +kernel
theorem dX3_judge_50 : decode cX3_judge 50 = .ok (.iaload, 1) := by decide +kernel
theorem dX3_judge_51 : decode cX3_judge 51 = .ok (.if_icmp .eq 5, 3) := by decide +kernel
theorem dX3_judge_54 : decode cX3_judge 54 = .ok (.iload_n 3, 1) := by decide +kernel
theorem dX3_judge_55 : decode cX3_judge 55 = .ok (.istore_n 2, 1) := by decide +kernel
theorem dX3_judge_56 : decode cX3_judge 56 = .ok (.aload_n 0, 1) := by decide +kernel
theorem dX3_judge_57 : decode cX3_judge 57 = .ok (.getfield 16, 3) := by decide +kernel
theorem dX3_judge_60 : decode cX3_judge 60 = .ok (.invokevirtual 217, 3) := by decide +kernel
theorem dX3_judge_63 : decode cX3_judge 63 = .ok (.iinc 3 1, 3) := by decide +kernel
theorem dX3_judge_66 : decode cX3_judge 66 = .ok (.goto (-43), 3) := by decide +kernel
theorem dX3_judge_69 : decode cX3_judge 69 = .ok (.aload_n 0, 1) := by decide +kernel
theorem dX3_judge_70 : decode cX3_judge 70 = .ok (.iconst 0, 1) := by decide +kernel
theorem dX3_judge_71 : decode cX3_judge 71 = .ok (.putfield 40, 3) := by decide +kernel
theorem dX3_judge_74 : decode cX3_judge 74 = .ok (.iload_n 2, 1) := by decide +kernel
theorem dX3_judge_75 : decode cX3_judge 75 = .ok (.ireturn, 1) := by decide +kernel
theorem dX3_clear_0 : decode cX3_clear 0 = .ok (.aload_n 0, 1) := by decide +kernel
theorem dX3_clear_1 : decode cX3_clear 1 = .ok (.getfield 40, 3) := by decide +kernel
theorem dX3_clear_4 : decode cX3_clear 4 = .ok (.istore_n 1, 1) := by decide +kernel
theorem dX3_clear_5 : decode cX3_clear 5 = .ok (.aload_n 0, 1) := by decide +kernel
theorem dX3_clear_6 : decode cX3_clear 6 = .ok (.iconst 0, 1) := by decide +kernel
theorem dX3_clear_7 : decode cX3_clear 7 = .ok (.putfield 40, 3) := by decide +kernel
theorem dX3_clear_10 : decode cX3_clear 10 = .ok (.iload_n 1, 1) := by decide +kernel
theorem dX3_clear_11 : decode cX3_clear 11 = .ok (.ireturn, 1) := by decide +kernel
theorem dX3_lots_0 : decode cX3_lots 0 = .ok (.iload_n 1, 1) := by decide +kernel
theorem dX3_lots_1 : decode cX3_lots 1 = .ok (.iconst 1, 1) := by decide +kernel
theorem dX3_lots_2 : decode cX3_lots 2 = .ok (.if_icmp .ge 10, 3) := by decide +kernel
theorem dX3_lots_5 : decode cX3_lots 5 = .ok (.aload_n 0, 1) := by decide +kernel
theorem dX3_lots_6 : decode cX3_lots 6 = .ok (.bipush (-4), 2) := by decide +kernel
theorem dX3_lots_8 : decode cX3_lots 8 = .ok (.invokevirtual 47, 3) := by decide +kernel
theorem dX3_lots_11 : decode cX3_lots 11 = .ok (.ireturn, 1) := by decide +kernel
theorem dX3_lots_12 : decode cX3_lots 12 = .ok (.iload_n 1, 1) := by decide +kernel
theorem dX3_lots_13 : decode cX3_lots 13 = .ok (.bipush 20, 2) := by decide +kernel
theorem dX3_lots_15 : decode cX3_lots 15 = .ok (.if_icmp .le 10, 3) := by decide +kernel
theorem dX3_lots_18 : decode cX3_lots 18 = .ok (.aload_n 0, 1) := by decide +kernel
theorem dX3_lots_19 : decode cX3_lots 19 = .ok (.bipush (-6), 2) := by decide +kernel
theorem dX3_lots_21 : decode cX3_lots 21 = .ok (.invokevirtual 47, 3) := by decide +kernel
theorem dX3_lots_24 : decode cX3_lots 24 = .ok (.ireturn, 1) := by decide +kernel
theorem dX3_lots_25 : decode cX3_lots 25 = .ok (.iload_n 3, 1) := by decide +kernel
theorem dX3_lots_26 : decode cX3_lots 26 = .ok (.ifCond .lt 8, 3) := by decide +kernel
theorem dX3_lots_29 : decode cX3_lots 29 = .ok (.iload_n 3, 1) := by decide +kernel
theorem dX3_lots_30 : decode cX3_lots 30 = .ok (.iconst 1, 1) := by decide +kernel
theorem dX3_lots_31 : decode cX3_lots 31 = .ok (.if_icmp .le 10, 3) := by decide +kernel
theorem dX3_lots_34 : decode cX3_lots 34 = .ok (.aload_n 0, 1) := by decide +kernel
theorem dX3_lots_35 : decode cX3_lots 35 = .ok (.bipush (-2), 2) := by decide +kernel
theorem dX3_lots_37 : decode cX3_lots 37 = .ok (.invokevirtual 47, 3) := by decide +kernel
theorem dX3_lots_40 : decode cX3_lots 40 = .ok (.ireturn, 1) := by decide +kernel
theorem dX3_lots_41 : decode cX3_lots 41 = .ok (.iload_n 2, 1) := by decide +kernel
theorem dX3_lots_42 : decode cX3_lots 42 = .ok (.istore 4, 2) := by decide +kernel
theorem dX3_lots_44 : decode cX3_lots 44 = .ok (.iconst 0, 1) := by decide +kernel
theorem dX3_lots_45 : decode cX3_lots 45 = .ok (.istore 5, 2) := by decide +kernel
theorem dX3_lots_47 : decode cX3_lots 47 = .ok (.iconst 0, 1) := by decide +kernel
theorem dX3_lots_48 : decode cX3_lots 48 = .ok (.istore 6, 2) := by decide +kernel
theorem dX3_lots_50 : decode cX3_lots 50 = .ok (.iload 6, 2) := by decide +kernel
theorem dX3_lots_52 : decode cX3_lots 52 = .ok (.iload_n 1, 1) := by decide +kernel
theorem dX3_lots_53 : decode cX3_lots 53 = .ok (.if_icmp .ge 119, 3) := by decide +kernel
theorem dX3_lots_56 : decode cX3_lots 56 = .ok (.aload_n 0, 1) := by decide +kernel
theorem dX3_lots_57 : decode cX3_lots 57 = .ok (.invokevirtual 161, 3) := by decide +kernel
theorem dX3_lots_60 : decode cX3_lots 60 = .ok (.iconst 0, 1) := by decide +kernel
theorem dX3_lots_61 : decode cX3_lots 61 = .ok (.istore 7, 2) := by decide +kernel
theorem dX3_lots_63 : decode cX3_lots 63 = .ok (.iload 7, 2) := by decide +kernel
theorem dX3_lots_65 : decode cX3_lots 65 = .ok (.aload_n 0, 1) := by decide +kernel
theorem dX3_lots_66 : decode cX3_lots 66 = .ok (.getfield 16, 3) := by decide +kernel
theorem dX3_lots_69 : decode cX3_lots 69 = .ok (.getfield 188, 3) := by decide +kernel
theorem dX3_lots_72 : decode cX3_lots 72 = .ok (.if_icmp .ge 59, 3) := by decide +kernel
theorem dX3_lots_75 : decode cX3_lots 75 = .ok (.iload 4, 2) := by decide +kernel
theorem dX3_lots_77 : decode cX3_lots 77 = .ok (.invokestatic 220, 3) := by decide +kernel
theorem dX3_lots_80 : decode cX3_lots 80 = .ok (.istore 4, 2) := by decide +kernel
theorem dX3_lots_82 : decode cX3_lots 82 = .ok (.aload_n 0, 1) := by decide +kernel
theorem dX3_lots_83 : decode cX3_lots 83 = .ok (.getfield 16, 3) := by decide +kernel
theorem dX3_lots_86 : decode cX3_lots 86 = .ok (.getfield 112, 3) := by decide +kernel
theorem dX3_lots_89 : decode cX3_lots 89 = .ok (.iload 7, 2) := by decide +kernel
theorem dX3_lots_91 : decode cX3_lots 91 = .ok (.iload 4, 2) := by decide +kernel
theorem dX3_lots_93 : decode cX3_lots 93 = .ok (.invokestatic 223, 3) := by decide +kernel
theorem dX3_lots_96 : decode cX3_lots 96 = .ok (.bipush 7, 2) := by decide +kernel
theorem dX3_lots_98 : decode cX3_lots 98 = .ok (.irem, 1) := by decide +kernel
theorem dX3_lots_99 : decode cX3_lots 99 = .ok (.iastore, 1) := by decide +kernel
theorem dX3_lots_100 : decode cX3_lots 100 = .ok (.iload 4, 2) := by decide +kernel
theorem dX3_lots_102 : decode cX3_lots 102 = .ok (.invokestatic 220, 3) := by decide +kernel
theorem dX3_lots_105 : decode cX3_lots 105 = .ok (.istore 4, 2) := by decide +kernel
theorem dX3_lots_107 : decode cX3_lots 107 = .ok (.aload_n 0, 1) := by decide +kernel
theorem dX3_lots_108 : decode cX3_lots 108 = .ok (.getfield 16, 3) := by decide +kernel
theorem dX3_lots_111 : decode cX3_lots 111 = .ok (.getfield 109, 3) := by decide +kernel
theorem dX3_lots_114 : decode cX3_lots 114 = .ok (.iload 7, 2) := by decide +kernel
theorem dX3_lots_116 : decode cX3_lots 116 = .ok (.iload 4, 2) := by decide +kernel
theorem dX3_lots_118 : decode cX3_lots 118 = .ok (.invokestatic 223, 3) := by decide +kernel
theorem dX3_lots_121 : decode cX3_lots 121 = .ok (.bipush 8, 2) := by decide +kernel
theorem dX3_lots_123 : decode cX3_lots 123 = .ok (.irem, 1) := by decide +kernel
theorem dX3_lots_124 : decode cX3_lots 124 = .ok (.iastore, 1) := by decide +kernel
theorem dX3_lots_125 : decode cX3_lots 125 = .ok (.iinc 7 1, 3) := by decide +kernel
theorem dX3_lots_128 : decode cX3_lots 128 = .ok (.goto (-65), 3) := by decide +kernel
theorem dX3_lots_131 : decode cX3_lots 131 = .ok (.aload_n 0, 1) := by decide +kernel
theorem dX3_lots_132 : decode cX3_lots 132 = .ok (.getfield 16, 3) := by decide +kernel
theorem dX3_lots_135 : decode cX3_lots 135 = .ok (.bipush 30, 2) := by decide +kernel
theorem dX3_lots_137 : decode cX3_lots 137 = .ok (.invokevirtual 142, 3) := by decide +kernel
theorem dX3_lots_140 : decode cX3_lots 140 = .ok (.iload 5, 2) := by decide +kernel
theorem dX3_lots_142 : decode cX3_lots 142 = .ok (.iload_n 3, 1) := by decide +kernel
theorem dX3_lots_143 : decode cX3_lots 143 = .ok (.ifCond .ne 13, 3) := by decide +kernel
theorem dX3_lots_146 : decode cX3_lots 146 = .ok (.aload_n 0, 1) := by decide +kernel
theorem dX3_lots_147 : decode cX3_lots 147 = .ok (.getfield 16, 3) := by decide +kernel
theorem dX3_lots_150 : decode cX3_lots 150 = .ok (.invokevirtual 146, 3) := by decide +kernel
theorem dX3_lots_153 : decode cX3_lots 153 = .ok (.goto 10, 3) := by decide +kernel
theorem dX3_lots_156 : decode cX3_lots 156 = .ok (.aload_n 0, 1) := by decide +kernel
theorem dX3_lots_157 : decode cX3_lots 157 = .ok (.getfield 16, 3) := by decide +kernel
theorem dX3_lots_160 : decode cX3_lots 160 = .ok (.invokevirtual 226, 3) := by decide +kernel
theorem dX3_lots_163 : decode cX3_lots 163 = .ok (.iadd, 1) := by decide +kernel
theorem dX3_lots_164 : decode cX3_lots 164 = .ok (.istore 5, 2) := by decide +kernel
theorem dX3_lots_166 : decode cX3_lots 166 = .ok (.iinc 6 1, 3) := by decide +kernel
theorem dX3_lots_169 : decode cX3_lots 169 = .ok (.goto (-119), 3) := by decide +kernel
theorem dX3_lots_172 : decode cX3_lots 172 = .ok (.iload 5, 2) := by decide +kernel
theorem dX3_lots_174 : decode cX3_lots 174 = .ok (.ireturn, 1) := by decide +kernel
theorem dX3_image_0 : decode cX3_image 0 = .ok (.aload_n 0, 1) := by decide +kernel
theorem dX3_image_1 : decode cX3_image 1 = .ok (.getfield 22, 3) := by decide +kernel
theorem dX3_image_4 : decode cX3_image 4 = .ok (.aload_n 0, 1) := by decide +kernel
theorem dX3_image_5 : decode cX3_image 5 = .ok (.getfield 10, 3) := by decide +kernel
theorem dX3_image_8 : decode cX3_image 8 = .ok (.invokevirtual 229, 3) := by decide +kernel
theorem dX3_image_11 : decode cX3_image 11 = .ok (.aload_n 0, 1) := by decide +kernel
theorem dX3_image_12 : decode cX3_image 12 = .ok (.iconst 1, 1) := by decide +kernel
theorem dX3_image_13 : decode cX3_image 13 = .ok (.putfield 25, 3) := by decide +kernel
theorem dX3_image_16 : decode cX3_image 16 = .ok (.aload_n 0, 1) := by decide +kernel
theorem dX3_image_17 : decode cX3_image 17 = .ok (.getfield 10, 3) := by decide +kernel
theorem dX3_image_20 : decode cX3_image 20 = .ok (.getfield 139, 3) := by decide +kernel
theorem dX3_image_23 : decode cX3_image 23 = .ok (.ireturn, 1) := by decide +kernel
theorem dX3_on_0 : decode cX3_on 0 = .ok (.aload_n 0, 1) := by decide +kernel
theorem dX3_on_1 : decode cX3_on 1 = .ok (.getfield 25, 3) := by decide +kernel
theorem dX3_on_4 : decode cX3_on 4 = .ok (.ifCond .ne 10, 3) := by decide +kernel
theorem dX3_on_7 : decode cX3_on 7 = .ok (.aload_n 0, 1) := by decide +kernel
theorem dX3_on_8 : decode cX3_on 8 = .ok (.bipush (-3), 2) := by decide +kernel
theorem dX3_on_10 : decode cX3_on 10 = .ok (.invokevirtual 47, 3) := by decide +kernel
theorem dX3_on_13 : decode cX3_on 13 = .ok (.ireturn, 1) := by decide +kernel
theorem dX3_on_14 : decode cX3_on 14 = .ok (.aload_n 0, 1) := by decide +kernel
theorem dX3_on_15 : decode cX3_on 15 = .ok (.getfield 10, 3) := by decide +kernel
theorem dX3_on_18 : decode cX3_on 18 = .ok (.aload_n 0, 1) := by decide +kernel
theorem dX3_on_19 : decode cX3_on 19 = .ok (.getfield 22, 3) := by decide +kernel
theorem dX3_on_22 : decode cX3_on 22 = .ok (.invokevirtual 229, 3) := by decide +kernel
theorem dX3_on_25 : decode cX3_on 25 = .ok (.aload_n 0, 1) := by decide +kernel
theorem dX3_on_26 : decode cX3_on 26 = .ok (.getfield 10, 3) := by decide +kernel
theorem dX3_on_29 : decode cX3_on 29 = .ok (.getfield 139, 3) := by decide +kernel
theorem dX3_on_32 : decode cX3_on 32 = .ok (.ireturn, 1) := by decide +kernel
theorem dX3_count_0 : decode cX3_count 0 = .ok (.iload_n 1, 1) := by decide +kernel
theorem dX3_count_1 : decode cX3_count 1 = .ok (.tableswitch 111 0 7 #[47, 55, 63, 74, 82, 90, 98, 103], 47) := by decide +kernel
theorem dX3_count_48 : decode cX3_count 48 = .ok (.aload_n 0, 1) := by decide +kernel
theorem dX3_count_49 : decode cX3_count 49 = .ok (.getfield 10, 3) := by decide +kernel
theorem dX3_count_52 : decode cX3_count 52 = .ok (.getfield 200, 3) := by decide +kernel
theorem dX3_count_55 : decode cX3_count 55 = .ok (.ireturn, 1) := by decide +kernel
theorem dX3_count_56 : decode cX3_count 56 = .ok (.aload_n 0, 1) := by decide +kernel
theorem dX3_count_57 : decode cX3_count 57 = .ok (.getfield 10, 3) := by decide +kernel
theorem dX3_count_60 : decode cX3_count 60 = .ok (.getfield 188, 3) := by decide +kernel
theorem dX3_count_63 : decode cX3_count 63 = .ok (.ireturn, 1) := by decide +kernel
theorem dX3_count_64 : decode cX3_count 64 = .ok (.aload_n 0, 1) := by decide +kernel
theorem dX3_count_65 : decode cX3_count 65 = .ok (.getfield 10, 3) := by decide +kernel
theorem dX3_count_68 : decode cX3_count 68 = .ok (.getfield 72, 3) := by decide +kernel
theorem dX3_count_71 : decode cX3_count 71 = .ok (.invokevirtual 233, 3) := by decide +kernel
theorem dX3_count_74 : decode cX3_count 74 = .ok (.ireturn, 1) := by decide +kernel
theorem dX3_count_75 : decode cX3_count 75 = .ok (.aload_n 0, 1) := by decide +kernel
theorem dX3_count_76 : decode cX3_count 76 = .ok (.getfield 10, 3) := by decide +kernel
theorem dX3_count_79 : decode cX3_count 79 = .ok (.getfield 139, 3) := by decide +kernel
theorem dX3_count_82 : decode cX3_count 82 = .ok (.ireturn, 1) := by decide +kernel
theorem dX3_count_83 : decode cX3_count 83 = .ok (.aload_n 0, 1) := by decide +kernel
theorem dX3_count_84 : decode cX3_count 84 = .ok (.getfield 10, 3) := by decide +kernel
theorem dX3_count_87 : decode cX3_count 87 = .ok (.invokevirtual 236, 3) := by decide +kernel
theorem dX3_count_90 : decode cX3_count 90 = .ok (.ireturn, 1) := by decide +kernel
theorem dX3_count_91 : decode cX3_count 91 = .ok (.aload_n 0, 1) := by decide +kernel
theorem dX3_count_92 : decode cX3_count 92 = .ok (.getfield 10, 3) := by decide +kernel
theorem dX3_count_95 : decode cX3_count 95 = .ok (.invokevirtual 146, 3) := by decide +kernel
theorem dX3_count_98 : decode cX3_count 98 = .ok (.ireturn, 1) := by decide +kernel
theorem dX3_count_99 : decode cX3_count 99 = .ok (.aload_n 0, 1) := by decide +kernel
theorem dX3_count_100 : decode cX3_count 100 = .ok (.getfield 40, 3) := by decide +kernel
theorem dX3_count_103 : decode cX3_count 103 = .ok (.ireturn, 1) := by decide +kernel
theorem dX3_count_104 : decode cX3_count 104 = .ok (.aload_n 0, 1) := by decide +kernel
theorem dX3_count_105 : decode cX3_count 105 = .ok (.getfield 32, 3) := by decide +kernel
theorem dX3_count_108 : decode cX3_count 108 = .ok (.invokevirtual 239, 3) := by decide +kernel
theorem dX3_count_111 : decode cX3_count 111 = .ok (.ireturn, 1) := by decide +kernel
theorem dX3_count_112 : decode cX3_count 112 = .ok (.iload_n 1, 1) := by decide +kernel
theorem dX3_count_113 : decode cX3_count 113 = .ok (.bipush 11, 2) := by decide +kernel
theorem dX3_count_115 : decode cX3_count 115 = .ok (.if_icmp .lt 21, 3) := by decide +kernel
theorem dX3_count_118 : decode cX3_count 118 = .ok (.iload_n 1, 1) := by decide +kernel
theorem dX3_count_119 : decode cX3_count 119 = .ok (.bipush 16, 2) := by decide +kernel
theorem dX3_count_121 : decode cX3_count 121 = .ok (.if_icmp .gt 15, 3) := by decide +kernel
theorem dX3_count_124 : decode cX3_count 124 = .ok (.aload_n 0, 1) := by decide +kernel
theorem dX3_count_125 : decode cX3_count 125 = .ok (.getfield 44, 3) := by decide +kernel
theorem dX3_count_128 : decode cX3_count 128 = .ok (.iload_n 1, 1) := by decide +kernel
theorem dX3_count_129 : decode cX3_count 129 = .ok (.bipush 10, 2) := by decide +kernel
theorem dX3_count_131 : decode cX3_count 131 = .ok (.isub, 1) := by decide +kernel
theorem dX3_count_132 : decode cX3_count 132 = .ok (.iaload, 1) := by decide +kernel
theorem dX3_count_133 : decode cX3_count 133 = .ok (.goto 5, 3) := by decide +kernel
theorem dX3_count_136 : decode cX3_count 136 = .ok (.bipush (-9), 2) := by decide +kernel
theorem dX3_count_138 : decode cX3_count 138 = .ok (.ireturn, 1) := by decide +kernel
theorem dX3_refuse_0 : decode cX3_refuse 0 = .ok (.aload_n 0, 1) := by decide +kernel
theorem dX3_refuse_1 : decode cX3_refuse 1 = .ok (.getfield 44, 3) := by decide +kernel
theorem dX3_refuse_4 : decode cX3_refuse 4 = .ok (.iload_n 1, 1) := by decide +kernel
theorem dX3_refuse_5 : decode cX3_refuse 5 = .ok (.ineg, 1) := by decide +kernel
theorem dX3_refuse_6 : decode cX3_refuse 6 = .ok (.dup2, 1) := by decide +kernel
theorem dX3_refuse_7 : decode cX3_refuse 7 = .ok (.iaload, 1) := by decide +kernel
theorem dX3_refuse_8 : decode cX3_refuse 8 = .ok (.iconst 1, 1) := by decide +kernel
theorem dX3_refuse_9 : decode cX3_refuse 9 = .ok (.iadd, 1) := by decide +kernel
theorem dX3_refuse_10 : decode cX3_refuse 10 = .ok (.iastore, 1) := by decide +kernel
theorem dX3_refuse_11 : decode cX3_refuse 11 = .ok (.iload_n 1, 1) := by decide +kernel
theorem dX3_refuse_12 : decode cX3_refuse 12 = .ok (.ireturn, 1) := by decide +kernel
theorem dX3_noRoom_0 : decode cX3_noRoom 0 = .ok (.iload_n 0, 1) := by decide +kernel
theorem dX3_noRoom_1 : decode cX3_noRoom 1 = .ok (.ifCond .lt 9, 3) := by decide +kernel
theorem dX3_noRoom_4 : decode cX3_noRoom 4 = .ok (.iload_n 0, 1) := by decide +kernel
theorem dX3_noRoom_5 : decode cX3_noRoom 5 = .ok (.bipush 7, 2) := by decide +kernel
theorem dX3_noRoom_7 : decode cX3_noRoom 7 = .ok (.if_icmp .lt 7, 3) := by decide +kernel
theorem dX3_noRoom_10 : decode cX3_noRoom 10 = .ok (.iconst 1, 1) := by decide +kernel
theorem dX3_noRoom_11 : decode cX3_noRoom 11 = .ok (.goto 4, 3) := by decide +kernel
theorem dX3_noRoom_14 : decode cX3_noRoom 14 = .ok (.iconst 0, 1) := by decide +kernel
theorem dX3_noRoom_15 : decode cX3_noRoom 15 = .ok (.ireturn, 1) := by decide +kernel
theorem dX3_noQuestion_0 : decode cX3_noQuestion 0 = .ok (.iload_n 1, 1) := by decide +kernel
theorem dX3_noQuestion_1 : decode cX3_noQuestion 1 = .ok (.ifCond .lt 14, 3) := by decide +kernel
theorem dX3_noQuestion_4 : decode cX3_noQuestion 4 = .ok (.iload_n 1, 1) := by decide +kernel
theorem dX3_noQuestion_5 : decode cX3_noQuestion 5 = .ok (.aload_n 0, 1) := by decide +kernel
theorem dX3_noQuestion_6 : decode cX3_noQuestion 6 = .ok (.getfield 10, 3) := by decide +kernel
theorem dX3_noQuestion_9 : decode cX3_noQuestion 9 = .ok (.getfield 200, 3) := by decide +kernel
theorem dX3_noQuestion_12 : decode cX3_noQuestion 12 = .ok (.if_icmp .lt 7, 3) := by decide +kernel
theorem dX3_noQuestion_15 : decode cX3_noQuestion 15 = .ok (.iconst 1, 1) := by decide +kernel
theorem dX3_noQuestion_16 : decode cX3_noQuestion 16 = .ok (.goto 4, 3) := by decide +kernel
theorem dX3_noQuestion_19 : decode cX3_noQuestion 19 = .ok (.iconst 0, 1) := by decide +kernel
theorem dX3_noQuestion_20 : decode cX3_noQuestion 20 = .ok (.ireturn, 1) := by decide +kernel
theorem dX3_noGroup_0 : decode cX3_noGroup 0 = .ok (.iload_n 1, 1) := by decide +kernel
theorem dX3_noGroup_1 : decode cX3_noGroup 1 = .ok (.ifCond .lt 14, 3) := by decide +kernel
theorem dX3_noGroup_4 : decode cX3_noGroup 4 = .ok (.iload_n 1, 1) := by decide +kernel
theorem dX3_noGroup_5 : decode cX3_noGroup 5 = .ok (.aload_n 0, 1) := by decide +kernel
theorem dX3_noGroup_6 : decode cX3_noGroup 6 = .ok (.getfield 10, 3) := by decide +kernel
theorem dX3_noGroup_9 : decode cX3_noGroup 9 = .ok (.getfield 188, 3) := by decide +kernel
theorem dX3_noGroup_12 : decode cX3_noGroup 12 = .ok (.if_icmp .lt 7, 3) := by decide +kernel
theorem dX3_noGroup_15 : decode cX3_noGroup 15 = .ok (.iconst 1, 1) := by decide +kernel
theorem dX3_noGroup_16 : decode cX3_noGroup 16 = .ok (.goto 4, 3) := by decide +kernel
theorem dX3_noGroup_19 : decode cX3_noGroup 19 = .ok (.iconst 0, 1) := by decide +kernel
theorem dX3_noGroup_20 : decode cX3_noGroup 20 = .ok (.ireturn, 1) := by decide +kernel
theorem dX3_think_0 : decode cX3_think 0 = .ok (.aload_n 0, 1) := by decide +kernel
theorem dX3_think_1 : decode cX3_think 1 = .ok (.getfield 16, 3) := by decide +kernel
theorem dX3_think_4 : decode cX3_think 4 = .ok (.aload_n 0, 1) := by decide +kernel
theorem dX3_think_5 : decode cX3_think 5 = .ok (.getfield 10, 3) := by decide +kernel
theorem dX3_think_8 : decode cX3_think 8 = .ok (.invokevirtual 229, 3) := by decide +kernel
theorem dX3_think_11 : decode cX3_think 11 = .ok (.aload_n 0, 1) := by decide +kernel
theorem dX3_think_12 : decode cX3_think 12 = .ok (.getfield 16, 3) := by decide +kernel
theorem dX3_think_15 : decode cX3_think 15 = .ok (.invokevirtual 242, 3) := by decide +kernel
theorem dX3_think_18 : decode cX3_think 18 = .ok (.return_, 1) := by decide +kernel
theorem dX3_thinkAhead_0 : decode cX3_thinkAhead 0 = .ok (.aload_n 0, 1) := by decide +kernel
theorem dX3_thinkAhead_1 : decode cX3_thinkAhead 1 = .ok (.invokevirtual 161, 3) := by decide +kernel
theorem dX3_thinkAhead_4 : decode cX3_thinkAhead 4 = .ok (.aload_n 0, 1) := by decide +kernel
theorem dX3_thinkAhead_5 : decode cX3_thinkAhead 5 = .ok (.getfield 16, 3) := by decide +kernel
theorem dX3_thinkAhead_8 : decode cX3_thinkAhead 8 = .ok (.iload_n 1, 1) := by decide +kernel
theorem dX3_thinkAhead_9 : decode cX3_thinkAhead 9 = .ok (.invokevirtual 142, 3) := by decide +kernel
theorem dX3_thinkAhead_12 : decode cX3_thinkAhead 12 = .ok (.return_, 1) := by decide +kernel
theorem dX3_noneIfNever_0 : decode cX3_noneIfNever 0 = .ok (.iload_n 0, 1) := by decide +kernel
theorem dX3_noneIfNever_1 : decode cX3_noneIfNever 1 = .ok (.bipush 100, 2) := by decide +kernel
theorem dX3_noneIfNever_3 : decode cX3_noneIfNever 3 = .ok (.if_icmp .lt 8, 3) := by decide +kernel
theorem dX3_noneIfNever_6 : decode cX3_noneIfNever 6 = .ok (.bipush (-9), 2) := by decide +kernel
theorem dX3_noneIfNever_8 : decode cX3_noneIfNever 8 = .ok (.goto 4, 3) := by decide +kernel
theorem dX3_noneIfNever_11 : decode cX3_noneIfNever 11 = .ok (.iload_n 0, 1) := by decide +kernel
theorem dX3_noneIfNever_12 : decode cX3_noneIfNever 12 = .ok (.ireturn, 1) := by decide +kernel
theorem dX3_minutesTillDone_0 : decode cX3_minutesTillDone 0 = .ok (.iconst 0, 1) := by decide +kernel
theorem dX3_minutesTillDone_1 : decode cX3_minutesTillDone 1 = .ok (.istore_n 2, 1) := by decide +kernel
theorem dX3_minutesTillDone_2 : decode cX3_minutesTillDone 2 = .ok (.iload_n 2, 1) := by decide +kernel
theorem dX3_minutesTillDone_3 : decode cX3_minutesTillDone 3 = .ok (.bipush 100, 2) := by decide +kernel
theorem dX3_minutesTillDone_5 : decode cX3_minutesTillDone 5 = .ok (.if_icmp .ge 27, 3) := by decide +kernel
theorem dX3_minutesTillDone_8 : decode cX3_minutesTillDone 8 = .ok (.aload_n 0, 1) := by decide +kernel
theorem dX3_minutesTillDone_9 : decode cX3_minutesTillDone 9 = .ok (.getfield 16, 3) := by decide +kernel
theorem dX3_minutesTillDone_12 : decode cX3_minutesTillDone 12 = .ok (.iload_n 1, 1) := by decide +kernel
theorem dX3_minutesTillDone_13 : decode cX3_minutesTillDone 13 = .ok (.invokevirtual 245, 3) := by decide +kernel
theorem dX3_minutesTillDone_16 : decode cX3_minutesTillDone 16 = .ok (.ifCond .ne 16, 3) := by decide +kernel
theorem dX3_minutesTillDone_19 : decode cX3_minutesTillDone 19 = .ok (.aload_n 0, 1) := by decide +kernel
theorem dX3_minutesTillDone_20 : decode cX3_minutesTillDone 20 = .ok (.getfield 16, 3) := by decide +kernel
theorem dX3_minutesTillDone_23 : decode cX3_minutesTillDone 23 = .ok (.invokevirtual 217, 3) := by decide +kernel
theorem dX3_minutesTillDone_26 : decode cX3_minutesTillDone 26 = .ok (.iinc 2 1, 3) := by decide +kernel
theorem dX3_minutesTillDone_29 : decode cX3_minutesTillDone 29 = .ok (.goto (-27), 3) := by decide +kernel
theorem dX3_minutesTillDone_32 : decode cX3_minutesTillDone 32 = .ok (.iload_n 2, 1) := by decide +kernel
theorem dX3_minutesTillDone_33 : decode cX3_minutesTillDone 33 = .ok (.ireturn, 1) := by decide +kernel
theorem dX3_minutesTillAllDone_0 : decode cX3_minutesTillAllDone 0 = .ok (.iconst 0, 1) := by decide +kernel
theorem dX3_minutesTillAllDone_1 : decode cX3_minutesTillAllDone 1 = .ok (.istore_n 1, 1) := by decide +kernel
theorem dX3_minutesTillAllDone_2 : decode cX3_minutesTillAllDone 2 = .ok (.iload_n 1, 1) := by decide +kernel
theorem dX3_minutesTillAllDone_3 : decode cX3_minutesTillAllDone 3 = .ok (.bipush 100, 2) := by decide +kernel
theorem dX3_minutesTillAllDone_5 : decode cX3_minutesTillAllDone 5 = .ok (.if_icmp .ge 26, 3) := by decide +kernel
theorem dX3_minutesTillAllDone_8 : decode cX3_minutesTillAllDone 8 = .ok (.aload_n 0, 1) := by decide +kernel
theorem dX3_minutesTillAllDone_9 : decode cX3_minutesTillAllDone 9 = .ok (.getfield 16, 3) := by decide +kernel
theorem dX3_minutesTillAllDone_12 : decode cX3_minutesTillAllDone 12 = .ok (.invokevirtual 248, 3) := by decide +kernel
theorem dX3_minutesTillAllDone_15 : decode cX3_minutesTillAllDone 15 = .ok (.ifCond .le 16, 3) := by decide +kernel
theorem dX3_minutesTillAllDone_18 : decode cX3_minutesTillAllDone 18 = .ok (.aload_n 0, 1) := by decide +kernel
theorem dX3_minutesTillAllDone_19 : decode cX3_minutesTillAllDone 19 = .ok (.getfield 16, 3) := by decide +kernel
theorem dX3_minutesTillAllDone_22 : decode cX3_minutesTillAllDone 22 = .ok (.invokevirtual 217, 3) := by decide +kernel
theorem dX3_minutesTillAllDone_25 : decode cX3_minutesTillAllDone 25 = .ok (.iinc 1 1, 3) := by decide +kernel
theorem dX3_minutesTillAllDone_28 : decode cX3_minutesTillAllDone 28 = .ok (.goto (-26), 3) := by decide +kernel
theorem dX3_minutesTillAllDone_31 : decode cX3_minutesTillAllDone 31 = .ok (.iload_n 1, 1) := by decide +kernel
theorem dX3_minutesTillAllDone_32 : decode cX3_minutesTillAllDone 32 = .ok (.ireturn, 1) := by decide +kernel
theorem dX3_minutesOfAllTogether_0 : decode cX3_minutesOfAllTogether 0 = .ok (.iconst 0, 1) := by decide +kernel
theorem dX3_minutesOfAllTogether_1 : decode cX3_minutesOfAllTogether 1 = .ok (.istore_n 1, 1) := by decide +kernel
theorem dX3_minutesOfAllTogether_2 : decode cX3_minutesOfAllTogether 2 = .ok (.iconst 0, 1) := by decide +kernel
theorem dX3_minutesOfAllTogether_3 : decode cX3_minutesOfAllTogether 3 = .ok (.istore_n 2, 1) := by decide +kernel
theorem dX3_minutesOfAllTogether_4 : decode cX3_minutesOfAllTogether 4 = .ok (.iload_n 2, 1) := by decide +kernel
theorem dX3_minutesOfAllTogether_5 : decode cX3_minutesOfAllTogether 5 = .ok (.bipush 100, 2) := by decide +kernel
theorem dX3_minutesOfAllTogether_7 : decode cX3_minutesOfAllTogether 7 = .ok (.if_icmp .ge 26, 3) := by decide +kernel
theorem dX3_minutesOfAllTogether_10 : decode cX3_minutesOfAllTogether 10 = .ok (.iload_n 1, 1) := by decide +kernel
theorem dX3_minutesOfAllTogether_11 : decode cX3_minutesOfAllTogether 11 = .ok (.aload_n 0, 1) := by decide +kernel
theorem dX3_minutesOfAllTogether_12 : decode cX3_minutesOfAllTogether 12 = .ok (.getfield 16, 3) := by decide +kernel
theorem dX3_minutesOfAllTogether_15 : decode cX3_minutesOfAllTogether 15 = .ok (.invokevirtual 248, 3) := by decide +kernel
theorem dX3_minutesOfAllTogether_18 : decode cX3_minutesOfAllTogether 18 = .ok (.iadd, 1) := by decide +kernel
theorem dX3_minutesOfAllTogether_19 : decode cX3_minutesOfAllTogether 19 = .ok (.istore_n 1, 1) := by decide +kernel
theorem dX3_minutesOfAllTogether_20 : decode cX3_minutesOfAllTogether 20 = .ok (.aload_n 0, 1) := by decide +kernel
theorem dX3_minutesOfAllTogether_21 : decode cX3_minutesOfAllTogether 21 = .ok (.getfield 16, 3) := by decide +kernel
theorem dX3_minutesOfAllTogether_24 : decode cX3_minutesOfAllTogether 24 = .ok (.invokevirtual 217, 3) := by decide +kernel
theorem dX3_minutesOfAllTogether_27 : decode cX3_minutesOfAllTogether 27 = .ok (.iinc 2 1, 3) := by decide +kernel
theorem dX3_minutesOfAllTogether_30 : decode cX3_minutesOfAllTogether 30 = .ok (.goto (-26), 3) := by decide +kernel
theorem dX3_minutesOfAllTogether_33 : decode cX3_minutesOfAllTogether 33 = .ok (.iload_n 1, 1) := by decide +kernel
theorem dX3_minutesOfAllTogether_34 : decode cX3_minutesOfAllTogether 34 = .ok (.ireturn, 1) := by decide +kernel
theorem dX3_firstDone_0 : decode cX3_firstDone 0 = .ok (.iconst 0, 1) := by decide +kernel
theorem dX3_firstDone_1 : decode cX3_firstDone 1 = .ok (.istore_n 1, 1) := by decide +kernel
theorem dX3_firstDone_2 : decode cX3_firstDone 2 = .ok (.iload_n 1, 1) := by decide +kernel
theorem dX3_firstDone_3 : decode cX3_firstDone 3 = .ok (.bipush 99, 2) := by decide +kernel
theorem dX3_firstDone_5 : decode cX3_firstDone 5 = .ok (.if_icmp .gt 48, 3) := by decide +kernel
theorem dX3_firstDone_8 : decode cX3_firstDone 8 = .ok (.iconst 0, 1) := by decide +kernel
theorem dX3_firstDone_9 : decode cX3_firstDone 9 = .ok (.istore_n 2, 1) := by decide +kernel
theorem dX3_firstDone_10 : decode cX3_firstDone 10 = .ok (.iload_n 2, 1) := by decide +kernel
theorem dX3_firstDone_11 : decode cX3_firstDone 11 = .ok (.aload_n 0, 1) := by decide +kernel
theorem dX3_firstDone_12 : decode cX3_firstDone 12 = .ok (.getfield 16, 3) := by decide +kernel
theorem dX3_firstDone_15 : decode cX3_firstDone 15 = .ok (.getfield 188, 3) := by decide +kernel
theorem dX3_firstDone_18 : decode cX3_firstDone 18 = .ok (.if_icmp .ge 22, 3) := by decide +kernel
theorem dX3_firstDone_21 : decode cX3_firstDone 21 = .ok (.aload_n 0, 1) := by decide +kernel
theorem dX3_firstDone_22 : decode cX3_firstDone 22 = .ok (.getfield 16, 3) := by decide +kernel
theorem dX3_firstDone_25 : decode cX3_firstDone 25 = .ok (.iload_n 2, 1) := by decide +kernel
theorem dX3_firstDone_26 : decode cX3_firstDone 26 = .ok (.invokevirtual 245, 3) := by decide +kernel
theorem dX3_firstDone_29 : decode cX3_firstDone 29 = .ok (.ifCond .eq 5, 3) := by decide +kernel
theorem dX3_firstDone_32 : decode cX3_firstDone 32 = .ok (.iload_n 2, 1) := by decide +kernel
theorem dX3_firstDone_33 : decode cX3_firstDone 33 = .ok (.ireturn, 1) := by decide +kernel
theorem dX3_firstDone_34 : decode cX3_firstDone 34 = .ok (.iinc 2 1, 3) := by decide +kernel
theorem dX3_firstDone_37 : decode cX3_firstDone 37 = .ok (.goto (-27), 3) := by decide +kernel
theorem dX3_firstDone_40 : decode cX3_firstDone 40 = .ok (.aload_n 0, 1) := by decide +kernel
theorem dX3_firstDone_41 : decode cX3_firstDone 41 = .ok (.getfield 16, 3) := by decide +kernel
theorem dX3_firstDone_44 : decode cX3_firstDone 44 = .ok (.invokevirtual 217, 3) := by decide +kernel
theorem dX3_firstDone_47 : decode cX3_firstDone 47 = .ok (.iinc 1 1, 3) := by decide +kernel
theorem dX3_firstDone_50 : decode cX3_firstDone 50 = .ok (.goto (-48), 3) := by decide +kernel
theorem dX3_firstDone_53 : decode cX3_firstDone 53 = .ok (.bipush (-9), 2) := by decide +kernel
theorem dX3_firstDone_55 : decode cX3_firstDone 55 = .ok (.ireturn, 1) := by decide +kernel
theorem dX3_fullest_0 : decode cX3_fullest 0 = .ok (.iconst (-1), 1) := by decide +kernel
theorem dX3_fullest_1 : decode cX3_fullest 1 = .ok (.istore_n 3, 1) := by decide +kernel
theorem dX3_fullest_2 : decode cX3_fullest 2 = .ok (.iconst 0, 1) := by decide +kernel
theorem dX3_fullest_3 : decode cX3_fullest 3 = .ok (.istore 4, 2) := by decide +kernel
theorem dX3_fullest_5 : decode cX3_fullest 5 = .ok (.iconst 0, 1) := by decide +kernel
theorem dX3_fullest_6 : decode cX3_fullest 6 = .ok (.istore 5, 2) := by decide +kernel
theorem dX3_fullest_8 : decode cX3_fullest 8 = .ok (.iconst 0, 1) := by decide +kernel
theorem dX3_fullest_9 : decode cX3_fullest 9 = .ok (.istore 6, 2) := by decide +kernel
theorem dX3_fullest_11 : decode cX3_fullest 11 = .ok (.iload 6, 2) := by decide +kernel
theorem dX3_fullest_13 : decode cX3_fullest 13 = .ok (.iload_n 1, 1) := by decide +kernel
theorem dX3_fullest_14 : decode cX3_fullest 14 = .ok (.if_icmp .gt 60, 3) := by decide +kernel
theorem dX3_fullest_17 : decode cX3_fullest 17 = .ok (.iconst 0, 1) := by decide +kernel
theorem dX3_fullest_18 : decode cX3_fullest 18 = .ok (.istore 7, 2) := by decide +kernel
theorem dX3_fullest_20 : decode cX3_fullest 20 = .ok (.iload 7, 2) := by decide +kernel
theorem dX3_fullest_22 : decode cX3_fullest 22 = .ok (.bipush 7, 2) := by decide +kernel
theorem dX3_fullest_24 : decode cX3_fullest 24 = .ok (.if_icmp .ge 37, 3) := by decide +kernel
theorem dX3_fullest_27 : decode cX3_fullest 27 = .ok (.aload_n 0, 1) := by decide +kernel
theorem dX3_fullest_28 : decode cX3_fullest 28 = .ok (.getfield 16, 3) := by decide +kernel
theorem dX3_fullest_31 : decode cX3_fullest 31 = .ok (.iload 7, 2) := by decide +kernel
theorem dX3_fullest_33 : decode cX3_fullest 33 = .ok (.invokevirtual 251, 3) := by decide +kernel
theorem dX3_fullest_36 : decode cX3_fullest 36 = .ok (.istore 8, 2) := by decide +kernel
theorem dX3_fullest_38 : decode cX3_fullest 38 = .ok (.iload 8, 2) := by decide +kernel
theorem dX3_fullest_40 : decode cX3_fullest 40 = .ok (.iload_n 3, 1) := by decide +kernel
theorem dX3_fullest_41 : decode cX3_fullest 41 = .ok (.if_icmp .le 14, 3) := by decide +kernel
theorem dX3_fullest_44 : decode cX3_fullest 44 = .ok (.iload 8, 2) := by decide +kernel
theorem dX3_fullest_46 : decode cX3_fullest 46 = .ok (.istore_n 3, 1) := by decide +kernel
theorem dX3_fullest_47 : decode cX3_fullest 47 = .ok (.iload 6, 2) := by decide +kernel
theorem dX3_fullest_49 : decode cX3_fullest 49 = .ok (.istore 4, 2) := by decide +kernel
theorem dX3_fullest_51 : decode cX3_fullest 51 = .ok (.iload 7, 2) := by decide +kernel
theorem dX3_fullest_53 : decode cX3_fullest 53 = .ok (.istore 5, 2) := by decide +kernel
theorem dX3_fullest_55 : decode cX3_fullest 55 = .ok (.iinc 7 1, 3) := by decide +kernel
theorem dX3_fullest_58 : decode cX3_fullest 58 = .ok (.goto (-38), 3) := by decide +kernel
theorem dX3_fullest_61 : decode cX3_fullest 61 = .ok (.aload_n 0, 1) := by decide +kernel
theorem dX3_fullest_62 : decode cX3_fullest 62 = .ok (.getfield 16, 3) := by decide +kernel
theorem dX3_fullest_65 : decode cX3_fullest 65 = .ok (.invokevirtual 217, 3) := by decide +kernel
theorem dX3_fullest_68 : decode cX3_fullest 68 = .ok (.iinc 6 1, 3) := by decide +kernel
theorem dX3_fullest_71 : decode cX3_fullest 71 = .ok (.goto (-60), 3) := by decide +kernel
theorem dX3_fullest_74 : decode cX3_fullest 74 = .ok (.iload_n 2, 1) := by decide +kernel
theorem dX3_fullest_75 : decode cX3_fullest 75 = .ok (.ifCond .ne 5, 3) := by decide +kernel
theorem dX3_fullest_78 : decode cX3_fullest 78 = .ok (.iload_n 3, 1) := by decide +kernel
theorem dX3_fullest_79 : decode cX3_fullest 79 = .ok (.ireturn, 1) := by decide +kernel
theorem dX3_fullest_80 : decode cX3_fullest 80 = .ok (.iload_n 2, 1) := by decide +kernel
theorem dX3_fullest_81 : decode cX3_fullest 81 = .ok (.iconst 1, 1) := by decide +kernel
theorem dX3_fullest_82 : decode cX3_fullest 82 = .ok (.if_icmp .ne 8, 3) := by decide +kernel
theorem dX3_fullest_85 : decode cX3_fullest 85 = .ok (.iload 4, 2) := by decide +kernel
theorem dX3_fullest_87 : decode cX3_fullest 87 = .ok (.goto 5, 3) := by decide +kernel
theorem dX3_fullest_90 : decode cX3_fullest 90 = .ok (.iload 5, 2) := by decide +kernel
theorem dX3_fullest_92 : decode cX3_fullest 92 = .ok (.ireturn, 1) := by decide +kernel
theorem dX3_soonestFirst_0 : decode cX3_soonestFirst 0 = .ok (.bipush (-9), 2) := by decide +kernel
theorem dX3_soonestFirst_2 : decode cX3_soonestFirst 2 = .ok (.istore_n 2, 1) := by decide +kernel
theorem dX3_soonestFirst_3 : decode cX3_soonestFirst 3 = .ok (.bipush 100, 2) := by decide +kernel
theorem dX3_soonestFirst_5 : decode cX3_soonestFirst 5 = .ok (.istore_n 3, 1) := by decide +kernel
theorem dX3_soonestFirst_6 : decode cX3_soonestFirst 6 = .ok (.iconst 0, 1) := by decide +kernel
theorem dX3_soonestFirst_7 : decode cX3_soonestFirst 7 = .ok (.istore 4, 2) := by decide +kernel
theorem dX3_soonestFirst_9 : decode cX3_soonestFirst 9 = .ok (.iload 4, 2) := by decide +kernel
theorem dX3_soonestFirst_11 : decode cX3_soonestFirst 11 = .ok (.bipush 8, 2) := by decide +kernel
theorem dX3_soonestFirst_13 : decode cX3_soonestFirst 13 = .ok (.if_icmp .ge 43, 3) := by decide +kernel
theorem dX3_soonestFirst_16 : decode cX3_soonestFirst 16 = .ok (.aload_n 0, 1) := by decide +kernel
theorem dX3_soonestFirst_17 : decode cX3_soonestFirst 17 = .ok (.invokevirtual 161, 3) := by decide +kernel
theorem dX3_soonestFirst_20 : decode cX3_soonestFirst 20 = .ok (.aload_n 0, 1) := by decide +kernel
theorem dX3_soonestFirst_21 : decode cX3_soonestFirst 21 = .ok (.getfield 16, 3) := by decide +kernel
theorem dX3_soonestFirst_24 : decode cX3_soonestFirst 24 = .ok (.getfield 109, 3) := by decide +kernel
theorem dX3_soonestFirst_27 : decode cX3_soonestFirst 27 = .ok (.iload_n 1, 1) := by decide +kernel
theorem dX3_soonestFirst_28 : decode cX3_soonestFirst 28 = .ok (.iload 4, 2) := by decide +kernel
theorem dX3_soonestFirst_30 : decode cX3_soonestFirst 30 = .ok (.iastore, 1) := by decide +kernel
theorem dX3_soonestFirst_31 : decode cX3_soonestFirst 31 = .ok (.aload_n 0, 1) := by decide +kernel
theorem dX3_soonestFirst_32 : decode cX3_soonestFirst 32 = .ok (.iload_n 1, 1) := by decide +kernel
theorem dX3_soonestFirst_33 : decode cX3_soonestFirst 33 = .ok (.invokevirtual 164, 3) := by decide +kernel
theorem dX3_soonestFirst_36 : decode cX3_soonestFirst 36 = .ok (.istore 5, 2) := by decide +kernel
theorem dX3_soonestFirst_38 : decode cX3_soonestFirst 38 = .ok (.iload 5, 2) := by decide +kernel
theorem dX3_soonestFirst_40 : decode cX3_soonestFirst 40 = .ok (.iload_n 3, 1) := by decide +kernel
theorem dX3_soonestFirst_41 : decode cX3_soonestFirst 41 = .ok (.if_icmp .ge 9, 3) := by decide +kernel
theorem dX3_soonestFirst_44 : decode cX3_soonestFirst 44 = .ok (.iload 5, 2) := by decide +kernel
theorem dX3_soonestFirst_46 : decode cX3_soonestFirst 46 = .ok (.istore_n 3, 1) := by decide +kernel
theorem dX3_soonestFirst_47 : decode cX3_soonestFirst 47 = .ok (.iload 4, 2) := by decide +kernel
theorem dX3_soonestFirst_49 : decode cX3_soonestFirst 49 = .ok (.istore_n 2, 1) := by decide +kernel
theorem dX3_soonestFirst_50 : decode cX3_soonestFirst 50 = .ok (.iinc 4 1, 3) := by decide +kernel
theorem dX3_soonestFirst_53 : decode cX3_soonestFirst 53 = .ok (.goto (-44), 3) := by decide +kernel
theorem dX3_soonestFirst_56 : decode cX3_soonestFirst 56 = .ok (.iload_n 2, 1) := by decide +kernel
theorem dX3_soonestFirst_57 : decode cX3_soonestFirst 57 = .ok (.ireturn, 1) := by decide +kernel
theorem dX3_truestFirst_0 : decode cX3_truestFirst 0 = .ok (.iconst 0, 1) := by decide +kernel
theorem dX3_truestFirst_1 : decode cX3_truestFirst 1 = .ok (.istore_n 2, 1) := by decide +kernel
theorem dX3_truestFirst_2 : decode cX3_truestFirst 2 = .ok (.iconst (-1), 1) := by decide +kernel
theorem dX3_truestFirst_3 : decode cX3_truestFirst 3 = .ok (.istore_n 3, 1) := by decide +kernel
theorem dX3_truestFirst_4 : decode cX3_truestFirst 4 = .ok (.iconst 0, 1) := by decide +kernel
theorem dX3_truestFirst_5 : decode cX3_truestFirst 5 = .ok (.istore 4, 2) := by decide +kernel
theorem dX3_truestFirst_7 : decode cX3_truestFirst 7 = .ok (.iload 4, 2) := by decide +kernel
theorem dX3_truestFirst_9 : decode cX3_truestFirst 9 = .ok (.bipush 8, 2) := by decide +kernel
theorem dX3_truestFirst_11 : decode cX3_truestFirst 11 = .ok (.if_icmp .ge 55, 3) := by decide +kernel
theorem dX3_truestFirst_14 : decode cX3_truestFirst 14 = .ok (.aload_n 0, 1) := by decide +kernel
theorem dX3_truestFirst_15 : decode cX3_truestFirst 15 = .ok (.invokevirtual 161, 3) := by decide +kernel
theorem dX3_truestFirst_18 : decode cX3_truestFirst 18 = .ok (.aload_n 0, 1) := by decide +kernel
theorem dX3_truestFirst_19 : decode cX3_truestFirst 19 = .ok (.getfield 16, 3) := by decide +kernel
theorem dX3_truestFirst_22 : decode cX3_truestFirst 22 = .ok (.getfield 109, 3) := by decide +kernel
theorem dX3_truestFirst_25 : decode cX3_truestFirst 25 = .ok (.iload_n 1, 1) := by decide +kernel
theorem dX3_truestFirst_26 : decode cX3_truestFirst 26 = .ok (.iload 4, 2) := by decide +kernel
theorem dX3_truestFirst_28 : decode cX3_truestFirst 28 = .ok (.iastore, 1) := by decide +kernel
theorem dX3_truestFirst_29 : decode cX3_truestFirst 29 = .ok (.aload_n 0, 1) := by decide +kernel
theorem dX3_truestFirst_30 : decode cX3_truestFirst 30 = .ok (.getfield 16, 3) := by decide +kernel
theorem dX3_truestFirst_33 : decode cX3_truestFirst 33 = .ok (.bipush 99, 2) := by decide +kernel
theorem dX3_truestFirst_35 : decode cX3_truestFirst 35 = .ok (.invokevirtual 142, 3) := by decide +kernel
theorem dX3_truestFirst_38 : decode cX3_truestFirst 38 = .ok (.aload_n 0, 1) := by decide +kernel
theorem dX3_truestFirst_39 : decode cX3_truestFirst 39 = .ok (.getfield 16, 3) := by decide +kernel
theorem dX3_truestFirst_42 : decode cX3_truestFirst 42 = .ok (.iload_n 1, 1) := by decide +kernel
theorem dX3_truestFirst_43 : decode cX3_truestFirst 43 = .ok (.invokevirtual 155, 3) := by decide +kernel
theorem dX3_truestFirst_46 : decode cX3_truestFirst 46 = .ok (.istore 5, 2) := by decide +kernel
theorem dX3_truestFirst_48 : decode cX3_truestFirst 48 = .ok (.iload 5, 2) := by decide +kernel
theorem dX3_truestFirst_50 : decode cX3_truestFirst 50 = .ok (.iload_n 3, 1) := by decide +kernel
theorem dX3_truestFirst_51 : decode cX3_truestFirst 51 = .ok (.if_icmp .le 9, 3) := by decide +kernel
theorem dX3_truestFirst_54 : decode cX3_truestFirst 54 = .ok (.iload 5, 2) := by decide +kernel
theorem dX3_truestFirst_56 : decode cX3_truestFirst 56 = .ok (.istore_n 3, 1) := by decide +kernel
theorem dX3_truestFirst_57 : decode cX3_truestFirst 57 = .ok (.iload 4, 2) := by decide +kernel
theorem dX3_truestFirst_59 : decode cX3_truestFirst 59 = .ok (.istore_n 2, 1) := by decide +kernel
theorem dX3_truestFirst_60 : decode cX3_truestFirst 60 = .ok (.iinc 4 1, 3) := by decide +kernel
theorem dX3_truestFirst_63 : decode cX3_truestFirst 63 = .ok (.goto (-56), 3) := by decide +kernel
theorem dX3_truestFirst_66 : decode cX3_truestFirst 66 = .ok (.iload_n 2, 1) := by decide +kernel
theorem dX3_truestFirst_67 : decode cX3_truestFirst 67 = .ok (.ireturn, 1) := by decide +kernel
theorem dX3_firstsApart_0 : decode cX3_firstsApart 0 = .ok (.aload_n 0, 1) := by decide +kernel
theorem dX3_firstsApart_1 : decode cX3_firstsApart 1 = .ok (.invokevirtual 161, 3) := by decide +kernel
theorem dX3_firstsApart_4 : decode cX3_firstsApart 4 = .ok (.aload_n 0, 1) := by decide +kernel
theorem dX3_firstsApart_5 : decode cX3_firstsApart 5 = .ok (.iconst 0, 1) := by decide +kernel
theorem dX3_firstsApart_6 : decode cX3_firstsApart 6 = .ok (.iconst 0, 1) := by decide +kernel
theorem dX3_firstsApart_7 : decode cX3_firstsApart 7 = .ok (.invokevirtual 179, 3) := by decide +kernel
theorem dX3_firstsApart_10 : decode cX3_firstsApart 10 = .ok (.istore_n 1, 1) := by decide +kernel
theorem dX3_firstsApart_11 : decode cX3_firstsApart 11 = .ok (.iconst 0, 1) := by decide +kernel
theorem dX3_firstsApart_12 : decode cX3_firstsApart 12 = .ok (.istore_n 2, 1) := by decide +kernel
theorem dX3_firstsApart_13 : decode cX3_firstsApart 13 = .ok (.aload_n 0, 1) := by decide +kernel
theorem dX3_firstsApart_14 : decode cX3_firstsApart 14 = .ok (.iconst 0, 1) := by decide +kernel
theorem dX3_firstsApart_15 : decode cX3_firstsApart 15 = .ok (.invokevirtual 197, 3) := by decide +kernel
theorem dX3_firstsApart_18 : decode cX3_firstsApart 18 = .ok (.istore_n 3, 1) := by decide +kernel
theorem dX3_firstsApart_19 : decode cX3_firstsApart 19 = .ok (.iconst 1, 1) := by decide +kernel
theorem dX3_firstsApart_20 : decode cX3_firstsApart 20 = .ok (.iconst 3, 1) := by decide +kernel
theorem dX3_firstsApart_21 : decode cX3_firstsApart 21 = .ok (.aload_n 0, 1) := by decide +kernel
theorem dX3_firstsApart_22 : decode cX3_firstsApart 22 = .ok (.getfield 10, 3) := by decide +kernel
theorem dX3_firstsApart_25 : decode cX3_firstsApart 25 = .ok (.getfield 188, 3) := by decide +kernel
theorem dX3_firstsApart_28 : decode cX3_firstsApart 28 = .ok (.imul, 1) := by decide +kernel
theorem dX3_firstsApart_29 : decode cX3_firstsApart 29 = .ok (.ishl, 1) := by decide +kernel
theorem dX3_firstsApart_30 : decode cX3_firstsApart 30 = .ok (.istore 4, 2) := by decide +kernel
theorem dX3_firstsApart_32 : decode cX3_firstsApart 32 = .ok (.iconst 1, 1) := by decide +kernel
theorem dX3_firstsApart_33 : decode cX3_firstsApart 33 = .ok (.istore 5, 2) := by decide +kernel
theorem dX3_firstsApart_35 : decode cX3_firstsApart 35 = .ok (.iload 5, 2) := by decide +kernel
theorem dX3_firstsApart_37 : decode cX3_firstsApart 37 = .ok (.iload 4, 2) := by decide +kernel
theorem dX3_firstsApart_39 : decode cX3_firstsApart 39 = .ok (.if_icmp .ge 34, 3) := by decide +kernel
theorem dX3_firstsApart_42 : decode cX3_firstsApart 42 = .ok (.iload_n 3, 1) := by decide +kernel
theorem dX3_firstsApart_43 : decode cX3_firstsApart 43 = .ok (.iload_n 1, 1) := by decide +kernel
theorem dX3_firstsApart_44 : decode cX3_firstsApart 44 = .ok (.if_icmp .le 29, 3) := by decide +kernel
theorem dX3_firstsApart_47 : decode cX3_firstsApart 47 = .ok (.aload_n 0, 1) := by decide +kernel
theorem dX3_firstsApart_48 : decode cX3_firstsApart 48 = .ok (.iload 5, 2) := by decide +kernel
theorem dX3_firstsApart_50 : decode cX3_firstsApart 50 = .ok (.invokevirtual 197, 3) := by decide +kernel
theorem dX3_firstsApart_53 : decode cX3_firstsApart 53 = .ok (.istore 6, 2) := by decide +kernel
theorem dX3_firstsApart_55 : decode cX3_firstsApart 55 = .ok (.iload 6, 2) := by decide +kernel
theorem dX3_firstsApart_57 : decode cX3_firstsApart 57 = .ok (.iload_n 3, 1) := by decide +kernel
theorem dX3_firstsApart_58 : decode cX3_firstsApart 58 = .ok (.if_icmp .ge 9, 3) := by decide +kernel
theorem dX3_firstsApart_61 : decode cX3_firstsApart 61 = .ok (.iload 6, 2) := by decide +kernel
theorem dX3_firstsApart_63 : decode cX3_firstsApart 63 = .ok (.istore_n 3, 1) := by decide +kernel
theorem dX3_firstsApart_64 : decode cX3_firstsApart 64 = .ok (.iload 5, 2) := by decide +kernel
theorem dX3_firstsApart_66 : decode cX3_firstsApart 66 = .ok (.istore_n 2, 1) := by decide +kernel
theorem dX3_firstsApart_67 : decode cX3_firstsApart 67 = .ok (.iinc 5 1, 3) := by decide +kernel
theorem dX3_firstsApart_70 : decode cX3_firstsApart 70 = .ok (.goto (-35), 3) := by decide +kernel
theorem dX3_firstsApart_73 : decode cX3_firstsApart 73 = .ok (.iload_n 2, 1) := by decide +kernel
theorem dX3_firstsApart_74 : decode cX3_firstsApart 74 = .ok (.ireturn, 1) := by decide +kernel
theorem dX3_firstIn_0 : decode cX3_firstIn 0 = .ok (.iload_n 1, 1) := by decide +kernel
theorem dX3_firstIn_1 : decode cX3_firstIn 1 = .ok (.iconst 3, 1) := by decide +kernel
theorem dX3_firstIn_2 : decode cX3_firstIn 2 = .ok (.aload_n 0, 1) := by decide +kernel
theorem dX3_firstIn_3 : decode cX3_firstIn 3 = .ok (.getfield 10, 3) := by decide +kernel
theorem dX3_firstIn_6 : decode cX3_firstIn 6 = .ok (.getfield 188, 3) := by decide +kernel
theorem dX3_firstIn_9 : decode cX3_firstIn 9 = .ok (.iconst 1, 1) := by decide +kernel
theorem dX3_firstIn_10 : decode cX3_firstIn 10 = .ok (.isub, 1) := by decide +kernel
theorem dX3_firstIn_11 : decode cX3_firstIn 11 = .ok (.iload_n 2, 1) := by decide +kernel
theorem dX3_firstIn_12 : decode cX3_firstIn 12 = .ok (.isub, 1) := by decide +kernel
theorem dX3_firstIn_13 : decode cX3_firstIn 13 = .ok (.imul, 1) := by decide +kernel
theorem dX3_firstIn_14 : decode cX3_firstIn 14 = .ok (.ishr, 1) := by decide +kernel
theorem dX3_firstIn_15 : decode cX3_firstIn 15 = .ok (.bipush 7, 2) := by decide +kernel
theorem dX3_firstIn_17 : decode cX3_firstIn 17 = .ok (.iand, 1) := by decide +kernel
theorem dX3_firstIn_18 : decode cX3_firstIn 18 = .ok (.ireturn, 1) := by decide +kernel
theorem dX3_fullestWith_0 : decode cX3_fullestWith 0 = .ok (.aload_n 0, 1) := by decide +kernel
theorem dX3_fullestWith_1 : decode cX3_fullestWith 1 = .ok (.invokevirtual 161, 3) := by decide +kernel
theorem dX3_fullestWith_4 : decode cX3_fullestWith 4 = .ok (.iconst 0, 1) := by decide +kernel
theorem dX3_fullestWith_5 : decode cX3_fullestWith 5 = .ok (.istore_n 2, 1) := by decide +kernel
theorem dX3_fullestWith_6 : decode cX3_fullestWith 6 = .ok (.iload_n 2, 1) := by decide +kernel
theorem dX3_fullestWith_7 : decode cX3_fullestWith 7 = .ok (.aload_n 0, 1) := by decide +kernel
theorem dX3_fullestWith_8 : decode cX3_fullestWith 8 = .ok (.getfield 16, 3) := by decide +kernel
theorem dX3_fullestWith_11 : decode cX3_fullestWith 11 = .ok (.getfield 188, 3) := by decide +kernel
theorem dX3_fullestWith_14 : decode cX3_fullestWith 14 = .ok (.if_icmp .ge 24, 3) := by decide +kernel
theorem dX3_fullestWith_17 : decode cX3_fullestWith 17 = .ok (.aload_n 0, 1) := by decide +kernel
theorem dX3_fullestWith_18 : decode cX3_fullestWith 18 = .ok (.getfield 16, 3) := by decide +kernel
theorem dX3_fullestWith_21 : decode cX3_fullestWith 21 = .ok (.getfield 109, 3) := by decide +kernel
theorem dX3_fullestWith_24 : decode cX3_fullestWith 24 = .ok (.iload_n 2, 1) := by decide +kernel
theorem dX3_fullestWith_25 : decode cX3_fullestWith 25 = .ok (.aload_n 0, 1) := by decide +kernel
theorem dX3_fullestWith_26 : decode cX3_fullestWith 26 = .ok (.iload_n 1, 1) := by decide +kernel
theorem dX3_fullestWith_27 : decode cX3_fullestWith 27 = .ok (.iload_n 2, 1) := by decide +kernel
theorem dX3_fullestWith_28 : decode cX3_fullestWith 28 = .ok (.invokevirtual 194, 3) := by decide +kernel
theorem dX3_fullestWith_31 : decode cX3_fullestWith 31 = .ok (.iastore, 1) := by decide +kernel
theorem dX3_fullestWith_32 : decode cX3_fullestWith 32 = .ok (.iinc 2 1, 3) := by decide +kernel
theorem dX3_fullestWith_35 : decode cX3_fullestWith 35 = .ok (.goto (-29), 3) := by decide +kernel
theorem dX3_fullestWith_38 : decode cX3_fullestWith 38 = .ok (.aload_n 0, 1) := by decide +kernel
theorem dX3_fullestWith_39 : decode cX3_fullestWith 39 = .ok (.bipush 30, 2) := by decide +kernel
theorem dX3_fullestWith_41 : decode cX3_fullestWith 41 = .ok (.iconst 0, 1) := by decide +kernel
theorem dX3_fullestWith_42 : decode cX3_fullestWith 42 = .ok (.invokevirtual 179, 3) := by decide +kernel
theorem dX3_fullestWith_45 : decode cX3_fullestWith 45 = .ok (.ireturn, 1) := by decide +kernel
theorem dX3_isContent_0 : decode cX3_isContent 0 = .ok (.aload_n 0, 1) := by decide +kernel
theorem dX3_isContent_1 : decode cX3_isContent 1 = .ok (.iload_n 1, 1) := by decide +kernel
theorem dX3_isContent_2 : decode cX3_isContent 2 = .ok (.iload_n 2, 1) := by decide +kernel
theorem dX3_isContent_3 : decode cX3_isContent 3 = .ok (.iload_n 3, 1) := by decide +kernel
theorem dX3_isContent_4 : decode cX3_isContent 4 = .ok (.iload 4, 2) := by decide +kernel
theorem dX3_isContent_6 : decode cX3_isContent 6 = .ok (.invokevirtual 254, 3) := by decide +kernel
theorem dX3_isContent_9 : decode cX3_isContent 9 = .ok (.aload_n 0, 1) := by decide +kernel
theorem dX3_isContent_10 : decode cX3_isContent 10 = .ok (.iload_n 1, 1) := by decide +kernel
theorem dX3_isContent_11 : decode cX3_isContent 11 = .ok (.iconst 1, 1) := by decide +kernel
theorem dX3_isContent_12 : decode cX3_isContent 12 = .ok (.iload_n 2, 1) := by decide +kernel
theorem dX3_isContent_13 : decode cX3_isContent 13 = .ok (.isub, 1) := by decide +kernel
theorem dX3_isContent_14 : decode cX3_isContent 14 = .ok (.iload_n 3, 1) := by decide +kernel
theorem dX3_isContent_15 : decode cX3_isContent 15 = .ok (.iload 4, 2) := by decide +kernel
theorem dX3_isContent_17 : decode cX3_isContent 17 = .ok (.invokevirtual 254, 3) := by decide +kernel
theorem dX3_isContent_20 : decode cX3_isContent 20 = .ok (.if_icmp .gt 7, 3) := by decide +kernel
theorem dX3_isContent_23 : decode cX3_isContent 23 = .ok (.iconst 1, 1) := by decide +kernel
theorem dX3_isContent_24 : decode cX3_isContent 24 = .ok (.goto 4, 3) := by decide +kernel
theorem dX3_isContent_27 : decode cX3_isContent 27 = .ok (.iconst 0, 1) := by decide +kernel
theorem dX3_isContent_28 : decode cX3_isContent 28 = .ok (.ireturn, 1) := by decide +kernel
theorem dX3_minutesByChoice_0 : decode cX3_minutesByChoice 0 = .ok (.aload_n 0, 1) := by decide +kernel
theorem dX3_minutesByChoice_1 : decode cX3_minutesByChoice 1 = .ok (.invokevirtual 161, 3) := by decide +kernel
theorem dX3_minutesByChoice_4 : decode cX3_minutesByChoice 4 = .ok (.aload_n 0, 1) := by decide +kernel
theorem dX3_minutesByChoice_5 : decode cX3_minutesByChoice 5 = .ok (.getfield 16, 3) := by decide +kernel
theorem dX3_minutesByChoice_8 : decode cX3_minutesByChoice 8 = .ok (.getfield 109, 3) := by decide +kernel
theorem dX3_minutesByChoice_11 : decode cX3_minutesByChoice 11 = .ok (.iload_n 1, 1) := by decide +kernel
theorem dX3_minutesByChoice_12 : decode cX3_minutesByChoice 12 = .ok (.aload_n 0, 1) := by decide +kernel
theorem dX3_minutesByChoice_13 : decode cX3_minutesByChoice 13 = .ok (.iload_n 1, 1) := by decide +kernel
theorem dX3_minutesByChoice_14 : decode cX3_minutesByChoice 14 = .ok (.iload_n 2, 1) := by decide +kernel
theorem dX3_minutesByChoice_15 : decode cX3_minutesByChoice 15 = .ok (.invokevirtual 258, 3) := by decide +kernel
theorem dX3_minutesByChoice_18 : decode cX3_minutesByChoice 18 = .ok (.iastore, 1) := by decide +kernel
theorem dX3_minutesByChoice_19 : decode cX3_minutesByChoice 19 = .ok (.aload_n 0, 1) := by decide +kernel
theorem dX3_minutesByChoice_20 : decode cX3_minutesByChoice 20 = .ok (.getfield 16, 3) := by decide +kernel
theorem dX3_minutesByChoice_23 : decode cX3_minutesByChoice 23 = .ok (.getfield 109, 3) := by decide +kernel
theorem dX3_minutesByChoice_26 : decode cX3_minutesByChoice 26 = .ok (.iload_n 3, 1) := by decide +kernel
theorem dX3_minutesByChoice_27 : decode cX3_minutesByChoice 27 = .ok (.aload_n 0, 1) := by decide +kernel
theorem dX3_minutesByChoice_28 : decode cX3_minutesByChoice 28 = .ok (.iload_n 3, 1) := by decide +kernel
theorem dX3_minutesByChoice_29 : decode cX3_minutesByChoice 29 = .ok (.iload 4, 2) := by decide +kernel
theorem dX3_minutesByChoice_31 : decode cX3_minutesByChoice 31 = .ok (.invokevirtual 258, 3) := by decide +kernel
theorem dX3_minutesByChoice_34 : decode cX3_minutesByChoice 34 = .ok (.iastore, 1) := by decide +kernel
theorem dX3_minutesByChoice_35 : decode cX3_minutesByChoice 35 = .ok (.aload_n 0, 1) := by decide +kernel
theorem dX3_minutesByChoice_36 : decode cX3_minutesByChoice 36 = .ok (.iload_n 1, 1) := by decide +kernel
theorem dX3_minutesByChoice_37 : decode cX3_minutesByChoice 37 = .ok (.invokevirtual 164, 3) := by decide +kernel
theorem dX3_minutesByChoice_40 : decode cX3_minutesByChoice 40 = .ok (.ireturn, 1) := by decide +kernel
theorem dX3_firstChosen_0 : decode cX3_firstChosen 0 = .ok (.aload_n 0, 1) := by decide +kernel
theorem dX3_firstChosen_1 : decode cX3_firstChosen 1 = .ok (.getfield 10, 3) := by decide +kernel
theorem dX3_firstChosen_4 : decode cX3_firstChosen 4 = .ok (.getfield 109, 3) := by decide +kernel
theorem dX3_firstChosen_7 : decode cX3_firstChosen 7 = .ok (.iload_n 1, 1) := by decide +kernel
theorem dX3_firstChosen_8 : decode cX3_firstChosen 8 = .ok (.iaload, 1) := by decide +kernel
theorem dX3_firstChosen_9 : decode cX3_firstChosen 9 = .ok (.iload_n 2, 1) := by decide +kernel
theorem dX3_firstChosen_10 : decode cX3_firstChosen 10 = .ok (.iadd, 1) := by decide +kernel
theorem dX3_firstChosen_11 : decode cX3_firstChosen 11 = .ok (.bipush 8, 2) := by decide +kernel
theorem dX3_firstChosen_13 : decode cX3_firstChosen 13 = .ok (.irem, 1) := by decide +kernel
theorem dX3_firstChosen_14 : decode cX3_firstChosen 14 = .ok (.ireturn, 1) := by decide +kernel
theorem dX3_rowTellsSheetOf_0 : decode cX3_rowTellsSheetOf 0 = .ok (.iconst 0, 1) := by decide +kernel
theorem dX3_rowTellsSheetOf_1 : decode cX3_rowTellsSheetOf 1 = .ok (.istore_n 2, 1) := by decide +kernel
theorem dX3_rowTellsSheetOf_2 : decode cX3_rowTellsSheetOf 2 = .ok (.iload_n 2, 1) := by decide +kernel
theorem dX3_rowTellsSheetOf_3 : decode cX3_rowTellsSheetOf 3 = .ok (.aload_n 0, 1) := by decide +kernel
theorem dX3_rowTellsSheetOf_4 : decode cX3_rowTellsSheetOf 4 = .ok (.getfield 40, 3) := by decide +kernel
theorem dX3_rowTellsSheetOf_7 : decode cX3_rowTellsSheetOf 7 = .ok (.if_icmp .ge 53, 3) := by decide +kernel
theorem dX3_rowTellsSheetOf_10 : decode cX3_rowTellsSheetOf 10 = .ok (.iload_n 2, 1) := by decide +kernel
theorem dX3_rowTellsSheetOf_11 : decode cX3_rowTellsSheetOf 11 = .ok (.aload_n 0, 1) := by decide +kernel
theorem dX3_rowTellsSheetOf_12 : decode cX3_rowTellsSheetOf 12 = .ok (.getfield 16, 3) := by decide +kernel
theorem dX3_rowTellsSheetOf_15 : decode cX3_rowTellsSheetOf 15 = .ok (.getfield 200, 3) := by decide +kernel
theorem dX3_rowTellsSheetOf_18 : decode cX3_rowTellsSheetOf 18 = .ok (.if_icmp .ge 42, 3) := by decide +kernel
theorem dX3_rowTellsSheetOf_21 : decode cX3_rowTellsSheetOf 21 = .ok (.aload_n 0, 1) := by decide +kernel
theorem dX3_rowTellsSheetOf_22 : decode cX3_rowTellsSheetOf 22 = .ok (.getfield 16, 3) := by decide +kernel
theorem dX3_rowTellsSheetOf_25 : decode cX3_rowTellsSheetOf 25 = .ok (.iload_n 1, 1) := by decide +kernel
theorem dX3_rowTellsSheetOf_26 : decode cX3_rowTellsSheetOf 26 = .ok (.iload_n 2, 1) := by decide +kernel
theorem dX3_rowTellsSheetOf_27 : decode cX3_rowTellsSheetOf 27 = .ok (.invokevirtual 121, 3) := by decide +kernel
theorem dX3_rowTellsSheetOf_30 : decode cX3_rowTellsSheetOf 30 = .ok (.istore_n 3, 1) := by decide +kernel
theorem dX3_rowTellsSheetOf_31 : decode cX3_rowTellsSheetOf 31 = .ok (.aload_n 0, 1) := by decide +kernel
theorem dX3_rowTellsSheetOf_32 : decode cX3_rowTellsSheetOf 32 = .ok (.getfield 36, 3) := by decide +kernel
theorem dX3_rowTellsSheetOf_35 : decode cX3_rowTellsSheetOf 35 = .ok (.iload_n 2, 1) := by decide +kernel
theorem dX3_rowTellsSheetOf_36 : decode cX3_rowTellsSheetOf 36 = .ok (.iaload, 1) := by decide +kernel
theorem dX3_rowTellsSheetOf_37 : decode cX3_rowTellsSheetOf 37 = .ok (.iload_n 3, 1) := by decide +kernel
theorem dX3_rowTellsSheetOf_38 : decode cX3_rowTellsSheetOf 38 = .ok (.bipush (-9), 2) := by decide +kernel
theorem dX3_rowTellsSheetOf_40 : decode cX3_rowTellsSheetOf 40 = .ok (.if_icmp .ne 8, 3) := by decide +kernel
theorem dX3_rowTellsSheetOf_43 : decode cX3_rowTellsSheetOf 43 = .ok (.bipush 10, 2) := by decide +kernel
theorem dX3_rowTellsSheetOf_45 : decode cX3_rowTellsSheetOf 45 = .ok (.goto 4, 3) := by decide +kernel
theorem dX3_rowTellsSheetOf_48 : decode cX3_rowTellsSheetOf 48 = .ok (.iload_n 3, 1) := by decide +kernel
theorem dX3_rowTellsSheetOf_49 : decode cX3_rowTellsSheetOf 49 = .ok (.if_icmp .eq 5, 3) := by decide +kernel
theorem dX3_rowTellsSheetOf_52 : decode cX3_rowTellsSheetOf 52 = .ok (.iconst 0, 1) := by decide +kernel
theorem dX3_rowTellsSheetOf_53 : decode cX3_rowTellsSheetOf 53 = .ok (.ireturn, 1) := by decide +kernel
theorem dX3_rowTellsSheetOf_54 : decode cX3_rowTellsSheetOf 54 = .ok (.iinc 2 1, 3) := by decide +kernel
theorem dX3_rowTellsSheetOf_57 : decode cX3_rowTellsSheetOf 57 = .ok (.goto (-55), 3) := by decide +kernel
theorem dX3_rowTellsSheetOf_60 : decode cX3_rowTellsSheetOf 60 = .ok (.iconst 1, 1) := by decide +kernel
theorem dX3_rowTellsSheetOf_61 : decode cX3_rowTellsSheetOf 61 = .ok (.ireturn, 1) := by decide +kernel
theorem dX3_nextSeed_0 : decode cX3_nextSeed 0 = .ok (.iload_n 0, 1) := by decide +kernel
theorem dX3_nextSeed_1 : decode cX3_nextSeed 1 = .ok (.ldc_w 261, 3) := by decide +kernel
theorem dX3_nextSeed_4 : decode cX3_nextSeed 4 = .ok (.imul, 1) := by decide +kernel
theorem dX3_nextSeed_5 : decode cX3_nextSeed 5 = .ok (.ldc_w 262, 3) := by decide +kernel
theorem dX3_nextSeed_8 : decode cX3_nextSeed 8 = .ok (.iadd, 1) := by decide +kernel
theorem dX3_nextSeed_9 : decode cX3_nextSeed 9 = .ok (.ireturn, 1) := by decide +kernel
theorem dX3_drawn_0 : decode cX3_drawn 0 = .ok (.iload_n 0, 1) := by decide +kernel
theorem dX3_drawn_1 : decode cX3_drawn 1 = .ok (.ldc_w 263, 3) := by decide +kernel
theorem dX3_drawn_4 : decode cX3_drawn 4 = .ok (.iand, 1) := by decide +kernel
theorem dX3_drawn_5 : decode cX3_drawn 5 = .ok (.sipush 256, 3) := by decide +kernel
theorem dX3_drawn_8 : decode cX3_drawn 8 = .ok (.idiv, 1) := by decide +kernel
theorem dX3_drawn_9 : decode cX3_drawn 9 = .ok (.ireturn, 1) := by decide +kernel
theorem dX3_performAll_0 : decode cX3_performAll 0 = .ok (.aload_n 0, 1) := by decide +kernel
theorem dX3_performAll_1 : decode cX3_performAll 1 = .ok (.getfield 19, 3) := by decide +kernel
theorem dX3_performAll_4 : decode cX3_performAll 4 = .ok (.aload_n 0, 1) := by decide +kernel
theorem dX3_performAll_5 : decode cX3_performAll 5 = .ok (.getfield 10, 3) := by decide +kernel
theorem dX3_performAll_8 : decode cX3_performAll 8 = .ok (.invokevirtual 229, 3) := by decide +kernel
theorem dX3_performAll_11 : decode cX3_performAll 11 = .ok (.iconst 0, 1) := by decide +kernel
theorem dX3_performAll_12 : decode cX3_performAll 12 = .ok (.istore_n 1, 1) := by decide +kernel
theorem dX3_performAll_13 : decode cX3_performAll 13 = .ok (.iconst 0, 1) := by decide +kernel
theorem dX3_performAll_14 : decode cX3_performAll 14 = .ok (.istore_n 2, 1) := by decide +kernel
theorem dX3_performAll_15 : decode cX3_performAll 15 = .ok (.iload_n 2, 1) := by decide +kernel
theorem dX3_performAll_16 : decode cX3_performAll 16 = .ok (.aload_n 0, 1) := by decide +kernel
theorem dX3_performAll_17 : decode cX3_performAll 17 = .ok (.getfield 32, 3) := by decide +kernel
theorem dX3_performAll_20 : decode cX3_performAll 20 = .ok (.invokevirtual 239, 3) := by decide +kernel
theorem dX3_performAll_23 : decode cX3_performAll 23 = .ok (.if_icmp .ge 50, 3) := by decide +kernel
theorem dX3_performAll_26 : decode cX3_performAll 26 = .ok (.aload_n 0, 1) := by decide +kernel
theorem dX3_performAll_27 : decode cX3_performAll 27 = .ok (.iload_n 2, 1) := by decide +kernel
theorem dX3_performAll_28 : decode cX3_performAll 28 = .ok (.invokevirtual 264, 3) := by decide +kernel
theorem dX3_performAll_31 : decode cX3_performAll 31 = .ok (.ifCond .ne 20, 3) := by decide +kernel
theorem dX3_performAll_34 : decode cX3_performAll 34 = .ok (.aload_n 0, 1) := by decide +kernel
theorem dX3_performAll_35 : decode cX3_performAll 35 = .ok (.getfield 10, 3) := by decide +kernel
theorem dX3_performAll_38 : decode cX3_performAll 38 = .ok (.aload_n 0, 1) := by decide +kernel
theorem dX3_performAll_39 : decode cX3_performAll 39 = .ok (.getfield 19, 3) := by decide +kernel
theorem dX3_performAll_42 : decode cX3_performAll 42 = .ok (.invokevirtual 229, 3) := by decide +kernel
theorem dX3_performAll_45 : decode cX3_performAll 45 = .ok (.sipush (-2000), 3) := by decide +kernel
theorem dX3_performAll_48 : decode cX3_performAll 48 = .ok (.iload_n 2, 1) := by decide +kernel
theorem dX3_performAll_49 : decode cX3_performAll 49 = .ok (.isub, 1) := by decide +kernel
theorem dX3_performAll_50 : decode cX3_performAll 50 = .ok (.ireturn, 1) := by decide +kernel
theorem dX3_performAll_51 : decode cX3_performAll 51 = .ok (.iload_n 2, 1) := by decide +kernel
theorem dX3_performAll_52 : decode cX3_performAll 52 = .ok (.aload_n 0, 1) := by decide +kernel
theorem dX3_performAll_53 : decode cX3_performAll 53 = .ok (.getfield 32, 3) := by decide +kernel
theorem dX3_performAll_56 : decode cX3_performAll 56 = .ok (.iload_n 2, 1) := by decide +kernel
theorem dX3_performAll_57 : decode cX3_performAll 57 = .ok (.invokevirtual 267, 3) := by decide +kernel
theorem dX3_performAll_60 : decode cX3_performAll 60 = .ok (.invokestatic 269, 3) := by decide +kernel
theorem dX3_performAll_63 : decode cX3_performAll 63 = .ok (.iconst 2, 1) := by decide +kernel
theorem dX3_performAll_64 : decode cX3_performAll 64 = .ok (.iadd, 1) := by decide +kernel
theorem dX3_performAll_65 : decode cX3_performAll 65 = .ok (.iadd, 1) := by decide +kernel
theorem dX3_performAll_66 : decode cX3_performAll 66 = .ok (.istore_n 2, 1) := by decide +kernel
theorem dX3_performAll_67 : decode cX3_performAll 67 = .ok (.iinc 1 1, 3) := by decide +kernel
theorem dX3_performAll_70 : decode cX3_performAll 70 = .ok (.goto (-55), 3) := by decide +kernel
theorem dX3_performAll_73 : decode cX3_performAll 73 = .ok (.iload_n 1, 1) := by decide +kernel
theorem dX3_performAll_74 : decode cX3_performAll 74 = .ok (.ireturn, 1) := by decide +kernel
theorem dX3_perform_0 : decode cX3_perform 0 = .ok (.aload_n 0, 1) := by decide +kernel
theorem dX3_perform_1 : decode cX3_perform 1 = .ok (.getfield 32, 3) := by decide +kernel
theorem dX3_perform_4 : decode cX3_perform 4 = .ok (.iload_n 1, 1) := by decide +kernel
theorem dX3_perform_5 : decode cX3_perform 5 = .ok (.iconst 1, 1) := by decide +kernel
theorem dX3_perform_6 : decode cX3_perform 6 = .ok (.iadd, 1) := by decide +kernel
theorem dX3_perform_7 : decode cX3_perform 7 = .ok (.invokevirtual 272, 3) := by decide +kernel
theorem dX3_perform_10 : decode cX3_perform 10 = .ok (.istore_n 2, 1) := by decide +kernel
theorem dX3_perform_11 : decode cX3_perform 11 = .ok (.aload_n 0, 1) := by decide +kernel
theorem dX3_perform_12 : decode cX3_perform 12 = .ok (.getfield 32, 3) := by decide +kernel
theorem dX3_perform_15 : decode cX3_perform 15 = .ok (.iload_n 1, 1) := by decide +kernel
theorem dX3_perform_16 : decode cX3_perform 16 = .ok (.iconst 2, 1) := by decide +kernel
theorem dX3_perform_17 : decode cX3_perform 17 = .ok (.iadd, 1) := by decide +kernel
theorem dX3_perform_18 : decode cX3_perform 18 = .ok (.invokevirtual 272, 3) := by decide +kernel
theorem dX3_perform_21 : decode cX3_perform 21 = .ok (.istore_n 3, 1) := by decide +kernel
theorem dX3_perform_22 : decode cX3_perform 22 = .ok (.aload_n 0, 1) := by decide +kernel
theorem dX3_perform_23 : decode cX3_perform 23 = .ok (.getfield 32, 3) := by decide +kernel
theorem dX3_perform_26 : decode cX3_perform 26 = .ok (.iload_n 1, 1) := by decide +kernel
theorem dX3_perform_27 : decode cX3_perform 27 = .ok (.iconst 3, 1) := by decide +kernel
theorem dX3_perform_28 : decode cX3_perform 28 = .ok (.iadd, 1) := by decide +kernel
theorem dX3_perform_29 : decode cX3_perform 29 = .ok (.invokevirtual 272, 3) := by decide +kernel
theorem dX3_perform_32 : decode cX3_perform 32 = .ok (.istore 4, 2) := by decide +kernel
theorem dX3_perform_34 : decode cX3_perform 34 = .ok (.aload_n 0, 1) := by decide +kernel
theorem dX3_perform_35 : decode cX3_perform 35 = .ok (.getfield 32, 3) := by decide +kernel
theorem dX3_perform_38 : decode cX3_perform 38 = .ok (.iload_n 1, 1) := by decide +kernel
theorem dX3_perform_39 : decode cX3_perform 39 = .ok (.invokevirtual 267, 3) := by decide +kernel
theorem dX3_perform_42 : decode cX3_perform 42 = .ok (.lookupswitch 113 #[(97, 97), (100, 50), (103, 88), (113, 57), (119, 104)], 50) := by decide +kernel
theorem dX3_perform_92 : decode cX3_perform 92 = .ok (.aload_n 0, 1) := by decide +kernel
theorem dX3_perform_93 : decode cX3_perform 93 = .ok (.iload_n 2, 1) := by decide +kernel
theorem dX3_perform_94 : decode cX3_perform 94 = .ok (.iload_n 3, 1) := by decide +kernel
theorem dX3_perform_95 : decode cX3_perform 95 = .ok (.invokevirtual 275, 3) := by decide +kernel
theorem dX3_perform_98 : decode cX3_perform 98 = .ok (.ireturn, 1) := by decide +kernel
theorem dX3_perform_99 : decode cX3_perform 99 = .ok (.aload_n 0, 1) := by decide +kernel
theorem dX3_perform_100 : decode cX3_perform 100 = .ok (.aload_n 0, 1) := by decide +kernel
theorem dX3_perform_101 : decode cX3_perform 101 = .ok (.getfield 32, 3) := by decide +kernel
theorem dX3_perform_104 : decode cX3_perform 104 = .ok (.iload_n 1, 1) := by decide +kernel
theorem dX3_perform_105 : decode cX3_perform 105 = .ok (.iconst 1, 1) := by decide +kernel
theorem dX3_perform_106 : decode cX3_perform 106 = .ok (.iadd, 1) := by decide +kernel
theorem dX3_perform_107 : decode cX3_perform 107 = .ok (.invokevirtual 267, 3) := by decide +kernel
theorem dX3_perform_110 : decode cX3_perform 110 = .ok (.invokestatic 278, 3) := by decide +kernel
theorem dX3_perform_113 : decode cX3_perform 113 = .ok (.iload_n 3, 1) := by decide +kernel
theorem dX3_perform_114 : decode cX3_perform 114 = .ok (.iload 4, 2) := by decide +kernel
theorem dX3_perform_116 : decode cX3_perform 116 = .ok (.aload_n 0, 1) := by decide +kernel
theorem dX3_perform_117 : decode cX3_perform 117 = .ok (.getfield 32, 3) := by decide +kernel
theorem dX3_perform_120 : decode cX3_perform 120 = .ok (.iload_n 1, 1) := by decide +kernel
theorem dX3_perform_121 : decode cX3_perform 121 = .ok (.iconst 4, 1) := by decide +kernel
theorem dX3_perform_122 : decode cX3_perform 122 = .ok (.iadd, 1) := by decide +kernel
theorem dX3_perform_123 : decode cX3_perform 123 = .ok (.invokevirtual 272, 3) := by decide +kernel
theorem dX3_perform_126 : decode cX3_perform 126 = .ok (.invokevirtual 281, 3) := by decide +kernel
theorem dX3_perform_129 : decode cX3_perform 129 = .ok (.ireturn, 1) := by decide +kernel
theorem dX3_perform_130 : decode cX3_perform 130 = .ok (.aload_n 0, 1) := by decide +kernel
theorem dX3_perform_131 : decode cX3_perform 131 = .ok (.iload_n 2, 1) := by decide +kernel
theorem dX3_perform_132 : decode cX3_perform 132 = .ok (.iload_n 3, 1) := by decide +kernel
theorem dX3_perform_133 : decode cX3_perform 133 = .ok (.iload 4, 2) := by decide +kernel
theorem dX3_perform_135 : decode cX3_perform 135 = .ok (.invokevirtual 284, 3) := by decide +kernel
theorem dX3_perform_138 : decode cX3_perform 138 = .ok (.ireturn, 1) := by decide +kernel
theorem dX3_perform_139 : decode cX3_perform 139 = .ok (.aload_n 0, 1) := by decide +kernel
theorem dX3_perform_140 : decode cX3_perform 140 = .ok (.iload_n 2, 1) := by decide +kernel
theorem dX3_perform_141 : decode cX3_perform 141 = .ok (.iload_n 3, 1) := by decide +kernel
theorem dX3_perform_142 : decode cX3_perform 142 = .ok (.invokevirtual 288, 3) := by decide +kernel
theorem dX3_perform_145 : decode cX3_perform 145 = .ok (.ireturn, 1) := by decide +kernel
theorem dX3_perform_146 : decode cX3_perform 146 = .ok (.aload_n 0, 1) := by decide +kernel
theorem dX3_perform_147 : decode cX3_perform 147 = .ok (.iload_n 2, 1) := by decide +kernel
theorem dX3_perform_148 : decode cX3_perform 148 = .ok (.iload_n 3, 1) := by decide +kernel
theorem dX3_perform_149 : decode cX3_perform 149 = .ok (.iload 4, 2) := by decide +kernel
theorem dX3_perform_151 : decode cX3_perform 151 = .ok (.invokevirtual 291, 3) := by decide +kernel
theorem dX3_perform_154 : decode cX3_perform 154 = .ok (.ireturn, 1) := by decide +kernel
theorem dX3_perform_155 : decode cX3_perform 155 = .ok (.aload_n 0, 1) := by decide +kernel
theorem dX3_perform_156 : decode cX3_perform 156 = .ok (.bipush 10, 2) := by decide +kernel
theorem dX3_perform_158 : decode cX3_perform 158 = .ok (.iload_n 2, 1) := by decide +kernel
theorem dX3_perform_159 : decode cX3_perform 159 = .ok (.imul, 1) := by decide +kernel
theorem dX3_perform_160 : decode cX3_perform 160 = .ok (.iload_n 3, 1) := by decide +kernel
theorem dX3_perform_161 : decode cX3_perform 161 = .ok (.iadd, 1) := by decide +kernel
theorem dX3_perform_162 : decode cX3_perform 162 = .ok (.invokevirtual 294, 3) := by decide +kernel
theorem dX3_perform_165 : decode cX3_perform 165 = .ok (.ireturn, 1) := by decide +kernel
theorem dX3_performDoor_0 : decode cX3_performDoor 0 = .ok (.iload_n 1, 1) := by decide +kernel
theorem dX3_performDoor_1 : decode cX3_performDoor 1 = .ok (.invokestatic 68, 3) := by decide +kernel
theorem dX3_performDoor_4 : decode cX3_performDoor 4 = .ok (.ifCond .ne 15, 3) := by decide +kernel
theorem dX3_performDoor_7 : decode cX3_performDoor 7 = .ok (.iload_n 2, 1) := by decide +kernel
theorem dX3_performDoor_8 : decode cX3_performDoor 8 = .ok (.invokestatic 68, 3) := by decide +kernel
theorem dX3_performDoor_11 : decode cX3_performDoor 11 = .ok (.ifCond .ne 8, 3) := by decide +kernel
theorem dX3_performDoor_14 : decode cX3_performDoor 14 = .ok (.iload_n 1, 1) := by decide +kernel
theorem dX3_performDoor_15 : decode cX3_performDoor 15 = .ok (.iload_n 2, 1) := by decide +kernel
theorem dX3_performDoor_16 : decode cX3_performDoor 16 = .ok (.if_icmp .ne 5, 3) := by decide +kernel
theorem dX3_performDoor_19 : decode cX3_performDoor 19 = .ok (.iconst 0, 1) := by decide +kernel
theorem dX3_performDoor_20 : decode cX3_performDoor 20 = .ok (.ireturn, 1) := by decide +kernel
theorem dX3_performDoor_21 : decode cX3_performDoor 21 = .ok (.aload_n 0, 1) := by decide +kernel
theorem dX3_performDoor_22 : decode cX3_performDoor 22 = .ok (.getfield 10, 3) := by decide +kernel
theorem dX3_performDoor_25 : decode cX3_performDoor 25 = .ok (.getfield 72, 3) := by decide +kernel
theorem dX3_performDoor_28 : decode cX3_performDoor 28 = .ok (.iload_n 1, 1) := by decide +kernel
theorem dX3_performDoor_29 : decode cX3_performDoor 29 = .ok (.iload_n 2, 1) := by decide +kernel
theorem dX3_performDoor_30 : decode cX3_performDoor 30 = .ok (.invokevirtual 124, 3) := by decide +kernel
theorem dX3_performDoor_33 : decode cX3_performDoor 33 = .ok (.iconst 1, 1) := by decide +kernel
theorem dX3_performDoor_34 : decode cX3_performDoor 34 = .ok (.ireturn, 1) := by decide +kernel
theorem dX3_performQuestion_0 : decode cX3_performQuestion 0 = .ok (.iload_n 3, 1) := by decide +kernel
theorem dX3_performQuestion_1 : decode cX3_performQuestion 1 = .ok (.invokestatic 68, 3) := by decide +kernel
theorem dX3_performQuestion_4 : decode cX3_performQuestion 4 = .ok (.ifCond .ne 15, 3) := by decide +kernel
theorem dX3_performQuestion_7 : decode cX3_performQuestion 7 = .ok (.aload_n 0, 1) := by decide +kernel
theorem dX3_performQuestion_8 : decode cX3_performQuestion 8 = .ok (.getfield 10, 3) := by decide +kernel
theorem dX3_performQuestion_11 : decode cX3_performQuestion 11 = .ok (.getfield 200, 3) := by decide +kernel
theorem dX3_performQuestion_14 : decode cX3_performQuestion 14 = .ok (.bipush 8, 2) := by decide +kernel
theorem dX3_performQuestion_16 : decode cX3_performQuestion 16 = .ok (.if_icmp .lt 5, 3) := by decide +kernel
theorem dX3_performQuestion_19 : decode cX3_performQuestion 19 = .ok (.iconst 0, 1) := by decide +kernel
theorem dX3_performQuestion_20 : decode cX3_performQuestion 20 = .ok (.ireturn, 1) := by decide +kernel
theorem dX3_performQuestion_21 : decode cX3_performQuestion 21 = .ok (.aload_n 0, 1) := by decide +kernel
theorem dX3_performQuestion_22 : decode cX3_performQuestion 22 = .ok (.getfield 10, 3) := by decide +kernel
theorem dX3_performQuestion_25 : decode cX3_performQuestion 25 = .ok (.iload_n 1, 1) := by decide +kernel
theorem dX3_performQuestion_26 : decode cX3_performQuestion 26 = .ok (.iload_n 2, 1) := by decide +kernel
theorem dX3_performQuestion_27 : decode cX3_performQuestion 27 = .ok (.iload_n 3, 1) := by decide +kernel
theorem dX3_performQuestion_28 : decode cX3_performQuestion 28 = .ok (.iload 4, 2) := by decide +kernel
theorem dX3_performQuestion_30 : decode cX3_performQuestion 30 = .ok (.invokevirtual 297, 3) := by decide +kernel
theorem dX3_performQuestion_33 : decode cX3_performQuestion 33 = .ok (.iconst 1, 1) := by decide +kernel
theorem dX3_performQuestion_34 : decode cX3_performQuestion 34 = .ok (.ireturn, 1) := by decide +kernel
theorem dX3_performGroup_0 : decode cX3_performGroup 0 = .ok (.iload_n 3, 1) := by decide +kernel
theorem dX3_performGroup_1 : decode cX3_performGroup 1 = .ok (.bipush 8, 2) := by decide +kernel
theorem dX3_performGroup_3 : decode cX3_performGroup 3 = .ok (.if_icmp .ge 14, 3) := by decide +kernel
theorem dX3_performGroup_6 : decode cX3_performGroup 6 = .ok (.aload_n 0, 1) := by decide +kernel
theorem dX3_performGroup_7 : decode cX3_performGroup 7 = .ok (.getfield 10, 3) := by decide +kernel
theorem dX3_performGroup_10 : decode cX3_performGroup 10 = .ok (.getfield 188, 3) := by decide +kernel
theorem dX3_performGroup_13 : decode cX3_performGroup 13 = .ok (.iconst 5, 1) := by decide +kernel
theorem dX3_performGroup_14 : decode cX3_performGroup 14 = .ok (.if_icmp .lt 5, 3) := by decide +kernel
theorem dX3_performGroup_17 : decode cX3_performGroup 17 = .ok (.iconst 0, 1) := by decide +kernel
theorem dX3_performGroup_18 : decode cX3_performGroup 18 = .ok (.ireturn, 1) := by decide +kernel
theorem dX3_performGroup_19 : decode cX3_performGroup 19 = .ok (.aload_n 0, 1) := by decide +kernel
theorem dX3_performGroup_20 : decode cX3_performGroup 20 = .ok (.getfield 10, 3) := by decide +kernel
theorem dX3_performGroup_23 : decode cX3_performGroup 23 = .ok (.iload_n 1, 1) := by decide +kernel
theorem dX3_performGroup_24 : decode cX3_performGroup 24 = .ok (.iload_n 2, 1) := by decide +kernel
theorem dX3_performGroup_25 : decode cX3_performGroup 25 = .ok (.iload_n 3, 1) := by decide +kernel
theorem dX3_performGroup_26 : decode cX3_performGroup 26 = .ok (.invokevirtual 301, 3) := by decide +kernel
theorem dX3_performGroup_29 : decode cX3_performGroup 29 = .ok (.iconst 1, 1) := by decide +kernel
theorem dX3_performGroup_30 : decode cX3_performGroup 30 = .ok (.ireturn, 1) := by decide +kernel
theorem dX3_performPlace_0 : decode cX3_performPlace 0 = .ok (.aload_n 0, 1) := by decide +kernel
theorem dX3_performPlace_1 : decode cX3_performPlace 1 = .ok (.iload_n 1, 1) := by decide +kernel
theorem dX3_performPlace_2 : decode cX3_performPlace 2 = .ok (.invokevirtual 100, 3) := by decide +kernel
theorem dX3_performPlace_5 : decode cX3_performPlace 5 = .ok (.ifCond .ne 10, 3) := by decide +kernel
theorem dX3_performPlace_8 : decode cX3_performPlace 8 = .ok (.iload_n 2, 1) := by decide +kernel
theorem dX3_performPlace_9 : decode cX3_performPlace 9 = .ok (.invokestatic 68, 3) := by decide +kernel
theorem dX3_performPlace_12 : decode cX3_performPlace 12 = .ok (.ifCond .eq 5, 3) := by decide +kernel
theorem dX3_performPlace_15 : decode cX3_performPlace 15 = .ok (.iconst 0, 1) := by decide +kernel
theorem dX3_performPlace_16 : decode cX3_performPlace 16 = .ok (.ireturn, 1) := by decide +kernel
theorem dX3_performPlace_17 : decode cX3_performPlace 17 = .ok (.aload_n 0, 1) := by decide +kernel
theorem dX3_performPlace_18 : decode cX3_performPlace 18 = .ok (.getfield 10, 3) := by decide +kernel
theorem dX3_performPlace_21 : decode cX3_performPlace 21 = .ok (.iload_n 1, 1) := by decide +kernel
theorem dX3_performPlace_22 : decode cX3_performPlace 22 = .ok (.iload_n 2, 1) := by decide +kernel
theorem dX3_performPlace_23 : decode cX3_performPlace 23 = .ok (.invokevirtual 132, 3) := by decide +kernel
theorem dX3_performPlace_26 : decode cX3_performPlace 26 = .ok (.iconst 1, 1) := by decide +kernel
theorem dX3_performPlace_27 : decode cX3_performPlace 27 = .ok (.ireturn, 1) := by decide +kernel
theorem dX3_performAnswer_0 : decode cX3_performAnswer 0 = .ok (.aload_n 0, 1) := by decide +kernel
theorem dX3_performAnswer_1 : decode cX3_performAnswer 1 = .ok (.iload_n 1, 1) := by decide +kernel
theorem dX3_performAnswer_2 : decode cX3_performAnswer 2 = .ok (.invokevirtual 100, 3) := by decide +kernel
theorem dX3_performAnswer_5 : decode cX3_performAnswer 5 = .ok (.ifCond .ne 11, 3) := by decide +kernel
theorem dX3_performAnswer_8 : decode cX3_performAnswer 8 = .ok (.aload_n 0, 1) := by decide +kernel
theorem dX3_performAnswer_9 : decode cX3_performAnswer 9 = .ok (.iload_n 2, 1) := by decide +kernel
theorem dX3_performAnswer_10 : decode cX3_performAnswer 10 = .ok (.invokevirtual 82, 3) := by decide +kernel
theorem dX3_performAnswer_13 : decode cX3_performAnswer 13 = .ok (.ifCond .eq 5, 3) := by decide +kernel
theorem dX3_performAnswer_16 : decode cX3_performAnswer 16 = .ok (.iconst 0, 1) := by decide +kernel
theorem dX3_performAnswer_17 : decode cX3_performAnswer 17 = .ok (.ireturn, 1) := by decide +kernel
theorem dX3_performAnswer_18 : decode cX3_performAnswer 18 = .ok (.aload_n 0, 1) := by decide +kernel
theorem dX3_performAnswer_19 : decode cX3_performAnswer 19 = .ok (.getfield 10, 3) := by decide +kernel
theorem dX3_performAnswer_22 : decode cX3_performAnswer 22 = .ok (.iload_n 1, 1) := by decide +kernel
theorem dX3_performAnswer_23 : decode cX3_performAnswer 23 = .ok (.iload_n 2, 1) := by decide +kernel
theorem dX3_performAnswer_24 : decode cX3_performAnswer 24 = .ok (.iload_n 3, 1) := by decide +kernel
theorem dX3_performAnswer_25 : decode cX3_performAnswer 25 = .ok (.invokevirtual 135, 3) := by decide +kernel
theorem dX3_performAnswer_28 : decode cX3_performAnswer 28 = .ok (.iconst 1, 1) := by decide +kernel
theorem dX3_performAnswer_29 : decode cX3_performAnswer 29 = .ok (.ireturn, 1) := by decide +kernel
theorem dX3_performMinutes_0 : decode cX3_performMinutes 0 = .ok (.iload_n 1, 1) := by decide +kernel
theorem dX3_performMinutes_1 : decode cX3_performMinutes 1 = .ok (.iconst 1, 1) := by decide +kernel
theorem dX3_performMinutes_2 : decode cX3_performMinutes 2 = .ok (.if_icmp .lt 24, 3) := by decide +kernel
theorem dX3_performMinutes_5 : decode cX3_performMinutes 5 = .ok (.iload_n 1, 1) := by decide +kernel
theorem dX3_performMinutes_6 : decode cX3_performMinutes 6 = .ok (.bipush 60, 2) := by decide +kernel
theorem dX3_performMinutes_8 : decode cX3_performMinutes 8 = .ok (.if_icmp .gt 18, 3) := by decide +kernel
theorem dX3_performMinutes_11 : decode cX3_performMinutes 11 = .ok (.aload_n 0, 1) := by decide +kernel
theorem dX3_performMinutes_12 : decode cX3_performMinutes 12 = .ok (.getfield 10, 3) := by decide +kernel
theorem dX3_performMinutes_15 : decode cX3_performMinutes 15 = .ok (.getfield 139, 3) := by decide +kernel
theorem dX3_performMinutes_18 : decode cX3_performMinutes 18 = .ok (.iload_n 1, 1) := by decide +kernel
theorem dX3_performMinutes_19 : decode cX3_performMinutes 19 = .ok (.iadd, 1) := by decide +kernel
theorem dX3_performMinutes_20 : decode cX3_performMinutes 20 = .ok (.sipush 999, 3) := by decide +kernel
theorem dX3_performMinutes_23 : decode cX3_performMinutes 23 = .ok (.if_icmp .le 5, 3) := by decide +kernel
theorem dX3_performMinutes_26 : decode cX3_performMinutes 26 = .ok (.iconst 0, 1) := by decide +kernel
theorem dX3_performMinutes_27 : decode cX3_performMinutes 27 = .ok (.ireturn, 1) := by decide +kernel
theorem dX3_performMinutes_28 : decode cX3_performMinutes 28 = .ok (.aload_n 0, 1) := by decide +kernel
theorem dX3_performMinutes_29 : decode cX3_performMinutes 29 = .ok (.getfield 10, 3) := by decide +kernel
theorem dX3_performMinutes_32 : decode cX3_performMinutes 32 = .ok (.iload_n 1, 1) := by decide +kernel
theorem dX3_performMinutes_33 : decode cX3_performMinutes 33 = .ok (.invokevirtual 142, 3) := by decide +kernel
theorem dX3_performMinutes_36 : decode cX3_performMinutes 36 = .ok (.iconst 1, 1) := by decide +kernel
theorem dX3_performMinutes_37 : decode cX3_performMinutes 37 = .ok (.ireturn, 1) := by decide +kernel
