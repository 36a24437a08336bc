theorem dX4_init_0 : decode cX4_init 0 = .ok (.aload_n 0, 1) := by decide +kernel
theorem dX4_init_1 : decode cX4_init 1 = .ok (.invokespecial 1, 3) := by decide +kernel
theorem dX4_init_4 : decode cX4_init 4 = .ok (.aload_n 0, 1) := by decide +kernel
theorem dX4_init_5 : decode cX4_init 5 = .ok (.sipush 147, 3) := by decide +kernel
theorem dX4_init_8 : decode cX4_init 8 = .ok (.newarray .int, 2) := by decide +kernel
theorem dX4_init_10 : decode cX4_init 10 = .ok (.putfield 9, 3) := by decide +kernel
theorem dX4_init_13 : decode cX4_init 13 = .ok (.aload_n 0, 1) := by decide +kernel
theorem dX4_init_14 : decode cX4_init 14 = .ok (.sipush 147, 3) := by decide +kernel
theorem dX4_init_17 : decode cX4_init 17 = .ok (.newarray .int, 2) := by decide +kernel
theorem dX4_init_19 : decode cX4_init 19 = .ok (.putfield 13, 3) := by decide +kernel
theorem dX4_init_22 : decode cX4_init 22 = .ok (.aload_n 0, 1) := by decide +kernel
theorem dX4_init_23 : decode cX4_init 23 = .ok (.sipush 147, 3) := by decide +kernel
theorem dX4_init_26 : decode cX4_init 26 = .ok (.newarray .int, 2) := by decide +kernel
theorem dX4_init_28 : decode cX4_init 28 = .ok (.putfield 16, 3) := by decide +kernel
theorem dX4_init_31 : decode cX4_init 31 = .ok (.aload_n 0, 1) := by decide +kernel
theorem dX4_init_32 : decode cX4_init 32 = .ok (.sipush 147, 3) := by decide +kernel
theorem dX4_init_35 : decode cX4_init 35 = .ok (.newarray .int, 2) := by decide +kernel
theorem dX4_init_37 : decode cX4_init 37 = .ok (.putfield 19, 3) := by decide +kernel
theorem dX4_init_40 : decode cX4_init 40 = .ok (.aload_n 0, 1) := by decide +kernel
theorem dX4_init_41 : decode cX4_init 41 = .ok (.bipush 96, 2) := by decide +kernel
theorem dX4_init_43 : decode cX4_init 43 = .ok (.newarray .int, 2) := by decide +kernel
theorem dX4_init_45 : decode cX4_init 45 = .ok (.putfield 22, 3) := by decide +kernel
theorem dX4_init_48 : decode cX4_init 48 = .ok (.aload_n 0, 1) := by decide +kernel
theorem dX4_init_49 : decode cX4_init 49 = .ok (.bipush 12, 2) := by decide +kernel
theorem dX4_init_51 : decode cX4_init 51 = .ok (.newarray .int, 2) := by decide +kernel
theorem dX4_init_53 : decode cX4_init 53 = .ok (.putfield 25, 3) := by decide +kernel
theorem dX4_init_56 : decode cX4_init 56 = .ok (.aload_n 0, 1) := by decide +kernel
theorem dX4_init_57 : decode cX4_init 57 = .ok (.bipush 7, 2) := by decide +kernel
theorem dX4_init_59 : decode cX4_init 59 = .ok (.newarray .int, 2) := by decide +kernel
theorem dX4_init_61 : decode cX4_init 61 = .ok (.putfield 28, 3) := by decide +kernel
theorem dX4_init_64 : decode cX4_init 64 = .ok (.aload_n 0, 1) := by decide +kernel
theorem dX4_init_65 : decode cX4_init 65 = .ok (.bipush 7, 2) := by decide +kernel
theorem dX4_init_67 : decode cX4_init 67 = .ok (.newarray .int, 2) := by decide +kernel
theorem dX4_init_69 : decode cX4_init 69 = .ok (.putfield 31, 3) := by decide +kernel
theorem dX4_init_72 : decode cX4_init 72 = .ok (.aload_n 0, 1) := by decide +kernel
theorem dX4_init_73 : decode cX4_init 73 = .ok (.iconst 4, 1) := by decide +kernel
theorem dX4_init_74 : decode cX4_init 74 = .ok (.newarray .int, 2) := by decide +kernel
theorem dX4_init_76 : decode cX4_init 76 = .ok (.putfield 34, 3) := by decide +kernel
theorem dX4_init_79 : decode cX4_init 79 = .ok (.return_, 1) := by decide +kernel
theorem dX4_isIn_0 : decode cX4_isIn 0 = .ok (.iload_n 0, 1) := by decide +kernel
theorem dX4_isIn_1 : decode cX4_isIn 1 = .ok (.iload_n 1, 1) := by decide +kernel
theorem dX4_isIn_2 : decode cX4_isIn 2 = .ok (.if_icmp .lt 12, 3) := by decide +kernel
theorem dX4_isIn_5 : decode cX4_isIn 5 = .ok (.iload_n 0, 1) := by decide +kernel
theorem dX4_isIn_6 : decode cX4_isIn 6 = .ok (.iload_n 2, 1) := by decide +kernel
theorem dX4_isIn_7 : decode cX4_isIn 7 = .ok (.if_icmp .gt 7, 3) := by decide +kernel
theorem dX4_isIn_10 : decode cX4_isIn 10 = .ok (.iconst 1, 1) := by decide +kernel
theorem dX4_isIn_11 : decode cX4_isIn 11 = .ok (.goto 4, 3) := by decide +kernel
theorem dX4_isIn_14 : decode cX4_isIn 14 = .ok (.iconst 0, 1) := by decide +kernel
theorem dX4_isIn_15 : decode cX4_isIn 15 = .ok (.ireturn, 1) := by decide +kernel
theorem dX4_lays_0 : decode cX4_lays 0 = .ok (.iconst 0, 1) := by decide +kernel
theorem dX4_lays_1 : decode cX4_lays 1 = .ok (.istore_n 2, 1) := by decide +kernel
theorem dX4_lays_2 : decode cX4_lays 2 = .ok (.iload_n 2, 1) := by decide +kernel
theorem dX4_lays_3 : decode cX4_lays 3 = .ok (.sipush 147, 3) := by decide +kernel
theorem dX4_lays_6 : decode cX4_lays 6 = .ok (.if_icmp .ge 15, 3) := by decide +kernel
theorem dX4_lays_9 : decode cX4_lays 9 = .ok (.aload_n 1, 1) := by decide +kernel
theorem dX4_lays_10 : decode cX4_lays 10 = .ok (.iload_n 2, 1) := by decide +kernel
theorem dX4_lays_11 : decode cX4_lays 11 = .ok (.aload_n 0, 1) := by decide +kernel
theorem dX4_lays_12 : decode cX4_lays 12 = .ok (.iload_n 2, 1) := by decide +kernel
theorem dX4_lays_13 : decode cX4_lays 13 = .ok (.iaload, 1) := by decide +kernel
theorem dX4_lays_14 : decode cX4_lays 14 = .ok (.iastore, 1) := by decide +kernel
theorem dX4_lays_15 : decode cX4_lays 15 = .ok (.iinc 2 1, 3) := by decide +kernel
theorem dX4_lays_18 : decode cX4_lays 18 = .ok (.goto (-16), 3) := by decide +kernel
theorem dX4_lays_21 : decode cX4_lays 21 = .ok (.return_, 1) := by decide +kernel
theorem dX4_no_0 : decode cX4_no 0 = .ok (.aload_n 0, 1) := by decide +kernel
theorem dX4_no_1 : decode cX4_no 1 = .ok (.getfield 28, 3) := by decide +kernel
theorem dX4_no_4 : decode cX4_no 4 = .ok (.iload_n 1, 1) := by decide +kernel
theorem dX4_no_5 : decode cX4_no 5 = .ok (.ineg, 1) := by decide +kernel
theorem dX4_no_6 : decode cX4_no 6 = .ok (.dup2, 1) := by decide +kernel
theorem dX4_no_7 : decode cX4_no 7 = .ok (.iaload, 1) := by decide +kernel
theorem dX4_no_8 : decode cX4_no 8 = .ok (.iconst 1, 1) := by decide +kernel
theorem dX4_no_9 : decode cX4_no 9 = .ok (.iadd, 1) := by decide +kernel
theorem dX4_no_10 : decode cX4_no 10 = .ok (.iastore, 1) := by decide +kernel
theorem dX4_no_11 : decode cX4_no 11 = .ok (.iload_n 1, 1) := by decide +kernel
theorem dX4_no_12 : decode cX4_no 12 = .ok (.ireturn, 1) := by decide +kernel
theorem dX4_noFar_0 : decode cX4_noFar 0 = .ok (.ldc 37, 2) := by decide +kernel
theorem dX4_noFar_2 : decode cX4_noFar 2 = .ok (.aload_n 0, 1) := by decide +kernel
theorem dX4_noFar_3 : decode cX4_noFar 3 = .ok (.iload_n 1, 1) := by decide +kernel
theorem dX4_noFar_4 : decode cX4_noFar 4 = .ok (.invokevirtual 38, 3) := by decide +kernel
theorem dX4_noFar_7 : decode cX4_noFar 7 = .ok (.isub, 1) := by decide +kernel
theorem dX4_noFar_8 : decode cX4_noFar 8 = .ok (.ireturn, 1) := by decide +kernel
theorem dX4_ask_0 : decode cX4_ask 0 = .ok (.bipush 10, 2) := by decide +kernel
theorem dX4_ask_2 : decode cX4_ask 2 = .ok (.iconst 4, 1) := by decide +kernel
theorem dX4_ask_3 : decode cX4_ask 3 = .ok (.iload_n 0, 1) := by decide +kernel
theorem dX4_ask_4 : decode cX4_ask 4 = .ok (.imul, 1) := by decide +kernel
theorem dX4_ask_5 : decode cX4_ask 5 = .ok (.iadd, 1) := by decide +kernel
theorem dX4_ask_6 : decode cX4_ask 6 = .ok (.iload_n 1, 1) := by decide +kernel
theorem dX4_ask_7 : decode cX4_ask 7 = .ok (.iadd, 1) := by decide +kernel
theorem dX4_ask_8 : decode cX4_ask 8 = .ok (.ireturn, 1) := by decide +kernel
theorem dX4_of_0 : decode cX4_of 0 = .ok (.bipush 42, 2) := by decide +kernel
theorem dX4_of_2 : decode cX4_of 2 = .ok (.iconst 5, 1) := by decide +kernel
theorem dX4_of_3 : decode cX4_of 3 = .ok (.iload_n 0, 1) := by decide +kernel
theorem dX4_of_4 : decode cX4_of 4 = .ok (.imul, 1) := by decide +kernel
theorem dX4_of_5 : decode cX4_of 5 = .ok (.iadd, 1) := by decide +kernel
theorem dX4_of_6 : decode cX4_of 6 = .ok (.iload_n 1, 1) := by decide +kernel
theorem dX4_of_7 : decode cX4_of 7 = .ok (.iadd, 1) := by decide +kernel
theorem dX4_of_8 : decode cX4_of 8 = .ok (.ireturn, 1) := by decide +kernel
theorem dX4_sheetOf_0 : decode cX4_sheetOf 0 = .ok (.bipush 67, 2) := by decide +kernel
theorem dX4_sheetOf_2 : decode cX4_sheetOf 2 = .ok (.bipush 8, 2) := by decide +kernel
theorem dX4_sheetOf_4 : decode cX4_sheetOf 4 = .ok (.iload_n 0, 1) := by decide +kernel
theorem dX4_sheetOf_5 : decode cX4_sheetOf 5 = .ok (.imul, 1) := by decide +kernel
theorem dX4_sheetOf_6 : decode cX4_sheetOf 6 = .ok (.iadd, 1) := by decide +kernel
theorem dX4_sheetOf_7 : decode cX4_sheetOf 7 = .ok (.iload_n 1, 1) := by decide +kernel
theorem dX4_sheetOf_8 : decode cX4_sheetOf 8 = .ok (.iadd, 1) := by decide +kernel
theorem dX4_sheetOf_9 : decode cX4_sheetOf 9 = .ok (.ireturn, 1) := by decide +kernel
theorem dX4_fromOf_0 : decode cX4_fromOf 0 = .ok (.bipush 107, 2) := by decide +kernel
theorem dX4_fromOf_2 : decode cX4_fromOf 2 = .ok (.bipush 8, 2) := by decide +kernel
theorem dX4_fromOf_4 : decode cX4_fromOf 4 = .ok (.iload_n 0, 1) := by decide +kernel
theorem dX4_fromOf_5 : decode cX4_fromOf 5 = .ok (.imul, 1) := by decide +kernel
theorem dX4_fromOf_6 : decode cX4_fromOf 6 = .ok (.iadd, 1) := by decide +kernel
theorem dX4_fromOf_7 : decode cX4_fromOf 7 = .ok (.iload_n 1, 1) := by decide +kernel
theorem dX4_fromOf_8 : decode cX4_fromOf 8 = .ok (.iadd, 1) := by decide +kernel
theorem dX4_fromOf_9 : decode cX4_fromOf 9 = .ok (.ireturn, 1) := by decide +kernel
theorem dX4_isRoom_0 : decode cX4_isRoom 0 = .ok (.iload_n 0, 1) := by decide +kernel
theorem dX4_isRoom_1 : decode cX4_isRoom 1 = .ok (.iconst 0, 1) := by decide +kernel
theorem dX4_isRoom_2 : decode cX4_isRoom 2 = .ok (.bipush 6, 2) := by decide +kernel
theorem dX4_isRoom_4 : decode cX4_isRoom 4 = .ok (.invokestatic 42, 3) := by decide +kernel
theorem dX4_isRoom_7 : decode cX4_isRoom 7 = .ok (.ireturn, 1) := by decide +kernel
theorem dX4_isQuestion_0 : decode cX4_isQuestion 0 = .ok (.iload_n 1, 1) := by decide +kernel
theorem dX4_isQuestion_1 : decode cX4_isQuestion 1 = .ok (.iconst 0, 1) := by decide +kernel
theorem dX4_isQuestion_2 : decode cX4_isQuestion 2 = .ok (.aload_n 0, 1) := by decide +kernel
theorem dX4_isQuestion_3 : decode cX4_isQuestion 3 = .ok (.getfield 9, 3) := by decide +kernel
theorem dX4_isQuestion_6 : decode cX4_isQuestion 6 = .ok (.iconst 0, 1) := by decide +kernel
theorem dX4_isQuestion_7 : decode cX4_isQuestion 7 = .ok (.iaload, 1) := by decide +kernel
theorem dX4_isQuestion_8 : decode cX4_isQuestion 8 = .ok (.iconst 1, 1) := by decide +kernel
theorem dX4_isQuestion_9 : decode cX4_isQuestion 9 = .ok (.isub, 1) := by decide +kernel
theorem dX4_isQuestion_10 : decode cX4_isQuestion 10 = .ok (.invokestatic 42, 3) := by decide +kernel
theorem dX4_isQuestion_13 : decode cX4_isQuestion 13 = .ok (.ireturn, 1) := by decide +kernel
theorem dX4_isGroup_0 : decode cX4_isGroup 0 = .ok (.iload_n 1, 1) := by decide +kernel
theorem dX4_isGroup_1 : decode cX4_isGroup 1 = .ok (.iconst 0, 1) := by decide +kernel
theorem dX4_isGroup_2 : decode cX4_isGroup 2 = .ok (.aload_n 0, 1) := by decide +kernel
theorem dX4_isGroup_3 : decode cX4_isGroup 3 = .ok (.getfield 9, 3) := by decide +kernel
theorem dX4_isGroup_6 : decode cX4_isGroup 6 = .ok (.iconst 1, 1) := by decide +kernel
theorem dX4_isGroup_7 : decode cX4_isGroup 7 = .ok (.iaload, 1) := by decide +kernel
theorem dX4_isGroup_8 : decode cX4_isGroup 8 = .ok (.iconst 1, 1) := by decide +kernel
theorem dX4_isGroup_9 : decode cX4_isGroup 9 = .ok (.isub, 1) := by decide +kernel
theorem dX4_isGroup_10 : decode cX4_isGroup 10 = .ok (.invokestatic 42, 3) := by decide +kernel
theorem dX4_isGroup_13 : decode cX4_isGroup 13 = .ok (.ireturn, 1) := by decide +kernel
theorem dX4_doorsTo_0 : decode cX4_doorsTo 0 = .ok (.iconst 0, 1) := by decide +kernel
theorem dX4_doorsTo_1 : decode cX4_doorsTo 1 = .ok (.istore_n 3, 1) := by decide +kernel
theorem dX4_doorsTo_2 : decode cX4_doorsTo 2 = .ok (.iload_n 3, 1) := by decide +kernel
theorem dX4_doorsTo_3 : decode cX4_doorsTo 3 = .ok (.bipush 7, 2) := by decide +kernel
theorem dX4_doorsTo_5 : decode cX4_doorsTo 5 = .ok (.if_icmp .ge 26, 3) := by decide +kernel
theorem dX4_doorsTo_8 : decode cX4_doorsTo 8 = .ok (.aload_n 0, 1) := by decide +kernel
theorem dX4_doorsTo_9 : decode cX4_doorsTo 9 = .ok (.getfield 31, 3) := by decide +kernel
theorem dX4_doorsTo_12 : decode cX4_doorsTo 12 = .ok (.iload_n 3, 1) := by decide +kernel
theorem dX4_doorsTo_13 : decode cX4_doorsTo 13 = .ok (.iload_n 3, 1) := by decide +kernel
theorem dX4_doorsTo_14 : decode cX4_doorsTo 14 = .ok (.iload_n 2, 1) := by decide +kernel
theorem dX4_doorsTo_15 : decode cX4_doorsTo 15 = .ok (.if_icmp .ne 7, 3) := by decide +kernel
theorem dX4_doorsTo_18 : decode cX4_doorsTo 18 = .ok (.iconst 0, 1) := by decide +kernel
theorem dX4_doorsTo_19 : decode cX4_doorsTo 19 = .ok (.goto 5, 3) := by decide +kernel
theorem dX4_doorsTo_22 : decode cX4_doorsTo 22 = .ok (.ldc 37, 2) := by decide +kernel
theorem dX4_doorsTo_24 : decode cX4_doorsTo 24 = .ok (.iastore, 1) := by decide +kernel
theorem dX4_doorsTo_25 : decode cX4_doorsTo 25 = .ok (.iinc 3 1, 3) := by decide +kernel
theorem dX4_doorsTo_28 : decode cX4_doorsTo 28 = .ok (.goto (-26), 3) := by decide +kernel
theorem dX4_doorsTo_31 : decode cX4_doorsTo 31 = .ok (.iconst 0, 1) := by decide +kernel
theorem dX4_doorsTo_32 : decode cX4_doorsTo 32 = .ok (.istore_n 3, 1) := by decide +kernel
theorem dX4_doorsTo_33 : decode cX4_doorsTo 33 = .ok (.iload_n 3, 1) := by decide +kernel
theorem dX4_doorsTo_34 : decode cX4_doorsTo 34 = .ok (.bipush 7, 2) := by decide +kernel
theorem dX4_doorsTo_36 : decode cX4_doorsTo 36 = .ok (.if_icmp .ge 89, 3) := by decide +kernel
theorem dX4_doorsTo_39 : decode cX4_doorsTo 39 = .ok (.iconst 0, 1) := by decide +kernel
theorem dX4_doorsTo_40 : decode cX4_doorsTo 40 = .ok (.istore 4, 2) := by decide +kernel
theorem dX4_doorsTo_42 : decode cX4_doorsTo 42 = .ok (.iload 4, 2) := by decide +kernel
theorem dX4_doorsTo_44 : decode cX4_doorsTo 44 = .ok (.bipush 7, 2) := by decide +kernel
theorem dX4_doorsTo_46 : decode cX4_doorsTo 46 = .ok (.if_icmp .ge 73, 3) := by decide +kernel
theorem dX4_doorsTo_49 : decode cX4_doorsTo 49 = .ok (.iconst 0, 1) := by decide +kernel
theorem dX4_doorsTo_50 : decode cX4_doorsTo 50 = .ok (.istore 5, 2) := by decide +kernel
theorem dX4_doorsTo_52 : decode cX4_doorsTo 52 = .ok (.iload 5, 2) := by decide +kernel
theorem dX4_doorsTo_54 : decode cX4_doorsTo 54 = .ok (.bipush 7, 2) := by decide +kernel
theorem dX4_doorsTo_56 : decode cX4_doorsTo 56 = .ok (.if_icmp .ge 57, 3) := by decide +kernel
theorem dX4_doorsTo_59 : decode cX4_doorsTo 59 = .ok (.aload_n 0, 1) := by decide +kernel
theorem dX4_doorsTo_60 : decode cX4_doorsTo 60 = .ok (.getfield 31, 3) := by decide +kernel
theorem dX4_doorsTo_63 : decode cX4_doorsTo 63 = .ok (.iload 4, 2) := by decide +kernel
theorem dX4_doorsTo_65 : decode cX4_doorsTo 65 = .ok (.iaload, 1) := by decide +kernel
theorem dX4_doorsTo_66 : decode cX4_doorsTo 66 = .ok (.iload_n 3, 1) := by decide +kernel
theorem dX4_doorsTo_67 : decode cX4_doorsTo 67 = .ok (.if_icmp .ne 40, 3) := by decide +kernel
theorem dX4_doorsTo_70 : decode cX4_doorsTo 70 = .ok (.aload_n 1, 1) := by decide +kernel
theorem dX4_doorsTo_71 : decode cX4_doorsTo 71 = .ok (.iconst 3, 1) := by decide +kernel
theorem dX4_doorsTo_72 : decode cX4_doorsTo 72 = .ok (.iload 4, 2) := by decide +kernel
theorem dX4_doorsTo_74 : decode cX4_doorsTo 74 = .ok (.iadd, 1) := by decide +kernel
theorem dX4_doorsTo_75 : decode cX4_doorsTo 75 = .ok (.iaload, 1) := by decide +kernel
theorem dX4_doorsTo_76 : decode cX4_doorsTo 76 = .ok (.iload 5, 2) := by decide +kernel
theorem dX4_doorsTo_78 : decode cX4_doorsTo 78 = .ok (.ishr, 1) := by decide +kernel
theorem dX4_doorsTo_79 : decode cX4_doorsTo 79 = .ok (.iconst 1, 1) := by decide +kernel
theorem dX4_doorsTo_80 : decode cX4_doorsTo 80 = .ok (.iand, 1) := by decide +kernel
theorem dX4_doorsTo_81 : decode cX4_doorsTo 81 = .ok (.iconst 1, 1) := by decide +kernel
theorem dX4_doorsTo_82 : decode cX4_doorsTo 82 = .ok (.if_icmp .ne 25, 3) := by decide +kernel
theorem dX4_doorsTo_85 : decode cX4_doorsTo 85 = .ok (.aload_n 0, 1) := by decide +kernel
theorem dX4_doorsTo_86 : decode cX4_doorsTo 86 = .ok (.getfield 31, 3) := by decide +kernel
theorem dX4_doorsTo_89 : decode cX4_doorsTo 89 = .ok (.iload 5, 2) := by decide +kernel
theorem dX4_doorsTo_91 : decode cX4_doorsTo 91 = .ok (.iaload, 1) := by decide +kernel
theorem dX4_doorsTo_92 : decode cX4_doorsTo 92 = .ok (.ldc 37, 2) := by decide +kernel
theorem dX4_doorsTo_94 : decode cX4_doorsTo 94 = .ok (.if_icmp .ne 13, 3) := by decide +kernel
theorem dX4_doorsTo_97 : decode cX4_doorsTo 97 = .ok (.aload_n 0, 1) := by decide +kernel
theorem dX4_doorsTo_98 : decode cX4_doorsTo 98 = .ok (.getfield 31, 3) := by decide +kernel
theorem dX4_doorsTo_101 : decode cX4_doorsTo 101 = .ok (.iload 5, 2) := by decide +kernel
theorem dX4_doorsTo_103 : decode cX4_doorsTo 103 = .ok (.iload_n 3, 1) := by decide +kernel
theorem dX4_doorsTo_104 : decode cX4_doorsTo 104 = .ok (.iconst 1, 1) := by decide +kernel
theorem dX4_doorsTo_105 : decode cX4_doorsTo 105 = .ok (.iadd, 1) := by decide +kernel
theorem dX4_doorsTo_106 : decode cX4_doorsTo 106 = .ok (.iastore, 1) := by decide +kernel
theorem dX4_doorsTo_107 : decode cX4_doorsTo 107 = .ok (.iinc 5 1, 3) := by decide +kernel
theorem dX4_doorsTo_110 : decode cX4_doorsTo 110 = .ok (.goto (-58), 3) := by decide +kernel
theorem dX4_doorsTo_113 : decode cX4_doorsTo 113 = .ok (.iinc 4 1, 3) := by decide +kernel
theorem dX4_doorsTo_116 : decode cX4_doorsTo 116 = .ok (.goto (-74), 3) := by decide +kernel
theorem dX4_doorsTo_119 : decode cX4_doorsTo 119 = .ok (.iinc 3 1, 3) := by decide +kernel
theorem dX4_doorsTo_122 : decode cX4_doorsTo 122 = .ok (.goto (-89), 3) := by decide +kernel
theorem dX4_doorsTo_125 : decode cX4_doorsTo 125 = .ok (.return_, 1) := by decide +kernel
theorem dX4_onward_0 : decode cX4_onward 0 = .ok (.aload_n 0, 1) := by decide +kernel
theorem dX4_onward_1 : decode cX4_onward 1 = .ok (.aload_n 1, 1) := by decide +kernel
theorem dX4_onward_2 : decode cX4_onward 2 = .ok (.iload_n 3, 1) := by decide +kernel
theorem dX4_onward_3 : decode cX4_onward 3 = .ok (.invokevirtual 46, 3) := by decide +kernel
theorem dX4_onward_6 : decode cX4_onward 6 = .ok (.aload_n 0, 1) := by decide +kernel
theorem dX4_onward_7 : decode cX4_onward 7 = .ok (.getfield 31, 3) := by decide +kernel
theorem dX4_onward_10 : decode cX4_onward 10 = .ok (.iload_n 2, 1) := by decide +kernel
theorem dX4_onward_11 : decode cX4_onward 11 = .ok (.iaload, 1) := by decide +kernel
theorem dX4_onward_12 : decode cX4_onward 12 = .ok (.ldc 37, 2) := by decide +kernel
theorem dX4_onward_14 : decode cX4_onward 14 = .ok (.if_icmp .ne 5, 3) := by decide +kernel
theorem dX4_onward_17 : decode cX4_onward 17 = .ok (.iload_n 2, 1) := by decide +kernel
theorem dX4_onward_18 : decode cX4_onward 18 = .ok (.ireturn, 1) := by decide +kernel
theorem dX4_onward_19 : decode cX4_onward 19 = .ok (.iconst 0, 1) := by decide +kernel
theorem dX4_onward_20 : decode cX4_onward 20 = .ok (.istore 4, 2) := by decide +kernel
theorem dX4_onward_22 : decode cX4_onward 22 = .ok (.iload 4, 2) := by decide +kernel
theorem dX4_onward_24 : decode cX4_onward 24 = .ok (.bipush 7, 2) := by decide +kernel
theorem dX4_onward_26 : decode cX4_onward 26 = .ok (.if_icmp .ge 44, 3) := by decide +kernel
theorem dX4_onward_29 : decode cX4_onward 29 = .ok (.aload_n 1, 1) := by decide +kernel
theorem dX4_onward_30 : decode cX4_onward 30 = .ok (.iconst 3, 1) := by decide +kernel
theorem dX4_onward_31 : decode cX4_onward 31 = .ok (.iload_n 2, 1) := by decide +kernel
theorem dX4_onward_32 : decode cX4_onward 32 = .ok (.iadd, 1) := by decide +kernel
theorem dX4_onward_33 : decode cX4_onward 33 = .ok (.iaload, 1) := by decide +kernel
theorem dX4_onward_34 : decode cX4_onward 34 = .ok (.iload 4, 2) := by decide +kernel
theorem dX4_onward_36 : decode cX4_onward 36 = .ok (.ishr, 1) := by decide +kernel
theorem dX4_onward_37 : decode cX4_onward 37 = .ok (.iconst 1, 1) := by decide +kernel
theorem dX4_onward_38 : decode cX4_onward 38 = .ok (.iand, 1) := by decide +kernel
theorem dX4_onward_39 : decode cX4_onward 39 = .ok (.iconst 1, 1) := by decide +kernel
theorem dX4_onward_40 : decode cX4_onward 40 = .ok (.if_icmp .ne 24, 3) := by decide +kernel
theorem dX4_onward_43 : decode cX4_onward 43 = .ok (.aload_n 0, 1) := by decide +kernel
theorem dX4_onward_44 : decode cX4_onward 44 = .ok (.getfield 31, 3) := by decide +kernel
theorem dX4_onward_47 : decode cX4_onward 47 = .ok (.iload 4, 2) := by decide +kernel
theorem dX4_onward_49 : decode cX4_onward 49 = .ok (.iaload, 1) := by decide +kernel
theorem dX4_onward_50 : decode cX4_onward 50 = .ok (.aload_n 0, 1) := by decide +kernel
theorem dX4_onward_51 : decode cX4_onward 51 = .ok (.getfield 31, 3) := by decide +kernel
theorem dX4_onward_54 : decode cX4_onward 54 = .ok (.iload_n 2, 1) := by decide +kernel
theorem dX4_onward_55 : decode cX4_onward 55 = .ok (.iaload, 1) := by decide +kernel
theorem dX4_onward_56 : decode cX4_onward 56 = .ok (.iconst 1, 1) := by decide +kernel
theorem dX4_onward_57 : decode cX4_onward 57 = .ok (.isub, 1) := by decide +kernel
theorem dX4_onward_58 : decode cX4_onward 58 = .ok (.if_icmp .ne 6, 3) := by decide +kernel
theorem dX4_onward_61 : decode cX4_onward 61 = .ok (.iload 4, 2) := by decide +kernel
theorem dX4_onward_63 : decode cX4_onward 63 = .ok (.ireturn, 1) := by decide +kernel
theorem dX4_onward_64 : decode cX4_onward 64 = .ok (.iinc 4 1, 3) := by decide +kernel
theorem dX4_onward_67 : decode cX4_onward 67 = .ok (.goto (-45), 3) := by decide +kernel
theorem dX4_onward_70 : decode cX4_onward 70 = .ok (.iload_n 2, 1) := by decide +kernel
theorem dX4_onward_71 : decode cX4_onward 71 = .ok (.ireturn, 1) := by decide +kernel
theorem dX4_doors_0 : decode cX4_doors 0 = .ok (.aload_n 0, 1) := by decide +kernel
theorem dX4_doors_1 : decode cX4_doors 1 = .ok (.aload_n 1, 1) := by decide +kernel
theorem dX4_doors_2 : decode cX4_doors 2 = .ok (.iload_n 3, 1) := by decide +kernel
theorem dX4_doors_3 : decode cX4_doors 3 = .ok (.invokevirtual 46, 3) := by decide +kernel
theorem dX4_doors_6 : decode cX4_doors 6 = .ok (.aload_n 0, 1) := by decide +kernel
theorem dX4_doors_7 : decode cX4_doors 7 = .ok (.getfield 31, 3) := by decide +kernel
theorem dX4_doors_10 : decode cX4_doors 10 = .ok (.iload_n 2, 1) := by decide +kernel
theorem dX4_doors_11 : decode cX4_doors 11 = .ok (.iaload, 1) := by decide +kernel
theorem dX4_doors_12 : decode cX4_doors 12 = .ok (.ldc 37, 2) := by decide +kernel
theorem dX4_doors_14 : decode cX4_doors 14 = .ok (.if_icmp .ne 8, 3) := by decide +kernel
theorem dX4_doors_17 : decode cX4_doors 17 = .ok (.bipush (-9), 2) := by decide +kernel
theorem dX4_doors_19 : decode cX4_doors 19 = .ok (.goto 9, 3) := by decide +kernel
theorem dX4_doors_22 : decode cX4_doors 22 = .ok (.aload_n 0, 1) := by decide +kernel
theorem dX4_doors_23 : decode cX4_doors 23 = .ok (.getfield 31, 3) := by decide +kernel
theorem dX4_doors_26 : decode cX4_doors 26 = .ok (.iload_n 2, 1) := by decide +kernel
theorem dX4_doors_27 : decode cX4_doors 27 = .ok (.iaload, 1) := by decide +kernel
theorem dX4_doors_28 : decode cX4_doors 28 = .ok (.ireturn, 1) := by decide +kernel
theorem dX4_minutesOf_0 : decode cX4_minutesOf 0 = .ok (.aload_n 0, 1) := by decide +kernel
theorem dX4_minutesOf_1 : decode cX4_minutesOf 1 = .ok (.iload_n 1, 1) := by decide +kernel
theorem dX4_minutesOf_2 : decode cX4_minutesOf 2 = .ok (.iconst 0, 1) := by decide +kernel
theorem dX4_minutesOf_3 : decode cX4_minutesOf 3 = .ok (.invokestatic 50, 3) := by decide +kernel
theorem dX4_minutesOf_6 : decode cX4_minutesOf 6 = .ok (.iaload, 1) := by decide +kernel
theorem dX4_minutesOf_7 : decode cX4_minutesOf 7 = .ok (.tableswitch 47 1 5 #[33, 47, 43, 33, 45], 33) := by decide +kernel
theorem dX4_minutesOf_40 : decode cX4_minutesOf 40 = .ok (.iconst 1, 1) := by decide +kernel
theorem dX4_minutesOf_41 : decode cX4_minutesOf 41 = .ok (.aload_n 0, 1) := by decide +kernel
theorem dX4_minutesOf_42 : decode cX4_minutesOf 42 = .ok (.iload_n 1, 1) := by decide +kernel
theorem dX4_minutesOf_43 : decode cX4_minutesOf 43 = .ok (.iconst 1, 1) := by decide +kernel
theorem dX4_minutesOf_44 : decode cX4_minutesOf 44 = .ok (.invokestatic 50, 3) := by decide +kernel
theorem dX4_minutesOf_47 : decode cX4_minutesOf 47 = .ok (.iaload, 1) := by decide +kernel
theorem dX4_minutesOf_48 : decode cX4_minutesOf 48 = .ok (.iadd, 1) := by decide +kernel
theorem dX4_minutesOf_49 : decode cX4_minutesOf 49 = .ok (.ireturn, 1) := by decide +kernel
theorem dX4_minutesOf_50 : decode cX4_minutesOf 50 = .ok (.iconst 2, 1) := by decide +kernel
theorem dX4_minutesOf_51 : decode cX4_minutesOf 51 = .ok (.ireturn, 1) := by decide +kernel
theorem dX4_minutesOf_52 : decode cX4_minutesOf 52 = .ok (.iconst 3, 1) := by decide +kernel
theorem dX4_minutesOf_53 : decode cX4_minutesOf 53 = .ok (.ireturn, 1) := by decide +kernel
theorem dX4_minutesOf_54 : decode cX4_minutesOf 54 = .ok (.iconst 1, 1) := by decide +kernel
theorem dX4_minutesOf_55 : decode cX4_minutesOf 55 = .ok (.ireturn, 1) := by decide +kernel
theorem dX4_nextOf_0 : decode cX4_nextOf 0 = .ok (.iconst 0, 1) := by decide +kernel
theorem dX4_nextOf_1 : decode cX4_nextOf 1 = .ok (.istore_n 2, 1) := by decide +kernel
theorem dX4_nextOf_2 : decode cX4_nextOf 2 = .ok (.iload_n 2, 1) := by decide +kernel
theorem dX4_nextOf_3 : decode cX4_nextOf 3 = .ok (.aload_n 0, 1) := by decide +kernel
theorem dX4_nextOf_4 : decode cX4_nextOf 4 = .ok (.iconst 0, 1) := by decide +kernel
theorem dX4_nextOf_5 : decode cX4_nextOf 5 = .ok (.iaload, 1) := by decide +kernel
theorem dX4_nextOf_6 : decode cX4_nextOf 6 = .ok (.if_icmp .ge 35, 3) := by decide +kernel
theorem dX4_nextOf_9 : decode cX4_nextOf 9 = .ok (.aload_n 0, 1) := by decide +kernel
theorem dX4_nextOf_10 : decode cX4_nextOf 10 = .ok (.iload_n 1, 1) := by decide +kernel
theorem dX4_nextOf_11 : decode cX4_nextOf 11 = .ok (.iconst 2, 1) := by decide +kernel
theorem dX4_nextOf_12 : decode cX4_nextOf 12 = .ok (.invokestatic 54, 3) := by decide +kernel
theorem dX4_nextOf_15 : decode cX4_nextOf 15 = .ok (.iaload, 1) := by decide +kernel
theorem dX4_nextOf_16 : decode cX4_nextOf 16 = .ok (.iload_n 2, 1) := by decide +kernel
theorem dX4_nextOf_17 : decode cX4_nextOf 17 = .ok (.iadd, 1) := by decide +kernel
theorem dX4_nextOf_18 : decode cX4_nextOf 18 = .ok (.aload_n 0, 1) := by decide +kernel
theorem dX4_nextOf_19 : decode cX4_nextOf 19 = .ok (.iconst 0, 1) := by decide +kernel
theorem dX4_nextOf_20 : decode cX4_nextOf 20 = .ok (.iaload, 1) := by decide +kernel
theorem dX4_nextOf_21 : decode cX4_nextOf 21 = .ok (.irem, 1) := by decide +kernel
theorem dX4_nextOf_22 : decode cX4_nextOf 22 = .ok (.istore_n 3, 1) := by decide +kernel
theorem dX4_nextOf_23 : decode cX4_nextOf 23 = .ok (.aload_n 0, 1) := by decide +kernel
theorem dX4_nextOf_24 : decode cX4_nextOf 24 = .ok (.iload_n 1, 1) := by decide +kernel
theorem dX4_nextOf_25 : decode cX4_nextOf 25 = .ok (.iload_n 3, 1) := by decide +kernel
theorem dX4_nextOf_26 : decode cX4_nextOf 26 = .ok (.invokestatic 57, 3) := by decide +kernel
theorem dX4_nextOf_29 : decode cX4_nextOf 29 = .ok (.iaload, 1) := by decide +kernel
theorem dX4_nextOf_30 : decode cX4_nextOf 30 = .ok (.ifCond .ge 5, 3) := by decide +kernel
theorem dX4_nextOf_33 : decode cX4_nextOf 33 = .ok (.iload_n 3, 1) := by decide +kernel
theorem dX4_nextOf_34 : decode cX4_nextOf 34 = .ok (.ireturn, 1) := by decide +kernel
theorem dX4_nextOf_35 : decode cX4_nextOf 35 = .ok (.iinc 2 1, 3) := by decide +kernel
theorem dX4_nextOf_38 : decode cX4_nextOf 38 = .ok (.goto (-36), 3) := by decide +kernel
theorem dX4_nextOf_41 : decode cX4_nextOf 41 = .ok (.bipush (-9), 2) := by decide +kernel
theorem dX4_nextOf_43 : decode cX4_nextOf 43 = .ok (.ireturn, 1) := by decide +kernel
theorem dX4_other_0 : decode cX4_other 0 = .ok (.iconst 0, 1) := by decide +kernel
theorem dX4_other_1 : decode cX4_other 1 = .ok (.istore_n 3, 1) := by decide +kernel
theorem dX4_other_2 : decode cX4_other 2 = .ok (.iload_n 3, 1) := by decide +kernel
theorem dX4_other_3 : decode cX4_other 3 = .ok (.aload_n 0, 1) := by decide +kernel
theorem dX4_other_4 : decode cX4_other 4 = .ok (.iconst 1, 1) := by decide +kernel
theorem dX4_other_5 : decode cX4_other 5 = .ok (.iaload, 1) := by decide +kernel
theorem dX4_other_6 : decode cX4_other 6 = .ok (.if_icmp .ge 43, 3) := by decide +kernel
theorem dX4_other_9 : decode cX4_other 9 = .ok (.iload_n 3, 1) := by decide +kernel
theorem dX4_other_10 : decode cX4_other 10 = .ok (.iload_n 1, 1) := by decide +kernel
theorem dX4_other_11 : decode cX4_other 11 = .ok (.if_icmp .eq 32, 3) := by decide +kernel
theorem dX4_other_14 : decode cX4_other 14 = .ok (.aload_n 0, 1) := by decide +kernel
theorem dX4_other_15 : decode cX4_other 15 = .ok (.iload_n 3, 1) := by decide +kernel
theorem dX4_other_16 : decode cX4_other 16 = .ok (.iconst 3, 1) := by decide +kernel
theorem dX4_other_17 : decode cX4_other 17 = .ok (.invokestatic 54, 3) := by decide +kernel
theorem dX4_other_20 : decode cX4_other 20 = .ok (.iaload, 1) := by decide +kernel
theorem dX4_other_21 : decode cX4_other 21 = .ok (.aload_n 0, 1) := by decide +kernel
theorem dX4_other_22 : decode cX4_other 22 = .ok (.iload_n 1, 1) := by decide +kernel
theorem dX4_other_23 : decode cX4_other 23 = .ok (.iconst 3, 1) := by decide +kernel
theorem dX4_other_24 : decode cX4_other 24 = .ok (.invokestatic 54, 3) := by decide +kernel
theorem dX4_other_27 : decode cX4_other 27 = .ok (.iaload, 1) := by decide +kernel
theorem dX4_other_28 : decode cX4_other 28 = .ok (.if_icmp .ne 15, 3) := by decide +kernel
theorem dX4_other_31 : decode cX4_other 31 = .ok (.aload_n 0, 1) := by decide +kernel
theorem dX4_other_32 : decode cX4_other 32 = .ok (.iload_n 3, 1) := by decide +kernel
theorem dX4_other_33 : decode cX4_other 33 = .ok (.iload_n 2, 1) := by decide +kernel
theorem dX4_other_34 : decode cX4_other 34 = .ok (.invokestatic 57, 3) := by decide +kernel
theorem dX4_other_37 : decode cX4_other 37 = .ok (.iaload, 1) := by decide +kernel
theorem dX4_other_38 : decode cX4_other 38 = .ok (.ifCond .lt 5, 3) := by decide +kernel
theorem dX4_other_41 : decode cX4_other 41 = .ok (.iload_n 3, 1) := by decide +kernel
theorem dX4_other_42 : decode cX4_other 42 = .ok (.ireturn, 1) := by decide +kernel
theorem dX4_other_43 : decode cX4_other 43 = .ok (.iinc 3 1, 3) := by decide +kernel
theorem dX4_other_46 : decode cX4_other 46 = .ok (.goto (-44), 3) := by decide +kernel
theorem dX4_other_49 : decode cX4_other 49 = .ok (.bipush (-9), 2) := by decide +kernel
theorem dX4_other_51 : decode cX4_other 51 = .ok (.ireturn, 1) := by decide +kernel
theorem dX4_writes_0 : decode cX4_writes 0 = .ok (.aload_n 0, 1) := by decide +kernel
theorem dX4_writes_1 : decode cX4_writes 1 = .ok (.iload_n 2, 1) := by decide +kernel
theorem dX4_writes_2 : decode cX4_writes 2 = .ok (.iconst 0, 1) := by decide +kernel
theorem dX4_writes_3 : decode cX4_writes 3 = .ok (.invokestatic 50, 3) := by decide +kernel
theorem dX4_writes_6 : decode cX4_writes 6 = .ok (.iaload, 1) := by decide +kernel
theorem dX4_writes_7 : decode cX4_writes 7 = .ok (.istore_n 3, 1) := by decide +kernel
theorem dX4_writes_8 : decode cX4_writes 8 = .ok (.aload_n 0, 1) := by decide +kernel
theorem dX4_writes_9 : decode cX4_writes 9 = .ok (.iload_n 2, 1) := by decide +kernel
theorem dX4_writes_10 : decode cX4_writes 10 = .ok (.iconst 1, 1) := by decide +kernel
theorem dX4_writes_11 : decode cX4_writes 11 = .ok (.invokestatic 50, 3) := by decide +kernel
theorem dX4_writes_14 : decode cX4_writes 14 = .ok (.iaload, 1) := by decide +kernel
theorem dX4_writes_15 : decode cX4_writes 15 = .ok (.istore 4, 2) := by decide +kernel
theorem dX4_writes_17 : decode cX4_writes 17 = .ok (.aload_n 0, 1) := by decide +kernel
theorem dX4_writes_18 : decode cX4_writes 18 = .ok (.iload_n 2, 1) := by decide +kernel
theorem dX4_writes_19 : decode cX4_writes 19 = .ok (.iconst 3, 1) := by decide +kernel
theorem dX4_writes_20 : decode cX4_writes 20 = .ok (.invokestatic 50, 3) := by decide +kernel
theorem dX4_writes_23 : decode cX4_writes 23 = .ok (.iaload, 1) := by decide +kernel
theorem dX4_writes_24 : decode cX4_writes 24 = .ok (.istore 5, 2) := by decide +kernel
theorem dX4_writes_26 : decode cX4_writes 26 = .ok (.aload_n 0, 1) := by decide +kernel
theorem dX4_writes_27 : decode cX4_writes 27 = .ok (.iload_n 1, 1) := by decide +kernel
theorem dX4_writes_28 : decode cX4_writes 28 = .ok (.iconst 1, 1) := by decide +kernel
theorem dX4_writes_29 : decode cX4_writes 29 = .ok (.invokestatic 54, 3) := by decide +kernel
theorem dX4_writes_32 : decode cX4_writes 32 = .ok (.iaload, 1) := by decide +kernel
theorem dX4_writes_33 : decode cX4_writes 33 = .ok (.istore 6, 2) := by decide +kernel
theorem dX4_writes_35 : decode cX4_writes 35 = .ok (.aload_n 0, 1) := by decide +kernel
theorem dX4_writes_36 : decode cX4_writes 36 = .ok (.iload_n 1, 1) := by decide +kernel
theorem dX4_writes_37 : decode cX4_writes 37 = .ok (.iconst 0, 1) := by decide +kernel
theorem dX4_writes_38 : decode cX4_writes 38 = .ok (.invokestatic 54, 3) := by decide +kernel
theorem dX4_writes_41 : decode cX4_writes 41 = .ok (.iaload, 1) := by decide +kernel
theorem dX4_writes_42 : decode cX4_writes 42 = .ok (.iload 4, 2) := by decide +kernel
theorem dX4_writes_44 : decode cX4_writes 44 = .ok (.if_icmp .lt 7, 3) := by decide +kernel
theorem dX4_writes_47 : decode cX4_writes 47 = .ok (.iconst 1, 1) := by decide +kernel
theorem dX4_writes_48 : decode cX4_writes 48 = .ok (.goto 4, 3) := by decide +kernel
theorem dX4_writes_51 : decode cX4_writes 51 = .ok (.iconst 0, 1) := by decide +kernel
theorem dX4_writes_52 : decode cX4_writes 52 = .ok (.istore 7, 2) := by decide +kernel
theorem dX4_writes_54 : decode cX4_writes 54 = .ok (.bipush (-9), 2) := by decide +kernel
theorem dX4_writes_56 : decode cX4_writes 56 = .ok (.istore 8, 2) := by decide +kernel
theorem dX4_writes_58 : decode cX4_writes 58 = .ok (.iload 6, 2) := by decide +kernel
theorem dX4_writes_60 : decode cX4_writes 60 = .ok (.istore 9, 2) := by decide +kernel
theorem dX4_writes_62 : decode cX4_writes 62 = .ok (.iload_n 3, 1) := by decide +kernel
theorem dX4_writes_63 : decode cX4_writes 63 = .ok (.tableswitch 59 3 5 #[25, 28, 52], 25) := by decide +kernel
theorem dX4_writes_88 : decode cX4_writes 88 = .ok (.goto 87, 3) := by decide +kernel
theorem dX4_writes_91 : decode cX4_writes 91 = .ok (.iload 6, 2) := by decide +kernel
theorem dX4_writes_93 : decode cX4_writes 93 = .ok (.iload 4, 2) := by decide +kernel
theorem dX4_writes_95 : decode cX4_writes 95 = .ok (.if_icmp .ge 13, 3) := by decide +kernel
theorem dX4_writes_98 : decode cX4_writes 98 = .ok (.iload 5, 2) := by decide +kernel
theorem dX4_writes_100 : decode cX4_writes 100 = .ok (.iconst 1, 1) := by decide +kernel
theorem dX4_writes_101 : decode cX4_writes 101 = .ok (.iadd, 1) := by decide +kernel
theorem dX4_writes_102 : decode cX4_writes 102 = .ok (.bipush 10, 2) := by decide +kernel
theorem dX4_writes_104 : decode cX4_writes 104 = .ok (.irem, 1) := by decide +kernel
theorem dX4_writes_105 : decode cX4_writes 105 = .ok (.goto 5, 3) := by decide +kernel
theorem dX4_writes_108 : decode cX4_writes 108 = .ok (.iload 5, 2) := by decide +kernel
theorem dX4_writes_110 : decode cX4_writes 110 = .ok (.istore 9, 2) := by decide +kernel
theorem dX4_writes_112 : decode cX4_writes 112 = .ok (.goto 63, 3) := by decide +kernel
theorem dX4_writes_115 : decode cX4_writes 115 = .ok (.iload 5, 2) := by decide +kernel
theorem dX4_writes_117 : decode cX4_writes 117 = .ok (.istore 9, 2) := by decide +kernel
theorem dX4_writes_119 : decode cX4_writes 119 = .ok (.goto 56, 3) := by decide +kernel
theorem dX4_writes_122 : decode cX4_writes 122 = .ok (.iload 7, 2) := by decide +kernel
theorem dX4_writes_124 : decode cX4_writes 124 = .ok (.ifCond .eq 13, 3) := by decide +kernel
theorem dX4_writes_127 : decode cX4_writes 127 = .ok (.iload_n 3, 1) := by decide +kernel
theorem dX4_writes_128 : decode cX4_writes 128 = .ok (.iconst 2, 1) := by decide +kernel
theorem dX4_writes_129 : decode cX4_writes 129 = .ok (.if_icmp .eq 8, 3) := by decide +kernel
theorem dX4_writes_132 : decode cX4_writes 132 = .ok (.bipush (-9), 2) := by decide +kernel
theorem dX4_writes_134 : decode cX4_writes 134 = .ok (.goto 9, 3) := by decide +kernel
theorem dX4_writes_137 : decode cX4_writes 137 = .ok (.aload_n 0, 1) := by decide +kernel
theorem dX4_writes_138 : decode cX4_writes 138 = .ok (.iload_n 1, 1) := by decide +kernel
theorem dX4_writes_139 : decode cX4_writes 139 = .ok (.iload_n 2, 1) := by decide +kernel
theorem dX4_writes_140 : decode cX4_writes 140 = .ok (.invokestatic 60, 3) := by decide +kernel
theorem dX4_writes_143 : decode cX4_writes 143 = .ok (.istore 8, 2) := by decide +kernel
theorem dX4_writes_145 : decode cX4_writes 145 = .ok (.iload 8, 2) := by decide +kernel
theorem dX4_writes_147 : decode cX4_writes 147 = .ok (.ifCond .lt 14, 3) := by decide +kernel
theorem dX4_writes_150 : decode cX4_writes 150 = .ok (.aload_n 0, 1) := by decide +kernel
theorem dX4_writes_151 : decode cX4_writes 151 = .ok (.iload 8, 2) := by decide +kernel
theorem dX4_writes_153 : decode cX4_writes 153 = .ok (.iload_n 2, 1) := by decide +kernel
theorem dX4_writes_154 : decode cX4_writes 154 = .ok (.invokestatic 57, 3) := by decide +kernel
theorem dX4_writes_157 : decode cX4_writes 157 = .ok (.iaload, 1) := by decide +kernel
theorem dX4_writes_158 : decode cX4_writes 158 = .ok (.goto 15, 3) := by decide +kernel
theorem dX4_writes_161 : decode cX4_writes 161 = .ok (.iload 7, 2) := by decide +kernel
theorem dX4_writes_163 : decode cX4_writes 163 = .ok (.ifCond .eq 8, 3) := by decide +kernel
theorem dX4_writes_166 : decode cX4_writes 166 = .ok (.iload 5, 2) := by decide +kernel
theorem dX4_writes_168 : decode cX4_writes 168 = .ok (.goto 5, 3) := by decide +kernel
theorem dX4_writes_171 : decode cX4_writes 171 = .ok (.iload 6, 2) := by decide +kernel
theorem dX4_writes_173 : decode cX4_writes 173 = .ok (.istore 9, 2) := by decide +kernel
theorem dX4_writes_175 : decode cX4_writes 175 = .ok (.aload_n 0, 1) := by decide +kernel
theorem dX4_writes_176 : decode cX4_writes 176 = .ok (.iload_n 1, 1) := by decide +kernel
theorem dX4_writes_177 : decode cX4_writes 177 = .ok (.iload_n 2, 1) := by decide +kernel
theorem dX4_writes_178 : decode cX4_writes 178 = .ok (.invokestatic 57, 3) := by decide +kernel
theorem dX4_writes_181 : decode cX4_writes 181 = .ok (.iload 9, 2) := by decide +kernel
theorem dX4_writes_183 : decode cX4_writes 183 = .ok (.iastore, 1) := by decide +kernel
theorem dX4_writes_184 : decode cX4_writes 184 = .ok (.aload_n 0, 1) := by decide +kernel
theorem dX4_writes_185 : decode cX4_writes 185 = .ok (.iload_n 1, 1) := by decide +kernel
theorem dX4_writes_186 : decode cX4_writes 186 = .ok (.iload_n 2, 1) := by decide +kernel
theorem dX4_writes_187 : decode cX4_writes 187 = .ok (.invokestatic 64, 3) := by decide +kernel
theorem dX4_writes_190 : decode cX4_writes 190 = .ok (.iload 8, 2) := by decide +kernel
theorem dX4_writes_192 : decode cX4_writes 192 = .ok (.iastore, 1) := by decide +kernel
theorem dX4_writes_193 : decode cX4_writes 193 = .ok (.return_, 1) := by decide +kernel
theorem dX4_goes_0 : decode cX4_goes 0 = .ok (.aload_n 1, 1) := by decide +kernel
theorem dX4_goes_1 : decode cX4_goes 1 = .ok (.iload_n 2, 1) := by decide +kernel
theorem dX4_goes_2 : decode cX4_goes 2 = .ok (.invokestatic 67, 3) := by decide +kernel
theorem dX4_goes_5 : decode cX4_goes 5 = .ok (.istore_n 3, 1) := by decide +kernel
theorem dX4_goes_6 : decode cX4_goes 6 = .ok (.iload_n 3, 1) := by decide +kernel
theorem dX4_goes_7 : decode cX4_goes 7 = .ok (.ifCond .ge 4, 3) := by decide +kernel
theorem dX4_goes_10 : decode cX4_goes 10 = .ok (.return_, 1) := by decide +kernel
theorem dX4_goes_11 : decode cX4_goes 11 = .ok (.aload_n 1, 1) := by decide +kernel
theorem dX4_goes_12 : decode cX4_goes 12 = .ok (.iload_n 2, 1) := by decide +kernel
theorem dX4_goes_13 : decode cX4_goes 13 = .ok (.iconst 3, 1) := by decide +kernel
theorem dX4_goes_14 : decode cX4_goes 14 = .ok (.invokestatic 54, 3) := by decide +kernel
theorem dX4_goes_17 : decode cX4_goes 17 = .ok (.iaload, 1) := by decide +kernel
theorem dX4_goes_18 : decode cX4_goes 18 = .ok (.aload_n 1, 1) := by decide +kernel
theorem dX4_goes_19 : decode cX4_goes 19 = .ok (.iload_n 3, 1) := by decide +kernel
theorem dX4_goes_20 : decode cX4_goes 20 = .ok (.iconst 2, 1) := by decide +kernel
theorem dX4_goes_21 : decode cX4_goes 21 = .ok (.invokestatic 50, 3) := by decide +kernel
theorem dX4_goes_24 : decode cX4_goes 24 = .ok (.iaload, 1) := by decide +kernel
theorem dX4_goes_25 : decode cX4_goes 25 = .ok (.if_icmp .eq 38, 3) := by decide +kernel
theorem dX4_goes_28 : decode cX4_goes 28 = .ok (.aload_n 1, 1) := by decide +kernel
theorem dX4_goes_29 : decode cX4_goes 29 = .ok (.iload_n 2, 1) := by decide +kernel
theorem dX4_goes_30 : decode cX4_goes 30 = .ok (.iconst 3, 1) := by decide +kernel
theorem dX4_goes_31 : decode cX4_goes 31 = .ok (.invokestatic 54, 3) := by decide +kernel
theorem dX4_goes_34 : decode cX4_goes 34 = .ok (.aload_n 0, 1) := by decide +kernel
theorem dX4_goes_35 : decode cX4_goes 35 = .ok (.aload_n 1, 1) := by decide +kernel
theorem dX4_goes_36 : decode cX4_goes 36 = .ok (.aload_n 1, 1) := by decide +kernel
theorem dX4_goes_37 : decode cX4_goes 37 = .ok (.iload_n 2, 1) := by decide +kernel
theorem dX4_goes_38 : decode cX4_goes 38 = .ok (.iconst 3, 1) := by decide +kernel
theorem dX4_goes_39 : decode cX4_goes 39 = .ok (.invokestatic 54, 3) := by decide +kernel
theorem dX4_goes_42 : decode cX4_goes 42 = .ok (.iaload, 1) := by decide +kernel
theorem dX4_goes_43 : decode cX4_goes 43 = .ok (.aload_n 1, 1) := by decide +kernel
theorem dX4_goes_44 : decode cX4_goes 44 = .ok (.iload_n 3, 1) := by decide +kernel
theorem dX4_goes_45 : decode cX4_goes 45 = .ok (.iconst 2, 1) := by decide +kernel
theorem dX4_goes_46 : decode cX4_goes 46 = .ok (.invokestatic 50, 3) := by decide +kernel
theorem dX4_goes_49 : decode cX4_goes 49 = .ok (.iaload, 1) := by decide +kernel
theorem dX4_goes_50 : decode cX4_goes 50 = .ok (.invokevirtual 71, 3) := by decide +kernel
theorem dX4_goes_53 : decode cX4_goes 53 = .ok (.iastore, 1) := by decide +kernel
theorem dX4_goes_54 : decode cX4_goes 54 = .ok (.aload_n 1, 1) := by decide +kernel
theorem dX4_goes_55 : decode cX4_goes 55 = .ok (.iload_n 2, 1) := by decide +kernel
theorem dX4_goes_56 : decode cX4_goes 56 = .ok (.iconst 4, 1) := by decide +kernel
theorem dX4_goes_57 : decode cX4_goes 57 = .ok (.invokestatic 54, 3) := by decide +kernel
theorem dX4_goes_60 : decode cX4_goes 60 = .ok (.iconst 0, 1) := by decide +kernel
theorem dX4_goes_61 : decode cX4_goes 61 = .ok (.iastore, 1) := by decide +kernel
theorem dX4_goes_62 : decode cX4_goes 62 = .ok (.return_, 1) := by decide +kernel
theorem dX4_goes_63 : decode cX4_goes 63 = .ok (.aload_n 1, 1) := by decide +kernel
theorem dX4_goes_64 : decode cX4_goes 64 = .ok (.iload_n 2, 1) := by decide +kernel
theorem dX4_goes_65 : decode cX4_goes 65 = .ok (.iconst 4, 1) := by decide +kernel
theorem dX4_goes_66 : decode cX4_goes 66 = .ok (.invokestatic 54, 3) := by decide +kernel
theorem dX4_goes_69 : decode cX4_goes 69 = .ok (.dup2, 1) := by decide +kernel
theorem dX4_goes_70 : decode cX4_goes 70 = .ok (.iaload, 1) := by decide +kernel
theorem dX4_goes_71 : decode cX4_goes 71 = .ok (.iconst 1, 1) := by decide +kernel
theorem dX4_goes_72 : decode cX4_goes 72 = .ok (.iadd, 1) := by decide +kernel
theorem dX4_goes_73 : decode cX4_goes 73 = .ok (.iastore, 1) := by decide +kernel
theorem dX4_goes_74 : decode cX4_goes 74 = .ok (.aload_n 1, 1) := by decide +kernel
theorem dX4_goes_75 : decode cX4_goes 75 = .ok (.iload_n 2, 1) := by decide +kernel
theorem dX4_goes_76 : decode cX4_goes 76 = .ok (.iconst 4, 1) := by decide +kernel
theorem dX4_goes_77 : decode cX4_goes 77 = .ok (.invokestatic 54, 3) := by decide +kernel
theorem dX4_goes_80 : decode cX4_goes 80 = .ok (.iaload, 1) := by decide +kernel
theorem dX4_goes_81 : decode cX4_goes 81 = .ok (.aload_n 1, 1) := by decide +kernel
theorem dX4_goes_82 : decode cX4_goes 82 = .ok (.iload_n 3, 1) := by decide +kernel
theorem dX4_goes_83 : decode cX4_goes 83 = .ok (.invokestatic 74, 3) := by decide +kernel
theorem dX4_goes_86 : decode cX4_goes 86 = .ok (.if_icmp .ge 4, 3) := by decide +kernel
theorem dX4_goes_89 : decode cX4_goes 89 = .ok (.return_, 1) := by decide +kernel
theorem dX4_goes_90 : decode cX4_goes 90 = .ok (.aload_n 1, 1) := by decide +kernel
theorem dX4_goes_91 : decode cX4_goes 91 = .ok (.iload_n 2, 1) := by decide +kernel
theorem dX4_goes_92 : decode cX4_goes 92 = .ok (.iload_n 3, 1) := by decide +kernel
theorem dX4_goes_93 : decode cX4_goes 93 = .ok (.invokestatic 77, 3) := by decide +kernel
theorem dX4_goes_96 : decode cX4_goes 96 = .ok (.aload_n 1, 1) := by decide +kernel
theorem dX4_goes_97 : decode cX4_goes 97 = .ok (.iload_n 2, 1) := by decide +kernel
theorem dX4_goes_98 : decode cX4_goes 98 = .ok (.iconst 4, 1) := by decide +kernel
theorem dX4_goes_99 : decode cX4_goes 99 = .ok (.invokestatic 54, 3) := by decide +kernel
theorem dX4_goes_102 : decode cX4_goes 102 = .ok (.iconst 0, 1) := by decide +kernel
theorem dX4_goes_103 : decode cX4_goes 103 = .ok (.iastore, 1) := by decide +kernel
theorem dX4_goes_104 : decode cX4_goes 104 = .ok (.return_, 1) := by decide +kernel
theorem dX4_minute_0 : decode cX4_minute 0 = .ok (.aload_n 1, 1) := by decide +kernel
theorem dX4_minute_1 : decode cX4_minute 1 = .ok (.iconst 2, 1) := by decide +kernel
theorem dX4_minute_2 : decode cX4_minute 2 = .ok (.dup2, 1) := by decide +kernel
theorem dX4_minute_3 : decode cX4_minute 3 = .ok (.iaload, 1) := by decide +kernel
theorem dX4_minute_4 : decode cX4_minute 4 = .ok (.iconst 1, 1) := by decide +kernel
theorem dX4_minute_5 : decode cX4_minute 5 = .ok (.iadd, 1) := by decide +kernel
theorem dX4_minute_6 : decode cX4_minute 6 = .ok (.iastore, 1) := by decide +kernel
theorem dX4_minute_7 : decode cX4_minute 7 = .ok (.iconst 0, 1) := by decide +kernel
theorem dX4_minute_8 : decode cX4_minute 8 = .ok (.istore_n 2, 1) := by decide +kernel
theorem dX4_minute_9 : decode cX4_minute 9 = .ok (.iload_n 2, 1) := by decide +kernel
theorem dX4_minute_10 : decode cX4_minute 10 = .ok (.aload_n 1, 1) := by decide +kernel
theorem dX4_minute_11 : decode cX4_minute 11 = .ok (.iconst 1, 1) := by decide +kernel
theorem dX4_minute_12 : decode cX4_minute 12 = .ok (.iaload, 1) := by decide +kernel
theorem dX4_minute_13 : decode cX4_minute 13 = .ok (.if_icmp .ge 15, 3) := by decide +kernel
theorem dX4_minute_16 : decode cX4_minute 16 = .ok (.aload_n 0, 1) := by decide +kernel
theorem dX4_minute_17 : decode cX4_minute 17 = .ok (.aload_n 1, 1) := by decide +kernel
theorem dX4_minute_18 : decode cX4_minute 18 = .ok (.iload_n 2, 1) := by decide +kernel
theorem dX4_minute_19 : decode cX4_minute 19 = .ok (.invokevirtual 81, 3) := by decide +kernel
theorem dX4_minute_22 : decode cX4_minute 22 = .ok (.iinc 2 1, 3) := by decide +kernel
theorem dX4_minute_25 : decode cX4_minute 25 = .ok (.goto (-16), 3) := by decide +kernel
theorem dX4_minute_28 : decode cX4_minute 28 = .ok (.return_, 1) := by decide +kernel
theorem dX4_minutesOn_0 : decode cX4_minutesOn 0 = .ok (.iconst 0, 1) := by decide +kernel
theorem dX4_minutesOn_1 : decode cX4_minutesOn 1 = .ok (.istore_n 3, 1) := by decide +kernel
theorem dX4_minutesOn_2 : decode cX4_minutesOn 2 = .ok (.iload_n 3, 1) := by decide +kernel
theorem dX4_minutesOn_3 : decode cX4_minutesOn 3 = .ok (.iload_n 2, 1) := by decide +kernel
theorem dX4_minutesOn_4 : decode cX4_minutesOn 4 = .ok (.if_icmp .ge 14, 3) := by decide +kernel
theorem dX4_minutesOn_7 : decode cX4_minutesOn 7 = .ok (.aload_n 0, 1) := by decide +kernel
theorem dX4_minutesOn_8 : decode cX4_minutesOn 8 = .ok (.aload_n 1, 1) := by decide +kernel
theorem dX4_minutesOn_9 : decode cX4_minutesOn 9 = .ok (.invokevirtual 84, 3) := by decide +kernel
theorem dX4_minutesOn_12 : decode cX4_minutesOn 12 = .ok (.iinc 3 1, 3) := by decide +kernel
theorem dX4_minutesOn_15 : decode cX4_minutesOn 15 = .ok (.goto (-13), 3) := by decide +kernel
theorem dX4_minutesOn_18 : decode cX4_minutesOn 18 = .ok (.return_, 1) := by decide +kernel
theorem dX4_begins_0 : decode cX4_begins 0 = .ok (.aload_n 0, 1) := by decide +kernel
theorem dX4_begins_1 : decode cX4_begins 1 = .ok (.getfield 9, 3) := by decide +kernel
theorem dX4_begins_4 : decode cX4_begins 4 = .ok (.aload_n 0, 1) := by decide +kernel
theorem dX4_begins_5 : decode cX4_begins 5 = .ok (.getfield 13, 3) := by decide +kernel
theorem dX4_begins_8 : decode cX4_begins 8 = .ok (.invokestatic 88, 3) := by decide +kernel
theorem dX4_begins_11 : decode cX4_begins 11 = .ok (.bipush 107, 2) := by decide +kernel
theorem dX4_begins_13 : decode cX4_begins 13 = .ok (.istore_n 1, 1) := by decide +kernel
theorem dX4_begins_14 : decode cX4_begins 14 = .ok (.iload_n 1, 1) := by decide +kernel
theorem dX4_begins_15 : decode cX4_begins 15 = .ok (.sipush 147, 3) := by decide +kernel
theorem dX4_begins_18 : decode cX4_begins 18 = .ok (.if_icmp .ge 17, 3) := by decide +kernel
theorem dX4_begins_21 : decode cX4_begins 21 = .ok (.aload_n 0, 1) := by decide +kernel
theorem dX4_begins_22 : decode cX4_begins 22 = .ok (.getfield 13, 3) := by decide +kernel
theorem dX4_begins_25 : decode cX4_begins 25 = .ok (.iload_n 1, 1) := by decide +kernel
theorem dX4_begins_26 : decode cX4_begins 26 = .ok (.bipush (-9), 2) := by decide +kernel
theorem dX4_begins_28 : decode cX4_begins 28 = .ok (.iastore, 1) := by decide +kernel
theorem dX4_begins_29 : decode cX4_begins 29 = .ok (.iinc 1 1, 3) := by decide +kernel
theorem dX4_begins_32 : decode cX4_begins 32 = .ok (.goto (-18), 3) := by decide +kernel
theorem dX4_begins_35 : decode cX4_begins 35 = .ok (.return_, 1) := by decide +kernel
theorem dX4_answersOf_0 : decode cX4_answersOf 0 = .ok (.iconst 0, 1) := by decide +kernel
theorem dX4_answersOf_1 : decode cX4_answersOf 1 = .ok (.istore_n 2, 1) := by decide +kernel
theorem dX4_answersOf_2 : decode cX4_answersOf 2 = .ok (.iconst 0, 1) := by decide +kernel
theorem dX4_answersOf_3 : decode cX4_answersOf 3 = .ok (.istore_n 3, 1) := by decide +kernel
theorem dX4_answersOf_4 : decode cX4_answersOf 4 = .ok (.iload_n 3, 1) := by decide +kernel
theorem dX4_answersOf_5 : decode cX4_answersOf 5 = .ok (.aload_n 0, 1) := by decide +kernel
theorem dX4_answersOf_6 : decode cX4_answersOf 6 = .ok (.iconst 0, 1) := by decide +kernel
theorem dX4_answersOf_7 : decode cX4_answersOf 7 = .ok (.iaload, 1) := by decide +kernel
theorem dX4_answersOf_8 : decode cX4_answersOf 8 = .ok (.if_icmp .ge 27, 3) := by decide +kernel
theorem dX4_answersOf_11 : decode cX4_answersOf 11 = .ok (.iload_n 2, 1) := by decide +kernel
theorem dX4_answersOf_12 : decode cX4_answersOf 12 = .ok (.aload_n 0, 1) := by decide +kernel
theorem dX4_answersOf_13 : decode cX4_answersOf 13 = .ok (.iload_n 1, 1) := by decide +kernel
theorem dX4_answersOf_14 : decode cX4_answersOf 14 = .ok (.iload_n 3, 1) := by decide +kernel
theorem dX4_answersOf_15 : decode cX4_answersOf 15 = .ok (.invokestatic 57, 3) := by decide +kernel
theorem dX4_answersOf_18 : decode cX4_answersOf 18 = .ok (.iaload, 1) := by decide +kernel
theorem dX4_answersOf_19 : decode cX4_answersOf 19 = .ok (.ifCond .lt 7, 3) := by decide +kernel
theorem dX4_answersOf_22 : decode cX4_answersOf 22 = .ok (.iconst 1, 1) := by decide +kernel
theorem dX4_answersOf_23 : decode cX4_answersOf 23 = .ok (.goto 4, 3) := by decide +kernel
theorem dX4_answersOf_26 : decode cX4_answersOf 26 = .ok (.iconst 0, 1) := by decide +kernel
theorem dX4_answersOf_27 : decode cX4_answersOf 27 = .ok (.iadd, 1) := by decide +kernel
theorem dX4_answersOf_28 : decode cX4_answersOf 28 = .ok (.istore_n 2, 1) := by decide +kernel
theorem dX4_answersOf_29 : decode cX4_answersOf 29 = .ok (.iinc 3 1, 3) := by decide +kernel
theorem dX4_answersOf_32 : decode cX4_answersOf 32 = .ok (.goto (-28), 3) := by decide +kernel
theorem dX4_answersOf_35 : decode cX4_answersOf 35 = .ok (.iload_n 2, 1) := by decide +kernel
theorem dX4_answersOf_36 : decode cX4_answersOf 36 = .ok (.ireturn, 1) := by decide +kernel
theorem dX4_rightOf_0 : decode cX4_rightOf 0 = .ok (.iconst 0, 1) := by decide +kernel
theorem dX4_rightOf_1 : decode cX4_rightOf 1 = .ok (.istore_n 2, 1) := by decide +kernel
theorem dX4_rightOf_2 : decode cX4_rightOf 2 = .ok (.iconst 0, 1) := by decide +kernel
theorem dX4_rightOf_3 : decode cX4_rightOf 3 = .ok (.istore_n 3, 1) := by decide +kernel
theorem dX4_rightOf_4 : decode cX4_rightOf 4 = .ok (.iload_n 3, 1) := by decide +kernel
theorem dX4_rightOf_5 : decode cX4_rightOf 5 = .ok (.aload_n 0, 1) := by decide +kernel
theorem dX4_rightOf_6 : decode cX4_rightOf 6 = .ok (.iconst 0, 1) := by decide +kernel
theorem dX4_rightOf_7 : decode cX4_rightOf 7 = .ok (.iaload, 1) := by decide +kernel
theorem dX4_rightOf_8 : decode cX4_rightOf 8 = .ok (.if_icmp .ge 34, 3) := by decide +kernel
theorem dX4_rightOf_11 : decode cX4_rightOf 11 = .ok (.iload_n 2, 1) := by decide +kernel
theorem dX4_rightOf_12 : decode cX4_rightOf 12 = .ok (.aload_n 0, 1) := by decide +kernel
theorem dX4_rightOf_13 : decode cX4_rightOf 13 = .ok (.iload_n 1, 1) := by decide +kernel
theorem dX4_rightOf_14 : decode cX4_rightOf 14 = .ok (.iload_n 3, 1) := by decide +kernel
theorem dX4_rightOf_15 : decode cX4_rightOf 15 = .ok (.invokestatic 57, 3) := by decide +kernel
theorem dX4_rightOf_18 : decode cX4_rightOf 18 = .ok (.iaload, 1) := by decide +kernel
theorem dX4_rightOf_19 : decode cX4_rightOf 19 = .ok (.aload_n 0, 1) := by decide +kernel
theorem dX4_rightOf_20 : decode cX4_rightOf 20 = .ok (.iload_n 3, 1) := by decide +kernel
theorem dX4_rightOf_21 : decode cX4_rightOf 21 = .ok (.iconst 3, 1) := by decide +kernel
theorem dX4_rightOf_22 : decode cX4_rightOf 22 = .ok (.invokestatic 50, 3) := by decide +kernel
theorem dX4_rightOf_25 : decode cX4_rightOf 25 = .ok (.iaload, 1) := by decide +kernel
theorem dX4_rightOf_26 : decode cX4_rightOf 26 = .ok (.if_icmp .ne 7, 3) := by decide +kernel
theorem dX4_rightOf_29 : decode cX4_rightOf 29 = .ok (.iconst 1, 1) := by decide +kernel
theorem dX4_rightOf_30 : decode cX4_rightOf 30 = .ok (.goto 4, 3) := by decide +kernel
theorem dX4_rightOf_33 : decode cX4_rightOf 33 = .ok (.iconst 0, 1) := by decide +kernel
theorem dX4_rightOf_34 : decode cX4_rightOf 34 = .ok (.iadd, 1) := by decide +kernel
theorem dX4_rightOf_35 : decode cX4_rightOf 35 = .ok (.istore_n 2, 1) := by decide +kernel
theorem dX4_rightOf_36 : decode cX4_rightOf 36 = .ok (.iinc 3 1, 3) := by decide +kernel
theorem dX4_rightOf_39 : decode cX4_rightOf 39 = .ok (.goto (-35), 3) := by decide +kernel
theorem dX4_rightOf_42 : decode cX4_rightOf 42 = .ok (.iload_n 2, 1) := by decide +kernel
theorem dX4_rightOf_43 : decode cX4_rightOf 43 = .ok (.ireturn, 1) := by decide +kernel
theorem dX4_copiedOf_0 : decode cX4_copiedOf 0 = .ok (.iconst 0, 1) := by decide +kernel
theorem dX4_copiedOf_1 : decode cX4_copiedOf 1 = .ok (.istore_n 2, 1) := by decide +kernel
theorem dX4_copiedOf_2 : decode cX4_copiedOf 2 = .ok (.iconst 0, 1) := by decide +kernel
theorem dX4_copiedOf_3 : decode cX4_copiedOf 3 = .ok (.istore_n 3, 1) := by decide +kernel
theorem dX4_copiedOf_4 : decode cX4_copiedOf 4 = .ok (.iload_n 3, 1) := by decide +kernel
theorem dX4_copiedOf_5 : decode cX4_copiedOf 5 = .ok (.aload_n 0, 1) := by decide +kernel
theorem dX4_copiedOf_6 : decode cX4_copiedOf 6 = .ok (.iconst 0, 1) := by decide +kernel
theorem dX4_copiedOf_7 : decode cX4_copiedOf 7 = .ok (.iaload, 1) := by decide +kernel
theorem dX4_copiedOf_8 : decode cX4_copiedOf 8 = .ok (.if_icmp .ge 27, 3) := by decide +kernel
theorem dX4_copiedOf_11 : decode cX4_copiedOf 11 = .ok (.iload_n 2, 1) := by decide +kernel
theorem dX4_copiedOf_12 : decode cX4_copiedOf 12 = .ok (.aload_n 0, 1) := by decide +kernel
theorem dX4_copiedOf_13 : decode cX4_copiedOf 13 = .ok (.iload_n 1, 1) := by decide +kernel
theorem dX4_copiedOf_14 : decode cX4_copiedOf 14 = .ok (.iload_n 3, 1) := by decide +kernel
theorem dX4_copiedOf_15 : decode cX4_copiedOf 15 = .ok (.invokestatic 64, 3) := by decide +kernel
theorem dX4_copiedOf_18 : decode cX4_copiedOf 18 = .ok (.iaload, 1) := by decide +kernel
theorem dX4_copiedOf_19 : decode cX4_copiedOf 19 = .ok (.ifCond .lt 7, 3) := by decide +kernel
theorem dX4_copiedOf_22 : decode cX4_copiedOf 22 = .ok (.iconst 1, 1) := by decide +kernel
theorem dX4_copiedOf_23 : decode cX4_copiedOf 23 = .ok (.goto 4, 3) := by decide +kernel
theorem dX4_copiedOf_26 : decode cX4_copiedOf 26 = .ok (.iconst 0, 1) := by decide +kernel
theorem dX4_copiedOf_27 : decode cX4_copiedOf 27 = .ok (.iadd, 1) := by decide +kernel
theorem dX4_copiedOf_28 : decode cX4_copiedOf 28 = .ok (.istore_n 2, 1) := by decide +kernel
theorem dX4_copiedOf_29 : decode cX4_copiedOf 29 = .ok (.iinc 3 1, 3) := by decide +kernel
theorem dX4_copiedOf_32 : decode cX4_copiedOf 32 = .ok (.goto (-28), 3) := by decide +kernel
theorem dX4_copiedOf_35 : decode cX4_copiedOf 35 = .ok (.iload_n 2, 1) := by decide +kernel
theorem dX4_copiedOf_36 : decode cX4_copiedOf 36 = .ok (.ireturn, 1) := by decide +kernel
theorem dX4_rightAll_0 : decode cX4_rightAll 0 = .ok (.iconst 0, 1) := by decide +kernel
theorem dX4_rightAll_1 : decode cX4_rightAll 1 = .ok (.istore_n 1, 1) := by decide +kernel
theorem dX4_rightAll_2 : decode cX4_rightAll 2 = .ok (.iconst 0, 1) := by decide +kernel
theorem dX4_rightAll_3 : decode cX4_rightAll 3 = .ok (.istore_n 2, 1) := by decide +kernel
theorem dX4_rightAll_4 : decode cX4_rightAll 4 = .ok (.iload_n 2, 1) := by decide +kernel
theorem dX4_rightAll_5 : decode cX4_rightAll 5 = .ok (.aload_n 0, 1) := by decide +kernel
theorem dX4_rightAll_6 : decode cX4_rightAll 6 = .ok (.iconst 1, 1) := by decide +kernel
theorem dX4_rightAll_7 : decode cX4_rightAll 7 = .ok (.iaload, 1) := by decide +kernel
theorem dX4_rightAll_8 : decode cX4_rightAll 8 = .ok (.if_icmp .ge 17, 3) := by decide +kernel
theorem dX4_rightAll_11 : decode cX4_rightAll 11 = .ok (.iload_n 1, 1) := by decide +kernel
theorem dX4_rightAll_12 : decode cX4_rightAll 12 = .ok (.aload_n 0, 1) := by decide +kernel
theorem dX4_rightAll_13 : decode cX4_rightAll 13 = .ok (.iload_n 2, 1) := by decide +kernel
theorem dX4_rightAll_14 : decode cX4_rightAll 14 = .ok (.invokestatic 92, 3) := by decide +kernel
theorem dX4_rightAll_17 : decode cX4_rightAll 17 = .ok (.iadd, 1) := by decide +kernel
theorem dX4_rightAll_18 : decode cX4_rightAll 18 = .ok (.istore_n 1, 1) := by decide +kernel
theorem dX4_rightAll_19 : decode cX4_rightAll 19 = .ok (.iinc 2 1, 3) := by decide +kernel
theorem dX4_rightAll_22 : decode cX4_rightAll 22 = .ok (.goto (-18), 3) := by decide +kernel
theorem dX4_rightAll_25 : decode cX4_rightAll 25 = .ok (.iload_n 1, 1) := by decide +kernel
theorem dX4_rightAll_26 : decode cX4_rightAll 26 = .ok (.ireturn, 1) := by decide +kernel
theorem dX4_isDoneIn_0 : decode cX4_isDoneIn 0 = .ok (.aload_n 0, 1) := by decide +kernel
theorem dX4_isDoneIn_1 : decode cX4_isDoneIn 1 = .ok (.iload_n 1, 1) := by decide +kernel
theorem dX4_isDoneIn_2 : decode cX4_isDoneIn 2 = .ok (.invokestatic 95, 3) := by decide +kernel
theorem dX4_isDoneIn_5 : decode cX4_isDoneIn 5 = .ok (.aload_n 0, 1) := by decide +kernel
theorem dX4_isDoneIn_6 : decode cX4_isDoneIn 6 = .ok (.iconst 0, 1) := by decide +kernel
theorem dX4_isDoneIn_7 : decode cX4_isDoneIn 7 = .ok (.iaload, 1) := by decide +kernel
theorem dX4_isDoneIn_8 : decode cX4_isDoneIn 8 = .ok (.if_icmp .ne 7, 3) := by decide +kernel
theorem dX4_isDoneIn_11 : decode cX4_isDoneIn 11 = .ok (.iconst 1, 1) := by decide +kernel
theorem dX4_isDoneIn_12 : decode cX4_isDoneIn 12 = .ok (.goto 4, 3) := by decide +kernel
theorem dX4_isDoneIn_15 : decode cX4_isDoneIn 15 = .ok (.iconst 0, 1) := by decide +kernel
theorem dX4_isDoneIn_16 : decode cX4_isDoneIn 16 = .ok (.ireturn, 1) := by decide +kernel
theorem dX4_areAllDone_0 : decode cX4_areAllDone 0 = .ok (.iconst 0, 1) := by decide +kernel
theorem dX4_areAllDone_1 : decode cX4_areAllDone 1 = .ok (.istore_n 1, 1) := by decide +kernel
theorem dX4_areAllDone_2 : decode cX4_areAllDone 2 = .ok (.iload_n 1, 1) := by decide +kernel
theorem dX4_areAllDone_3 : decode cX4_areAllDone 3 = .ok (.aload_n 0, 1) := by decide +kernel
theorem dX4_areAllDone_4 : decode cX4_areAllDone 4 = .ok (.iconst 1, 1) := by decide +kernel
theorem dX4_areAllDone_5 : decode cX4_areAllDone 5 = .ok (.iaload, 1) := by decide +kernel
theorem dX4_areAllDone_6 : decode cX4_areAllDone 6 = .ok (.if_icmp .ge 19, 3) := by decide +kernel
theorem dX4_areAllDone_9 : decode cX4_areAllDone 9 = .ok (.aload_n 0, 1) := by decide +kernel
theorem dX4_areAllDone_10 : decode cX4_areAllDone 10 = .ok (.iload_n 1, 1) := by decide +kernel
theorem dX4_areAllDone_11 : decode cX4_areAllDone 11 = .ok (.invokestatic 98, 3) := by decide +kernel
theorem dX4_areAllDone_14 : decode cX4_areAllDone 14 = .ok (.ifCond .ne 5, 3) := by decide +kernel
theorem dX4_areAllDone_17 : decode cX4_areAllDone 17 = .ok (.iconst 0, 1) := by decide +kernel
theorem dX4_areAllDone_18 : decode cX4_areAllDone 18 = .ok (.ireturn, 1) := by decide +kernel
theorem dX4_areAllDone_19 : decode cX4_areAllDone 19 = .ok (.iinc 1 1, 3) := by decide +kernel
theorem dX4_areAllDone_22 : decode cX4_areAllDone 22 = .ok (.goto (-20), 3) := by decide +kernel
theorem dX4_areAllDone_25 : decode cX4_areAllDone 25 = .ok (.iconst 1, 1) := by decide +kernel
theorem dX4_areAllDone_26 : decode cX4_areAllDone 26 = .ok (.ireturn, 1) := by decide +kernel
theorem dX4_letter_0 : decode cX4_letter 0 = .ok (.iload_n 1, 1) := by decide +kernel
theorem dX4_letter_1 : decode cX4_letter 1 = .ok (.ifCond .ge 10, 3) := by decide +kernel
theorem dX4_letter_4 : decode cX4_letter 4 = .ok (.aload_n 0, 1) := by decide +kernel
theorem dX4_letter_5 : decode cX4_letter 5 = .ok (.bipush (-4), 2) := by decide +kernel
theorem dX4_letter_7 : decode cX4_letter 7 = .ok (.invokevirtual 38, 3) := by decide +kernel
theorem dX4_letter_10 : decode cX4_letter 10 = .ok (.ireturn, 1) := by decide +kernel
theorem dX4_letter_11 : decode cX4_letter 11 = .ok (.iload_n 1, 1) := by decide +kernel
theorem dX4_letter_12 : decode cX4_letter 12 = .ok (.sipush 255, 3) := by decide +kernel
theorem dX4_letter_15 : decode cX4_letter 15 = .ok (.if_icmp .gt 12, 3) := by decide +kernel
theorem dX4_letter_18 : decode cX4_letter 18 = .ok (.aload_n 0, 1) := by decide +kernel
theorem dX4_letter_19 : decode cX4_letter 19 = .ok (.getfield 102, 3) := by decide +kernel
theorem dX4_letter_22 : decode cX4_letter 22 = .ok (.bipush 96, 2) := by decide +kernel
theorem dX4_letter_24 : decode cX4_letter 24 = .ok (.if_icmp .ne 10, 3) := by decide +kernel
theorem dX4_letter_27 : decode cX4_letter 27 = .ok (.aload_n 0, 1) := by decide +kernel
theorem dX4_letter_28 : decode cX4_letter 28 = .ok (.bipush (-6), 2) := by decide +kernel
theorem dX4_letter_30 : decode cX4_letter 30 = .ok (.invokevirtual 38, 3) := by decide +kernel
theorem dX4_letter_33 : decode cX4_letter 33 = .ok (.ireturn, 1) := by decide +kernel
theorem dX4_letter_34 : decode cX4_letter 34 = .ok (.aload_n 0, 1) := by decide +kernel
theorem dX4_letter_35 : decode cX4_letter 35 = .ok (.getfield 22, 3) := by decide +kernel
theorem dX4_letter_38 : decode cX4_letter 38 = .ok (.aload_n 0, 1) := by decide +kernel
theorem dX4_letter_39 : decode cX4_letter 39 = .ok (.getfield 102, 3) := by decide +kernel
theorem dX4_letter_42 : decode cX4_letter 42 = .ok (.iload_n 1, 1) := by decide +kernel
theorem dX4_letter_43 : decode cX4_letter 43 = .ok (.iastore, 1) := by decide +kernel
theorem dX4_letter_44 : decode cX4_letter 44 = .ok (.aload_n 0, 1) := by decide +kernel
theorem dX4_letter_45 : decode cX4_letter 45 = .ok (.dup, 1) := by decide +kernel
theorem dX4_letter_46 : decode cX4_letter 46 = .ok (.getfield 102, 3) := by decide +kernel
theorem dX4_letter_49 : decode cX4_letter 49 = .ok (.iconst 1, 1) := by decide +kernel
theorem dX4_letter_50 : decode cX4_letter 50 = .ok (.iadd, 1) := by decide +kernel
theorem dX4_letter_51 : decode cX4_letter 51 = .ok (.putfield 102, 3) := by decide +kernel
theorem dX4_letter_54 : decode cX4_letter 54 = .ok (.aload_n 0, 1) := by decide +kernel
theorem dX4_letter_55 : decode cX4_letter 55 = .ok (.getfield 102, 3) := by decide +kernel
theorem dX4_letter_58 : decode cX4_letter 58 = .ok (.ireturn, 1) := by decide +kernel
theorem dX4_here_0 : decode cX4_here 0 = .ok (.aload_n 0, 1) := by decide +kernel
theorem dX4_here_1 : decode cX4_here 1 = .ok (.getfield 106, 3) := by decide +kernel
theorem dX4_here_4 : decode cX4_here 4 = .ok (.aload_n 0, 1) := by decide +kernel
theorem dX4_here_5 : decode cX4_here 5 = .ok (.getfield 102, 3) := by decide +kernel
theorem dX4_here_8 : decode cX4_here 8 = .ok (.if_icmp .ge 15, 3) := by decide +kernel
theorem dX4_here_11 : decode cX4_here 11 = .ok (.aload_n 0, 1) := by decide +kernel
theorem dX4_here_12 : decode cX4_here 12 = .ok (.getfield 22, 3) := by decide +kernel
theorem dX4_here_15 : decode cX4_here 15 = .ok (.aload_n 0, 1) := by decide +kernel
theorem dX4_here_16 : decode cX4_here 16 = .ok (.getfield 106, 3) := by decide +kernel
theorem dX4_here_19 : decode cX4_here 19 = .ok (.iaload, 1) := by decide +kernel
theorem dX4_here_20 : decode cX4_here 20 = .ok (.goto 4, 3) := by decide +kernel
theorem dX4_here_23 : decode cX4_here 23 = .ok (.iconst (-1), 1) := by decide +kernel
theorem dX4_here_24 : decode cX4_here 24 = .ok (.ireturn, 1) := by decide +kernel
theorem dX4_readsDigit_0 : decode cX4_readsDigit 0 = .ok (.aload_n 0, 1) := by decide +kernel
theorem dX4_readsDigit_1 : decode cX4_readsDigit 1 = .ok (.invokevirtual 109, 3) := by decide +kernel
theorem dX4_readsDigit_4 : decode cX4_readsDigit 4 = .ok (.bipush 48, 2) := by decide +kernel
theorem dX4_readsDigit_6 : decode cX4_readsDigit 6 = .ok (.bipush 57, 2) := by decide +kernel
theorem dX4_readsDigit_8 : decode cX4_readsDigit 8 = .ok (.invokestatic 42, 3) := by decide +kernel
theorem dX4_readsDigit_11 : decode cX4_readsDigit 11 = .ok (.ifCond .ne 5, 3) := by decide +kernel
theorem dX4_readsDigit_14 : decode cX4_readsDigit 14 = .ok (.iconst 0, 1) := by decide +kernel
theorem dX4_readsDigit_15 : decode cX4_readsDigit 15 = .ok (.ireturn, 1) := by decide +kernel
theorem dX4_readsDigit_16 : decode cX4_readsDigit 16 = .ok (.aload_n 0, 1) := by decide +kernel
theorem dX4_readsDigit_17 : decode cX4_readsDigit 17 = .ok (.getfield 34, 3) := by decide +kernel
theorem dX4_readsDigit_20 : decode cX4_readsDigit 20 = .ok (.iload_n 1, 1) := by decide +kernel
theorem dX4_readsDigit_21 : decode cX4_readsDigit 21 = .ok (.aload_n 0, 1) := by decide +kernel
theorem dX4_readsDigit_22 : decode cX4_readsDigit 22 = .ok (.invokevirtual 109, 3) := by decide +kernel
theorem dX4_readsDigit_25 : decode cX4_readsDigit 25 = .ok (.bipush 48, 2) := by decide +kernel
theorem dX4_readsDigit_27 : decode cX4_readsDigit 27 = .ok (.isub, 1) := by decide +kernel
theorem dX4_readsDigit_28 : decode cX4_readsDigit 28 = .ok (.iastore, 1) := by decide +kernel
theorem dX4_readsDigit_29 : decode cX4_readsDigit 29 = .ok (.aload_n 0, 1) := by decide +kernel
theorem dX4_readsDigit_30 : decode cX4_readsDigit 30 = .ok (.dup, 1) := by decide +kernel
theorem dX4_readsDigit_31 : decode cX4_readsDigit 31 = .ok (.getfield 106, 3) := by decide +kernel
theorem dX4_readsDigit_34 : decode cX4_readsDigit 34 = .ok (.iconst 1, 1) := by decide +kernel
theorem dX4_readsDigit_35 : decode cX4_readsDigit 35 = .ok (.iadd, 1) := by decide +kernel
theorem dX4_readsDigit_36 : decode cX4_readsDigit 36 = .ok (.putfield 106, 3) := by decide +kernel
theorem dX4_readsDigit_39 : decode cX4_readsDigit 39 = .ok (.iconst 1, 1) := by decide +kernel
theorem dX4_readsDigit_40 : decode cX4_readsDigit 40 = .ok (.ireturn, 1) := by decide +kernel
theorem dX4_kindBy_0 : decode cX4_kindBy 0 = .ok (.iload_n 0, 1) := by decide +kernel
theorem dX4_kindBy_1 : decode cX4_kindBy 1 = .ok (.tableswitch 75 99 110 #[67, 65, 75, 75, 73, 75, 75, 75, 75, 63, 69, 71], 63) := by decide +kernel
theorem dX4_kindBy_64 : decode cX4_kindBy 64 = .ok (.iconst 0, 1) := by decide +kernel
theorem dX4_kindBy_65 : decode cX4_kindBy 65 = .ok (.ireturn, 1) := by decide +kernel
theorem dX4_kindBy_66 : decode cX4_kindBy 66 = .ok (.iconst 1, 1) := by decide +kernel
theorem dX4_kindBy_67 : decode cX4_kindBy 67 = .ok (.ireturn, 1) := by decide +kernel
theorem dX4_kindBy_68 : decode cX4_kindBy 68 = .ok (.iconst 2, 1) := by decide +kernel
theorem dX4_kindBy_69 : decode cX4_kindBy 69 = .ok (.ireturn, 1) := by decide +kernel
theorem dX4_kindBy_70 : decode cX4_kindBy 70 = .ok (.iconst 3, 1) := by decide +kernel
theorem dX4_kindBy_71 : decode cX4_kindBy 71 = .ok (.ireturn, 1) := by decide +kernel
theorem dX4_kindBy_72 : decode cX4_kindBy 72 = .ok (.iconst 4, 1) := by decide +kernel
theorem dX4_kindBy_73 : decode cX4_kindBy 73 = .ok (.ireturn, 1) := by decide +kernel
theorem dX4_kindBy_74 : decode cX4_kindBy 74 = .ok (.iconst 5, 1) := by decide +kernel
theorem dX4_kindBy_75 : decode cX4_kindBy 75 = .ok (.ireturn, 1) := by decide +kernel
theorem dX4_kindBy_76 : decode cX4_kindBy 76 = .ok (.bipush (-9), 2) := by decide +kernel
theorem dX4_kindBy_78 : decode cX4_kindBy 78 = .ok (.ireturn, 1) := by decide +kernel
theorem dX4_readsKind_0 : decode cX4_readsKind 0 = .ok (.aload_n 0, 1) := by decide +kernel
theorem dX4_readsKind_1 : decode cX4_readsKind 1 = .ok (.getfield 34, 3) := by decide +kernel
theorem dX4_readsKind_4 : decode cX4_readsKind 4 = .ok (.iconst 0, 1) := by decide +kernel
theorem dX4_readsKind_5 : decode cX4_readsKind 5 = .ok (.aload_n 0, 1) := by decide +kernel
theorem dX4_readsKind_6 : decode cX4_readsKind 6 = .ok (.invokevirtual 109, 3) := by decide +kernel
theorem dX4_readsKind_9 : decode cX4_readsKind 9 = .ok (.invokestatic 113, 3) := by decide +kernel
theorem dX4_readsKind_12 : decode cX4_readsKind 12 = .ok (.iastore, 1) := by decide +kernel
theorem dX4_readsKind_13 : decode cX4_readsKind 13 = .ok (.aload_n 0, 1) := by decide +kernel
theorem dX4_readsKind_14 : decode cX4_readsKind 14 = .ok (.dup, 1) := by decide +kernel
theorem dX4_readsKind_15 : decode cX4_readsKind 15 = .ok (.getfield 106, 3) := by decide +kernel
theorem dX4_readsKind_18 : decode cX4_readsKind 18 = .ok (.aload_n 0, 1) := by decide +kernel
theorem dX4_readsKind_19 : decode cX4_readsKind 19 = .ok (.getfield 34, 3) := by decide +kernel
theorem dX4_readsKind_22 : decode cX4_readsKind 22 = .ok (.iconst 0, 1) := by decide +kernel
theorem dX4_readsKind_23 : decode cX4_readsKind 23 = .ok (.iaload, 1) := by decide +kernel
theorem dX4_readsKind_24 : decode cX4_readsKind 24 = .ok (.ifCond .ge 7, 3) := by decide +kernel
theorem dX4_readsKind_27 : decode cX4_readsKind 27 = .ok (.iconst 0, 1) := by decide +kernel
theorem dX4_readsKind_28 : decode cX4_readsKind 28 = .ok (.goto 4, 3) := by decide +kernel
theorem dX4_readsKind_31 : decode cX4_readsKind 31 = .ok (.iconst 1, 1) := by decide +kernel
theorem dX4_readsKind_32 : decode cX4_readsKind 32 = .ok (.iadd, 1) := by decide +kernel
theorem dX4_readsKind_33 : decode cX4_readsKind 33 = .ok (.putfield 106, 3) := by decide +kernel
theorem dX4_readsKind_36 : decode cX4_readsKind 36 = .ok (.aload_n 0, 1) := by decide +kernel
theorem dX4_readsKind_37 : decode cX4_readsKind 37 = .ok (.getfield 34, 3) := by decide +kernel
theorem dX4_readsKind_40 : decode cX4_readsKind 40 = .ok (.iconst 0, 1) := by decide +kernel
theorem dX4_readsKind_41 : decode cX4_readsKind 41 = .ok (.iaload, 1) := by decide +kernel
theorem dX4_readsKind_42 : decode cX4_readsKind 42 = .ok (.ifCond .lt 7, 3) := by decide +kernel
theorem dX4_readsKind_45 : decode cX4_readsKind 45 = .ok (.iconst 1, 1) := by decide +kernel
theorem dX4_readsKind_46 : decode cX4_readsKind 46 = .ok (.goto 4, 3) := by decide +kernel
theorem dX4_readsKind_49 : decode cX4_readsKind 49 = .ok (.iconst 0, 1) := by decide +kernel
theorem dX4_readsKind_50 : decode cX4_readsKind 50 = .ok (.ireturn, 1) := by decide +kernel
theorem dX4_readsStatement_0 : decode cX4_readsStatement 0 = .ok (.aload_n 0, 1) := by decide +kernel
theorem dX4_readsStatement_1 : decode cX4_readsStatement 1 = .ok (.invokevirtual 109, 3) := by decide +kernel
theorem dX4_readsStatement_4 : decode cX4_readsStatement 4 = .ok (.istore_n 1, 1) := by decide +kernel
theorem dX4_readsStatement_5 : decode cX4_readsStatement 5 = .ok (.aload_n 0, 1) := by decide +kernel
theorem dX4_readsStatement_6 : decode cX4_readsStatement 6 = .ok (.dup, 1) := by decide +kernel
theorem dX4_readsStatement_7 : decode cX4_readsStatement 7 = .ok (.getfield 106, 3) := by decide +kernel
theorem dX4_readsStatement_10 : decode cX4_readsStatement 10 = .ok (.iconst 1, 1) := by decide +kernel
theorem dX4_readsStatement_11 : decode cX4_readsStatement 11 = .ok (.iadd, 1) := by decide +kernel
theorem dX4_readsStatement_12 : decode cX4_readsStatement 12 = .ok (.putfield 106, 3) := by decide +kernel
theorem dX4_readsStatement_15 : decode cX4_readsStatement 15 = .ok (.iload_n 1, 1) := by decide +kernel
theorem dX4_readsStatement_16 : decode cX4_readsStatement 16 = .ok (.lookupswitch 158 #[(97, 60), (100, 60), (103, 125), (109, 60), (113, 85), (119, 125)], 60) := by decide +kernel
theorem dX4_readsStatement_76 : decode cX4_readsStatement 76 = .ok (.aload_n 0, 1) := by decide +kernel
theorem dX4_readsStatement_77 : decode cX4_readsStatement 77 = .ok (.iconst 0, 1) := by decide +kernel
theorem dX4_readsStatement_78 : decode cX4_readsStatement 78 = .ok (.invokevirtual 116, 3) := by decide +kernel
theorem dX4_readsStatement_81 : decode cX4_readsStatement 81 = .ok (.ifCond .eq 15, 3) := by decide +kernel
theorem dX4_readsStatement_84 : decode cX4_readsStatement 84 = .ok (.aload_n 0, 1) := by decide +kernel
theorem dX4_readsStatement_85 : decode cX4_readsStatement 85 = .ok (.iconst 1, 1) := by decide +kernel
theorem dX4_readsStatement_86 : decode cX4_readsStatement 86 = .ok (.invokevirtual 116, 3) := by decide +kernel
theorem dX4_readsStatement_89 : decode cX4_readsStatement 89 = .ok (.ifCond .eq 7, 3) := by decide +kernel
theorem dX4_readsStatement_92 : decode cX4_readsStatement 92 = .ok (.iconst 1, 1) := by decide +kernel
theorem dX4_readsStatement_93 : decode cX4_readsStatement 93 = .ok (.goto 4, 3) := by decide +kernel
theorem dX4_readsStatement_96 : decode cX4_readsStatement 96 = .ok (.iconst 0, 1) := by decide +kernel
theorem dX4_readsStatement_97 : decode cX4_readsStatement 97 = .ok (.istore_n 2, 1) := by decide +kernel
theorem dX4_readsStatement_98 : decode cX4_readsStatement 98 = .ok (.goto 88, 3) := by decide +kernel
theorem dX4_readsStatement_101 : decode cX4_readsStatement 101 = .ok (.aload_n 0, 1) := by decide +kernel
theorem dX4_readsStatement_102 : decode cX4_readsStatement 102 = .ok (.invokevirtual 120, 3) := by decide +kernel
theorem dX4_readsStatement_105 : decode cX4_readsStatement 105 = .ok (.ifCond .eq 31, 3) := by decide +kernel
theorem dX4_readsStatement_108 : decode cX4_readsStatement 108 = .ok (.aload_n 0, 1) := by decide +kernel
theorem dX4_readsStatement_109 : decode cX4_readsStatement 109 = .ok (.iconst 1, 1) := by decide +kernel
theorem dX4_readsStatement_110 : decode cX4_readsStatement 110 = .ok (.invokevirtual 116, 3) := by decide +kernel
theorem dX4_readsStatement_113 : decode cX4_readsStatement 113 = .ok (.ifCond .eq 23, 3) := by decide +kernel
theorem dX4_readsStatement_116 : decode cX4_readsStatement 116 = .ok (.aload_n 0, 1) := by decide +kernel
theorem dX4_readsStatement_117 : decode cX4_readsStatement 117 = .ok (.iconst 2, 1) := by decide +kernel
theorem dX4_readsStatement_118 : decode cX4_readsStatement 118 = .ok (.invokevirtual 116, 3) := by decide +kernel
theorem dX4_readsStatement_121 : decode cX4_readsStatement 121 = .ok (.ifCond .eq 15, 3) := by decide +kernel
theorem dX4_readsStatement_124 : decode cX4_readsStatement 124 = .ok (.aload_n 0, 1) := by decide +kernel
theorem dX4_readsStatement_125 : decode cX4_readsStatement 125 = .ok (.iconst 3, 1) := by decide +kernel
theorem dX4_readsStatement_126 : decode cX4_readsStatement 126 = .ok (.invokevirtual 116, 3) := by decide +kernel
theorem dX4_readsStatement_129 : decode cX4_readsStatement 129 = .ok (.ifCond .eq 7, 3) := by decide +kernel
theorem dX4_readsStatement_132 : decode cX4_readsStatement 132 = .ok (.iconst 1, 1) := by decide +kernel
theorem dX4_readsStatement_133 : decode cX4_readsStatement 133 = .ok (.goto 4, 3) := by decide +kernel
theorem dX4_readsStatement_136 : decode cX4_readsStatement 136 = .ok (.iconst 0, 1) := by decide +kernel
theorem dX4_readsStatement_137 : decode cX4_readsStatement 137 = .ok (.istore_n 2, 1) := by decide +kernel
theorem dX4_readsStatement_138 : decode cX4_readsStatement 138 = .ok (.goto 48, 3) := by decide +kernel
theorem dX4_readsStatement_141 : decode cX4_readsStatement 141 = .ok (.aload_n 0, 1) := by decide +kernel
theorem dX4_readsStatement_142 : decode cX4_readsStatement 142 = .ok (.iconst 0, 1) := by decide +kernel
theorem dX4_readsStatement_143 : decode cX4_readsStatement 143 = .ok (.invokevirtual 116, 3) := by decide +kernel
theorem dX4_readsStatement_146 : decode cX4_readsStatement 146 = .ok (.ifCond .eq 23, 3) := by decide +kernel
theorem dX4_readsStatement_149 : decode cX4_readsStatement 149 = .ok (.aload_n 0, 1) := by decide +kernel
theorem dX4_readsStatement_150 : decode cX4_readsStatement 150 = .ok (.iconst 1, 1) := by decide +kernel
theorem dX4_readsStatement_151 : decode cX4_readsStatement 151 = .ok (.invokevirtual 116, 3) := by decide +kernel
theorem dX4_readsStatement_154 : decode cX4_readsStatement 154 = .ok (.ifCond .eq 15, 3) := by decide +kernel
theorem dX4_readsStatement_157 : decode cX4_readsStatement 157 = .ok (.aload_n 0, 1) := by decide +kernel
theorem dX4_readsStatement_158 : decode cX4_readsStatement 158 = .ok (.iconst 2, 1) := by decide +kernel
theorem dX4_readsStatement_159 : decode cX4_readsStatement 159 = .ok (.invokevirtual 116, 3) := by decide +kernel
theorem dX4_readsStatement_162 : decode cX4_readsStatement 162 = .ok (.ifCond .eq 7, 3) := by decide +kernel
theorem dX4_readsStatement_165 : decode cX4_readsStatement 165 = .ok (.iconst 1, 1) := by decide +kernel
theorem dX4_readsStatement_166 : decode cX4_readsStatement 166 = .ok (.goto 4, 3) := by decide +kernel
theorem dX4_readsStatement_169 : decode cX4_readsStatement 169 = .ok (.iconst 0, 1) := by decide +kernel
theorem dX4_readsStatement_170 : decode cX4_readsStatement 170 = .ok (.istore_n 2, 1) := by decide +kernel
theorem dX4_readsStatement_171 : decode cX4_readsStatement 171 = .ok (.goto 15, 3) := by decide +kernel
theorem dX4_readsStatement_174 : decode cX4_readsStatement 174 = .ok (.aload_n 0, 1) := by decide +kernel
theorem dX4_readsStatement_175 : decode cX4_readsStatement 175 = .ok (.dup, 1) := by decide +kernel
theorem dX4_readsStatement_176 : decode cX4_readsStatement 176 = .ok (.getfield 106, 3) := by decide +kernel
theorem dX4_readsStatement_179 : decode cX4_readsStatement 179 = .ok (.iconst 1, 1) := by decide +kernel
theorem dX4_readsStatement_180 : decode cX4_readsStatement 180 = .ok (.isub, 1) := by decide +kernel
theorem dX4_readsStatement_181 : decode cX4_readsStatement 181 = .ok (.putfield 106, 3) := by decide +kernel
theorem dX4_readsStatement_184 : decode cX4_readsStatement 184 = .ok (.iconst 0, 1) := by decide +kernel
theorem dX4_readsStatement_185 : decode cX4_readsStatement 185 = .ok (.ireturn, 1) := by decide +kernel
theorem dX4_readsStatement_186 : decode cX4_readsStatement 186 = .ok (.iload_n 2, 1) := by decide +kernel
theorem dX4_readsStatement_187 : decode cX4_readsStatement 187 = .ok (.ifCond .eq 12, 3) := by decide +kernel
theorem dX4_readsStatement_190 : decode cX4_readsStatement 190 = .ok (.aload_n 0, 1) := by decide +kernel
theorem dX4_readsStatement_191 : decode cX4_readsStatement 191 = .ok (.invokevirtual 109, 3) := by decide +kernel
theorem dX4_readsStatement_194 : decode cX4_readsStatement 194 = .ok (.bipush 59, 2) := by decide +kernel
theorem dX4_readsStatement_196 : decode cX4_readsStatement 196 = .ok (.if_icmp .eq 5, 3) := by decide +kernel
theorem dX4_readsStatement_199 : decode cX4_readsStatement 199 = .ok (.iconst 0, 1) := by decide +kernel
theorem dX4_readsStatement_200 : decode cX4_readsStatement 200 = .ok (.ireturn, 1) := by decide +kernel
theorem dX4_readsStatement_201 : decode cX4_readsStatement 201 = .ok (.aload_n 0, 1) := by decide +kernel
theorem dX4_readsStatement_202 : decode cX4_readsStatement 202 = .ok (.dup, 1) := by decide +kernel
theorem dX4_readsStatement_203 : decode cX4_readsStatement 203 = .ok (.getfield 106, 3) := by decide +kernel
theorem dX4_readsStatement_206 : decode cX4_readsStatement 206 = .ok (.iconst 1, 1) := by decide +kernel
theorem dX4_readsStatement_207 : decode cX4_readsStatement 207 = .ok (.iadd, 1) := by decide +kernel
theorem dX4_readsStatement_208 : decode cX4_readsStatement 208 = .ok (.putfield 106, 3) := by decide +kernel
theorem dX4_readsStatement_211 : decode cX4_readsStatement 211 = .ok (.iconst 1, 1) := by decide +kernel
theorem dX4_readsStatement_212 : decode cX4_readsStatement 212 = .ok (.ireturn, 1) := by decide +kernel
theorem dX4_turnsDoor_0 : decode cX4_turnsDoor 0 = .ok (.aload_n 0, 1) := by decide +kernel
theorem dX4_turnsDoor_1 : decode cX4_turnsDoor 1 = .ok (.getfield 9, 3) := by decide +kernel
theorem dX4_turnsDoor_4 : decode cX4_turnsDoor 4 = .ok (.iconst 3, 1) := by decide +kernel
theorem dX4_turnsDoor_5 : decode cX4_turnsDoor 5 = .ok (.iload_n 1, 1) := by decide +kernel
theorem dX4_turnsDoor_6 : decode cX4_turnsDoor 6 = .ok (.iadd, 1) := by decide +kernel
theorem dX4_turnsDoor_7 : decode cX4_turnsDoor 7 = .ok (.dup2, 1) := by decide +kernel
theorem dX4_turnsDoor_8 : decode cX4_turnsDoor 8 = .ok (.iaload, 1) := by decide +kernel
theorem dX4_turnsDoor_9 : decode cX4_turnsDoor 9 = .ok (.iconst 1, 1) := by decide +kernel
theorem dX4_turnsDoor_10 : decode cX4_turnsDoor 10 = .ok (.iload_n 2, 1) := by decide +kernel
theorem dX4_turnsDoor_11 : decode cX4_turnsDoor 11 = .ok (.ishl, 1) := by decide +kernel
theorem dX4_turnsDoor_12 : decode cX4_turnsDoor 12 = .ok (.ixor, 1) := by decide +kernel
theorem dX4_turnsDoor_13 : decode cX4_turnsDoor 13 = .ok (.iastore, 1) := by decide +kernel
theorem dX4_turnsDoor_14 : decode cX4_turnsDoor 14 = .ok (.aload_n 0, 1) := by decide +kernel
theorem dX4_turnsDoor_15 : decode cX4_turnsDoor 15 = .ok (.getfield 9, 3) := by decide +kernel
theorem dX4_turnsDoor_18 : decode cX4_turnsDoor 18 = .ok (.iconst 3, 1) := by decide +kernel
theorem dX4_turnsDoor_19 : decode cX4_turnsDoor 19 = .ok (.iload_n 2, 1) := by decide +kernel
theorem dX4_turnsDoor_20 : decode cX4_turnsDoor 20 = .ok (.iadd, 1) := by decide +kernel
theorem dX4_turnsDoor_21 : decode cX4_turnsDoor 21 = .ok (.dup2, 1) := by decide +kernel
theorem dX4_turnsDoor_22 : decode cX4_turnsDoor 22 = .ok (.iaload, 1) := by decide +kernel
theorem dX4_turnsDoor_23 : decode cX4_turnsDoor 23 = .ok (.iconst 1, 1) := by decide +kernel
theorem dX4_turnsDoor_24 : decode cX4_turnsDoor 24 = .ok (.iload_n 1, 1) := by decide +kernel
theorem dX4_turnsDoor_25 : decode cX4_turnsDoor 25 = .ok (.ishl, 1) := by decide +kernel
theorem dX4_turnsDoor_26 : decode cX4_turnsDoor 26 = .ok (.ixor, 1) := by decide +kernel
theorem dX4_turnsDoor_27 : decode cX4_turnsDoor 27 = .ok (.iastore, 1) := by decide +kernel
theorem dX4_turnsDoor_28 : decode cX4_turnsDoor 28 = .ok (.return_, 1) := by decide +kernel
theorem dX4_isDone_0 : decode cX4_isDone 0 = .ok (.aload_n 0, 1) := by decide +kernel
theorem dX4_isDone_1 : decode cX4_isDone 1 = .ok (.getfield 34, 3) := by decide +kernel
theorem dX4_isDone_4 : decode cX4_isDone 4 = .ok (.iconst 0, 1) := by decide +kernel
theorem dX4_isDone_5 : decode cX4_isDone 5 = .ok (.iaload, 1) := by decide +kernel
theorem dX4_isDone_6 : decode cX4_isDone 6 = .ok (.istore_n 2, 1) := by decide +kernel
theorem dX4_isDone_7 : decode cX4_isDone 7 = .ok (.aload_n 0, 1) := by decide +kernel
theorem dX4_isDone_8 : decode cX4_isDone 8 = .ok (.getfield 34, 3) := by decide +kernel
theorem dX4_isDone_11 : decode cX4_isDone 11 = .ok (.iconst 1, 1) := by decide +kernel
theorem dX4_isDone_12 : decode cX4_isDone 12 = .ok (.iaload, 1) := by decide +kernel
theorem dX4_isDone_13 : decode cX4_isDone 13 = .ok (.istore_n 3, 1) := by decide +kernel
theorem dX4_isDone_14 : decode cX4_isDone 14 = .ok (.iload_n 1, 1) := by decide +kernel
theorem dX4_isDone_15 : decode cX4_isDone 15 = .ok (.lookupswitch 380 #[(97, 303), (100, 49), (103, 186), (113, 78), (119, 344)], 49) := by decide +kernel
theorem dX4_isDone_64 : decode cX4_isDone 64 = .ok (.iload_n 2, 1) := by decide +kernel
theorem dX4_isDone_65 : decode cX4_isDone 65 = .ok (.invokestatic 124, 3) := by decide +kernel
theorem dX4_isDone_68 : decode cX4_isDone 68 = .ok (.ifCond .eq 15, 3) := by decide +kernel
theorem dX4_isDone_71 : decode cX4_isDone 71 = .ok (.iload_n 3, 1) := by decide +kernel
theorem dX4_isDone_72 : decode cX4_isDone 72 = .ok (.invokestatic 124, 3) := by decide +kernel
theorem dX4_isDone_75 : decode cX4_isDone 75 = .ok (.ifCond .eq 8, 3) := by decide +kernel
theorem dX4_isDone_78 : decode cX4_isDone 78 = .ok (.iload_n 2, 1) := by decide +kernel
theorem dX4_isDone_79 : decode cX4_isDone 79 = .ok (.iload_n 3, 1) := by decide +kernel
theorem dX4_isDone_80 : decode cX4_isDone 80 = .ok (.if_icmp .ne 5, 3) := by decide +kernel
theorem dX4_isDone_83 : decode cX4_isDone 83 = .ok (.iconst 0, 1) := by decide +kernel
theorem dX4_isDone_84 : decode cX4_isDone 84 = .ok (.ireturn, 1) := by decide +kernel
theorem dX4_isDone_85 : decode cX4_isDone 85 = .ok (.aload_n 0, 1) := by decide +kernel
theorem dX4_isDone_86 : decode cX4_isDone 86 = .ok (.iload_n 2, 1) := by decide +kernel
theorem dX4_isDone_87 : decode cX4_isDone 87 = .ok (.iload_n 3, 1) := by decide +kernel
theorem dX4_isDone_88 : decode cX4_isDone 88 = .ok (.invokevirtual 127, 3) := by decide +kernel
theorem dX4_isDone_91 : decode cX4_isDone 91 = .ok (.iconst 1, 1) := by decide +kernel
theorem dX4_isDone_92 : decode cX4_isDone 92 = .ok (.ireturn, 1) := by decide +kernel
theorem dX4_isDone_93 : decode cX4_isDone 93 = .ok (.aload_n 0, 1) := by decide +kernel
theorem dX4_isDone_94 : decode cX4_isDone 94 = .ok (.getfield 34, 3) := by decide +kernel
theorem dX4_isDone_97 : decode cX4_isDone 97 = .ok (.iconst 2, 1) := by decide +kernel
theorem dX4_isDone_98 : decode cX4_isDone 98 = .ok (.iaload, 1) := by decide +kernel
theorem dX4_isDone_99 : decode cX4_isDone 99 = .ok (.invokestatic 124, 3) := by decide +kernel
theorem dX4_isDone_102 : decode cX4_isDone 102 = .ok (.ifCond .eq 14, 3) := by decide +kernel
theorem dX4_isDone_105 : decode cX4_isDone 105 = .ok (.aload_n 0, 1) := by decide +kernel
theorem dX4_isDone_106 : decode cX4_isDone 106 = .ok (.getfield 9, 3) := by decide +kernel
theorem dX4_isDone_109 : decode cX4_isDone 109 = .ok (.iconst 0, 1) := by decide +kernel
theorem dX4_isDone_110 : decode cX4_isDone 110 = .ok (.iaload, 1) := by decide +kernel
theorem dX4_isDone_111 : decode cX4_isDone 111 = .ok (.bipush 8, 2) := by decide +kernel
theorem dX4_isDone_113 : decode cX4_isDone 113 = .ok (.if_icmp .ne 5, 3) := by decide +kernel
theorem dX4_isDone_116 : decode cX4_isDone 116 = .ok (.iconst 0, 1) := by decide +kernel
theorem dX4_isDone_117 : decode cX4_isDone 117 = .ok (.ireturn, 1) := by decide +kernel
theorem dX4_isDone_118 : decode cX4_isDone 118 = .ok (.iconst 0, 1) := by decide +kernel
theorem dX4_isDone_119 : decode cX4_isDone 119 = .ok (.istore 4, 2) := by decide +kernel
theorem dX4_isDone_121 : decode cX4_isDone 121 = .ok (.iload 4, 2) := by decide +kernel
theorem dX4_isDone_123 : decode cX4_isDone 123 = .ok (.iconst 4, 1) := by decide +kernel
theorem dX4_isDone_124 : decode cX4_isDone 124 = .ok (.if_icmp .ge 32, 3) := by decide +kernel
theorem dX4_isDone_127 : decode cX4_isDone 127 = .ok (.aload_n 0, 1) := by decide +kernel
theorem dX4_isDone_128 : decode cX4_isDone 128 = .ok (.getfield 9, 3) := by decide +kernel
theorem dX4_isDone_131 : decode cX4_isDone 131 = .ok (.aload_n 0, 1) := by decide +kernel
theorem dX4_isDone_132 : decode cX4_isDone 132 = .ok (.getfield 9, 3) := by decide +kernel
theorem dX4_isDone_135 : decode cX4_isDone 135 = .ok (.iconst 0, 1) := by decide +kernel
theorem dX4_isDone_136 : decode cX4_isDone 136 = .ok (.iaload, 1) := by decide +kernel
theorem dX4_isDone_137 : decode cX4_isDone 137 = .ok (.iload 4, 2) := by decide +kernel
theorem dX4_isDone_139 : decode cX4_isDone 139 = .ok (.invokestatic 50, 3) := by decide +kernel
theorem dX4_isDone_142 : decode cX4_isDone 142 = .ok (.aload_n 0, 1) := by decide +kernel
theorem dX4_isDone_143 : decode cX4_isDone 143 = .ok (.getfield 34, 3) := by decide +kernel
theorem dX4_isDone_146 : decode cX4_isDone 146 = .ok (.iload 4, 2) := by decide +kernel
theorem dX4_isDone_148 : decode cX4_isDone 148 = .ok (.iaload, 1) := by decide +kernel
theorem dX4_isDone_149 : decode cX4_isDone 149 = .ok (.iastore, 1) := by decide +kernel
theorem dX4_isDone_150 : decode cX4_isDone 150 = .ok (.iinc 4 1, 3) := by decide +kernel
theorem dX4_isDone_153 : decode cX4_isDone 153 = .ok (.goto (-32), 3) := by decide +kernel
theorem dX4_isDone_156 : decode cX4_isDone 156 = .ok (.iconst 0, 1) := by decide +kernel
theorem dX4_isDone_157 : decode cX4_isDone 157 = .ok (.istore 4, 2) := by decide +kernel
theorem dX4_isDone_159 : decode cX4_isDone 159 = .ok (.iload 4, 2) := by decide +kernel
theorem dX4_isDone_161 : decode cX4_isDone 161 = .ok (.iconst 5, 1) := by decide +kernel
theorem dX4_isDone_162 : decode cX4_isDone 162 = .ok (.if_icmp .ge 27, 3) := by decide +kernel
theorem dX4_isDone_165 : decode cX4_isDone 165 = .ok (.aload_n 0, 1) := by decide +kernel
theorem dX4_isDone_166 : decode cX4_isDone 166 = .ok (.getfield 9, 3) := by decide +kernel
theorem dX4_isDone_169 : decode cX4_isDone 169 = .ok (.iload 4, 2) := by decide +kernel
theorem dX4_isDone_171 : decode cX4_isDone 171 = .ok (.aload_n 0, 1) := by decide +kernel
theorem dX4_isDone_172 : decode cX4_isDone 172 = .ok (.getfield 9, 3) := by decide +kernel
theorem dX4_isDone_175 : decode cX4_isDone 175 = .ok (.iconst 0, 1) := by decide +kernel
theorem dX4_isDone_176 : decode cX4_isDone 176 = .ok (.iaload, 1) := by decide +kernel
theorem dX4_isDone_177 : decode cX4_isDone 177 = .ok (.invokestatic 57, 3) := by decide +kernel
theorem dX4_isDone_180 : decode cX4_isDone 180 = .ok (.bipush (-9), 2) := by decide +kernel
theorem dX4_isDone_182 : decode cX4_isDone 182 = .ok (.iastore, 1) := by decide +kernel
theorem dX4_isDone_183 : decode cX4_isDone 183 = .ok (.iinc 4 1, 3) := by decide +kernel
theorem dX4_isDone_186 : decode cX4_isDone 186 = .ok (.goto (-27), 3) := by decide +kernel
theorem dX4_isDone_189 : decode cX4_isDone 189 = .ok (.aload_n 0, 1) := by decide +kernel
theorem dX4_isDone_190 : decode cX4_isDone 190 = .ok (.getfield 9, 3) := by decide +kernel
theorem dX4_isDone_193 : decode cX4_isDone 193 = .ok (.iconst 0, 1) := by decide +kernel
theorem dX4_isDone_194 : decode cX4_isDone 194 = .ok (.dup2, 1) := by decide +kernel
theorem dX4_isDone_195 : decode cX4_isDone 195 = .ok (.iaload, 1) := by decide +kernel
theorem dX4_isDone_196 : decode cX4_isDone 196 = .ok (.iconst 1, 1) := by decide +kernel
theorem dX4_isDone_197 : decode cX4_isDone 197 = .ok (.iadd, 1) := by decide +kernel
theorem dX4_isDone_198 : decode cX4_isDone 198 = .ok (.iastore, 1) := by decide +kernel
theorem dX4_isDone_199 : decode cX4_isDone 199 = .ok (.iconst 1, 1) := by decide +kernel
theorem dX4_isDone_200 : decode cX4_isDone 200 = .ok (.ireturn, 1) := by decide +kernel
theorem dX4_isDone_201 : decode cX4_isDone 201 = .ok (.aload_n 0, 1) := by decide +kernel
theorem dX4_isDone_202 : decode cX4_isDone 202 = .ok (.getfield 34, 3) := by decide +kernel
theorem dX4_isDone_205 : decode cX4_isDone 205 = .ok (.iconst 2, 1) := by decide +kernel
theorem dX4_isDone_206 : decode cX4_isDone 206 = .ok (.iaload, 1) := by decide +kernel
theorem dX4_isDone_207 : decode cX4_isDone 207 = .ok (.bipush 7, 2) := by decide +kernel
theorem dX4_isDone_209 : decode cX4_isDone 209 = .ok (.if_icmp .gt 13, 3) := by decide +kernel
theorem dX4_isDone_212 : decode cX4_isDone 212 = .ok (.aload_n 0, 1) := by decide +kernel
theorem dX4_isDone_213 : decode cX4_isDone 213 = .ok (.getfield 9, 3) := by decide +kernel
theorem dX4_isDone_216 : decode cX4_isDone 216 = .ok (.iconst 1, 1) := by decide +kernel
theorem dX4_isDone_217 : decode cX4_isDone 217 = .ok (.iaload, 1) := by decide +kernel
theorem dX4_isDone_218 : decode cX4_isDone 218 = .ok (.iconst 5, 1) := by decide +kernel
theorem dX4_isDone_219 : decode cX4_isDone 219 = .ok (.if_icmp .ne 5, 3) := by decide +kernel
theorem dX4_isDone_222 : decode cX4_isDone 222 = .ok (.iconst 0, 1) := by decide +kernel
theorem dX4_isDone_223 : decode cX4_isDone 223 = .ok (.ireturn, 1) := by decide +kernel
theorem dX4_isDone_224 : decode cX4_isDone 224 = .ok (.iconst 0, 1) := by decide +kernel
theorem dX4_isDone_225 : decode cX4_isDone 225 = .ok (.istore 4, 2) := by decide +kernel
theorem dX4_isDone_227 : decode cX4_isDone 227 = .ok (.iload 4, 2) := by decide +kernel
theorem dX4_isDone_229 : decode cX4_isDone 229 = .ok (.iconst 5, 1) := by decide +kernel
theorem dX4_isDone_230 : decode cX4_isDone 230 = .ok (.if_icmp .ge 42, 3) := by decide +kernel
theorem dX4_isDone_233 : decode cX4_isDone 233 = .ok (.aload_n 0, 1) := by decide +kernel
theorem dX4_isDone_234 : decode cX4_isDone 234 = .ok (.getfield 9, 3) := by decide +kernel
theorem dX4_isDone_237 : decode cX4_isDone 237 = .ok (.aload_n 0, 1) := by decide +kernel
theorem dX4_isDone_238 : decode cX4_isDone 238 = .ok (.getfield 9, 3) := by decide +kernel
theorem dX4_isDone_241 : decode cX4_isDone 241 = .ok (.iconst 1, 1) := by decide +kernel
theorem dX4_isDone_242 : decode cX4_isDone 242 = .ok (.iaload, 1) := by decide +kernel
theorem dX4_isDone_243 : decode cX4_isDone 243 = .ok (.iload 4, 2) := by decide +kernel
theorem dX4_isDone_245 : decode cX4_isDone 245 = .ok (.invokestatic 54, 3) := by decide +kernel
theorem dX4_isDone_248 : decode cX4_isDone 248 = .ok (.iload 4, 2) := by decide +kernel
theorem dX4_isDone_250 : decode cX4_isDone 250 = .ok (.iconst 3, 1) := by decide +kernel
theorem dX4_isDone_251 : decode cX4_isDone 251 = .ok (.if_icmp .ge 13, 3) := by decide +kernel
theorem dX4_isDone_254 : decode cX4_isDone 254 = .ok (.aload_n 0, 1) := by decide +kernel
theorem dX4_isDone_255 : decode cX4_isDone 255 = .ok (.getfield 34, 3) := by decide +kernel
theorem dX4_isDone_258 : decode cX4_isDone 258 = .ok (.iload 4, 2) := by decide +kernel
theorem dX4_isDone_260 : decode cX4_isDone 260 = .ok (.iaload, 1) := by decide +kernel
theorem dX4_isDone_261 : decode cX4_isDone 261 = .ok (.goto 4, 3) := by decide +kernel
theorem dX4_isDone_264 : decode cX4_isDone 264 = .ok (.iconst 0, 1) := by decide +kernel
theorem dX4_isDone_265 : decode cX4_isDone 265 = .ok (.iastore, 1) := by decide +kernel
theorem dX4_isDone_266 : decode cX4_isDone 266 = .ok (.iinc 4 1, 3) := by decide +kernel
theorem dX4_isDone_269 : decode cX4_isDone 269 = .ok (.goto (-42), 3) := by decide +kernel
theorem dX4_isDone_272 : decode cX4_isDone 272 = .ok (.iconst 0, 1) := by decide +kernel
theorem dX4_isDone_273 : decode cX4_isDone 273 = .ok (.istore 4, 2) := by decide +kernel
theorem dX4_isDone_275 : decode cX4_isDone 275 = .ok (.iload 4, 2) := by decide +kernel
theorem dX4_isDone_277 : decode cX4_isDone 277 = .ok (.bipush 8, 2) := by decide +kernel
theorem dX4_isDone_279 : decode cX4_isDone 279 = .ok (.if_icmp .ge 27, 3) := by decide +kernel
theorem dX4_isDone_282 : decode cX4_isDone 282 = .ok (.aload_n 0, 1) := by decide +kernel
theorem dX4_isDone_283 : decode cX4_isDone 283 = .ok (.getfield 9, 3) := by decide +kernel
theorem dX4_isDone_286 : decode cX4_isDone 286 = .ok (.aload_n 0, 1) := by decide +kernel
theorem dX4_isDone_287 : decode cX4_isDone 287 = .ok (.getfield 9, 3) := by decide +kernel
theorem dX4_isDone_290 : decode cX4_isDone 290 = .ok (.iconst 1, 1) := by decide +kernel
theorem dX4_isDone_291 : decode cX4_isDone 291 = .ok (.iaload, 1) := by decide +kernel
theorem dX4_isDone_292 : decode cX4_isDone 292 = .ok (.iload 4, 2) := by decide +kernel
theorem dX4_isDone_294 : decode cX4_isDone 294 = .ok (.invokestatic 57, 3) := by decide +kernel
theorem dX4_isDone_297 : decode cX4_isDone 297 = .ok (.bipush (-9), 2) := by decide +kernel
theorem dX4_isDone_299 : decode cX4_isDone 299 = .ok (.iastore, 1) := by decide +kernel
theorem dX4_isDone_300 : decode cX4_isDone 300 = .ok (.iinc 4 1, 3) := by decide +kernel
theorem dX4_isDone_303 : decode cX4_isDone 303 = .ok (.goto (-28), 3) := by decide +kernel
theorem dX4_isDone_306 : decode cX4_isDone 306 = .ok (.aload_n 0, 1) := by decide +kernel
theorem dX4_isDone_307 : decode cX4_isDone 307 = .ok (.getfield 9, 3) := by decide +kernel
theorem dX4_isDone_310 : decode cX4_isDone 310 = .ok (.iconst 1, 1) := by decide +kernel
theorem dX4_isDone_311 : decode cX4_isDone 311 = .ok (.dup2, 1) := by decide +kernel
theorem dX4_isDone_312 : decode cX4_isDone 312 = .ok (.iaload, 1) := by decide +kernel
theorem dX4_isDone_313 : decode cX4_isDone 313 = .ok (.iconst 1, 1) := by decide +kernel
theorem dX4_isDone_314 : decode cX4_isDone 314 = .ok (.iadd, 1) := by decide +kernel
theorem dX4_isDone_315 : decode cX4_isDone 315 = .ok (.iastore, 1) := by decide +kernel
theorem dX4_isDone_316 : decode cX4_isDone 316 = .ok (.iconst 1, 1) := by decide +kernel
theorem dX4_isDone_317 : decode cX4_isDone 317 = .ok (.ireturn, 1) := by decide +kernel
theorem dX4_isDone_318 : decode cX4_isDone 318 = .ok (.aload_n 0, 1) := by decide +kernel
theorem dX4_isDone_319 : decode cX4_isDone 319 = .ok (.iload_n 2, 1) := by decide +kernel
theorem dX4_isDone_320 : decode cX4_isDone 320 = .ok (.invokevirtual 131, 3) := by decide +kernel
theorem dX4_isDone_323 : decode cX4_isDone 323 = .ok (.ifCond .eq 10, 3) := by decide +kernel
theorem dX4_isDone_326 : decode cX4_isDone 326 = .ok (.iload_n 3, 1) := by decide +kernel
theorem dX4_isDone_327 : decode cX4_isDone 327 = .ok (.invokestatic 124, 3) := by decide +kernel
theorem dX4_isDone_330 : decode cX4_isDone 330 = .ok (.ifCond .ne 5, 3) := by decide +kernel
theorem dX4_isDone_333 : decode cX4_isDone 333 = .ok (.iconst 0, 1) := by decide +kernel
theorem dX4_isDone_334 : decode cX4_isDone 334 = .ok (.ireturn, 1) := by decide +kernel
theorem dX4_isDone_335 : decode cX4_isDone 335 = .ok (.aload_n 0, 1) := by decide +kernel
theorem dX4_isDone_336 : decode cX4_isDone 336 = .ok (.getfield 9, 3) := by decide +kernel
theorem dX4_isDone_339 : decode cX4_isDone 339 = .ok (.iload_n 2, 1) := by decide +kernel
theorem dX4_isDone_340 : decode cX4_isDone 340 = .ok (.iconst 3, 1) := by decide +kernel
theorem dX4_isDone_341 : decode cX4_isDone 341 = .ok (.invokestatic 54, 3) := by decide +kernel
theorem dX4_isDone_344 : decode cX4_isDone 344 = .ok (.iload_n 3, 1) := by decide +kernel
theorem dX4_isDone_345 : decode cX4_isDone 345 = .ok (.iastore, 1) := by decide +kernel
theorem dX4_isDone_346 : decode cX4_isDone 346 = .ok (.aload_n 0, 1) := by decide +kernel
theorem dX4_isDone_347 : decode cX4_isDone 347 = .ok (.getfield 9, 3) := by decide +kernel
theorem dX4_isDone_350 : decode cX4_isDone 350 = .ok (.iload_n 2, 1) := by decide +kernel
theorem dX4_isDone_351 : decode cX4_isDone 351 = .ok (.iconst 4, 1) := by decide +kernel
theorem dX4_isDone_352 : decode cX4_isDone 352 = .ok (.invokestatic 54, 3) := by decide +kernel
theorem dX4_isDone_355 : decode cX4_isDone 355 = .ok (.iconst 0, 1) := by decide +kernel
theorem dX4_isDone_356 : decode cX4_isDone 356 = .ok (.iastore, 1) := by decide +kernel
theorem dX4_isDone_357 : decode cX4_isDone 357 = .ok (.iconst 1, 1) := by decide +kernel
theorem dX4_isDone_358 : decode cX4_isDone 358 = .ok (.ireturn, 1) := by decide +kernel
theorem dX4_isDone_359 : decode cX4_isDone 359 = .ok (.aload_n 0, 1) := by decide +kernel
theorem dX4_isDone_360 : decode cX4_isDone 360 = .ok (.iload_n 2, 1) := by decide +kernel
theorem dX4_isDone_361 : decode cX4_isDone 361 = .ok (.invokevirtual 131, 3) := by decide +kernel
theorem dX4_isDone_364 : decode cX4_isDone 364 = .ok (.ifCond .eq 11, 3) := by decide +kernel
theorem dX4_isDone_367 : decode cX4_isDone 367 = .ok (.aload_n 0, 1) := by decide +kernel
theorem dX4_isDone_368 : decode cX4_isDone 368 = .ok (.iload_n 3, 1) := by decide +kernel
theorem dX4_isDone_369 : decode cX4_isDone 369 = .ok (.invokevirtual 134, 3) := by decide +kernel
theorem dX4_isDone_372 : decode cX4_isDone 372 = .ok (.ifCond .ne 5, 3) := by decide +kernel
theorem dX4_isDone_375 : decode cX4_isDone 375 = .ok (.iconst 0, 1) := by decide +kernel
theorem dX4_isDone_376 : decode cX4_isDone 376 = .ok (.ireturn, 1) := by decide +kernel
theorem dX4_isDone_377 : decode cX4_isDone 377 = .ok (.aload_n 0, 1) := by decide +kernel
theorem dX4_isDone_378 : decode cX4_isDone 378 = .ok (.getfield 9, 3) := by decide +kernel
theorem dX4_isDone_381 : decode cX4_isDone 381 = .ok (.iload_n 2, 1) := by decide +kernel
theorem dX4_isDone_382 : decode cX4_isDone 382 = .ok (.iload_n 3, 1) := by decide +kernel
theorem dX4_isDone_383 : decode cX4_isDone 383 = .ok (.invokestatic 57, 3) := by decide +kernel
theorem dX4_isDone_386 : decode cX4_isDone 386 = .ok (.aload_n 0, 1) := by decide +kernel
theorem dX4_isDone_387 : decode cX4_isDone 387 = .ok (.getfield 34, 3) := by decide +kernel
theorem dX4_isDone_390 : decode cX4_isDone 390 = .ok (.iconst 2, 1) := by decide +kernel
theorem dX4_isDone_391 : decode cX4_isDone 391 = .ok (.iaload, 1) := by decide +kernel
theorem dX4_isDone_392 : decode cX4_isDone 392 = .ok (.iastore, 1) := by decide +kernel
theorem dX4_isDone_393 : decode cX4_isDone 393 = .ok (.iconst 1, 1) := by decide +kernel
theorem dX4_isDone_394 : decode cX4_isDone 394 = .ok (.ireturn, 1) := by decide +kernel
theorem dX4_isDone_395 : decode cX4_isDone 395 = .ok (.bipush 10, 2) := by decide +kernel
theorem dX4_isDone_397 : decode cX4_isDone 397 = .ok (.iload_n 2, 1) := by decide +kernel
theorem dX4_isDone_398 : decode cX4_isDone 398 = .ok (.imul, 1) := by decide +kernel
theorem dX4_isDone_399 : decode cX4_isDone 399 = .ok (.iload_n 3, 1) := by decide +kernel
theorem dX4_isDone_400 : decode cX4_isDone 400 = .ok (.iadd, 1) := by decide +kernel
theorem dX4_isDone_401 : decode cX4_isDone 401 = .ok (.istore 4, 2) := by decide +kernel
theorem dX4_isDone_403 : decode cX4_isDone 403 = .ok (.iload 4, 2) := by decide +kernel
theorem dX4_isDone_405 : decode cX4_isDone 405 = .ok (.iconst 1, 1) := by decide +kernel
theorem dX4_isDone_406 : decode cX4_isDone 406 = .ok (.bipush 60, 2) := by decide +kernel
theorem dX4_isDone_408 : decode cX4_isDone 408 = .ok (.invokestatic 42, 3) := by decide +kernel
theorem dX4_isDone_411 : decode cX4_isDone 411 = .ok (.ifCond .eq 18, 3) := by decide +kernel
theorem dX4_isDone_414 : decode cX4_isDone 414 = .ok (.aload_n 0, 1) := by decide +kernel
theorem dX4_isDone_415 : decode cX4_isDone 415 = .ok (.getfield 9, 3) := by decide +kernel
theorem dX4_isDone_418 : decode cX4_isDone 418 = .ok (.iconst 2, 1) := by decide +kernel
theorem dX4_isDone_419 : decode cX4_isDone 419 = .ok (.iaload, 1) := by decide +kernel
theorem dX4_isDone_420 : decode cX4_isDone 420 = .ok (.iload 4, 2) := by decide +kernel
theorem dX4_isDone_422 : decode cX4_isDone 422 = .ok (.iadd, 1) := by decide +kernel
theorem dX4_isDone_423 : decode cX4_isDone 423 = .ok (.sipush 999, 3) := by decide +kernel
theorem dX4_isDone_426 : decode cX4_isDone 426 = .ok (.if_icmp .le 5, 3) := by decide +kernel
theorem dX4_isDone_429 : decode cX4_isDone 429 = .ok (.iconst 0, 1) := by decide +kernel
theorem dX4_isDone_430 : decode cX4_isDone 430 = .ok (.ireturn, 1) := by decide +kernel
theorem dX4_isDone_431 : decode cX4_isDone 431 = .ok (.aload_n 0, 1) := by decide +kernel
theorem dX4_isDone_432 : decode cX4_isDone 432 = .ok (.aload_n 0, 1) := by decide +kernel
theorem dX4_isDone_433 : decode cX4_isDone 433 = .ok (.getfield 9, 3) := by decide +kernel
theorem dX4_isDone_436 : decode cX4_isDone 436 = .ok (.iload 4, 2) := by decide +kernel
theorem dX4_isDone_438 : decode cX4_isDone 438 = .ok (.invokevirtual 137, 3) := by decide +kernel
theorem dX4_isDone_441 : decode cX4_isDone 441 = .ok (.iconst 1, 1) := by decide +kernel
theorem dX4_isDone_442 : decode cX4_isDone 442 = .ok (.ireturn, 1) := by decide +kernel
theorem dX4_museum_0 : decode cX4_museum 0 = .ok (.aload_n 0, 1) := by decide +kernel
theorem dX4_museum_1 : decode cX4_museum 1 = .ok (.iconst 0, 1) := by decide +kernel
theorem dX4_museum_2 : decode cX4_museum 2 = .ok (.putfield 106, 3) := by decide +kernel
theorem dX4_museum_5 : decode cX4_museum 5 = .ok (.iconst 0, 1) := by decide +kernel
theorem dX4_museum_6 : decode cX4_museum 6 = .ok (.istore_n 1, 1) := by decide +kernel
theorem dX4_museum_7 : decode cX4_museum 7 = .ok (.bipush (-9), 2) := by decide +kernel
theorem dX4_museum_9 : decode cX4_museum 9 = .ok (.istore_n 2, 1) := by decide +kernel
theorem dX4_museum_10 : decode cX4_museum 10 = .ok (.aload_n 0, 1) := by decide +kernel
theorem dX4_museum_11 : decode cX4_museum 11 = .ok (.invokevirtual 140, 3) := by decide +kernel
theorem dX4_museum_14 : decode cX4_museum 14 = .ok (.ifCond .ne 12, 3) := by decide +kernel
theorem dX4_museum_17 : decode cX4_museum 17 = .ok (.sipush (-1000), 3) := by decide +kernel
theorem dX4_museum_20 : decode cX4_museum 20 = .ok (.aload_n 0, 1) := by decide +kernel
theorem dX4_museum_21 : decode cX4_museum 21 = .ok (.getfield 106, 3) := by decide +kernel
theorem dX4_museum_24 : decode cX4_museum 24 = .ok (.isub, 1) := by decide +kernel
theorem dX4_museum_25 : decode cX4_museum 25 = .ok (.istore_n 2, 1) := by decide +kernel
theorem dX4_museum_26 : decode cX4_museum 26 = .ok (.iinc 1 1, 3) := by decide +kernel
theorem dX4_museum_29 : decode cX4_museum 29 = .ok (.iload_n 2, 1) := by decide +kernel
theorem dX4_museum_30 : decode cX4_museum 30 = .ok (.bipush (-9), 2) := by decide +kernel
theorem dX4_museum_32 : decode cX4_museum 32 = .ok (.if_icmp .ne 14, 3) := by decide +kernel
theorem dX4_museum_35 : decode cX4_museum 35 = .ok (.aload_n 0, 1) := by decide +kernel
theorem dX4_museum_36 : decode cX4_museum 36 = .ok (.getfield 106, 3) := by decide +kernel
theorem dX4_museum_39 : decode cX4_museum 39 = .ok (.aload_n 0, 1) := by decide +kernel
theorem dX4_museum_40 : decode cX4_museum 40 = .ok (.getfield 102, 3) := by decide +kernel
theorem dX4_museum_43 : decode cX4_museum 43 = .ok (.if_icmp .lt (-33), 3) := by decide +kernel
theorem dX4_museum_46 : decode cX4_museum 46 = .ok (.aload_n 0, 1) := by decide +kernel
theorem dX4_museum_47 : decode cX4_museum 47 = .ok (.getfield 9, 3) := by decide +kernel
theorem dX4_museum_50 : decode cX4_museum 50 = .ok (.aload_n 0, 1) := by decide +kernel
theorem dX4_museum_51 : decode cX4_museum 51 = .ok (.getfield 19, 3) := by decide +kernel
theorem dX4_museum_54 : decode cX4_museum 54 = .ok (.invokestatic 88, 3) := by decide +kernel
theorem dX4_museum_57 : decode cX4_museum 57 = .ok (.aload_n 0, 1) := by decide +kernel
theorem dX4_museum_58 : decode cX4_museum 58 = .ok (.iconst 0, 1) := by decide +kernel
theorem dX4_museum_59 : decode cX4_museum 59 = .ok (.putfield 106, 3) := by decide +kernel
theorem dX4_museum_62 : decode cX4_museum 62 = .ok (.iload_n 2, 1) := by decide +kernel
theorem dX4_museum_63 : decode cX4_museum 63 = .ok (.bipush (-9), 2) := by decide +kernel
theorem dX4_museum_65 : decode cX4_museum 65 = .ok (.if_icmp .ne 63, 3) := by decide +kernel
theorem dX4_museum_68 : decode cX4_museum 68 = .ok (.aload_n 0, 1) := by decide +kernel
theorem dX4_museum_69 : decode cX4_museum 69 = .ok (.getfield 106, 3) := by decide +kernel
theorem dX4_museum_72 : decode cX4_museum 72 = .ok (.aload_n 0, 1) := by decide +kernel
theorem dX4_museum_73 : decode cX4_museum 73 = .ok (.getfield 102, 3) := by decide +kernel
theorem dX4_museum_76 : decode cX4_museum 76 = .ok (.if_icmp .ge 52, 3) := by decide +kernel
theorem dX4_museum_79 : decode cX4_museum 79 = .ok (.aload_n 0, 1) := by decide +kernel
theorem dX4_museum_80 : decode cX4_museum 80 = .ok (.getfield 106, 3) := by decide +kernel
theorem dX4_museum_83 : decode cX4_museum 83 = .ok (.istore_n 3, 1) := by decide +kernel
theorem dX4_museum_84 : decode cX4_museum 84 = .ok (.aload_n 0, 1) := by decide +kernel
theorem dX4_museum_85 : decode cX4_museum 85 = .ok (.invokevirtual 109, 3) := by decide +kernel
theorem dX4_museum_88 : decode cX4_museum 88 = .ok (.istore 4, 2) := by decide +kernel
theorem dX4_museum_90 : decode cX4_museum 90 = .ok (.aload_n 0, 1) := by decide +kernel
theorem dX4_museum_91 : decode cX4_museum 91 = .ok (.invokevirtual 140, 3) := by decide +kernel
theorem dX4_museum_94 : decode cX4_museum 94 = .ok (.istore 5, 2) := by decide +kernel
theorem dX4_museum_96 : decode cX4_museum 96 = .ok (.aload_n 0, 1) := by decide +kernel
theorem dX4_museum_97 : decode cX4_museum 97 = .ok (.iload 4, 2) := by decide +kernel
theorem dX4_museum_99 : decode cX4_museum 99 = .ok (.invokevirtual 143, 3) := by decide +kernel
theorem dX4_museum_102 : decode cX4_museum 102 = .ok (.ifCond .eq 6, 3) := by decide +kernel
theorem dX4_museum_105 : decode cX4_museum 105 = .ok (.goto (-43), 3) := by decide +kernel
theorem dX4_museum_108 : decode cX4_museum 108 = .ok (.sipush (-2000), 3) := by decide +kernel
theorem dX4_museum_111 : decode cX4_museum 111 = .ok (.iload_n 3, 1) := by decide +kernel
theorem dX4_museum_112 : decode cX4_museum 112 = .ok (.isub, 1) := by decide +kernel
theorem dX4_museum_113 : decode cX4_museum 113 = .ok (.istore_n 2, 1) := by decide +kernel
theorem dX4_museum_114 : decode cX4_museum 114 = .ok (.aload_n 0, 1) := by decide +kernel
theorem dX4_museum_115 : decode cX4_museum 115 = .ok (.getfield 19, 3) := by decide +kernel
theorem dX4_museum_118 : decode cX4_museum 118 = .ok (.aload_n 0, 1) := by decide +kernel
theorem dX4_museum_119 : decode cX4_museum 119 = .ok (.getfield 9, 3) := by decide +kernel
theorem dX4_museum_122 : decode cX4_museum 122 = .ok (.invokestatic 88, 3) := by decide +kernel
theorem dX4_museum_125 : decode cX4_museum 125 = .ok (.goto (-63), 3) := by decide +kernel
theorem dX4_museum_128 : decode cX4_museum 128 = .ok (.aload_n 0, 1) := by decide +kernel
theorem dX4_museum_129 : decode cX4_museum 129 = .ok (.iconst 0, 1) := by decide +kernel
theorem dX4_museum_130 : decode cX4_museum 130 = .ok (.putfield 102, 3) := by decide +kernel
theorem dX4_museum_133 : decode cX4_museum 133 = .ok (.iload_n 2, 1) := by decide +kernel
theorem dX4_museum_134 : decode cX4_museum 134 = .ok (.bipush (-9), 2) := by decide +kernel
theorem dX4_museum_136 : decode cX4_museum 136 = .ok (.if_icmp .ne 7, 3) := by decide +kernel
theorem dX4_museum_139 : decode cX4_museum 139 = .ok (.iload_n 1, 1) := by decide +kernel
theorem dX4_museum_140 : decode cX4_museum 140 = .ok (.goto 4, 3) := by decide +kernel
theorem dX4_museum_143 : decode cX4_museum 143 = .ok (.iload_n 2, 1) := by decide +kernel
theorem dX4_museum_144 : decode cX4_museum 144 = .ok (.ireturn, 1) := by decide +kernel
theorem dX4_door_0 : decode cX4_door 0 = .ok (.iload_n 1, 1) := by decide +kernel
theorem dX4_door_1 : decode cX4_door 1 = .ok (.invokestatic 124, 3) := by decide +kernel
theorem dX4_door_4 : decode cX4_door 4 = .ok (.ifCond .eq 23, 3) := by decide +kernel
theorem dX4_door_7 : decode cX4_door 7 = .ok (.iload_n 2, 1) := by decide +kernel
theorem dX4_door_8 : decode cX4_door 8 = .ok (.invokestatic 124, 3) := by decide +kernel
theorem dX4_door_11 : decode cX4_door 11 = .ok (.ifCond .eq 16, 3) := by decide +kernel
theorem dX4_door_14 : decode cX4_door 14 = .ok (.aload_n 0, 1) := by decide +kernel
theorem dX4_door_15 : decode cX4_door 15 = .ok (.aload_n 0, 1) := by decide +kernel
theorem dX4_door_16 : decode cX4_door 16 = .ok (.getfield 9, 3) := by decide +kernel
theorem dX4_door_19 : decode cX4_door 19 = .ok (.iload_n 1, 1) := by decide +kernel
theorem dX4_door_20 : decode cX4_door 20 = .ok (.iload_n 2, 1) := by decide +kernel
theorem dX4_door_21 : decode cX4_door 21 = .ok (.invokevirtual 146, 3) := by decide +kernel
theorem dX4_door_24 : decode cX4_door 24 = .ok (.goto 8, 3) := by decide +kernel
theorem dX4_door_27 : decode cX4_door 27 = .ok (.aload_n 0, 1) := by decide +kernel
theorem dX4_door_28 : decode cX4_door 28 = .ok (.iconst (-1), 1) := by decide +kernel
theorem dX4_door_29 : decode cX4_door 29 = .ok (.invokevirtual 38, 3) := by decide +kernel
theorem dX4_door_32 : decode cX4_door 32 = .ok (.ireturn, 1) := by decide +kernel
theorem dX4_question_0 : decode cX4_question 0 = .ok (.aload_n 0, 1) := by decide +kernel
theorem dX4_question_1 : decode cX4_question 1 = .ok (.iload_n 1, 1) := by decide +kernel
theorem dX4_question_2 : decode cX4_question 2 = .ok (.invokevirtual 134, 3) := by decide +kernel
theorem dX4_question_5 : decode cX4_question 5 = .ok (.ifCond .ne 9, 3) := by decide +kernel
theorem dX4_question_8 : decode cX4_question 8 = .ok (.aload_n 0, 1) := by decide +kernel
theorem dX4_question_9 : decode cX4_question 9 = .ok (.iconst (-1), 1) := by decide +kernel
theorem dX4_question_10 : decode cX4_question 10 = .ok (.invokevirtual 38, 3) := by decide +kernel
theorem dX4_question_13 : decode cX4_question 13 = .ok (.ireturn, 1) := by decide +kernel
theorem dX4_question_14 : decode cX4_question 14 = .ok (.iload_n 2, 1) := by decide +kernel
theorem dX4_question_15 : decode cX4_question 15 = .ok (.iconst 0, 1) := by decide +kernel
theorem dX4_question_16 : decode cX4_question 16 = .ok (.iconst 3, 1) := by decide +kernel
theorem dX4_question_17 : decode cX4_question 17 = .ok (.invokestatic 42, 3) := by decide +kernel
theorem dX4_question_20 : decode cX4_question 20 = .ok (.ifCond .eq 16, 3) := by decide +kernel
theorem dX4_question_23 : decode cX4_question 23 = .ok (.aload_n 0, 1) := by decide +kernel
theorem dX4_question_24 : decode cX4_question 24 = .ok (.getfield 9, 3) := by decide +kernel
theorem dX4_question_27 : decode cX4_question 27 = .ok (.iload_n 1, 1) := by decide +kernel
theorem dX4_question_28 : decode cX4_question 28 = .ok (.iload_n 2, 1) := by decide +kernel
theorem dX4_question_29 : decode cX4_question 29 = .ok (.invokestatic 50, 3) := by decide +kernel
theorem dX4_question_32 : decode cX4_question 32 = .ok (.iaload, 1) := by decide +kernel
theorem dX4_question_33 : decode cX4_question 33 = .ok (.goto 25, 3) := by decide +kernel
theorem dX4_question_36 : decode cX4_question 36 = .ok (.iload_n 2, 1) := by decide +kernel
theorem dX4_question_37 : decode cX4_question 37 = .ok (.iconst 4, 1) := by decide +kernel
theorem dX4_question_38 : decode cX4_question 38 = .ok (.if_icmp .ne 14, 3) := by decide +kernel
theorem dX4_question_41 : decode cX4_question 41 = .ok (.aload_n 0, 1) := by decide +kernel
theorem dX4_question_42 : decode cX4_question 42 = .ok (.getfield 9, 3) := by decide +kernel
theorem dX4_question_45 : decode cX4_question 45 = .ok (.iload_n 1, 1) := by decide +kernel
theorem dX4_question_46 : decode cX4_question 46 = .ok (.invokestatic 74, 3) := by decide +kernel
theorem dX4_question_49 : decode cX4_question 49 = .ok (.goto 9, 3) := by decide +kernel
theorem dX4_question_52 : decode cX4_question 52 = .ok (.aload_n 0, 1) := by decide +kernel
theorem dX4_question_53 : decode cX4_question 53 = .ok (.bipush (-2), 2) := by decide +kernel
theorem dX4_question_55 : decode cX4_question 55 = .ok (.invokevirtual 38, 3) := by decide +kernel
theorem dX4_question_58 : decode cX4_question 58 = .ok (.ireturn, 1) := by decide +kernel
theorem dX4_group_0 : decode cX4_group 0 = .ok (.aload_n 0, 1) := by decide +kernel
theorem dX4_group_1 : decode cX4_group 1 = .ok (.iload_n 1, 1) := by decide +kernel
theorem dX4_group_2 : decode cX4_group 2 = .ok (.invokevirtual 131, 3) := by decide +kernel
theorem dX4_group_5 : decode cX4_group 5 = .ok (.ifCond .ne 9, 3) := by decide +kernel
theorem dX4_group_8 : decode cX4_group 8 = .ok (.aload_n 0, 1) := by decide +kernel
theorem dX4_group_9 : decode cX4_group 9 = .ok (.iconst (-1), 1) := by decide +kernel
theorem dX4_group_10 : decode cX4_group 10 = .ok (.invokevirtual 38, 3) := by decide +kernel
theorem dX4_group_13 : decode cX4_group 13 = .ok (.ireturn, 1) := by decide +kernel
theorem dX4_group_14 : decode cX4_group 14 = .ok (.iload_n 2, 1) := by decide +kernel
theorem dX4_group_15 : decode cX4_group 15 = .ok (.iconst 0, 1) := by decide +kernel
theorem dX4_group_16 : decode cX4_group 16 = .ok (.iconst 4, 1) := by decide +kernel
theorem dX4_group_17 : decode cX4_group 17 = .ok (.invokestatic 42, 3) := by decide +kernel
theorem dX4_group_20 : decode cX4_group 20 = .ok (.ifCond .eq 16, 3) := by decide +kernel
theorem dX4_group_23 : decode cX4_group 23 = .ok (.aload_n 0, 1) := by decide +kernel
theorem dX4_group_24 : decode cX4_group 24 = .ok (.getfield 9, 3) := by decide +kernel
theorem dX4_group_27 : decode cX4_group 27 = .ok (.iload_n 1, 1) := by decide +kernel
theorem dX4_group_28 : decode cX4_group 28 = .ok (.iload_n 2, 1) := by decide +kernel
theorem dX4_group_29 : decode cX4_group 29 = .ok (.invokestatic 54, 3) := by decide +kernel
theorem dX4_group_32 : decode cX4_group 32 = .ok (.iaload, 1) := by decide +kernel
theorem dX4_group_33 : decode cX4_group 33 = .ok (.goto 25, 3) := by decide +kernel
theorem dX4_group_36 : decode cX4_group 36 = .ok (.iload_n 2, 1) := by decide +kernel
theorem dX4_group_37 : decode cX4_group 37 = .ok (.iconst 5, 1) := by decide +kernel
theorem dX4_group_38 : decode cX4_group 38 = .ok (.if_icmp .ne 14, 3) := by decide +kernel
theorem dX4_group_41 : decode cX4_group 41 = .ok (.aload_n 0, 1) := by decide +kernel
theorem dX4_group_42 : decode cX4_group 42 = .ok (.getfield 9, 3) := by decide +kernel
theorem dX4_group_45 : decode cX4_group 45 = .ok (.iload_n 1, 1) := by decide +kernel
theorem dX4_group_46 : decode cX4_group 46 = .ok (.invokestatic 67, 3) := by decide +kernel
theorem dX4_group_49 : decode cX4_group 49 = .ok (.goto 9, 3) := by decide +kernel
theorem dX4_group_52 : decode cX4_group 52 = .ok (.aload_n 0, 1) := by decide +kernel
theorem dX4_group_53 : decode cX4_group 53 = .ok (.bipush (-2), 2) := by decide +kernel
theorem dX4_group_55 : decode cX4_group 55 = .ok (.invokevirtual 38, 3) := by decide +kernel
theorem dX4_group_58 : decode cX4_group 58 = .ok (.ireturn, 1) := by decide +kernel
theorem dX4_sheet_0 : decode cX4_sheet 0 = .ok (.aload_n 0, 1) := by decide +kernel
theorem dX4_sheet_1 : decode cX4_sheet 1 = .ok (.iload_n 1, 1) := by decide +kernel
theorem dX4_sheet_2 : decode cX4_sheet 2 = .ok (.invokevirtual 131, 3) := by decide +kernel
theorem dX4_sheet_5 : decode cX4_sheet 5 = .ok (.ifCond .eq 24, 3) := by decide +kernel
theorem dX4_sheet_8 : decode cX4_sheet 8 = .ok (.aload_n 0, 1) := by decide +kernel
theorem dX4_sheet_9 : decode cX4_sheet 9 = .ok (.iload_n 2, 1) := by decide +kernel
theorem dX4_sheet_10 : decode cX4_sheet 10 = .ok (.invokevirtual 134, 3) := by decide +kernel
theorem dX4_sheet_13 : decode cX4_sheet 13 = .ok (.ifCond .eq 16, 3) := by decide +kernel
theorem dX4_sheet_16 : decode cX4_sheet 16 = .ok (.aload_n 0, 1) := by decide +kernel
theorem dX4_sheet_17 : decode cX4_sheet 17 = .ok (.getfield 9, 3) := by decide +kernel
theorem dX4_sheet_20 : decode cX4_sheet 20 = .ok (.iload_n 1, 1) := by decide +kernel
theorem dX4_sheet_21 : decode cX4_sheet 21 = .ok (.iload_n 2, 1) := by decide +kernel
theorem dX4_sheet_22 : decode cX4_sheet 22 = .ok (.invokestatic 57, 3) := by decide +kernel
theorem dX4_sheet_25 : decode cX4_sheet 25 = .ok (.iaload, 1) := by decide +kernel
theorem dX4_sheet_26 : decode cX4_sheet 26 = .ok (.goto 8, 3) := by decide +kernel
theorem dX4_sheet_29 : decode cX4_sheet 29 = .ok (.aload_n 0, 1) := by decide +kernel
theorem dX4_sheet_30 : decode cX4_sheet 30 = .ok (.iconst (-1), 1) := by decide +kernel
theorem dX4_sheet_31 : decode cX4_sheet 31 = .ok (.invokevirtual 38, 3) := by decide +kernel
theorem dX4_sheet_34 : decode cX4_sheet 34 = .ok (.ireturn, 1) := by decide +kernel
theorem dX4_opens_0 : decode cX4_opens 0 = .ok (.iload_n 1, 1) := by decide +kernel
theorem dX4_opens_1 : decode cX4_opens 1 = .ok (.invokestatic 124, 3) := by decide +kernel
theorem dX4_opens_4 : decode cX4_opens 4 = .ok (.ifCond .eq 15, 3) := by decide +kernel
theorem dX4_opens_7 : decode cX4_opens 7 = .ok (.iload_n 2, 1) := by decide +kernel
theorem dX4_opens_8 : decode cX4_opens 8 = .ok (.invokestatic 124, 3) := by decide +kernel
theorem dX4_opens_11 : decode cX4_opens 11 = .ok (.ifCond .eq 8, 3) := by decide +kernel
theorem dX4_opens_14 : decode cX4_opens 14 = .ok (.iload_n 1, 1) := by decide +kernel
theorem dX4_opens_15 : decode cX4_opens 15 = .ok (.iload_n 2, 1) := by decide +kernel
theorem dX4_opens_16 : decode cX4_opens 16 = .ok (.if_icmp .ne 9, 3) := by decide +kernel
theorem dX4_opens_19 : decode cX4_opens 19 = .ok (.aload_n 0, 1) := by decide +kernel
theorem dX4_opens_20 : decode cX4_opens 20 = .ok (.iconst (-1), 1) := by decide +kernel
theorem dX4_opens_21 : decode cX4_opens 21 = .ok (.invokevirtual 38, 3) := by decide +kernel
theorem dX4_opens_24 : decode cX4_opens 24 = .ok (.ireturn, 1) := by decide +kernel
theorem dX4_opens_25 : decode cX4_opens 25 = .ok (.aload_n 0, 1) := by decide +kernel
theorem dX4_opens_26 : decode cX4_opens 26 = .ok (.iload_n 1, 1) := by decide +kernel
theorem dX4_opens_27 : decode cX4_opens 27 = .ok (.iload_n 2, 1) := by decide +kernel
theorem dX4_opens_28 : decode cX4_opens 28 = .ok (.invokevirtual 127, 3) := by decide +kernel
theorem dX4_opens_31 : decode cX4_opens 31 = .ok (.aload_n 0, 1) := by decide +kernel
theorem dX4_opens_32 : decode cX4_opens 32 = .ok (.getfield 9, 3) := by decide +kernel
theorem dX4_opens_35 : decode cX4_opens 35 = .ok (.iconst 3, 1) := by decide +kernel
theorem dX4_opens_36 : decode cX4_opens 36 = .ok (.iload_n 1, 1) := by decide +kernel
theorem dX4_opens_37 : decode cX4_opens 37 = .ok (.iadd, 1) := by decide +kernel
theorem dX4_opens_38 : decode cX4_opens 38 = .ok (.iaload, 1) := by decide +kernel
theorem dX4_opens_39 : decode cX4_opens 39 = .ok (.iload_n 2, 1) := by decide +kernel
theorem dX4_opens_40 : decode cX4_opens 40 = .ok (.ishr, 1) := by decide +kernel
theorem dX4_opens_41 : decode cX4_opens 41 = .ok (.iconst 1, 1) := by decide +kernel
theorem dX4_opens_42 : decode cX4_opens 42 = .ok (.iand, 1) := by decide +kernel
theorem dX4_opens_43 : decode cX4_opens 43 = .ok (.ireturn, 1) := by decide +kernel
theorem dX4_put_0 : decode cX4_put 0 = .ok (.aload_n 0, 1) := by decide +kernel
theorem dX4_put_1 : decode cX4_put 1 = .ok (.iload_n 1, 1) := by decide +kernel
theorem dX4_put_2 : decode cX4_put 2 = .ok (.invokevirtual 131, 3) := by decide +kernel
theorem dX4_put_5 : decode cX4_put 5 = .ok (.ifCond .eq 10, 3) := by decide +kernel
theorem dX4_put_8 : decode cX4_put 8 = .ok (.iload_n 2, 1) := by decide +kernel
theorem dX4_put_9 : decode cX4_put 9 = .ok (.invokestatic 124, 3) := by decide +kernel
theorem dX4_put_12 : decode cX4_put 12 = .ok (.ifCond .ne 9, 3) := by decide +kernel
theorem dX4_put_15 : decode cX4_put 15 = .ok (.aload_n 0, 1) := by decide +kernel
theorem dX4_put_16 : decode cX4_put 16 = .ok (.iconst (-1), 1) := by decide +kernel
theorem dX4_put_17 : decode cX4_put 17 = .ok (.invokevirtual 38, 3) := by decide +kernel
theorem dX4_put_20 : decode cX4_put 20 = .ok (.ireturn, 1) := by decide +kernel
theorem dX4_put_21 : decode cX4_put 21 = .ok (.aload_n 0, 1) := by decide +kernel
theorem dX4_put_22 : decode cX4_put 22 = .ok (.getfield 9, 3) := by decide +kernel
theorem dX4_put_25 : decode cX4_put 25 = .ok (.iload_n 1, 1) := by decide +kernel
theorem dX4_put_26 : decode cX4_put 26 = .ok (.iconst 3, 1) := by decide +kernel
theorem dX4_put_27 : decode cX4_put 27 = .ok (.invokestatic 54, 3) := by decide +kernel
theorem dX4_put_30 : decode cX4_put 30 = .ok (.iaload, 1) := by decide +kernel
theorem dX4_put_31 : decode cX4_put 31 = .ok (.istore_n 3, 1) := by decide +kernel
theorem dX4_put_32 : decode cX4_put 32 = .ok (.aload_n 0, 1) := by decide +kernel
theorem dX4_put_33 : decode cX4_put 33 = .ok (.getfield 9, 3) := by decide +kernel
theorem dX4_put_36 : decode cX4_put 36 = .ok (.iload_n 1, 1) := by decide +kernel
theorem dX4_put_37 : decode cX4_put 37 = .ok (.iconst 3, 1) := by decide +kernel
theorem dX4_put_38 : decode cX4_put 38 = .ok (.invokestatic 54, 3) := by decide +kernel
theorem dX4_put_41 : decode cX4_put 41 = .ok (.iload_n 2, 1) := by decide +kernel
theorem dX4_put_42 : decode cX4_put 42 = .ok (.iastore, 1) := by decide +kernel
theorem dX4_put_43 : decode cX4_put 43 = .ok (.aload_n 0, 1) := by decide +kernel
theorem dX4_put_44 : decode cX4_put 44 = .ok (.getfield 9, 3) := by decide +kernel
theorem dX4_put_47 : decode cX4_put 47 = .ok (.iload_n 1, 1) := by decide +kernel
theorem dX4_put_48 : decode cX4_put 48 = .ok (.iconst 4, 1) := by decide +kernel
theorem dX4_put_49 : decode cX4_put 49 = .ok (.invokestatic 54, 3) := by decide +kernel
theorem dX4_put_52 : decode cX4_put 52 = .ok (.iconst 0, 1) := by decide +kernel
theorem dX4_put_53 : decode cX4_put 53 = .ok (.iastore, 1) := by decide +kernel
theorem dX4_put_54 : decode cX4_put 54 = .ok (.iload_n 3, 1) := by decide +kernel
theorem dX4_put_55 : decode cX4_put 55 = .ok (.ireturn, 1) := by decide +kernel
theorem dX4_start_0 : decode cX4_start 0 = .ok (.aload_n 0, 1) := by decide +kernel
theorem dX4_start_1 : decode cX4_start 1 = .ok (.iload_n 1, 1) := by decide +kernel
theorem dX4_start_2 : decode cX4_start 2 = .ok (.invokevirtual 131, 3) := by decide +kernel
theorem dX4_start_5 : decode cX4_start 5 = .ok (.ifCond .ne 9, 3) := by decide +kernel
theorem dX4_start_8 : decode cX4_start 8 = .ok (.aload_n 0, 1) := by decide +kernel
theorem dX4_start_9 : decode cX4_start 9 = .ok (.iconst (-1), 1) := by decide +kernel
theorem dX4_start_10 : decode cX4_start 10 = .ok (.invokevirtual 38, 3) := by decide +kernel
theorem dX4_start_13 : decode cX4_start 13 = .ok (.ireturn, 1) := by decide +kernel
theorem dX4_start_14 : decode cX4_start 14 = .ok (.iload_n 2, 1) := by decide +kernel
theorem dX4_start_15 : decode cX4_start 15 = .ok (.ifCond .ge 10, 3) := by decide +kernel
theorem dX4_start_18 : decode cX4_start 18 = .ok (.aload_n 0, 1) := by decide +kernel
theorem dX4_start_19 : decode cX4_start 19 = .ok (.bipush (-4), 2) := by decide +kernel
theorem dX4_start_21 : decode cX4_start 21 = .ok (.invokevirtual 38, 3) := by decide +kernel
theorem dX4_start_24 : decode cX4_start 24 = .ok (.ireturn, 1) := by decide +kernel
theorem dX4_start_25 : decode cX4_start 25 = .ok (.iload_n 2, 1) := by decide +kernel
theorem dX4_start_26 : decode cX4_start 26 = .ok (.bipush 7, 2) := by decide +kernel
theorem dX4_start_28 : decode cX4_start 28 = .ok (.if_icmp .le 10, 3) := by decide +kernel
theorem dX4_start_31 : decode cX4_start 31 = .ok (.aload_n 0, 1) := by decide +kernel
theorem dX4_start_32 : decode cX4_start 32 = .ok (.bipush (-6), 2) := by decide +kernel
theorem dX4_start_34 : decode cX4_start 34 = .ok (.invokevirtual 38, 3) := by decide +kernel
theorem dX4_start_37 : decode cX4_start 37 = .ok (.ireturn, 1) := by decide +kernel
theorem dX4_start_38 : decode cX4_start 38 = .ok (.aload_n 0, 1) := by decide +kernel
theorem dX4_start_39 : decode cX4_start 39 = .ok (.getfield 9, 3) := by decide +kernel
theorem dX4_start_42 : decode cX4_start 42 = .ok (.iload_n 1, 1) := by decide +kernel
theorem dX4_start_43 : decode cX4_start 43 = .ok (.iconst 2, 1) := by decide +kernel
theorem dX4_start_44 : decode cX4_start 44 = .ok (.invokestatic 54, 3) := by decide +kernel
theorem dX4_start_47 : decode cX4_start 47 = .ok (.iaload, 1) := by decide +kernel
theorem dX4_start_48 : decode cX4_start 48 = .ok (.istore_n 3, 1) := by decide +kernel
theorem dX4_start_49 : decode cX4_start 49 = .ok (.aload_n 0, 1) := by decide +kernel
theorem dX4_start_50 : decode cX4_start 50 = .ok (.getfield 9, 3) := by decide +kernel
theorem dX4_start_53 : decode cX4_start 53 = .ok (.iload_n 1, 1) := by decide +kernel
theorem dX4_start_54 : decode cX4_start 54 = .ok (.iconst 2, 1) := by decide +kernel
theorem dX4_start_55 : decode cX4_start 55 = .ok (.invokestatic 54, 3) := by decide +kernel
theorem dX4_start_58 : decode cX4_start 58 = .ok (.iload_n 2, 1) := by decide +kernel
theorem dX4_start_59 : decode cX4_start 59 = .ok (.iastore, 1) := by decide +kernel
theorem dX4_start_60 : decode cX4_start 60 = .ok (.iload_n 3, 1) := by decide +kernel
theorem dX4_start_61 : decode cX4_start 61 = .ok (.ireturn, 1) := by decide +kernel
theorem dX4_write_0 : decode cX4_write 0 = .ok (.aload_n 0, 1) := by decide +kernel
theorem dX4_write_1 : decode cX4_write 1 = .ok (.iload_n 1, 1) := by decide +kernel
theorem dX4_write_2 : decode cX4_write 2 = .ok (.invokevirtual 131, 3) := by decide +kernel
theorem dX4_write_5 : decode cX4_write 5 = .ok (.ifCond .eq 11, 3) := by decide +kernel
theorem dX4_write_8 : decode cX4_write 8 = .ok (.aload_n 0, 1) := by decide +kernel
theorem dX4_write_9 : decode cX4_write 9 = .ok (.iload_n 2, 1) := by decide +kernel
theorem dX4_write_10 : decode cX4_write 10 = .ok (.invokevirtual 134, 3) := by decide +kernel
theorem dX4_write_13 : decode cX4_write 13 = .ok (.ifCond .ne 9, 3) := by decide +kernel
theorem dX4_write_16 : decode cX4_write 16 = .ok (.aload_n 0, 1) := by decide +kernel
theorem dX4_write_17 : decode cX4_write 17 = .ok (.iconst (-1), 1) := by decide +kernel
theorem dX4_write_18 : decode cX4_write 18 = .ok (.invokevirtual 38, 3) := by decide +kernel
theorem dX4_write_21 : decode cX4_write 21 = .ok (.ireturn, 1) := by decide +kernel
theorem dX4_write_22 : decode cX4_write 22 = .ok (.iload_n 3, 1) := by decide +kernel
theorem dX4_write_23 : decode cX4_write 23 = .ok (.ifCond .ge 10, 3) := by decide +kernel
theorem dX4_write_26 : decode cX4_write 26 = .ok (.aload_n 0, 1) := by decide +kernel
theorem dX4_write_27 : decode cX4_write 27 = .ok (.bipush (-4), 2) := by decide +kernel
theorem dX4_write_29 : decode cX4_write 29 = .ok (.invokevirtual 38, 3) := by decide +kernel
theorem dX4_write_32 : decode cX4_write 32 = .ok (.ireturn, 1) := by decide +kernel
theorem dX4_write_33 : decode cX4_write 33 = .ok (.iload_n 3, 1) := by decide +kernel
theorem dX4_write_34 : decode cX4_write 34 = .ok (.bipush 10, 2) := by decide +kernel
theorem dX4_write_36 : decode cX4_write 36 = .ok (.if_icmp .le 10, 3) := by decide +kernel
theorem dX4_write_39 : decode cX4_write 39 = .ok (.aload_n 0, 1) := by decide +kernel
theorem dX4_write_40 : decode cX4_write 40 = .ok (.bipush (-6), 2) := by decide +kernel
theorem dX4_write_42 : decode cX4_write 42 = .ok (.invokevirtual 38, 3) := by decide +kernel
theorem dX4_write_45 : decode cX4_write 45 = .ok (.ireturn, 1) := by decide +kernel
theorem dX4_write_46 : decode cX4_write 46 = .ok (.aload_n 0, 1) := by decide +kernel
theorem dX4_write_47 : decode cX4_write 47 = .ok (.getfield 9, 3) := by decide +kernel
theorem dX4_write_50 : decode cX4_write 50 = .ok (.iload_n 1, 1) := by decide +kernel
theorem dX4_write_51 : decode cX4_write 51 = .ok (.iload_n 2, 1) := by decide +kernel
theorem dX4_write_52 : decode cX4_write 52 = .ok (.invokestatic 57, 3) := by decide +kernel
theorem dX4_write_55 : decode cX4_write 55 = .ok (.iaload, 1) := by decide +kernel
theorem dX4_write_56 : decode cX4_write 56 = .ok (.istore 4, 2) := by decide +kernel
theorem dX4_write_58 : decode cX4_write 58 = .ok (.aload_n 0, 1) := by decide +kernel
theorem dX4_write_59 : decode cX4_write 59 = .ok (.getfield 9, 3) := by decide +kernel
theorem dX4_write_62 : decode cX4_write 62 = .ok (.iload_n 1, 1) := by decide +kernel
theorem dX4_write_63 : decode cX4_write 63 = .ok (.iload_n 2, 1) := by decide +kernel
theorem dX4_write_64 : decode cX4_write 64 = .ok (.invokestatic 57, 3) := by decide +kernel
theorem dX4_write_67 : decode cX4_write 67 = .ok (.iload_n 3, 1) := by decide +kernel
theorem dX4_write_68 : decode cX4_write 68 = .ok (.bipush 10, 2) := by decide +kernel
theorem dX4_write_70 : decode cX4_write 70 = .ok (.if_icmp .ne 8, 3) := by decide +kernel
theorem dX4_write_73 : decode cX4_write 73 = .ok (.bipush (-9), 2) := by decide +kernel
theorem dX4_write_75 : decode cX4_write 75 = .ok (.goto 4, 3) := by decide +kernel
theorem dX4_write_78 : decode cX4_write 78 = .ok (.iload_n 3, 1) := by decide +kernel
theorem dX4_write_79 : decode cX4_write 79 = .ok (.iastore, 1) := by decide +kernel
theorem dX4_write_80 : decode cX4_write 80 = .ok (.iload 4, 2) := by decide +kernel
theorem dX4_write_82 : decode cX4_write 82 = .ok (.ireturn, 1) := by decide +kernel
theorem dX4_minutes_0 : decode cX4_minutes 0 = .ok (.iload_n 1, 1) := by decide +kernel
theorem dX4_minutes_1 : decode cX4_minutes 1 = .ok (.iconst 1, 1) := by decide +kernel
theorem dX4_minutes_2 : decode cX4_minutes 2 = .ok (.if_icmp .ge 10, 3) := by decide +kernel
theorem dX4_minutes_5 : decode cX4_minutes 5 = .ok (.aload_n 0, 1) := by decide +kernel
theorem dX4_minutes_6 : decode cX4_minutes 6 = .ok (.bipush (-4), 2) := by decide +kernel
theorem dX4_minutes_8 : decode cX4_minutes 8 = .ok (.invokevirtual 38, 3) := by decide +kernel
theorem dX4_minutes_11 : decode cX4_minutes 11 = .ok (.ireturn, 1) := by decide +kernel
theorem dX4_minutes_12 : decode cX4_minutes 12 = .ok (.iload_n 1, 1) := by decide +kernel
theorem dX4_minutes_13 : decode cX4_minutes 13 = .ok (.bipush 60, 2) := by decide +kernel
theorem dX4_minutes_15 : decode cX4_minutes 15 = .ok (.if_icmp .gt 17, 3) := by decide +kernel
theorem dX4_minutes_18 : decode cX4_minutes 18 = .ok (.aload_n 0, 1) := by decide +kernel
theorem dX4_minutes_19 : decode cX4_minutes 19 = .ok (.getfield 9, 3) := by decide +kernel
theorem dX4_minutes_22 : decode cX4_minutes 22 = .ok (.iconst 2, 1) := by decide +kernel
theorem dX4_minutes_23 : decode cX4_minutes 23 = .ok (.iaload, 1) := by decide +kernel
theorem dX4_minutes_24 : decode cX4_minutes 24 = .ok (.iload_n 1, 1) := by decide +kernel
theorem dX4_minutes_25 : decode cX4_minutes 25 = .ok (.iadd, 1) := by decide +kernel
theorem dX4_minutes_26 : decode cX4_minutes 26 = .ok (.sipush 999, 3) := by decide +kernel
theorem dX4_minutes_29 : decode cX4_minutes 29 = .ok (.if_icmp .le 10, 3) := by decide +kernel
theorem dX4_minutes_32 : decode cX4_minutes 32 = .ok (.aload_n 0, 1) := by decide +kernel
theorem dX4_minutes_33 : decode cX4_minutes 33 = .ok (.bipush (-6), 2) := by decide +kernel
theorem dX4_minutes_35 : decode cX4_minutes 35 = .ok (.invokevirtual 38, 3) := by decide +kernel
theorem dX4_minutes_38 : decode cX4_minutes 38 = .ok (.ireturn, 1) := by decide +kernel
theorem dX4_minutes_39 : decode cX4_minutes 39 = .ok (.aload_n 0, 1) := by decide +kernel
theorem dX4_minutes_40 : decode cX4_minutes 40 = .ok (.aload_n 0, 1) := by decide +kernel
theorem dX4_minutes_41 : decode cX4_minutes 41 = .ok (.getfield 9, 3) := by decide +kernel
theorem dX4_minutes_44 : decode cX4_minutes 44 = .ok (.iload_n 1, 1) := by decide +kernel
theorem dX4_minutes_45 : decode cX4_minutes 45 = .ok (.invokevirtual 137, 3) := by decide +kernel
theorem dX4_minutes_48 : decode cX4_minutes 48 = .ok (.aload_n 0, 1) := by decide +kernel
theorem dX4_minutes_49 : decode cX4_minutes 49 = .ok (.getfield 9, 3) := by decide +kernel
theorem dX4_minutes_52 : decode cX4_minutes 52 = .ok (.invokestatic 149, 3) := by decide +kernel
theorem dX4_minutes_55 : decode cX4_minutes 55 = .ok (.ireturn, 1) := by decide +kernel
theorem dX4_wrongMinutes_0 : decode cX4_wrongMinutes 0 = .ok (.iload_n 0, 1) := by decide +kernel
theorem dX4_wrongMinutes_1 : decode cX4_wrongMinutes 1 = .ok (.ifCond .ge 8, 3) := by decide +kernel
theorem dX4_wrongMinutes_4 : decode cX4_wrongMinutes 4 = .ok (.bipush (-4), 2) := by decide +kernel
theorem dX4_wrongMinutes_6 : decode cX4_wrongMinutes 6 = .ok (.goto 15, 3) := by decide +kernel
theorem dX4_wrongMinutes_9 : decode cX4_wrongMinutes 9 = .ok (.iload_n 0, 1) := by decide +kernel
theorem dX4_wrongMinutes_10 : decode cX4_wrongMinutes 10 = .ok (.bipush 99, 2) := by decide +kernel
theorem dX4_wrongMinutes_12 : decode cX4_wrongMinutes 12 = .ok (.if_icmp .le 8, 3) := by decide +kernel
theorem dX4_wrongMinutes_15 : decode cX4_wrongMinutes 15 = .ok (.bipush (-6), 2) := by decide +kernel
theorem dX4_wrongMinutes_17 : decode cX4_wrongMinutes 17 = .ok (.goto 4, 3) := by decide +kernel
theorem dX4_wrongMinutes_20 : decode cX4_wrongMinutes 20 = .ok (.iconst 0, 1) := by decide +kernel
theorem dX4_wrongMinutes_21 : decode cX4_wrongMinutes 21 = .ok (.ireturn, 1) := by decide +kernel
theorem dX4_behind_0 : decode cX4_behind 0 = .ok (.aload_n 0, 1) := by decide +kernel
theorem dX4_behind_1 : decode cX4_behind 1 = .ok (.iload_n 1, 1) := by decide +kernel
theorem dX4_behind_2 : decode cX4_behind 2 = .ok (.invokevirtual 131, 3) := by decide +kernel
theorem dX4_behind_5 : decode cX4_behind 5 = .ok (.ifCond .ne 7, 3) := by decide +kernel
theorem dX4_behind_8 : decode cX4_behind 8 = .ok (.iconst (-1), 1) := by decide +kernel
theorem dX4_behind_9 : decode cX4_behind 9 = .ok (.goto 7, 3) := by decide +kernel
theorem dX4_behind_12 : decode cX4_behind 12 = .ok (.iload_n 2, 1) := by decide +kernel
theorem dX4_behind_13 : decode cX4_behind 13 = .ok (.invokestatic 153, 3) := by decide +kernel
theorem dX4_behind_16 : decode cX4_behind 16 = .ok (.istore 4, 2) := by decide +kernel
theorem dX4_behind_18 : decode cX4_behind 18 = .ok (.iload 4, 2) := by decide +kernel
theorem dX4_behind_20 : decode cX4_behind 20 = .ok (.ifCond .ne 16, 3) := by decide +kernel
theorem dX4_behind_23 : decode cX4_behind 23 = .ok (.iload_n 3, 1) := by decide +kernel
theorem dX4_behind_24 : decode cX4_behind 24 = .ok (.iconst 0, 1) := by decide +kernel
theorem dX4_behind_25 : decode cX4_behind 25 = .ok (.iconst 3, 1) := by decide +kernel
theorem dX4_behind_26 : decode cX4_behind 26 = .ok (.invokestatic 42, 3) := by decide +kernel
theorem dX4_behind_29 : decode cX4_behind 29 = .ok (.ifCond .ne 7, 3) := by decide +kernel
theorem dX4_behind_32 : decode cX4_behind 32 = .ok (.bipush (-2), 2) := by decide +kernel
theorem dX4_behind_34 : decode cX4_behind 34 = .ok (.istore 4, 2) := by decide +kernel
theorem dX4_behind_36 : decode cX4_behind 36 = .ok (.iload 4, 2) := by decide +kernel
theorem dX4_behind_38 : decode cX4_behind 38 = .ok (.ifCond .eq 10, 3) := by decide +kernel
theorem dX4_behind_41 : decode cX4_behind 41 = .ok (.aload_n 0, 1) := by decide +kernel
theorem dX4_behind_42 : decode cX4_behind 42 = .ok (.iload 4, 2) := by decide +kernel
theorem dX4_behind_44 : decode cX4_behind 44 = .ok (.invokevirtual 38, 3) := by decide +kernel
theorem dX4_behind_47 : decode cX4_behind 47 = .ok (.ireturn, 1) := by decide +kernel
theorem dX4_behind_48 : decode cX4_behind 48 = .ok (.aload_n 0, 1) := by decide +kernel
theorem dX4_behind_49 : decode cX4_behind 49 = .ok (.invokevirtual 156, 3) := by decide +kernel
theorem dX4_behind_52 : decode cX4_behind 52 = .ok (.aload_n 0, 1) := by decide +kernel
theorem dX4_behind_53 : decode cX4_behind 53 = .ok (.aload_n 0, 1) := by decide +kernel
theorem dX4_behind_54 : decode cX4_behind 54 = .ok (.getfield 13, 3) := by decide +kernel
theorem dX4_behind_57 : decode cX4_behind 57 = .ok (.iload_n 2, 1) := by decide +kernel
theorem dX4_behind_58 : decode cX4_behind 58 = .ok (.invokevirtual 137, 3) := by decide +kernel
theorem dX4_behind_61 : decode cX4_behind 61 = .ok (.iload_n 3, 1) := by decide +kernel
theorem dX4_behind_62 : decode cX4_behind 62 = .ok (.ifCond .ne 16, 3) := by decide +kernel
theorem dX4_behind_65 : decode cX4_behind 65 = .ok (.aload_n 0, 1) := by decide +kernel
theorem dX4_behind_66 : decode cX4_behind 66 = .ok (.getfield 13, 3) := by decide +kernel
theorem dX4_behind_69 : decode cX4_behind 69 = .ok (.iload_n 1, 1) := by decide +kernel
theorem dX4_behind_70 : decode cX4_behind 70 = .ok (.iconst 3, 1) := by decide +kernel
theorem dX4_behind_71 : decode cX4_behind 71 = .ok (.invokestatic 54, 3) := by decide +kernel
theorem dX4_behind_74 : decode cX4_behind 74 = .ok (.iaload, 1) := by decide +kernel
theorem dX4_behind_75 : decode cX4_behind 75 = .ok (.goto 43, 3) := by decide +kernel
theorem dX4_behind_78 : decode cX4_behind 78 = .ok (.iload_n 3, 1) := by decide +kernel
theorem dX4_behind_79 : decode cX4_behind 79 = .ok (.iconst 1, 1) := by decide +kernel
theorem dX4_behind_80 : decode cX4_behind 80 = .ok (.if_icmp .ne 14, 3) := by decide +kernel
theorem dX4_behind_83 : decode cX4_behind 83 = .ok (.aload_n 0, 1) := by decide +kernel
theorem dX4_behind_84 : decode cX4_behind 84 = .ok (.getfield 13, 3) := by decide +kernel
theorem dX4_behind_87 : decode cX4_behind 87 = .ok (.iload_n 1, 1) := by decide +kernel
theorem dX4_behind_88 : decode cX4_behind 88 = .ok (.invokestatic 95, 3) := by decide +kernel
theorem dX4_behind_91 : decode cX4_behind 91 = .ok (.goto 27, 3) := by decide +kernel
theorem dX4_behind_94 : decode cX4_behind 94 = .ok (.iload_n 3, 1) := by decide +kernel
theorem dX4_behind_95 : decode cX4_behind 95 = .ok (.iconst 2, 1) := by decide +kernel
theorem dX4_behind_96 : decode cX4_behind 96 = .ok (.if_icmp .ne 14, 3) := by decide +kernel
theorem dX4_behind_99 : decode cX4_behind 99 = .ok (.aload_n 0, 1) := by decide +kernel
theorem dX4_behind_100 : decode cX4_behind 100 = .ok (.getfield 13, 3) := by decide +kernel
theorem dX4_behind_103 : decode cX4_behind 103 = .ok (.iload_n 1, 1) := by decide +kernel
theorem dX4_behind_104 : decode cX4_behind 104 = .ok (.invokestatic 92, 3) := by decide +kernel
theorem dX4_behind_107 : decode cX4_behind 107 = .ok (.goto 11, 3) := by decide +kernel
theorem dX4_behind_110 : decode cX4_behind 110 = .ok (.aload_n 0, 1) := by decide +kernel
theorem dX4_behind_111 : decode cX4_behind 111 = .ok (.getfield 13, 3) := by decide +kernel
theorem dX4_behind_114 : decode cX4_behind 114 = .ok (.iload_n 1, 1) := by decide +kernel
theorem dX4_behind_115 : decode cX4_behind 115 = .ok (.invokestatic 159, 3) := by decide +kernel
theorem dX4_behind_118 : decode cX4_behind 118 = .ok (.ireturn, 1) := by decide +kernel
theorem dX4_doneIn_0 : decode cX4_doneIn 0 = .ok (.iconst 0, 1) := by decide +kernel
theorem dX4_doneIn_1 : decode cX4_doneIn 1 = .ok (.istore_n 2, 1) := by decide +kernel
theorem dX4_doneIn_2 : decode cX4_doneIn 2 = .ok (.iload_n 2, 1) := by decide +kernel
theorem dX4_doneIn_3 : decode cX4_doneIn 3 = .ok (.bipush 99, 2) := by decide +kernel
theorem dX4_doneIn_5 : decode cX4_doneIn 5 = .ok (.if_icmp .gt 30, 3) := by decide +kernel
theorem dX4_doneIn_8 : decode cX4_doneIn 8 = .ok (.aload_n 0, 1) := by decide +kernel
theorem dX4_doneIn_9 : decode cX4_doneIn 9 = .ok (.getfield 13, 3) := by decide +kernel
theorem dX4_doneIn_12 : decode cX4_doneIn 12 = .ok (.iload_n 1, 1) := by decide +kernel
theorem dX4_doneIn_13 : decode cX4_doneIn 13 = .ok (.invokestatic 98, 3) := by decide +kernel
theorem dX4_doneIn_16 : decode cX4_doneIn 16 = .ok (.ifCond .eq 5, 3) := by decide +kernel
theorem dX4_doneIn_19 : decode cX4_doneIn 19 = .ok (.iload_n 2, 1) := by decide +kernel
theorem dX4_doneIn_20 : decode cX4_doneIn 20 = .ok (.ireturn, 1) := by decide +kernel
theorem dX4_doneIn_21 : decode cX4_doneIn 21 = .ok (.aload_n 0, 1) := by decide +kernel
theorem dX4_doneIn_22 : decode cX4_doneIn 22 = .ok (.aload_n 0, 1) := by decide +kernel
theorem dX4_doneIn_23 : decode cX4_doneIn 23 = .ok (.getfield 13, 3) := by decide +kernel
theorem dX4_doneIn_26 : decode cX4_doneIn 26 = .ok (.invokevirtual 84, 3) := by decide +kernel
theorem dX4_doneIn_29 : decode cX4_doneIn 29 = .ok (.iinc 2 1, 3) := by decide +kernel
theorem dX4_doneIn_32 : decode cX4_doneIn 32 = .ok (.goto (-30), 3) := by decide +kernel
theorem dX4_doneIn_35 : decode cX4_doneIn 35 = .ok (.bipush (-9), 2) := by decide +kernel
theorem dX4_doneIn_37 : decode cX4_doneIn 37 = .ok (.ireturn, 1) := by decide +kernel
theorem dX4_allDoneIn_0 : decode cX4_allDoneIn 0 = .ok (.iconst 0, 1) := by decide +kernel
theorem dX4_allDoneIn_1 : decode cX4_allDoneIn 1 = .ok (.istore_n 1, 1) := by decide +kernel
theorem dX4_allDoneIn_2 : decode cX4_allDoneIn 2 = .ok (.iload_n 1, 1) := by decide +kernel
theorem dX4_allDoneIn_3 : decode cX4_allDoneIn 3 = .ok (.bipush 99, 2) := by decide +kernel
theorem dX4_allDoneIn_5 : decode cX4_allDoneIn 5 = .ok (.if_icmp .gt 29, 3) := by decide +kernel
theorem dX4_allDoneIn_8 : decode cX4_allDoneIn 8 = .ok (.aload_n 0, 1) := by decide +kernel
theorem dX4_allDoneIn_9 : decode cX4_allDoneIn 9 = .ok (.getfield 13, 3) := by decide +kernel
theorem dX4_allDoneIn_12 : decode cX4_allDoneIn 12 = .ok (.invokestatic 162, 3) := by decide +kernel
theorem dX4_allDoneIn_15 : decode cX4_allDoneIn 15 = .ok (.ifCond .eq 5, 3) := by decide +kernel
theorem dX4_allDoneIn_18 : decode cX4_allDoneIn 18 = .ok (.iload_n 1, 1) := by decide +kernel
theorem dX4_allDoneIn_19 : decode cX4_allDoneIn 19 = .ok (.ireturn, 1) := by decide +kernel
theorem dX4_allDoneIn_20 : decode cX4_allDoneIn 20 = .ok (.aload_n 0, 1) := by decide +kernel
theorem dX4_allDoneIn_21 : decode cX4_allDoneIn 21 = .ok (.aload_n 0, 1) := by decide +kernel
theorem dX4_allDoneIn_22 : decode cX4_allDoneIn 22 = .ok (.getfield 13, 3) := by decide +kernel
theorem dX4_allDoneIn_25 : decode cX4_allDoneIn 25 = .ok (.invokevirtual 84, 3) := by decide +kernel
theorem dX4_allDoneIn_28 : decode cX4_allDoneIn 28 = .ok (.iinc 1 1, 3) := by decide +kernel
theorem dX4_allDoneIn_31 : decode cX4_allDoneIn 31 = .ok (.goto (-29), 3) := by decide +kernel
theorem dX4_allDoneIn_34 : decode cX4_allDoneIn 34 = .ok (.bipush (-9), 2) := by decide +kernel
theorem dX4_allDoneIn_36 : decode cX4_allDoneIn 36 = .ok (.ireturn, 1) := by decide +kernel
theorem dX4_doneNow_0 : decode cX4_doneNow 0 = .ok (.aload_n 0, 1) := by decide +kernel
theorem dX4_doneNow_1 : decode cX4_doneNow 1 = .ok (.getfield 9, 3) := by decide +kernel
theorem dX4_doneNow_4 : decode cX4_doneNow 4 = .ok (.aload_n 0, 1) := by decide +kernel
theorem dX4_doneNow_5 : decode cX4_doneNow 5 = .ok (.getfield 13, 3) := by decide +kernel
theorem dX4_doneNow_8 : decode cX4_doneNow 8 = .ok (.invokestatic 88, 3) := by decide +kernel
theorem dX4_doneNow_11 : decode cX4_doneNow 11 = .ok (.aload_n 0, 1) := by decide +kernel
theorem dX4_doneNow_12 : decode cX4_doneNow 12 = .ok (.iload_n 1, 1) := by decide +kernel
theorem dX4_doneNow_13 : decode cX4_doneNow 13 = .ok (.invokevirtual 166, 3) := by decide +kernel
theorem dX4_doneNow_16 : decode cX4_doneNow 16 = .ok (.ireturn, 1) := by decide +kernel
theorem dX4_done_0 : decode cX4_done 0 = .ok (.aload_n 0, 1) := by decide +kernel
theorem dX4_done_1 : decode cX4_done 1 = .ok (.iload_n 1, 1) := by decide +kernel
theorem dX4_done_2 : decode cX4_done 2 = .ok (.invokevirtual 131, 3) := by decide +kernel
theorem dX4_done_5 : decode cX4_done 5 = .ok (.ifCond .eq 11, 3) := by decide +kernel
theorem dX4_done_8 : decode cX4_done 8 = .ok (.aload_n 0, 1) := by decide +kernel
theorem dX4_done_9 : decode cX4_done 9 = .ok (.iload_n 1, 1) := by decide +kernel
theorem dX4_done_10 : decode cX4_done 10 = .ok (.invokevirtual 169, 3) := by decide +kernel
theorem dX4_done_13 : decode cX4_done 13 = .ok (.goto 8, 3) := by decide +kernel
theorem dX4_done_16 : decode cX4_done 16 = .ok (.aload_n 0, 1) := by decide +kernel
theorem dX4_done_17 : decode cX4_done 17 = .ok (.iconst (-1), 1) := by decide +kernel
theorem dX4_done_18 : decode cX4_done 18 = .ok (.invokevirtual 38, 3) := by decide +kernel
theorem dX4_done_21 : decode cX4_done 21 = .ok (.ireturn, 1) := by decide +kernel
theorem dX4_ended_0 : decode cX4_ended 0 = .ok (.iload_n 1, 1) := by decide +kernel
theorem dX4_ended_1 : decode cX4_ended 1 = .ok (.iconst 0, 1) := by decide +kernel
theorem dX4_ended_2 : decode cX4_ended 2 = .ok (.iconst 1, 1) := by decide +kernel
theorem dX4_ended_3 : decode cX4_ended 3 = .ok (.invokestatic 42, 3) := by decide +kernel
theorem dX4_ended_6 : decode cX4_ended 6 = .ok (.ifCond .ne 10, 3) := by decide +kernel
theorem dX4_ended_9 : decode cX4_ended 9 = .ok (.aload_n 0, 1) := by decide +kernel
theorem dX4_ended_10 : decode cX4_ended 10 = .ok (.bipush (-2), 2) := by decide +kernel
theorem dX4_ended_12 : decode cX4_ended 12 = .ok (.invokevirtual 38, 3) := by decide +kernel
theorem dX4_ended_15 : decode cX4_ended 15 = .ok (.ireturn, 1) := by decide +kernel
theorem dX4_ended_16 : decode cX4_ended 16 = .ok (.iload_n 1, 1) := by decide +kernel
theorem dX4_ended_17 : decode cX4_ended 17 = .ok (.iconst 1, 1) := by decide +kernel
theorem dX4_ended_18 : decode cX4_ended 18 = .ok (.if_icmp .ne 19, 3) := by decide +kernel
theorem dX4_ended_21 : decode cX4_ended 21 = .ok (.aload_n 0, 1) := by decide +kernel
theorem dX4_ended_22 : decode cX4_ended 22 = .ok (.getfield 9, 3) := by decide +kernel
theorem dX4_ended_25 : decode cX4_ended 25 = .ok (.aload_n 0, 1) := by decide +kernel
theorem dX4_ended_26 : decode cX4_ended 26 = .ok (.getfield 13, 3) := by decide +kernel
theorem dX4_ended_29 : decode cX4_ended 29 = .ok (.invokestatic 88, 3) := by decide +kernel
theorem dX4_ended_32 : decode cX4_ended 32 = .ok (.aload_n 0, 1) := by decide +kernel
theorem dX4_ended_33 : decode cX4_ended 33 = .ok (.invokevirtual 172, 3) := by decide +kernel
theorem dX4_ended_36 : decode cX4_ended 36 = .ok (.ireturn, 1) := by decide +kernel
theorem dX4_ended_37 : decode cX4_ended 37 = .ok (.bipush (-9), 2) := by decide +kernel
theorem dX4_ended_39 : decode cX4_ended 39 = .ok (.istore_n 2, 1) := by decide +kernel
theorem dX4_ended_40 : decode cX4_ended 40 = .ok (.ldc 37, 2) := by decide +kernel
theorem dX4_ended_42 : decode cX4_ended 42 = .ok (.istore_n 3, 1) := by decide +kernel
theorem dX4_ended_43 : decode cX4_ended 43 = .ok (.iconst 0, 1) := by decide +kernel
theorem dX4_ended_44 : decode cX4_ended 44 = .ok (.istore 4, 2) := by decide +kernel
theorem dX4_ended_46 : decode cX4_ended 46 = .ok (.iload 4, 2) := by decide +kernel
theorem dX4_ended_48 : decode cX4_ended 48 = .ok (.aload_n 0, 1) := by decide +kernel
theorem dX4_ended_49 : decode cX4_ended 49 = .ok (.getfield 9, 3) := by decide +kernel
theorem dX4_ended_52 : decode cX4_ended 52 = .ok (.iconst 1, 1) := by decide +kernel
theorem dX4_ended_53 : decode cX4_ended 53 = .ok (.iaload, 1) := by decide +kernel
theorem dX4_ended_54 : decode cX4_ended 54 = .ok (.if_icmp .ge 37, 3) := by decide +kernel
theorem dX4_ended_57 : decode cX4_ended 57 = .ok (.aload_n 0, 1) := by decide +kernel
theorem dX4_ended_58 : decode cX4_ended 58 = .ok (.iload 4, 2) := by decide +kernel
theorem dX4_ended_60 : decode cX4_ended 60 = .ok (.invokevirtual 169, 3) := by decide +kernel
theorem dX4_ended_63 : decode cX4_ended 63 = .ok (.istore 5, 2) := by decide +kernel
theorem dX4_ended_65 : decode cX4_ended 65 = .ok (.iload 5, 2) := by decide +kernel
theorem dX4_ended_67 : decode cX4_ended 67 = .ok (.ifCond .lt 18, 3) := by decide +kernel
theorem dX4_ended_70 : decode cX4_ended 70 = .ok (.iload 5, 2) := by decide +kernel
theorem dX4_ended_72 : decode cX4_ended 72 = .ok (.iload_n 3, 1) := by decide +kernel
theorem dX4_ended_73 : decode cX4_ended 73 = .ok (.if_icmp .lt 6, 3) := by decide +kernel
theorem dX4_ended_76 : decode cX4_ended 76 = .ok (.goto 9, 3) := by decide +kernel
theorem dX4_ended_79 : decode cX4_ended 79 = .ok (.iload 4, 2) := by decide +kernel
theorem dX4_ended_81 : decode cX4_ended 81 = .ok (.istore_n 2, 1) := by decide +kernel
theorem dX4_ended_82 : decode cX4_ended 82 = .ok (.iload 5, 2) := by decide +kernel
theorem dX4_ended_84 : decode cX4_ended 84 = .ok (.istore_n 3, 1) := by decide +kernel
theorem dX4_ended_85 : decode cX4_ended 85 = .ok (.iinc 4 1, 3) := by decide +kernel
theorem dX4_ended_88 : decode cX4_ended 88 = .ok (.goto (-42), 3) := by decide +kernel
theorem dX4_ended_91 : decode cX4_ended 91 = .ok (.iload_n 2, 1) := by decide +kernel
theorem dX4_ended_92 : decode cX4_ended 92 = .ok (.ireturn, 1) := by decide +kernel
theorem dX4_answer_0 : decode cX4_answer 0 = .ok (.aload_n 0, 1) := by decide +kernel
theorem dX4_answer_1 : decode cX4_answer 1 = .ok (.iload_n 1, 1) := by decide +kernel
theorem dX4_answer_2 : decode cX4_answer 2 = .ok (.invokevirtual 131, 3) := by decide +kernel
theorem dX4_answer_5 : decode cX4_answer 5 = .ok (.ifCond .eq 11, 3) := by decide +kernel
theorem dX4_answer_8 : decode cX4_answer 8 = .ok (.aload_n 0, 1) := by decide +kernel
theorem dX4_answer_9 : decode cX4_answer 9 = .ok (.iload_n 2, 1) := by decide +kernel
theorem dX4_answer_10 : decode cX4_answer 10 = .ok (.invokevirtual 134, 3) := by decide +kernel
theorem dX4_answer_13 : decode cX4_answer 13 = .ok (.ifCond .ne 9, 3) := by decide +kernel
theorem dX4_answer_16 : decode cX4_answer 16 = .ok (.aload_n 0, 1) := by decide +kernel
theorem dX4_answer_17 : decode cX4_answer 17 = .ok (.iconst (-1), 1) := by decide +kernel
theorem dX4_answer_18 : decode cX4_answer 18 = .ok (.invokevirtual 38, 3) := by decide +kernel
theorem dX4_answer_21 : decode cX4_answer 21 = .ok (.ireturn, 1) := by decide +kernel
theorem dX4_answer_22 : decode cX4_answer 22 = .ok (.iload_n 3, 1) := by decide +kernel
theorem dX4_answer_23 : decode cX4_answer 23 = .ok (.iconst 0, 1) := by decide +kernel
theorem dX4_answer_24 : decode cX4_answer 24 = .ok (.iconst 1, 1) := by decide +kernel
theorem dX4_answer_25 : decode cX4_answer 25 = .ok (.invokestatic 42, 3) := by decide +kernel
theorem dX4_answer_28 : decode cX4_answer 28 = .ok (.ifCond .ne 10, 3) := by decide +kernel
theorem dX4_answer_31 : decode cX4_answer 31 = .ok (.aload_n 0, 1) := by decide +kernel
theorem dX4_answer_32 : decode cX4_answer 32 = .ok (.bipush (-2), 2) := by decide +kernel
theorem dX4_answer_34 : decode cX4_answer 34 = .ok (.invokevirtual 38, 3) := by decide +kernel
theorem dX4_answer_37 : decode cX4_answer 37 = .ok (.ireturn, 1) := by decide +kernel
theorem dX4_answer_38 : decode cX4_answer 38 = .ok (.aload_n 0, 1) := by decide +kernel
theorem dX4_answer_39 : decode cX4_answer 39 = .ok (.invokevirtual 156, 3) := by decide +kernel
theorem dX4_answer_42 : decode cX4_answer 42 = .ok (.aload_n 0, 1) := by decide +kernel
theorem dX4_answer_43 : decode cX4_answer 43 = .ok (.aload_n 0, 1) := by decide +kernel
theorem dX4_answer_44 : decode cX4_answer 44 = .ok (.getfield 13, 3) := by decide +kernel
theorem dX4_answer_47 : decode cX4_answer 47 = .ok (.bipush 99, 2) := by decide +kernel
theorem dX4_answer_49 : decode cX4_answer 49 = .ok (.invokevirtual 137, 3) := by decide +kernel
theorem dX4_answer_52 : decode cX4_answer 52 = .ok (.aload_n 0, 1) := by decide +kernel
theorem dX4_answer_53 : decode cX4_answer 53 = .ok (.getfield 13, 3) := by decide +kernel
theorem dX4_answer_56 : decode cX4_answer 56 = .ok (.iload_n 3, 1) := by decide +kernel
theorem dX4_answer_57 : decode cX4_answer 57 = .ok (.ifCond .ne 11, 3) := by decide +kernel
theorem dX4_answer_60 : decode cX4_answer 60 = .ok (.iload_n 1, 1) := by decide +kernel
theorem dX4_answer_61 : decode cX4_answer 61 = .ok (.iload_n 2, 1) := by decide +kernel
theorem dX4_answer_62 : decode cX4_answer 62 = .ok (.invokestatic 57, 3) := by decide +kernel
theorem dX4_answer_65 : decode cX4_answer 65 = .ok (.goto 8, 3) := by decide +kernel
theorem dX4_answer_68 : decode cX4_answer 68 = .ok (.iload_n 1, 1) := by decide +kernel
theorem dX4_answer_69 : decode cX4_answer 69 = .ok (.iload_n 2, 1) := by decide +kernel
theorem dX4_answer_70 : decode cX4_answer 70 = .ok (.invokestatic 64, 3) := by decide +kernel
theorem dX4_answer_73 : decode cX4_answer 73 = .ok (.iaload, 1) := by decide +kernel
theorem dX4_answer_74 : decode cX4_answer 74 = .ok (.ireturn, 1) := by decide +kernel
theorem dX4_inRoom_0 : decode cX4_inRoom 0 = .ok (.iconst 0, 1) := by decide +kernel
theorem dX4_inRoom_1 : decode cX4_inRoom 1 = .ok (.istore_n 2, 1) := by decide +kernel
theorem dX4_inRoom_2 : decode cX4_inRoom 2 = .ok (.iconst 0, 1) := by decide +kernel
theorem dX4_inRoom_3 : decode cX4_inRoom 3 = .ok (.istore_n 3, 1) := by decide +kernel
theorem dX4_inRoom_4 : decode cX4_inRoom 4 = .ok (.iload_n 3, 1) := by decide +kernel
theorem dX4_inRoom_5 : decode cX4_inRoom 5 = .ok (.aload_n 0, 1) := by decide +kernel
theorem dX4_inRoom_6 : decode cX4_inRoom 6 = .ok (.iconst 1, 1) := by decide +kernel
theorem dX4_inRoom_7 : decode cX4_inRoom 7 = .ok (.iaload, 1) := by decide +kernel
theorem dX4_inRoom_8 : decode cX4_inRoom 8 = .ok (.if_icmp .ge 28, 3) := by decide +kernel
theorem dX4_inRoom_11 : decode cX4_inRoom 11 = .ok (.iload_n 2, 1) := by decide +kernel
theorem dX4_inRoom_12 : decode cX4_inRoom 12 = .ok (.aload_n 0, 1) := by decide +kernel
theorem dX4_inRoom_13 : decode cX4_inRoom 13 = .ok (.iload_n 3, 1) := by decide +kernel
theorem dX4_inRoom_14 : decode cX4_inRoom 14 = .ok (.iconst 3, 1) := by decide +kernel
theorem dX4_inRoom_15 : decode cX4_inRoom 15 = .ok (.invokestatic 54, 3) := by decide +kernel
theorem dX4_inRoom_18 : decode cX4_inRoom 18 = .ok (.iaload, 1) := by decide +kernel
theorem dX4_inRoom_19 : decode cX4_inRoom 19 = .ok (.iload_n 1, 1) := by decide +kernel
theorem dX4_inRoom_20 : decode cX4_inRoom 20 = .ok (.if_icmp .ne 7, 3) := by decide +kernel
theorem dX4_inRoom_23 : decode cX4_inRoom 23 = .ok (.iconst 1, 1) := by decide +kernel
theorem dX4_inRoom_24 : decode cX4_inRoom 24 = .ok (.goto 4, 3) := by decide +kernel
theorem dX4_inRoom_27 : decode cX4_inRoom 27 = .ok (.iconst 0, 1) := by decide +kernel
theorem dX4_inRoom_28 : decode cX4_inRoom 28 = .ok (.iadd, 1) := by decide +kernel
theorem dX4_inRoom_29 : decode cX4_inRoom 29 = .ok (.istore_n 2, 1) := by decide +kernel
theorem dX4_inRoom_30 : decode cX4_inRoom 30 = .ok (.iinc 3 1, 3) := by decide +kernel
theorem dX4_inRoom_33 : decode cX4_inRoom 33 = .ok (.goto (-29), 3) := by decide +kernel
theorem dX4_inRoom_36 : decode cX4_inRoom 36 = .ok (.iload_n 2, 1) := by decide +kernel
theorem dX4_inRoom_37 : decode cX4_inRoom 37 = .ok (.ireturn, 1) := by decide +kernel
theorem dX4_findsFull_0 : decode cX4_findsFull 0 = .ok (.aload_n 0, 1) := by decide +kernel
theorem dX4_findsFull_1 : decode cX4_findsFull 1 = .ok (.iconst 0, 1) := by decide +kernel
theorem dX4_findsFull_2 : decode cX4_findsFull 2 = .ok (.putfield 175, 3) := by decide +kernel
theorem dX4_findsFull_5 : decode cX4_findsFull 5 = .ok (.aload_n 0, 1) := by decide +kernel
theorem dX4_findsFull_6 : decode cX4_findsFull 6 = .ok (.iconst 0, 1) := by decide +kernel
theorem dX4_findsFull_7 : decode cX4_findsFull 7 = .ok (.putfield 178, 3) := by decide +kernel
theorem dX4_findsFull_10 : decode cX4_findsFull 10 = .ok (.aload_n 0, 1) := by decide +kernel
theorem dX4_findsFull_11 : decode cX4_findsFull 11 = .ok (.iconst 0, 1) := by decide +kernel
theorem dX4_findsFull_12 : decode cX4_findsFull 12 = .ok (.putfield 181, 3) := by decide +kernel
theorem dX4_findsFull_15 : decode cX4_findsFull 15 = .ok (.iconst 0, 1) := by decide +kernel
theorem dX4_findsFull_16 : decode cX4_findsFull 16 = .ok (.istore_n 2, 1) := by decide +kernel
theorem dX4_findsFull_17 : decode cX4_findsFull 17 = .ok (.iload_n 2, 1) := by decide +kernel
theorem dX4_findsFull_18 : decode cX4_findsFull 18 = .ok (.iload_n 1, 1) := by decide +kernel
theorem dX4_findsFull_19 : decode cX4_findsFull 19 = .ok (.if_icmp .gt 71, 3) := by decide +kernel
theorem dX4_findsFull_22 : decode cX4_findsFull 22 = .ok (.iconst 0, 1) := by decide +kernel
theorem dX4_findsFull_23 : decode cX4_findsFull 23 = .ok (.istore_n 3, 1) := by decide +kernel
theorem dX4_findsFull_24 : decode cX4_findsFull 24 = .ok (.iload_n 3, 1) := by decide +kernel
theorem dX4_findsFull_25 : decode cX4_findsFull 25 = .ok (.bipush 7, 2) := by decide +kernel
theorem dX4_findsFull_27 : decode cX4_findsFull 27 = .ok (.if_icmp .ge 49, 3) := by decide +kernel
theorem dX4_findsFull_30 : decode cX4_findsFull 30 = .ok (.aload_n 0, 1) := by decide +kernel
theorem dX4_findsFull_31 : decode cX4_findsFull 31 = .ok (.getfield 13, 3) := by decide +kernel
theorem dX4_findsFull_34 : decode cX4_findsFull 34 = .ok (.iload_n 3, 1) := by decide +kernel
theorem dX4_findsFull_35 : decode cX4_findsFull 35 = .ok (.invokestatic 184, 3) := by decide +kernel
theorem dX4_findsFull_38 : decode cX4_findsFull 38 = .ok (.aload_n 0, 1) := by decide +kernel
theorem dX4_findsFull_39 : decode cX4_findsFull 39 = .ok (.getfield 175, 3) := by decide +kernel
theorem dX4_findsFull_42 : decode cX4_findsFull 42 = .ok (.if_icmp .gt 6, 3) := by decide +kernel
theorem dX4_findsFull_45 : decode cX4_findsFull 45 = .ok (.goto 25, 3) := by decide +kernel
theorem dX4_findsFull_48 : decode cX4_findsFull 48 = .ok (.aload_n 0, 1) := by decide +kernel
theorem dX4_findsFull_49 : decode cX4_findsFull 49 = .ok (.aload_n 0, 1) := by decide +kernel
theorem dX4_findsFull_50 : decode cX4_findsFull 50 = .ok (.getfield 13, 3) := by decide +kernel
theorem dX4_findsFull_53 : decode cX4_findsFull 53 = .ok (.iload_n 3, 1) := by decide +kernel
theorem dX4_findsFull_54 : decode cX4_findsFull 54 = .ok (.invokestatic 184, 3) := by decide +kernel
theorem dX4_findsFull_57 : decode cX4_findsFull 57 = .ok (.putfield 175, 3) := by decide +kernel
theorem dX4_findsFull_60 : decode cX4_findsFull 60 = .ok (.aload_n 0, 1) := by decide +kernel
theorem dX4_findsFull_61 : decode cX4_findsFull 61 = .ok (.iload_n 2, 1) := by decide +kernel
theorem dX4_findsFull_62 : decode cX4_findsFull 62 = .ok (.putfield 178, 3) := by decide +kernel
theorem dX4_findsFull_65 : decode cX4_findsFull 65 = .ok (.aload_n 0, 1) := by decide +kernel
theorem dX4_findsFull_66 : decode cX4_findsFull 66 = .ok (.iload_n 3, 1) := by decide +kernel
theorem dX4_findsFull_67 : decode cX4_findsFull 67 = .ok (.putfield 181, 3) := by decide +kernel
theorem dX4_findsFull_70 : decode cX4_findsFull 70 = .ok (.iinc 3 1, 3) := by decide +kernel
theorem dX4_findsFull_73 : decode cX4_findsFull 73 = .ok (.goto (-49), 3) := by decide +kernel
theorem dX4_findsFull_76 : decode cX4_findsFull 76 = .ok (.aload_n 0, 1) := by decide +kernel
theorem dX4_findsFull_77 : decode cX4_findsFull 77 = .ok (.aload_n 0, 1) := by decide +kernel
theorem dX4_findsFull_78 : decode cX4_findsFull 78 = .ok (.getfield 13, 3) := by decide +kernel
theorem dX4_findsFull_81 : decode cX4_findsFull 81 = .ok (.invokevirtual 84, 3) := by decide +kernel
theorem dX4_findsFull_84 : decode cX4_findsFull 84 = .ok (.iinc 2 1, 3) := by decide +kernel
theorem dX4_findsFull_87 : decode cX4_findsFull 87 = .ok (.goto (-70), 3) := by decide +kernel
theorem dX4_findsFull_90 : decode cX4_findsFull 90 = .ok (.return_, 1) := by decide +kernel
theorem dX4_full_0 : decode cX4_full 0 = .ok (.iload_n 1, 1) := by decide +kernel
theorem dX4_full_1 : decode cX4_full 1 = .ok (.invokestatic 153, 3) := by decide +kernel
theorem dX4_full_4 : decode cX4_full 4 = .ok (.istore_n 3, 1) := by decide +kernel
theorem dX4_full_5 : decode cX4_full 5 = .ok (.iload_n 3, 1) := by decide +kernel
theorem dX4_full_6 : decode cX4_full 6 = .ok (.ifCond .ne 15, 3) := by decide +kernel
theorem dX4_full_9 : decode cX4_full 9 = .ok (.iload_n 2, 1) := by decide +kernel
theorem dX4_full_10 : decode cX4_full 10 = .ok (.iconst 0, 1) := by decide +kernel
theorem dX4_full_11 : decode cX4_full 11 = .ok (.iconst 2, 1) := by decide +kernel
theorem dX4_full_12 : decode cX4_full 12 = .ok (.invokestatic 42, 3) := by decide +kernel
theorem dX4_full_15 : decode cX4_full 15 = .ok (.ifCond .ne 6, 3) := by decide +kernel
theorem dX4_full_18 : decode cX4_full 18 = .ok (.bipush (-2), 2) := by decide +kernel
theorem dX4_full_20 : decode cX4_full 20 = .ok (.istore_n 3, 1) := by decide +kernel
theorem dX4_full_21 : decode cX4_full 21 = .ok (.iload_n 3, 1) := by decide +kernel
theorem dX4_full_22 : decode cX4_full 22 = .ok (.ifCond .eq 9, 3) := by decide +kernel
theorem dX4_full_25 : decode cX4_full 25 = .ok (.aload_n 0, 1) := by decide +kernel
theorem dX4_full_26 : decode cX4_full 26 = .ok (.iload_n 3, 1) := by decide +kernel
theorem dX4_full_27 : decode cX4_full 27 = .ok (.invokevirtual 38, 3) := by decide +kernel
theorem dX4_full_30 : decode cX4_full 30 = .ok (.ireturn, 1) := by decide +kernel
theorem dX4_full_31 : decode cX4_full 31 = .ok (.aload_n 0, 1) := by decide +kernel
theorem dX4_full_32 : decode cX4_full 32 = .ok (.getfield 9, 3) := by decide +kernel
theorem dX4_full_35 : decode cX4_full 35 = .ok (.aload_n 0, 1) := by decide +kernel
theorem dX4_full_36 : decode cX4_full 36 = .ok (.getfield 13, 3) := by decide +kernel
theorem dX4_full_39 : decode cX4_full 39 = .ok (.invokestatic 88, 3) := by decide +kernel
theorem dX4_full_42 : decode cX4_full 42 = .ok (.aload_n 0, 1) := by decide +kernel
theorem dX4_full_43 : decode cX4_full 43 = .ok (.iload_n 1, 1) := by decide +kernel
theorem dX4_full_44 : decode cX4_full 44 = .ok (.invokevirtual 187, 3) := by decide +kernel
theorem dX4_full_47 : decode cX4_full 47 = .ok (.iload_n 2, 1) := by decide +kernel
theorem dX4_full_48 : decode cX4_full 48 = .ok (.ifCond .ne 10, 3) := by decide +kernel
theorem dX4_full_51 : decode cX4_full 51 = .ok (.aload_n 0, 1) := by decide +kernel
theorem dX4_full_52 : decode cX4_full 52 = .ok (.getfield 175, 3) := by decide +kernel
theorem dX4_full_55 : decode cX4_full 55 = .ok (.goto 19, 3) := by decide +kernel
theorem dX4_full_58 : decode cX4_full 58 = .ok (.iload_n 2, 1) := by decide +kernel
theorem dX4_full_59 : decode cX4_full 59 = .ok (.iconst 1, 1) := by decide +kernel
theorem dX4_full_60 : decode cX4_full 60 = .ok (.if_icmp .ne 10, 3) := by decide +kernel
theorem dX4_full_63 : decode cX4_full 63 = .ok (.aload_n 0, 1) := by decide +kernel
theorem dX4_full_64 : decode cX4_full 64 = .ok (.getfield 178, 3) := by decide +kernel
theorem dX4_full_67 : decode cX4_full 67 = .ok (.goto 7, 3) := by decide +kernel
theorem dX4_full_70 : decode cX4_full 70 = .ok (.aload_n 0, 1) := by decide +kernel
theorem dX4_full_71 : decode cX4_full 71 = .ok (.getfield 181, 3) := by decide +kernel
theorem dX4_full_74 : decode cX4_full 74 = .ok (.ireturn, 1) := by decide +kernel
theorem dX4_right_0 : decode cX4_right 0 = .ok (.iload_n 1, 1) := by decide +kernel
theorem dX4_right_1 : decode cX4_right 1 = .ok (.invokestatic 153, 3) := by decide +kernel
theorem dX4_right_4 : decode cX4_right 4 = .ok (.istore_n 2, 1) := by decide +kernel
theorem dX4_right_5 : decode cX4_right 5 = .ok (.iload_n 2, 1) := by decide +kernel
theorem dX4_right_6 : decode cX4_right 6 = .ok (.ifCond .eq 9, 3) := by decide +kernel
theorem dX4_right_9 : decode cX4_right 9 = .ok (.aload_n 0, 1) := by decide +kernel
theorem dX4_right_10 : decode cX4_right 10 = .ok (.iload_n 2, 1) := by decide +kernel
theorem dX4_right_11 : decode cX4_right 11 = .ok (.invokevirtual 38, 3) := by decide +kernel
theorem dX4_right_14 : decode cX4_right 14 = .ok (.ireturn, 1) := by decide +kernel
theorem dX4_right_15 : decode cX4_right 15 = .ok (.aload_n 0, 1) := by decide +kernel
theorem dX4_right_16 : decode cX4_right 16 = .ok (.getfield 9, 3) := by decide +kernel
theorem dX4_right_19 : decode cX4_right 19 = .ok (.aload_n 0, 1) := by decide +kernel
theorem dX4_right_20 : decode cX4_right 20 = .ok (.getfield 13, 3) := by decide +kernel
theorem dX4_right_23 : decode cX4_right 23 = .ok (.invokestatic 88, 3) := by decide +kernel
theorem dX4_right_26 : decode cX4_right 26 = .ok (.aload_n 0, 1) := by decide +kernel
theorem dX4_right_27 : decode cX4_right 27 = .ok (.aload_n 0, 1) := by decide +kernel
theorem dX4_right_28 : decode cX4_right 28 = .ok (.getfield 13, 3) := by decide +kernel
theorem dX4_right_31 : decode cX4_right 31 = .ok (.iload_n 1, 1) := by decide +kernel
theorem dX4_right_32 : decode cX4_right 32 = .ok (.invokevirtual 137, 3) := by decide +kernel
theorem dX4_right_35 : decode cX4_right 35 = .ok (.aload_n 0, 1) := by decide +kernel
theorem dX4_right_36 : decode cX4_right 36 = .ok (.getfield 13, 3) := by decide +kernel
theorem dX4_right_39 : decode cX4_right 39 = .ok (.invokestatic 149, 3) := by decide +kernel
theorem dX4_right_42 : decode cX4_right 42 = .ok (.ireturn, 1) := by decide +kernel
theorem dX4_bestFirst_0 : decode cX4_bestFirst 0 = .ok (.aload_n 0, 1) := by decide +kernel
theorem dX4_bestFirst_1 : decode cX4_bestFirst 1 = .ok (.iload_n 1, 1) := by decide +kernel
theorem dX4_bestFirst_2 : decode cX4_bestFirst 2 = .ok (.invokevirtual 131, 3) := by decide +kernel
theorem dX4_bestFirst_5 : decode cX4_bestFirst 5 = .ok (.ifCond .ne 9, 3) := by decide +kernel
theorem dX4_bestFirst_8 : decode cX4_bestFirst 8 = .ok (.aload_n 0, 1) := by decide +kernel
theorem dX4_bestFirst_9 : decode cX4_bestFirst 9 = .ok (.iconst (-1), 1) := by decide +kernel
theorem dX4_bestFirst_10 : decode cX4_bestFirst 10 = .ok (.invokevirtual 38, 3) := by decide +kernel
theorem dX4_bestFirst_13 : decode cX4_bestFirst 13 = .ok (.ireturn, 1) := by decide +kernel
theorem dX4_bestFirst_14 : decode cX4_bestFirst 14 = .ok (.iload_n 2, 1) := by decide +kernel
theorem dX4_bestFirst_15 : decode cX4_bestFirst 15 = .ok (.iconst 0, 1) := by decide +kernel
theorem dX4_bestFirst_16 : decode cX4_bestFirst 16 = .ok (.iconst 1, 1) := by decide +kernel
theorem dX4_bestFirst_17 : decode cX4_bestFirst 17 = .ok (.invokestatic 42, 3) := by decide +kernel
theorem dX4_bestFirst_20 : decode cX4_bestFirst 20 = .ok (.ifCond .ne 10, 3) := by decide +kernel
theorem dX4_bestFirst_23 : decode cX4_bestFirst 23 = .ok (.aload_n 0, 1) := by decide +kernel
theorem dX4_bestFirst_24 : decode cX4_bestFirst 24 = .ok (.bipush (-2), 2) := by decide +kernel
theorem dX4_bestFirst_26 : decode cX4_bestFirst 26 = .ok (.invokevirtual 38, 3) := by decide +kernel
theorem dX4_bestFirst_29 : decode cX4_bestFirst 29 = .ok (.ireturn, 1) := by decide +kernel
theorem dX4_bestFirst_30 : decode cX4_bestFirst 30 = .ok (.bipush (-9), 2) := by decide +kernel
theorem dX4_bestFirst_32 : decode cX4_bestFirst 32 = .ok (.istore_n 3, 1) := by decide +kernel
theorem dX4_bestFirst_33 : decode cX4_bestFirst 33 = .ok (.iload_n 2, 1) := by decide +kernel
theorem dX4_bestFirst_34 : decode cX4_bestFirst 34 = .ok (.ifCond .ne 8, 3) := by decide +kernel
theorem dX4_bestFirst_37 : decode cX4_bestFirst 37 = .ok (.ldc 37, 2) := by decide +kernel
theorem dX4_bestFirst_39 : decode cX4_bestFirst 39 = .ok (.goto 4, 3) := by decide +kernel
theorem dX4_bestFirst_42 : decode cX4_bestFirst 42 = .ok (.iconst (-1), 1) := by decide +kernel
theorem dX4_bestFirst_43 : decode cX4_bestFirst 43 = .ok (.istore 4, 2) := by decide +kernel
theorem dX4_bestFirst_45 : decode cX4_bestFirst 45 = .ok (.iconst 0, 1) := by decide +kernel
theorem dX4_bestFirst_46 : decode cX4_bestFirst 46 = .ok (.istore 5, 2) := by decide +kernel
theorem dX4_bestFirst_48 : decode cX4_bestFirst 48 = .ok (.iload 5, 2) := by decide +kernel
theorem dX4_bestFirst_50 : decode cX4_bestFirst 50 = .ok (.bipush 8, 2) := by decide +kernel
theorem dX4_bestFirst_52 : decode cX4_bestFirst 52 = .ok (.if_icmp .ge 105, 3) := by decide +kernel
theorem dX4_bestFirst_55 : decode cX4_bestFirst 55 = .ok (.aload_n 0, 1) := by decide +kernel
theorem dX4_bestFirst_56 : decode cX4_bestFirst 56 = .ok (.getfield 9, 3) := by decide +kernel
theorem dX4_bestFirst_59 : decode cX4_bestFirst 59 = .ok (.aload_n 0, 1) := by decide +kernel
theorem dX4_bestFirst_60 : decode cX4_bestFirst 60 = .ok (.getfield 13, 3) := by decide +kernel
theorem dX4_bestFirst_63 : decode cX4_bestFirst 63 = .ok (.invokestatic 88, 3) := by decide +kernel
theorem dX4_bestFirst_66 : decode cX4_bestFirst 66 = .ok (.aload_n 0, 1) := by decide +kernel
theorem dX4_bestFirst_67 : decode cX4_bestFirst 67 = .ok (.getfield 13, 3) := by decide +kernel
theorem dX4_bestFirst_70 : decode cX4_bestFirst 70 = .ok (.iload_n 1, 1) := by decide +kernel
theorem dX4_bestFirst_71 : decode cX4_bestFirst 71 = .ok (.iconst 2, 1) := by decide +kernel
theorem dX4_bestFirst_72 : decode cX4_bestFirst 72 = .ok (.invokestatic 54, 3) := by decide +kernel
theorem dX4_bestFirst_75 : decode cX4_bestFirst 75 = .ok (.iload 5, 2) := by decide +kernel
theorem dX4_bestFirst_77 : decode cX4_bestFirst 77 = .ok (.iastore, 1) := by decide +kernel
theorem dX4_bestFirst_78 : decode cX4_bestFirst 78 = .ok (.iload_n 2, 1) := by decide +kernel
theorem dX4_bestFirst_79 : decode cX4_bestFirst 79 = .ok (.iconst 1, 1) := by decide +kernel
theorem dX4_bestFirst_80 : decode cX4_bestFirst 80 = .ok (.if_icmp .ne 13, 3) := by decide +kernel
theorem dX4_bestFirst_83 : decode cX4_bestFirst 83 = .ok (.aload_n 0, 1) := by decide +kernel
theorem dX4_bestFirst_84 : decode cX4_bestFirst 84 = .ok (.aload_n 0, 1) := by decide +kernel
theorem dX4_bestFirst_85 : decode cX4_bestFirst 85 = .ok (.getfield 13, 3) := by decide +kernel
theorem dX4_bestFirst_88 : decode cX4_bestFirst 88 = .ok (.bipush 99, 2) := by decide +kernel
theorem dX4_bestFirst_90 : decode cX4_bestFirst 90 = .ok (.invokevirtual 137, 3) := by decide +kernel
theorem dX4_bestFirst_93 : decode cX4_bestFirst 93 = .ok (.iload_n 2, 1) := by decide +kernel
theorem dX4_bestFirst_94 : decode cX4_bestFirst 94 = .ok (.ifCond .ne 11, 3) := by decide +kernel
theorem dX4_bestFirst_97 : decode cX4_bestFirst 97 = .ok (.aload_n 0, 1) := by decide +kernel
theorem dX4_bestFirst_98 : decode cX4_bestFirst 98 = .ok (.iload_n 1, 1) := by decide +kernel
theorem dX4_bestFirst_99 : decode cX4_bestFirst 99 = .ok (.invokevirtual 166, 3) := by decide +kernel
theorem dX4_bestFirst_102 : decode cX4_bestFirst 102 = .ok (.goto 11, 3) := by decide +kernel
theorem dX4_bestFirst_105 : decode cX4_bestFirst 105 = .ok (.aload_n 0, 1) := by decide +kernel
theorem dX4_bestFirst_106 : decode cX4_bestFirst 106 = .ok (.getfield 13, 3) := by decide +kernel
theorem dX4_bestFirst_109 : decode cX4_bestFirst 109 = .ok (.iload_n 1, 1) := by decide +kernel
theorem dX4_bestFirst_110 : decode cX4_bestFirst 110 = .ok (.invokestatic 92, 3) := by decide +kernel
theorem dX4_bestFirst_113 : decode cX4_bestFirst 113 = .ok (.istore 6, 2) := by decide +kernel
theorem dX4_bestFirst_115 : decode cX4_bestFirst 115 = .ok (.iload 6, 2) := by decide +kernel
theorem dX4_bestFirst_117 : decode cX4_bestFirst 117 = .ok (.ifCond .lt 34, 3) := by decide +kernel
theorem dX4_bestFirst_120 : decode cX4_bestFirst 120 = .ok (.iload_n 2, 1) := by decide +kernel
theorem dX4_bestFirst_121 : decode cX4_bestFirst 121 = .ok (.ifCond .ne 13, 3) := by decide +kernel
theorem dX4_bestFirst_124 : decode cX4_bestFirst 124 = .ok (.iload 6, 2) := by decide +kernel
theorem dX4_bestFirst_126 : decode cX4_bestFirst 126 = .ok (.iload 4, 2) := by decide +kernel
theorem dX4_bestFirst_128 : decode cX4_bestFirst 128 = .ok (.if_icmp .lt 16, 3) := by decide +kernel
theorem dX4_bestFirst_131 : decode cX4_bestFirst 131 = .ok (.goto 20, 3) := by decide +kernel
theorem dX4_bestFirst_134 : decode cX4_bestFirst 134 = .ok (.iload 6, 2) := by decide +kernel
theorem dX4_bestFirst_136 : decode cX4_bestFirst 136 = .ok (.iload 4, 2) := by decide +kernel
theorem dX4_bestFirst_138 : decode cX4_bestFirst 138 = .ok (.if_icmp .gt 6, 3) := by decide +kernel
theorem dX4_bestFirst_141 : decode cX4_bestFirst 141 = .ok (.goto 10, 3) := by decide +kernel
theorem dX4_bestFirst_144 : decode cX4_bestFirst 144 = .ok (.iload 5, 2) := by decide +kernel
theorem dX4_bestFirst_146 : decode cX4_bestFirst 146 = .ok (.istore_n 3, 1) := by decide +kernel
theorem dX4_bestFirst_147 : decode cX4_bestFirst 147 = .ok (.iload 6, 2) := by decide +kernel
theorem dX4_bestFirst_149 : decode cX4_bestFirst 149 = .ok (.istore 4, 2) := by decide +kernel
theorem dX4_bestFirst_151 : decode cX4_bestFirst 151 = .ok (.iinc 5 1, 3) := by decide +kernel
theorem dX4_bestFirst_154 : decode cX4_bestFirst 154 = .ok (.goto (-106), 3) := by decide +kernel
theorem dX4_bestFirst_157 : decode cX4_bestFirst 157 = .ok (.iload_n 3, 1) := by decide +kernel
theorem dX4_bestFirst_158 : decode cX4_bestFirst 158 = .ok (.ireturn, 1) := by decide +kernel
theorem dX4_apart_0 : decode cX4_apart 0 = .ok (.iload_n 1, 1) := by decide +kernel
theorem dX4_apart_1 : decode cX4_apart 1 = .ok (.iconst (-1), 1) := by decide +kernel
theorem dX4_apart_2 : decode cX4_apart 2 = .ok (.if_icmp .ge 10, 3) := by decide +kernel
theorem dX4_apart_5 : decode cX4_apart 5 = .ok (.aload_n 0, 1) := by decide +kernel
theorem dX4_apart_6 : decode cX4_apart 6 = .ok (.bipush (-4), 2) := by decide +kernel
theorem dX4_apart_8 : decode cX4_apart 8 = .ok (.invokevirtual 38, 3) := by decide +kernel
theorem dX4_apart_11 : decode cX4_apart 11 = .ok (.ireturn, 1) := by decide +kernel
theorem dX4_apart_12 : decode cX4_apart 12 = .ok (.iload_n 1, 1) := by decide +kernel
theorem dX4_apart_13 : decode cX4_apart 13 = .ok (.aload_n 0, 1) := by decide +kernel
theorem dX4_apart_14 : decode cX4_apart 14 = .ok (.getfield 9, 3) := by decide +kernel
theorem dX4_apart_17 : decode cX4_apart 17 = .ok (.iconst 1, 1) := by decide +kernel
theorem dX4_apart_18 : decode cX4_apart 18 = .ok (.iaload, 1) := by decide +kernel
theorem dX4_apart_19 : decode cX4_apart 19 = .ok (.if_icmp .lt 9, 3) := by decide +kernel
theorem dX4_apart_22 : decode cX4_apart 22 = .ok (.aload_n 0, 1) := by decide +kernel
theorem dX4_apart_23 : decode cX4_apart 23 = .ok (.iconst (-1), 1) := by decide +kernel
theorem dX4_apart_24 : decode cX4_apart 24 = .ok (.invokevirtual 38, 3) := by decide +kernel
theorem dX4_apart_27 : decode cX4_apart 27 = .ok (.ireturn, 1) := by decide +kernel
theorem dX4_apart_28 : decode cX4_apart 28 = .ok (.aload_n 0, 1) := by decide +kernel
theorem dX4_apart_29 : decode cX4_apart 29 = .ok (.getfield 9, 3) := by decide +kernel
theorem dX4_apart_32 : decode cX4_apart 32 = .ok (.iconst 1, 1) := by decide +kernel
theorem dX4_apart_33 : decode cX4_apart 33 = .ok (.iaload, 1) := by decide +kernel
theorem dX4_apart_34 : decode cX4_apart 34 = .ok (.iconst 3, 1) := by decide +kernel
theorem dX4_apart_35 : decode cX4_apart 35 = .ok (.if_icmp .le 10, 3) := by decide +kernel
theorem dX4_apart_38 : decode cX4_apart 38 = .ok (.aload_n 0, 1) := by decide +kernel
theorem dX4_apart_39 : decode cX4_apart 39 = .ok (.bipush (-3), 2) := by decide +kernel
theorem dX4_apart_41 : decode cX4_apart 41 = .ok (.invokevirtual 38, 3) := by decide +kernel
theorem dX4_apart_44 : decode cX4_apart 44 = .ok (.ireturn, 1) := by decide +kernel
theorem dX4_apart_45 : decode cX4_apart 45 = .ok (.iconst 1, 1) := by decide +kernel
theorem dX4_apart_46 : decode cX4_apart 46 = .ok (.istore_n 2, 1) := by decide +kernel
theorem dX4_apart_47 : decode cX4_apart 47 = .ok (.iconst 0, 1) := by decide +kernel
theorem dX4_apart_48 : decode cX4_apart 48 = .ok (.istore_n 3, 1) := by decide +kernel
theorem dX4_apart_49 : decode cX4_apart 49 = .ok (.iload_n 3, 1) := by decide +kernel
theorem dX4_apart_50 : decode cX4_apart 50 = .ok (.aload_n 0, 1) := by decide +kernel
theorem dX4_apart_51 : decode cX4_apart 51 = .ok (.getfield 9, 3) := by decide +kernel
theorem dX4_apart_54 : decode cX4_apart 54 = .ok (.iconst 1, 1) := by decide +kernel
theorem dX4_apart_55 : decode cX4_apart 55 = .ok (.iaload, 1) := by decide +kernel
theorem dX4_apart_56 : decode cX4_apart 56 = .ok (.if_icmp .ge 14, 3) := by decide +kernel
theorem dX4_apart_59 : decode cX4_apart 59 = .ok (.iload_n 2, 1) := by decide +kernel
theorem dX4_apart_60 : decode cX4_apart 60 = .ok (.bipush 8, 2) := by decide +kernel
theorem dX4_apart_62 : decode cX4_apart 62 = .ok (.imul, 1) := by decide +kernel
theorem dX4_apart_63 : decode cX4_apart 63 = .ok (.istore_n 2, 1) := by decide +kernel
theorem dX4_apart_64 : decode cX4_apart 64 = .ok (.iinc 3 1, 3) := by decide +kernel
theorem dX4_apart_67 : decode cX4_apart 67 = .ok (.goto (-18), 3) := by decide +kernel
theorem dX4_apart_70 : decode cX4_apart 70 = .ok (.iconst 0, 1) := by decide +kernel
theorem dX4_apart_71 : decode cX4_apart 71 = .ok (.istore_n 3, 1) := by decide +kernel
theorem dX4_apart_72 : decode cX4_apart 72 = .ok (.ldc 37, 2) := by decide +kernel
theorem dX4_apart_74 : decode cX4_apart 74 = .ok (.istore 4, 2) := by decide +kernel
theorem dX4_apart_76 : decode cX4_apart 76 = .ok (.iconst 0, 1) := by decide +kernel
theorem dX4_apart_77 : decode cX4_apart 77 = .ok (.istore 5, 2) := by decide +kernel
theorem dX4_apart_79 : decode cX4_apart 79 = .ok (.iload 5, 2) := by decide +kernel
theorem dX4_apart_81 : decode cX4_apart 81 = .ok (.iload_n 2, 1) := by decide +kernel
theorem dX4_apart_82 : decode cX4_apart 82 = .ok (.if_icmp .ge 97, 3) := by decide +kernel
theorem dX4_apart_85 : decode cX4_apart 85 = .ok (.aload_n 0, 1) := by decide +kernel
theorem dX4_apart_86 : decode cX4_apart 86 = .ok (.getfield 9, 3) := by decide +kernel
theorem dX4_apart_89 : decode cX4_apart 89 = .ok (.aload_n 0, 1) := by decide +kernel
theorem dX4_apart_90 : decode cX4_apart 90 = .ok (.getfield 13, 3) := by decide +kernel
theorem dX4_apart_93 : decode cX4_apart 93 = .ok (.invokestatic 88, 3) := by decide +kernel
theorem dX4_apart_96 : decode cX4_apart 96 = .ok (.iconst 0, 1) := by decide +kernel
theorem dX4_apart_97 : decode cX4_apart 97 = .ok (.istore 6, 2) := by decide +kernel
theorem dX4_apart_99 : decode cX4_apart 99 = .ok (.iload 6, 2) := by decide +kernel
theorem dX4_apart_101 : decode cX4_apart 101 = .ok (.aload_n 0, 1) := by decide +kernel
theorem dX4_apart_102 : decode cX4_apart 102 = .ok (.getfield 9, 3) := by decide +kernel
theorem dX4_apart_105 : decode cX4_apart 105 = .ok (.iconst 1, 1) := by decide +kernel
theorem dX4_apart_106 : decode cX4_apart 106 = .ok (.iaload, 1) := by decide +kernel
theorem dX4_apart_107 : decode cX4_apart 107 = .ok (.if_icmp .ge 39, 3) := by decide +kernel
theorem dX4_apart_110 : decode cX4_apart 110 = .ok (.aload_n 0, 1) := by decide +kernel
theorem dX4_apart_111 : decode cX4_apart 111 = .ok (.getfield 13, 3) := by decide +kernel
theorem dX4_apart_114 : decode cX4_apart 114 = .ok (.iload 6, 2) := by decide +kernel
theorem dX4_apart_116 : decode cX4_apart 116 = .ok (.iconst 2, 1) := by decide +kernel
theorem dX4_apart_117 : decode cX4_apart 117 = .ok (.invokestatic 54, 3) := by decide +kernel
theorem dX4_apart_120 : decode cX4_apart 120 = .ok (.iload 5, 2) := by decide +kernel
theorem dX4_apart_122 : decode cX4_apart 122 = .ok (.iconst 3, 1) := by decide +kernel
theorem dX4_apart_123 : decode cX4_apart 123 = .ok (.aload_n 0, 1) := by decide +kernel
theorem dX4_apart_124 : decode cX4_apart 124 = .ok (.getfield 9, 3) := by decide +kernel
theorem dX4_apart_127 : decode cX4_apart 127 = .ok (.iconst 1, 1) := by decide +kernel
theorem dX4_apart_128 : decode cX4_apart 128 = .ok (.iaload, 1) := by decide +kernel
theorem dX4_apart_129 : decode cX4_apart 129 = .ok (.iconst 1, 1) := by decide +kernel
theorem dX4_apart_130 : decode cX4_apart 130 = .ok (.isub, 1) := by decide +kernel
theorem dX4_apart_131 : decode cX4_apart 131 = .ok (.iload 6, 2) := by decide +kernel
theorem dX4_apart_133 : decode cX4_apart 133 = .ok (.isub, 1) := by decide +kernel
theorem dX4_apart_134 : decode cX4_apart 134 = .ok (.imul, 1) := by decide +kernel
theorem dX4_apart_135 : decode cX4_apart 135 = .ok (.ishr, 1) := by decide +kernel
theorem dX4_apart_136 : decode cX4_apart 136 = .ok (.bipush 7, 2) := by decide +kernel
theorem dX4_apart_138 : decode cX4_apart 138 = .ok (.iand, 1) := by decide +kernel
theorem dX4_apart_139 : decode cX4_apart 139 = .ok (.iastore, 1) := by decide +kernel
theorem dX4_apart_140 : decode cX4_apart 140 = .ok (.iinc 6 1, 3) := by decide +kernel
theorem dX4_apart_143 : decode cX4_apart 143 = .ok (.goto (-44), 3) := by decide +kernel
theorem dX4_apart_146 : decode cX4_apart 146 = .ok (.aload_n 0, 1) := by decide +kernel
theorem dX4_apart_147 : decode cX4_apart 147 = .ok (.bipush 30, 2) := by decide +kernel
theorem dX4_apart_149 : decode cX4_apart 149 = .ok (.invokevirtual 187, 3) := by decide +kernel
theorem dX4_apart_152 : decode cX4_apart 152 = .ok (.aload_n 0, 1) := by decide +kernel
theorem dX4_apart_153 : decode cX4_apart 153 = .ok (.getfield 175, 3) := by decide +kernel
theorem dX4_apart_156 : decode cX4_apart 156 = .ok (.iload 4, 2) := by decide +kernel
theorem dX4_apart_158 : decode cX4_apart 158 = .ok (.if_icmp .lt 6, 3) := by decide +kernel
theorem dX4_apart_161 : decode cX4_apart 161 = .ok (.goto 12, 3) := by decide +kernel
theorem dX4_apart_164 : decode cX4_apart 164 = .ok (.iload 5, 2) := by decide +kernel
theorem dX4_apart_166 : decode cX4_apart 166 = .ok (.istore_n 3, 1) := by decide +kernel
theorem dX4_apart_167 : decode cX4_apart 167 = .ok (.aload_n 0, 1) := by decide +kernel
theorem dX4_apart_168 : decode cX4_apart 168 = .ok (.getfield 175, 3) := by decide +kernel
theorem dX4_apart_171 : decode cX4_apart 171 = .ok (.istore 4, 2) := by decide +kernel
theorem dX4_apart_173 : decode cX4_apart 173 = .ok (.iinc 5 1, 3) := by decide +kernel
theorem dX4_apart_176 : decode cX4_apart 176 = .ok (.goto (-97), 3) := by decide +kernel
theorem dX4_apart_179 : decode cX4_apart 179 = .ok (.iload_n 1, 1) := by decide +kernel
theorem dX4_apart_180 : decode cX4_apart 180 = .ok (.ifCond .ge 8, 3) := by decide +kernel
theorem dX4_apart_183 : decode cX4_apart 183 = .ok (.iload 4, 2) := by decide +kernel
theorem dX4_apart_185 : decode cX4_apart 185 = .ok (.goto 20, 3) := by decide +kernel
theorem dX4_apart_188 : decode cX4_apart 188 = .ok (.iload_n 3, 1) := by decide +kernel
theorem dX4_apart_189 : decode cX4_apart 189 = .ok (.iconst 3, 1) := by decide +kernel
theorem dX4_apart_190 : decode cX4_apart 190 = .ok (.aload_n 0, 1) := by decide +kernel
theorem dX4_apart_191 : decode cX4_apart 191 = .ok (.getfield 9, 3) := by decide +kernel
theorem dX4_apart_194 : decode cX4_apart 194 = .ok (.iconst 1, 1) := by decide +kernel
theorem dX4_apart_195 : decode cX4_apart 195 = .ok (.iaload, 1) := by decide +kernel
theorem dX4_apart_196 : decode cX4_apart 196 = .ok (.iconst 1, 1) := by decide +kernel
theorem dX4_apart_197 : decode cX4_apart 197 = .ok (.isub, 1) := by decide +kernel
theorem dX4_apart_198 : decode cX4_apart 198 = .ok (.iload_n 1, 1) := by decide +kernel
theorem dX4_apart_199 : decode cX4_apart 199 = .ok (.isub, 1) := by decide +kernel
theorem dX4_apart_200 : decode cX4_apart 200 = .ok (.imul, 1) := by decide +kernel
theorem dX4_apart_201 : decode cX4_apart 201 = .ok (.ishr, 1) := by decide +kernel
theorem dX4_apart_202 : decode cX4_apart 202 = .ok (.bipush 7, 2) := by decide +kernel
theorem dX4_apart_204 : decode cX4_apart 204 = .ok (.iand, 1) := by decide +kernel
theorem dX4_apart_205 : decode cX4_apart 205 = .ok (.ireturn, 1) := by decide +kernel
theorem dX4_leaves_0 : decode cX4_leaves 0 = .ok (.aload_n 0, 1) := by decide +kernel
theorem dX4_leaves_1 : decode cX4_leaves 1 = .ok (.getfield 9, 3) := by decide +kernel
theorem dX4_leaves_4 : decode cX4_leaves 4 = .ok (.aload_n 0, 1) := by decide +kernel
theorem dX4_leaves_5 : decode cX4_leaves 5 = .ok (.getfield 13, 3) := by decide +kernel
theorem dX4_leaves_8 : decode cX4_leaves 8 = .ok (.invokestatic 88, 3) := by decide +kernel
theorem dX4_leaves_11 : decode cX4_leaves 11 = .ok (.iconst 0, 1) := by decide +kernel
theorem dX4_leaves_12 : decode cX4_leaves 12 = .ok (.istore_n 2, 1) := by decide +kernel
theorem dX4_leaves_13 : decode cX4_leaves 13 = .ok (.iload_n 2, 1) := by decide +kernel
theorem dX4_leaves_14 : decode cX4_leaves 14 = .ok (.aload_n 0, 1) := by decide +kernel
theorem dX4_leaves_15 : decode cX4_leaves 15 = .ok (.getfield 9, 3) := by decide +kernel
theorem dX4_leaves_18 : decode cX4_leaves 18 = .ok (.iconst 1, 1) := by decide +kernel
theorem dX4_leaves_19 : decode cX4_leaves 19 = .ok (.iaload, 1) := by decide +kernel
theorem dX4_leaves_20 : decode cX4_leaves 20 = .ok (.if_icmp .ge 29, 3) := by decide +kernel
theorem dX4_leaves_23 : decode cX4_leaves 23 = .ok (.aload_n 0, 1) := by decide +kernel
theorem dX4_leaves_24 : decode cX4_leaves 24 = .ok (.getfield 13, 3) := by decide +kernel
theorem dX4_leaves_27 : decode cX4_leaves 27 = .ok (.iload_n 2, 1) := by decide +kernel
theorem dX4_leaves_28 : decode cX4_leaves 28 = .ok (.iload_n 1, 1) := by decide +kernel
theorem dX4_leaves_29 : decode cX4_leaves 29 = .ok (.invokestatic 57, 3) := by decide +kernel
theorem dX4_leaves_32 : decode cX4_leaves 32 = .ok (.aload_n 0, 1) := by decide +kernel
theorem dX4_leaves_33 : decode cX4_leaves 33 = .ok (.getfield 9, 3) := by decide +kernel
theorem dX4_leaves_36 : decode cX4_leaves 36 = .ok (.iload_n 1, 1) := by decide +kernel
theorem dX4_leaves_37 : decode cX4_leaves 37 = .ok (.iconst 3, 1) := by decide +kernel
theorem dX4_leaves_38 : decode cX4_leaves 38 = .ok (.invokestatic 50, 3) := by decide +kernel
theorem dX4_leaves_41 : decode cX4_leaves 41 = .ok (.iaload, 1) := by decide +kernel
theorem dX4_leaves_42 : decode cX4_leaves 42 = .ok (.iastore, 1) := by decide +kernel
theorem dX4_leaves_43 : decode cX4_leaves 43 = .ok (.iinc 2 1, 3) := by decide +kernel
theorem dX4_leaves_46 : decode cX4_leaves 46 = .ok (.goto (-33), 3) := by decide +kernel
theorem dX4_leaves_49 : decode cX4_leaves 49 = .ok (.return_, 1) := by decide +kernel
theorem dX4_leave_0 : decode cX4_leave 0 = .ok (.bipush (-9), 2) := by decide +kernel
theorem dX4_leave_2 : decode cX4_leave 2 = .ok (.istore_n 1, 1) := by decide +kernel
theorem dX4_leave_3 : decode cX4_leave 3 = .ok (.ldc 37, 2) := by decide +kernel
theorem dX4_leave_5 : decode cX4_leave 5 = .ok (.istore_n 2, 1) := by decide +kernel
theorem dX4_leave_6 : decode cX4_leave 6 = .ok (.iconst 0, 1) := by decide +kernel
theorem dX4_leave_7 : decode cX4_leave 7 = .ok (.istore_n 3, 1) := by decide +kernel
theorem dX4_leave_8 : decode cX4_leave 8 = .ok (.iload_n 3, 1) := by decide +kernel
theorem dX4_leave_9 : decode cX4_leave 9 = .ok (.aload_n 0, 1) := by decide +kernel
theorem dX4_leave_10 : decode cX4_leave 10 = .ok (.getfield 9, 3) := by decide +kernel
theorem dX4_leave_13 : decode cX4_leave 13 = .ok (.iconst 0, 1) := by decide +kernel
theorem dX4_leave_14 : decode cX4_leave 14 = .ok (.iaload, 1) := by decide +kernel
theorem dX4_leave_15 : decode cX4_leave 15 = .ok (.if_icmp .ge 39, 3) := by decide +kernel
theorem dX4_leave_18 : decode cX4_leave 18 = .ok (.aload_n 0, 1) := by decide +kernel
theorem dX4_leave_19 : decode cX4_leave 19 = .ok (.iload_n 3, 1) := by decide +kernel
theorem dX4_leave_20 : decode cX4_leave 20 = .ok (.invokevirtual 191, 3) := by decide +kernel
theorem dX4_leave_23 : decode cX4_leave 23 = .ok (.aload_n 0, 1) := by decide +kernel
theorem dX4_leave_24 : decode cX4_leave 24 = .ok (.invokevirtual 172, 3) := by decide +kernel
theorem dX4_leave_27 : decode cX4_leave 27 = .ok (.istore 4, 2) := by decide +kernel
theorem dX4_leave_29 : decode cX4_leave 29 = .ok (.iload 4, 2) := by decide +kernel
theorem dX4_leave_31 : decode cX4_leave 31 = .ok (.ifCond .lt 17, 3) := by decide +kernel
theorem dX4_leave_34 : decode cX4_leave 34 = .ok (.iload 4, 2) := by decide +kernel
theorem dX4_leave_36 : decode cX4_leave 36 = .ok (.iload_n 2, 1) := by decide +kernel
theorem dX4_leave_37 : decode cX4_leave 37 = .ok (.if_icmp .lt 6, 3) := by decide +kernel
theorem dX4_leave_40 : decode cX4_leave 40 = .ok (.goto 8, 3) := by decide +kernel
theorem dX4_leave_43 : decode cX4_leave 43 = .ok (.iload_n 3, 1) := by decide +kernel
theorem dX4_leave_44 : decode cX4_leave 44 = .ok (.istore_n 1, 1) := by decide +kernel
theorem dX4_leave_45 : decode cX4_leave 45 = .ok (.iload 4, 2) := by decide +kernel
theorem dX4_leave_47 : decode cX4_leave 47 = .ok (.istore_n 2, 1) := by decide +kernel
theorem dX4_leave_48 : decode cX4_leave 48 = .ok (.iinc 3 1, 3) := by decide +kernel
theorem dX4_leave_51 : decode cX4_leave 51 = .ok (.goto (-43), 3) := by decide +kernel
theorem dX4_leave_54 : decode cX4_leave 54 = .ok (.iload_n 1, 1) := by decide +kernel
theorem dX4_leave_55 : decode cX4_leave 55 = .ok (.ireturn, 1) := by decide +kernel
theorem dX4_tell_0 : decode cX4_tell 0 = .ok (.iload_n 1, 1) := by decide +kernel
theorem dX4_tell_1 : decode cX4_tell 1 = .ok (.invokestatic 153, 3) := by decide +kernel
theorem dX4_tell_4 : decode cX4_tell 4 = .ok (.istore_n 2, 1) := by decide +kernel
theorem dX4_tell_5 : decode cX4_tell 5 = .ok (.iload_n 2, 1) := by decide +kernel
theorem dX4_tell_6 : decode cX4_tell 6 = .ok (.ifCond .eq 9, 3) := by decide +kernel
theorem dX4_tell_9 : decode cX4_tell 9 = .ok (.aload_n 0, 1) := by decide +kernel
theorem dX4_tell_10 : decode cX4_tell 10 = .ok (.iload_n 2, 1) := by decide +kernel
theorem dX4_tell_11 : decode cX4_tell 11 = .ok (.invokevirtual 38, 3) := by decide +kernel
theorem dX4_tell_14 : decode cX4_tell 14 = .ok (.ireturn, 1) := by decide +kernel
theorem dX4_tell_15 : decode cX4_tell 15 = .ok (.aload_n 0, 1) := by decide +kernel
theorem dX4_tell_16 : decode cX4_tell 16 = .ok (.getfield 9, 3) := by decide +kernel
theorem dX4_tell_19 : decode cX4_tell 19 = .ok (.aload_n 0, 1) := by decide +kernel
theorem dX4_tell_20 : decode cX4_tell 20 = .ok (.getfield 13, 3) := by decide +kernel
theorem dX4_tell_23 : decode cX4_tell 23 = .ok (.invokestatic 88, 3) := by decide +kernel
theorem dX4_tell_26 : decode cX4_tell 26 = .ok (.aload_n 0, 1) := by decide +kernel
theorem dX4_tell_27 : decode cX4_tell 27 = .ok (.aload_n 0, 1) := by decide +kernel
theorem dX4_tell_28 : decode cX4_tell 28 = .ok (.getfield 13, 3) := by decide +kernel
theorem dX4_tell_31 : decode cX4_tell 31 = .ok (.iload_n 1, 1) := by decide +kernel
theorem dX4_tell_32 : decode cX4_tell 32 = .ok (.invokevirtual 137, 3) := by decide +kernel
theorem dX4_tell_35 : decode cX4_tell 35 = .ok (.aload_n 0, 1) := by decide +kernel
theorem dX4_tell_36 : decode cX4_tell 36 = .ok (.getfield 13, 3) := by decide +kernel
theorem dX4_tell_39 : decode cX4_tell 39 = .ok (.invokestatic 149, 3) := by decide +kernel
theorem dX4_tell_42 : decode cX4_tell 42 = .ok (.istore_n 3, 1) := by decide +kernel
theorem dX4_tell_43 : decode cX4_tell 43 = .ok (.bipush (-9), 2) := by decide +kernel
theorem dX4_tell_45 : decode cX4_tell 45 = .ok (.istore 4, 2) := by decide +kernel
theorem dX4_tell_47 : decode cX4_tell 47 = .ok (.iconst 0, 1) := by decide +kernel
theorem dX4_tell_48 : decode cX4_tell 48 = .ok (.istore 5, 2) := by decide +kernel
theorem dX4_tell_50 : decode cX4_tell 50 = .ok (.iload 5, 2) := by decide +kernel
theorem dX4_tell_52 : decode cX4_tell 52 = .ok (.aload_n 0, 1) := by decide +kernel
theorem dX4_tell_53 : decode cX4_tell 53 = .ok (.getfield 9, 3) := by decide +kernel
theorem dX4_tell_56 : decode cX4_tell 56 = .ok (.iconst 0, 1) := by decide +kernel
theorem dX4_tell_57 : decode cX4_tell 57 = .ok (.iaload, 1) := by decide +kernel
theorem dX4_tell_58 : decode cX4_tell 58 = .ok (.if_icmp .ge 66, 3) := by decide +kernel
theorem dX4_tell_61 : decode cX4_tell 61 = .ok (.aload_n 0, 1) := by decide +kernel
theorem dX4_tell_62 : decode cX4_tell 62 = .ok (.getfield 9, 3) := by decide +kernel
theorem dX4_tell_65 : decode cX4_tell 65 = .ok (.aload_n 0, 1) := by decide +kernel
theorem dX4_tell_66 : decode cX4_tell 66 = .ok (.getfield 13, 3) := by decide +kernel
theorem dX4_tell_69 : decode cX4_tell 69 = .ok (.invokestatic 88, 3) := by decide +kernel
theorem dX4_tell_72 : decode cX4_tell 72 = .ok (.aload_n 0, 1) := by decide +kernel
theorem dX4_tell_73 : decode cX4_tell 73 = .ok (.getfield 13, 3) := by decide +kernel
theorem dX4_tell_76 : decode cX4_tell 76 = .ok (.iload 5, 2) := by decide +kernel
theorem dX4_tell_78 : decode cX4_tell 78 = .ok (.iconst 0, 1) := by decide +kernel
theorem dX4_tell_79 : decode cX4_tell 79 = .ok (.invokestatic 50, 3) := by decide +kernel
theorem dX4_tell_82 : decode cX4_tell 82 = .ok (.iconst 5, 1) := by decide +kernel
theorem dX4_tell_83 : decode cX4_tell 83 = .ok (.iastore, 1) := by decide +kernel
theorem dX4_tell_84 : decode cX4_tell 84 = .ok (.aload_n 0, 1) := by decide +kernel
theorem dX4_tell_85 : decode cX4_tell 85 = .ok (.aload_n 0, 1) := by decide +kernel
theorem dX4_tell_86 : decode cX4_tell 86 = .ok (.getfield 13, 3) := by decide +kernel
theorem dX4_tell_89 : decode cX4_tell 89 = .ok (.iload_n 1, 1) := by decide +kernel
theorem dX4_tell_90 : decode cX4_tell 90 = .ok (.invokevirtual 137, 3) := by decide +kernel
theorem dX4_tell_93 : decode cX4_tell 93 = .ok (.aload_n 0, 1) := by decide +kernel
theorem dX4_tell_94 : decode cX4_tell 94 = .ok (.getfield 13, 3) := by decide +kernel
theorem dX4_tell_97 : decode cX4_tell 97 = .ok (.invokestatic 149, 3) := by decide +kernel
theorem dX4_tell_100 : decode cX4_tell 100 = .ok (.istore 6, 2) := by decide +kernel
theorem dX4_tell_102 : decode cX4_tell 102 = .ok (.iload 6, 2) := by decide +kernel
theorem dX4_tell_104 : decode cX4_tell 104 = .ok (.iload_n 3, 1) := by decide +kernel
theorem dX4_tell_105 : decode cX4_tell 105 = .ok (.if_icmp .gt 6, 3) := by decide +kernel
theorem dX4_tell_108 : decode cX4_tell 108 = .ok (.goto 10, 3) := by decide +kernel
theorem dX4_tell_111 : decode cX4_tell 111 = .ok (.iload 5, 2) := by decide +kernel
theorem dX4_tell_113 : decode cX4_tell 113 = .ok (.istore 4, 2) := by decide +kernel
theorem dX4_tell_115 : decode cX4_tell 115 = .ok (.iload 6, 2) := by decide +kernel
theorem dX4_tell_117 : decode cX4_tell 117 = .ok (.istore_n 3, 1) := by decide +kernel
theorem dX4_tell_118 : decode cX4_tell 118 = .ok (.iinc 5 1, 3) := by decide +kernel
theorem dX4_tell_121 : decode cX4_tell 121 = .ok (.goto (-71), 3) := by decide +kernel
theorem dX4_tell_124 : decode cX4_tell 124 = .ok (.iload 4, 2) := by decide +kernel
theorem dX4_tell_126 : decode cX4_tell 126 = .ok (.ireturn, 1) := by decide +kernel
theorem dX4_spreads_0 : decode cX4_spreads 0 = .ok (.aload_n 0, 1) := by decide +kernel
theorem dX4_spreads_1 : decode cX4_spreads 1 = .ok (.iload_n 1, 1) := by decide +kernel
theorem dX4_spreads_2 : decode cX4_spreads 2 = .ok (.invokevirtual 131, 3) := by decide +kernel
theorem dX4_spreads_5 : decode cX4_spreads 5 = .ok (.ifCond .eq 11, 3) := by decide +kernel
theorem dX4_spreads_8 : decode cX4_spreads 8 = .ok (.aload_n 0, 1) := by decide +kernel
theorem dX4_spreads_9 : decode cX4_spreads 9 = .ok (.iload_n 2, 1) := by decide +kernel
theorem dX4_spreads_10 : decode cX4_spreads 10 = .ok (.invokevirtual 134, 3) := by decide +kernel
theorem dX4_spreads_13 : decode cX4_spreads 13 = .ok (.ifCond .ne 9, 3) := by decide +kernel
theorem dX4_spreads_16 : decode cX4_spreads 16 = .ok (.aload_n 0, 1) := by decide +kernel
theorem dX4_spreads_17 : decode cX4_spreads 17 = .ok (.iconst (-1), 1) := by decide +kernel
theorem dX4_spreads_18 : decode cX4_spreads 18 = .ok (.invokevirtual 38, 3) := by decide +kernel
theorem dX4_spreads_21 : decode cX4_spreads 21 = .ok (.ireturn, 1) := by decide +kernel
theorem dX4_spreads_22 : decode cX4_spreads 22 = .ok (.aload_n 0, 1) := by decide +kernel
theorem dX4_spreads_23 : decode cX4_spreads 23 = .ok (.getfield 9, 3) := by decide +kernel
theorem dX4_spreads_26 : decode cX4_spreads 26 = .ok (.iload_n 1, 1) := by decide +kernel
theorem dX4_spreads_27 : decode cX4_spreads 27 = .ok (.iload_n 2, 1) := by decide +kernel
theorem dX4_spreads_28 : decode cX4_spreads 28 = .ok (.invokestatic 57, 3) := by decide +kernel
theorem dX4_spreads_31 : decode cX4_spreads 31 = .ok (.iaload, 1) := by decide +kernel
theorem dX4_spreads_32 : decode cX4_spreads 32 = .ok (.ifCond .lt 10, 3) := by decide +kernel
theorem dX4_spreads_35 : decode cX4_spreads 35 = .ok (.aload_n 0, 1) := by decide +kernel
theorem dX4_spreads_36 : decode cX4_spreads 36 = .ok (.bipush (-3), 2) := by decide +kernel
theorem dX4_spreads_38 : decode cX4_spreads 38 = .ok (.invokevirtual 38, 3) := by decide +kernel
theorem dX4_spreads_41 : decode cX4_spreads 41 = .ok (.ireturn, 1) := by decide +kernel
theorem dX4_spreads_42 : decode cX4_spreads 42 = .ok (.aload_n 0, 1) := by decide +kernel
theorem dX4_spreads_43 : decode cX4_spreads 43 = .ok (.getfield 9, 3) := by decide +kernel
theorem dX4_spreads_46 : decode cX4_spreads 46 = .ok (.iload_n 2, 1) := by decide +kernel
theorem dX4_spreads_47 : decode cX4_spreads 47 = .ok (.iconst 3, 1) := by decide +kernel
theorem dX4_spreads_48 : decode cX4_spreads 48 = .ok (.invokestatic 50, 3) := by decide +kernel
theorem dX4_spreads_51 : decode cX4_spreads 51 = .ok (.iaload, 1) := by decide +kernel
theorem dX4_spreads_52 : decode cX4_spreads 52 = .ok (.iconst 1, 1) := by decide +kernel
theorem dX4_spreads_53 : decode cX4_spreads 53 = .ok (.iadd, 1) := by decide +kernel
theorem dX4_spreads_54 : decode cX4_spreads 54 = .ok (.bipush 10, 2) := by decide +kernel
theorem dX4_spreads_56 : decode cX4_spreads 56 = .ok (.irem, 1) := by decide +kernel
theorem dX4_spreads_57 : decode cX4_spreads 57 = .ok (.istore_n 3, 1) := by decide +kernel
theorem dX4_spreads_58 : decode cX4_spreads 58 = .ok (.aload_n 0, 1) := by decide +kernel
theorem dX4_spreads_59 : decode cX4_spreads 59 = .ok (.getfield 9, 3) := by decide +kernel
theorem dX4_spreads_62 : decode cX4_spreads 62 = .ok (.aload_n 0, 1) := by decide +kernel
theorem dX4_spreads_63 : decode cX4_spreads 63 = .ok (.getfield 13, 3) := by decide +kernel
theorem dX4_spreads_66 : decode cX4_spreads 66 = .ok (.invokestatic 88, 3) := by decide +kernel
theorem dX4_spreads_69 : decode cX4_spreads 69 = .ok (.aload_n 0, 1) := by decide +kernel
theorem dX4_spreads_70 : decode cX4_spreads 70 = .ok (.getfield 13, 3) := by decide +kernel
theorem dX4_spreads_73 : decode cX4_spreads 73 = .ok (.iload_n 1, 1) := by decide +kernel
theorem dX4_spreads_74 : decode cX4_spreads 74 = .ok (.iload_n 2, 1) := by decide +kernel
theorem dX4_spreads_75 : decode cX4_spreads 75 = .ok (.invokestatic 57, 3) := by decide +kernel
theorem dX4_spreads_78 : decode cX4_spreads 78 = .ok (.iload_n 3, 1) := by decide +kernel
theorem dX4_spreads_79 : decode cX4_spreads 79 = .ok (.iastore, 1) := by decide +kernel
theorem dX4_spreads_80 : decode cX4_spreads 80 = .ok (.aload_n 0, 1) := by decide +kernel
theorem dX4_spreads_81 : decode cX4_spreads 81 = .ok (.aload_n 0, 1) := by decide +kernel
theorem dX4_spreads_82 : decode cX4_spreads 82 = .ok (.getfield 13, 3) := by decide +kernel
theorem dX4_spreads_85 : decode cX4_spreads 85 = .ok (.bipush 99, 2) := by decide +kernel
theorem dX4_spreads_87 : decode cX4_spreads 87 = .ok (.invokevirtual 137, 3) := by decide +kernel
theorem dX4_spreads_90 : decode cX4_spreads 90 = .ok (.iconst 0, 1) := by decide +kernel
theorem dX4_spreads_91 : decode cX4_spreads 91 = .ok (.istore 4, 2) := by decide +kernel
theorem dX4_spreads_93 : decode cX4_spreads 93 = .ok (.iconst 0, 1) := by decide +kernel
theorem dX4_spreads_94 : decode cX4_spreads 94 = .ok (.istore 5, 2) := by decide +kernel
theorem dX4_spreads_96 : decode cX4_spreads 96 = .ok (.iload 5, 2) := by decide +kernel
theorem dX4_spreads_98 : decode cX4_spreads 98 = .ok (.aload_n 0, 1) := by decide +kernel
theorem dX4_spreads_99 : decode cX4_spreads 99 = .ok (.getfield 9, 3) := by decide +kernel
theorem dX4_spreads_102 : decode cX4_spreads 102 = .ok (.iconst 1, 1) := by decide +kernel
theorem dX4_spreads_103 : decode cX4_spreads 103 = .ok (.iaload, 1) := by decide +kernel
theorem dX4_spreads_104 : decode cX4_spreads 104 = .ok (.if_icmp .ge 34, 3) := by decide +kernel
theorem dX4_spreads_107 : decode cX4_spreads 107 = .ok (.iload 4, 2) := by decide +kernel
theorem dX4_spreads_109 : decode cX4_spreads 109 = .ok (.aload_n 0, 1) := by decide +kernel
theorem dX4_spreads_110 : decode cX4_spreads 110 = .ok (.getfield 13, 3) := by decide +kernel
theorem dX4_spreads_113 : decode cX4_spreads 113 = .ok (.iload 5, 2) := by decide +kernel
theorem dX4_spreads_115 : decode cX4_spreads 115 = .ok (.iload_n 2, 1) := by decide +kernel
theorem dX4_spreads_116 : decode cX4_spreads 116 = .ok (.invokestatic 57, 3) := by decide +kernel
theorem dX4_spreads_119 : decode cX4_spreads 119 = .ok (.iaload, 1) := by decide +kernel
theorem dX4_spreads_120 : decode cX4_spreads 120 = .ok (.iload_n 3, 1) := by decide +kernel
theorem dX4_spreads_121 : decode cX4_spreads 121 = .ok (.if_icmp .ne 7, 3) := by decide +kernel
theorem dX4_spreads_124 : decode cX4_spreads 124 = .ok (.iconst 1, 1) := by decide +kernel
theorem dX4_spreads_125 : decode cX4_spreads 125 = .ok (.goto 4, 3) := by decide +kernel
theorem dX4_spreads_128 : decode cX4_spreads 128 = .ok (.iconst 0, 1) := by decide +kernel
theorem dX4_spreads_129 : decode cX4_spreads 129 = .ok (.iadd, 1) := by decide +kernel
theorem dX4_spreads_130 : decode cX4_spreads 130 = .ok (.istore 4, 2) := by decide +kernel
theorem dX4_spreads_132 : decode cX4_spreads 132 = .ok (.iinc 5 1, 3) := by decide +kernel
theorem dX4_spreads_135 : decode cX4_spreads 135 = .ok (.goto (-39), 3) := by decide +kernel
theorem dX4_spreads_138 : decode cX4_spreads 138 = .ok (.iload 4, 2) := by decide +kernel
theorem dX4_spreads_140 : decode cX4_spreads 140 = .ok (.ireturn, 1) := by decide +kernel
theorem dX4_missing_0 : decode cX4_missing 0 = .ok (.iload_n 1, 1) := by decide +kernel
theorem dX4_missing_1 : decode cX4_missing 1 = .ok (.ifCond .lt 7, 3) := by decide +kernel
theorem dX4_missing_4 : decode cX4_missing 4 = .ok (.iload_n 2, 1) := by decide +kernel
theorem dX4_missing_5 : decode cX4_missing 5 = .ok (.ifCond .ge 10, 3) := by decide +kernel
theorem dX4_missing_8 : decode cX4_missing 8 = .ok (.aload_n 0, 1) := by decide +kernel
theorem dX4_missing_9 : decode cX4_missing 9 = .ok (.bipush (-4), 2) := by decide +kernel
theorem dX4_missing_11 : decode cX4_missing 11 = .ok (.invokevirtual 38, 3) := by decide +kernel
theorem dX4_missing_14 : decode cX4_missing 14 = .ok (.ireturn, 1) := by decide +kernel
theorem dX4_missing_15 : decode cX4_missing 15 = .ok (.iload_n 1, 1) := by decide +kernel
theorem dX4_missing_16 : decode cX4_missing 16 = .ok (.bipush 99, 2) := by decide +kernel
theorem dX4_missing_18 : decode cX4_missing 18 = .ok (.if_icmp .gt 9, 3) := by decide +kernel
theorem dX4_missing_21 : decode cX4_missing 21 = .ok (.iload_n 2, 1) := by decide +kernel
theorem dX4_missing_22 : decode cX4_missing 22 = .ok (.bipush 9, 2) := by decide +kernel
theorem dX4_missing_24 : decode cX4_missing 24 = .ok (.if_icmp .le 10, 3) := by decide +kernel
theorem dX4_missing_27 : decode cX4_missing 27 = .ok (.aload_n 0, 1) := by decide +kernel
theorem dX4_missing_28 : decode cX4_missing 28 = .ok (.bipush (-6), 2) := by decide +kernel
theorem dX4_missing_30 : decode cX4_missing 30 = .ok (.invokevirtual 38, 3) := by decide +kernel
theorem dX4_missing_33 : decode cX4_missing 33 = .ok (.ireturn, 1) := by decide +kernel
theorem dX4_missing_34 : decode cX4_missing 34 = .ok (.aload_n 0, 1) := by decide +kernel
theorem dX4_missing_35 : decode cX4_missing 35 = .ok (.getfield 9, 3) := by decide +kernel
theorem dX4_missing_38 : decode cX4_missing 38 = .ok (.aload_n 0, 1) := by decide +kernel
theorem dX4_missing_39 : decode cX4_missing 39 = .ok (.getfield 13, 3) := by decide +kernel
theorem dX4_missing_42 : decode cX4_missing 42 = .ok (.invokestatic 88, 3) := by decide +kernel
theorem dX4_missing_45 : decode cX4_missing 45 = .ok (.aload_n 0, 1) := by decide +kernel
theorem dX4_missing_46 : decode cX4_missing 46 = .ok (.aload_n 0, 1) := by decide +kernel
theorem dX4_missing_47 : decode cX4_missing 47 = .ok (.getfield 13, 3) := by decide +kernel
theorem dX4_missing_50 : decode cX4_missing 50 = .ok (.iload_n 1, 1) := by decide +kernel
theorem dX4_missing_51 : decode cX4_missing 51 = .ok (.invokevirtual 137, 3) := by decide +kernel
theorem dX4_missing_54 : decode cX4_missing 54 = .ok (.iconst 0, 1) := by decide +kernel
theorem dX4_missing_55 : decode cX4_missing 55 = .ok (.istore_n 3, 1) := by decide +kernel
theorem dX4_missing_56 : decode cX4_missing 56 = .ok (.iconst 0, 1) := by decide +kernel
theorem dX4_missing_57 : decode cX4_missing 57 = .ok (.istore 4, 2) := by decide +kernel
theorem dX4_missing_59 : decode cX4_missing 59 = .ok (.iload 4, 2) := by decide +kernel
theorem dX4_missing_61 : decode cX4_missing 61 = .ok (.aload_n 0, 1) := by decide +kernel
theorem dX4_missing_62 : decode cX4_missing 62 = .ok (.getfield 9, 3) := by decide +kernel
theorem dX4_missing_65 : decode cX4_missing 65 = .ok (.iconst 1, 1) := by decide +kernel
theorem dX4_missing_66 : decode cX4_missing 66 = .ok (.iaload, 1) := by decide +kernel
theorem dX4_missing_67 : decode cX4_missing 67 = .ok (.if_icmp .ge 53, 3) := by decide +kernel
theorem dX4_missing_70 : decode cX4_missing 70 = .ok (.aload_n 0, 1) := by decide +kernel
theorem dX4_missing_71 : decode cX4_missing 71 = .ok (.aload_n 0, 1) := by decide +kernel
theorem dX4_missing_72 : decode cX4_missing 72 = .ok (.getfield 13, 3) := by decide +kernel
theorem dX4_missing_75 : decode cX4_missing 75 = .ok (.aload_n 0, 1) := by decide +kernel
theorem dX4_missing_76 : decode cX4_missing 76 = .ok (.getfield 13, 3) := by decide +kernel
theorem dX4_missing_79 : decode cX4_missing 79 = .ok (.iload 4, 2) := by decide +kernel
theorem dX4_missing_81 : decode cX4_missing 81 = .ok (.iconst 3, 1) := by decide +kernel
theorem dX4_missing_82 : decode cX4_missing 82 = .ok (.invokestatic 54, 3) := by decide +kernel
theorem dX4_missing_85 : decode cX4_missing 85 = .ok (.iaload, 1) := by decide +kernel
theorem dX4_missing_86 : decode cX4_missing 86 = .ok (.iconst 0, 1) := by decide +kernel
theorem dX4_missing_87 : decode cX4_missing 87 = .ok (.invokevirtual 146, 3) := by decide +kernel
theorem dX4_missing_90 : decode cX4_missing 90 = .ok (.istore 5, 2) := by decide +kernel
theorem dX4_missing_92 : decode cX4_missing 92 = .ok (.iload_n 3, 1) := by decide +kernel
theorem dX4_missing_93 : decode cX4_missing 93 = .ok (.iload 5, 2) := by decide +kernel
theorem dX4_missing_95 : decode cX4_missing 95 = .ok (.ifCond .lt 9, 3) := by decide +kernel
theorem dX4_missing_98 : decode cX4_missing 98 = .ok (.iload 5, 2) := by decide +kernel
theorem dX4_missing_100 : decode cX4_missing 100 = .ok (.iload_n 2, 1) := by decide +kernel
theorem dX4_missing_101 : decode cX4_missing 101 = .ok (.if_icmp .le 10, 3) := by decide +kernel
theorem dX4_missing_104 : decode cX4_missing 104 = .ok (.iconst 1, 1) := by decide +kernel
theorem dX4_missing_105 : decode cX4_missing 105 = .ok (.iload 4, 2) := by decide +kernel
theorem dX4_missing_107 : decode cX4_missing 107 = .ok (.ishl, 1) := by decide +kernel
theorem dX4_missing_108 : decode cX4_missing 108 = .ok (.goto 4, 3) := by decide +kernel
theorem dX4_missing_111 : decode cX4_missing 111 = .ok (.iconst 0, 1) := by decide +kernel
theorem dX4_missing_112 : decode cX4_missing 112 = .ok (.ior, 1) := by decide +kernel
theorem dX4_missing_113 : decode cX4_missing 113 = .ok (.istore_n 3, 1) := by decide +kernel
theorem dX4_missing_114 : decode cX4_missing 114 = .ok (.iinc 4 1, 3) := by decide +kernel
theorem dX4_missing_117 : decode cX4_missing 117 = .ok (.goto (-58), 3) := by decide +kernel
theorem dX4_missing_120 : decode cX4_missing 120 = .ok (.iload_n 3, 1) := by decide +kernel
theorem dX4_missing_121 : decode cX4_missing 121 = .ok (.ireturn, 1) := by decide +kernel
theorem dX4_orNever_0 : decode cX4_orNever 0 = .ok (.iload_n 1, 1) := by decide +kernel
theorem dX4_orNever_1 : decode cX4_orNever 1 = .ok (.ifCond .ge 8, 3) := by decide +kernel
theorem dX4_orNever_4 : decode cX4_orNever 4 = .ok (.bipush 100, 2) := by decide +kernel
theorem dX4_orNever_6 : decode cX4_orNever 6 = .ok (.goto 4, 3) := by decide +kernel
theorem dX4_orNever_9 : decode cX4_orNever 9 = .ok (.iload_n 1, 1) := by decide +kernel
theorem dX4_orNever_10 : decode cX4_orNever 10 = .ok (.ireturn, 1) := by decide +kernel
theorem dX4_worth_0 : decode cX4_worth 0 = .ok (.aload_n 0, 1) := by decide +kernel
theorem dX4_worth_1 : decode cX4_worth 1 = .ok (.iload_n 1, 1) := by decide +kernel
theorem dX4_worth_2 : decode cX4_worth 2 = .ok (.invokevirtual 134, 3) := by decide +kernel
theorem dX4_worth_5 : decode cX4_worth 5 = .ok (.ifCond .ne 9, 3) := by decide +kernel
theorem dX4_worth_8 : decode cX4_worth 8 = .ok (.aload_n 0, 1) := by decide +kernel
theorem dX4_worth_9 : decode cX4_worth 9 = .ok (.iconst (-1), 1) := by decide +kernel
theorem dX4_worth_10 : decode cX4_worth 10 = .ok (.invokevirtual 194, 3) := by decide +kernel
theorem dX4_worth_13 : decode cX4_worth 13 = .ok (.ireturn, 1) := by decide +kernel
theorem dX4_worth_14 : decode cX4_worth 14 = .ok (.iconst 0, 1) := by decide +kernel
theorem dX4_worth_15 : decode cX4_worth 15 = .ok (.istore_n 2, 1) := by decide +kernel
theorem dX4_worth_16 : decode cX4_worth 16 = .ok (.iconst 0, 1) := by decide +kernel
theorem dX4_worth_17 : decode cX4_worth 17 = .ok (.istore_n 3, 1) := by decide +kernel
theorem dX4_worth_18 : decode cX4_worth 18 = .ok (.iload_n 3, 1) := by decide +kernel
theorem dX4_worth_19 : decode cX4_worth 19 = .ok (.aload_n 0, 1) := by decide +kernel
theorem dX4_worth_20 : decode cX4_worth 20 = .ok (.getfield 9, 3) := by decide +kernel
theorem dX4_worth_23 : decode cX4_worth 23 = .ok (.iconst 1, 1) := by decide +kernel
theorem dX4_worth_24 : decode cX4_worth 24 = .ok (.iaload, 1) := by decide +kernel
theorem dX4_worth_25 : decode cX4_worth 25 = .ok (.if_icmp .ge 38, 3) := by decide +kernel
theorem dX4_worth_28 : decode cX4_worth 28 = .ok (.iload_n 2, 1) := by decide +kernel
theorem dX4_worth_29 : decode cX4_worth 29 = .ok (.aload_n 0, 1) := by decide +kernel
theorem dX4_worth_30 : decode cX4_worth 30 = .ok (.aload_n 0, 1) := by decide +kernel
theorem dX4_worth_31 : decode cX4_worth 31 = .ok (.iload_n 3, 1) := by decide +kernel
theorem dX4_worth_32 : decode cX4_worth 32 = .ok (.invokevirtual 169, 3) := by decide +kernel
theorem dX4_worth_35 : decode cX4_worth 35 = .ok (.invokevirtual 197, 3) := by decide +kernel
theorem dX4_worth_38 : decode cX4_worth 38 = .ok (.iadd, 1) := by decide +kernel
theorem dX4_worth_39 : decode cX4_worth 39 = .ok (.istore_n 2, 1) := by decide +kernel
theorem dX4_worth_40 : decode cX4_worth 40 = .ok (.aload_n 0, 1) := by decide +kernel
theorem dX4_worth_41 : decode cX4_worth 41 = .ok (.iload_n 1, 1) := by decide +kernel
theorem dX4_worth_42 : decode cX4_worth 42 = .ok (.invokevirtual 191, 3) := by decide +kernel
theorem dX4_worth_45 : decode cX4_worth 45 = .ok (.iload_n 2, 1) := by decide +kernel
theorem dX4_worth_46 : decode cX4_worth 46 = .ok (.aload_n 0, 1) := by decide +kernel
theorem dX4_worth_47 : decode cX4_worth 47 = .ok (.aload_n 0, 1) := by decide +kernel
theorem dX4_worth_48 : decode cX4_worth 48 = .ok (.iload_n 3, 1) := by decide +kernel
theorem dX4_worth_49 : decode cX4_worth 49 = .ok (.invokevirtual 166, 3) := by decide +kernel
theorem dX4_worth_52 : decode cX4_worth 52 = .ok (.invokevirtual 197, 3) := by decide +kernel
theorem dX4_worth_55 : decode cX4_worth 55 = .ok (.isub, 1) := by decide +kernel
theorem dX4_worth_56 : decode cX4_worth 56 = .ok (.istore_n 2, 1) := by decide +kernel
theorem dX4_worth_57 : decode cX4_worth 57 = .ok (.iinc 3 1, 3) := by decide +kernel
theorem dX4_worth_60 : decode cX4_worth 60 = .ok (.goto (-42), 3) := by decide +kernel
theorem dX4_worth_63 : decode cX4_worth 63 = .ok (.iload_n 2, 1) := by decide +kernel
theorem dX4_worth_64 : decode cX4_worth 64 = .ok (.ireturn, 1) := by decide +kernel
theorem dX4_doneBy_0 : decode cX4_doneBy 0 = .ok (.aload_n 0, 1) := by decide +kernel
theorem dX4_doneBy_1 : decode cX4_doneBy 1 = .ok (.getfield 9, 3) := by decide +kernel
theorem dX4_doneBy_4 : decode cX4_doneBy 4 = .ok (.aload_n 0, 1) := by decide +kernel
theorem dX4_doneBy_5 : decode cX4_doneBy 5 = .ok (.getfield 13, 3) := by decide +kernel
theorem dX4_doneBy_8 : decode cX4_doneBy 8 = .ok (.invokestatic 88, 3) := by decide +kernel
theorem dX4_doneBy_11 : decode cX4_doneBy 11 = .ok (.aload_n 0, 1) := by decide +kernel
theorem dX4_doneBy_12 : decode cX4_doneBy 12 = .ok (.getfield 13, 3) := by decide +kernel
theorem dX4_doneBy_15 : decode cX4_doneBy 15 = .ok (.iload_n 2, 1) := by decide +kernel
theorem dX4_doneBy_16 : decode cX4_doneBy 16 = .ok (.iconst 2, 1) := by decide +kernel
theorem dX4_doneBy_17 : decode cX4_doneBy 17 = .ok (.invokestatic 54, 3) := by decide +kernel
theorem dX4_doneBy_20 : decode cX4_doneBy 20 = .ok (.aload_n 0, 1) := by decide +kernel
theorem dX4_doneBy_21 : decode cX4_doneBy 21 = .ok (.getfield 9, 3) := by decide +kernel
theorem dX4_doneBy_24 : decode cX4_doneBy 24 = .ok (.iload_n 2, 1) := by decide +kernel
theorem dX4_doneBy_25 : decode cX4_doneBy 25 = .ok (.iconst 2, 1) := by decide +kernel
theorem dX4_doneBy_26 : decode cX4_doneBy 26 = .ok (.invokestatic 54, 3) := by decide +kernel
theorem dX4_doneBy_29 : decode cX4_doneBy 29 = .ok (.iaload, 1) := by decide +kernel
theorem dX4_doneBy_30 : decode cX4_doneBy 30 = .ok (.iload_n 3, 1) := by decide +kernel
theorem dX4_doneBy_31 : decode cX4_doneBy 31 = .ok (.iadd, 1) := by decide +kernel
theorem dX4_doneBy_32 : decode cX4_doneBy 32 = .ok (.bipush 8, 2) := by decide +kernel
theorem dX4_doneBy_34 : decode cX4_doneBy 34 = .ok (.irem, 1) := by decide +kernel
theorem dX4_doneBy_35 : decode cX4_doneBy 35 = .ok (.iastore, 1) := by decide +kernel
theorem dX4_doneBy_36 : decode cX4_doneBy 36 = .ok (.aload_n 0, 1) := by decide +kernel
theorem dX4_doneBy_37 : decode cX4_doneBy 37 = .ok (.getfield 13, 3) := by decide +kernel
theorem dX4_doneBy_40 : decode cX4_doneBy 40 = .ok (.iload 4, 2) := by decide +kernel
theorem dX4_doneBy_42 : decode cX4_doneBy 42 = .ok (.iconst 2, 1) := by decide +kernel
theorem dX4_doneBy_43 : decode cX4_doneBy 43 = .ok (.invokestatic 54, 3) := by decide +kernel
theorem dX4_doneBy_46 : decode cX4_doneBy 46 = .ok (.aload_n 0, 1) := by decide +kernel
theorem dX4_doneBy_47 : decode cX4_doneBy 47 = .ok (.getfield 9, 3) := by decide +kernel
theorem dX4_doneBy_50 : decode cX4_doneBy 50 = .ok (.iload 4, 2) := by decide +kernel
theorem dX4_doneBy_52 : decode cX4_doneBy 52 = .ok (.iconst 2, 1) := by decide +kernel
theorem dX4_doneBy_53 : decode cX4_doneBy 53 = .ok (.invokestatic 54, 3) := by decide +kernel
theorem dX4_doneBy_56 : decode cX4_doneBy 56 = .ok (.iaload, 1) := by decide +kernel
theorem dX4_doneBy_57 : decode cX4_doneBy 57 = .ok (.iload 5, 2) := by decide +kernel
theorem dX4_doneBy_59 : decode cX4_doneBy 59 = .ok (.iadd, 1) := by decide +kernel
theorem dX4_doneBy_60 : decode cX4_doneBy 60 = .ok (.bipush 8, 2) := by decide +kernel
theorem dX4_doneBy_62 : decode cX4_doneBy 62 = .ok (.irem, 1) := by decide +kernel
theorem dX4_doneBy_63 : decode cX4_doneBy 63 = .ok (.iastore, 1) := by decide +kernel
theorem dX4_doneBy_64 : decode cX4_doneBy 64 = .ok (.aload_n 0, 1) := by decide +kernel
theorem dX4_doneBy_65 : decode cX4_doneBy 65 = .ok (.aload_n 0, 1) := by decide +kernel
theorem dX4_doneBy_66 : decode cX4_doneBy 66 = .ok (.iload_n 1, 1) := by decide +kernel
theorem dX4_doneBy_67 : decode cX4_doneBy 67 = .ok (.invokevirtual 166, 3) := by decide +kernel
theorem dX4_doneBy_70 : decode cX4_doneBy 70 = .ok (.invokevirtual 197, 3) := by decide +kernel
theorem dX4_doneBy_73 : decode cX4_doneBy 73 = .ok (.ireturn, 1) := by decide +kernel
theorem dX4_two_0 : decode cX4_two 0 = .ok (.aload_n 0, 1) := by decide +kernel
theorem dX4_two_1 : decode cX4_two 1 = .ok (.iload_n 1, 1) := by decide +kernel
theorem dX4_two_2 : decode cX4_two 2 = .ok (.invokevirtual 131, 3) := by decide +kernel
theorem dX4_two_5 : decode cX4_two 5 = .ok (.ifCond .eq 16, 3) := by decide +kernel
theorem dX4_two_8 : decode cX4_two 8 = .ok (.aload_n 0, 1) := by decide +kernel
theorem dX4_two_9 : decode cX4_two 9 = .ok (.iload_n 2, 1) := by decide +kernel
theorem dX4_two_10 : decode cX4_two 10 = .ok (.invokevirtual 131, 3) := by decide +kernel
theorem dX4_two_13 : decode cX4_two 13 = .ok (.ifCond .eq 8, 3) := by decide +kernel
theorem dX4_two_16 : decode cX4_two 16 = .ok (.iload_n 1, 1) := by decide +kernel
theorem dX4_two_17 : decode cX4_two 17 = .ok (.iload_n 2, 1) := by decide +kernel
theorem dX4_two_18 : decode cX4_two 18 = .ok (.if_icmp .ne 9, 3) := by decide +kernel
theorem dX4_two_21 : decode cX4_two 21 = .ok (.aload_n 0, 1) := by decide +kernel
theorem dX4_two_22 : decode cX4_two 22 = .ok (.iconst (-1), 1) := by decide +kernel
theorem dX4_two_23 : decode cX4_two 23 = .ok (.invokevirtual 38, 3) := by decide +kernel
theorem dX4_two_26 : decode cX4_two 26 = .ok (.ireturn, 1) := by decide +kernel
theorem dX4_two_27 : decode cX4_two 27 = .ok (.iconst 0, 1) := by decide +kernel
theorem dX4_two_28 : decode cX4_two 28 = .ok (.istore_n 3, 1) := by decide +kernel
theorem dX4_two_29 : decode cX4_two 29 = .ok (.iload_n 3, 1) := by decide +kernel
theorem dX4_two_30 : decode cX4_two 30 = .ok (.iconst 4, 1) := by decide +kernel
theorem dX4_two_31 : decode cX4_two 31 = .ok (.if_icmp .ge 85, 3) := by decide +kernel
theorem dX4_two_34 : decode cX4_two 34 = .ok (.iload_n 3, 1) := by decide +kernel
theorem dX4_two_35 : decode cX4_two 35 = .ok (.iconst 2, 1) := by decide +kernel
theorem dX4_two_36 : decode cX4_two 36 = .ok (.idiv, 1) := by decide +kernel
theorem dX4_two_37 : decode cX4_two 37 = .ok (.istore 4, 2) := by decide +kernel
theorem dX4_two_39 : decode cX4_two 39 = .ok (.iload_n 3, 1) := by decide +kernel
theorem dX4_two_40 : decode cX4_two 40 = .ok (.iconst 2, 1) := by decide +kernel
theorem dX4_two_41 : decode cX4_two 41 = .ok (.irem, 1) := by decide +kernel
theorem dX4_two_42 : decode cX4_two 42 = .ok (.istore 5, 2) := by decide +kernel
theorem dX4_two_44 : decode cX4_two 44 = .ok (.aload_n 0, 1) := by decide +kernel
theorem dX4_two_45 : decode cX4_two 45 = .ok (.iload_n 1, 1) := by decide +kernel
theorem dX4_two_46 : decode cX4_two 46 = .ok (.iload_n 1, 1) := by decide +kernel
theorem dX4_two_47 : decode cX4_two 47 = .ok (.iconst 1, 1) := by decide +kernel
theorem dX4_two_48 : decode cX4_two 48 = .ok (.iload 4, 2) := by decide +kernel
theorem dX4_two_50 : decode cX4_two 50 = .ok (.isub, 1) := by decide +kernel
theorem dX4_two_51 : decode cX4_two 51 = .ok (.iload_n 2, 1) := by decide +kernel
theorem dX4_two_52 : decode cX4_two 52 = .ok (.iload 5, 2) := by decide +kernel
theorem dX4_two_54 : decode cX4_two 54 = .ok (.invokevirtual 200, 3) := by decide +kernel
theorem dX4_two_57 : decode cX4_two 57 = .ok (.aload_n 0, 1) := by decide +kernel
theorem dX4_two_58 : decode cX4_two 58 = .ok (.iload_n 1, 1) := by decide +kernel
theorem dX4_two_59 : decode cX4_two 59 = .ok (.iload_n 1, 1) := by decide +kernel
theorem dX4_two_60 : decode cX4_two 60 = .ok (.iload 4, 2) := by decide +kernel
theorem dX4_two_62 : decode cX4_two 62 = .ok (.iload_n 2, 1) := by decide +kernel
theorem dX4_two_63 : decode cX4_two 63 = .ok (.iload 5, 2) := by decide +kernel
theorem dX4_two_65 : decode cX4_two 65 = .ok (.invokevirtual 200, 3) := by decide +kernel
theorem dX4_two_68 : decode cX4_two 68 = .ok (.if_icmp .ge 6, 3) := by decide +kernel
theorem dX4_two_71 : decode cX4_two 71 = .ok (.goto 39, 3) := by decide +kernel
theorem dX4_two_74 : decode cX4_two 74 = .ok (.aload_n 0, 1) := by decide +kernel
theorem dX4_two_75 : decode cX4_two 75 = .ok (.iload_n 2, 1) := by decide +kernel
theorem dX4_two_76 : decode cX4_two 76 = .ok (.iload_n 1, 1) := by decide +kernel
theorem dX4_two_77 : decode cX4_two 77 = .ok (.iload 4, 2) := by decide +kernel
theorem dX4_two_79 : decode cX4_two 79 = .ok (.iload_n 2, 1) := by decide +kernel
theorem dX4_two_80 : decode cX4_two 80 = .ok (.iconst 1, 1) := by decide +kernel
theorem dX4_two_81 : decode cX4_two 81 = .ok (.iload 5, 2) := by decide +kernel
theorem dX4_two_83 : decode cX4_two 83 = .ok (.isub, 1) := by decide +kernel
theorem dX4_two_84 : decode cX4_two 84 = .ok (.invokevirtual 200, 3) := by decide +kernel
theorem dX4_two_87 : decode cX4_two 87 = .ok (.aload_n 0, 1) := by decide +kernel
theorem dX4_two_88 : decode cX4_two 88 = .ok (.iload_n 2, 1) := by decide +kernel
theorem dX4_two_89 : decode cX4_two 89 = .ok (.iload_n 1, 1) := by decide +kernel
theorem dX4_two_90 : decode cX4_two 90 = .ok (.iload 4, 2) := by decide +kernel
theorem dX4_two_92 : decode cX4_two 92 = .ok (.iload_n 2, 1) := by decide +kernel
theorem dX4_two_93 : decode cX4_two 93 = .ok (.iload 5, 2) := by decide +kernel
theorem dX4_two_95 : decode cX4_two 95 = .ok (.invokevirtual 200, 3) := by decide +kernel
theorem dX4_two_98 : decode cX4_two 98 = .ok (.if_icmp .lt 12, 3) := by decide +kernel
theorem dX4_two_101 : decode cX4_two 101 = .ok (.bipush 10, 2) := by decide +kernel
theorem dX4_two_103 : decode cX4_two 103 = .ok (.iload 4, 2) := by decide +kernel
theorem dX4_two_105 : decode cX4_two 105 = .ok (.imul, 1) := by decide +kernel
theorem dX4_two_106 : decode cX4_two 106 = .ok (.iload 5, 2) := by decide +kernel
theorem dX4_two_108 : decode cX4_two 108 = .ok (.iadd, 1) := by decide +kernel
theorem dX4_two_109 : decode cX4_two 109 = .ok (.ireturn, 1) := by decide +kernel
theorem dX4_two_110 : decode cX4_two 110 = .ok (.iinc 3 1, 3) := by decide +kernel
theorem dX4_two_113 : decode cX4_two 113 = .ok (.goto (-84), 3) := by decide +kernel
theorem dX4_two_116 : decode cX4_two 116 = .ok (.bipush (-9), 2) := by decide +kernel
theorem dX4_two_118 : decode cX4_two 118 = .ok (.ireturn, 1) := by decide +kernel
theorem dX4_newDoor_0 : decode cX4_newDoor 0 = .ok (.aload_n 0, 1) := by decide +kernel
theorem dX4_newDoor_1 : decode cX4_newDoor 1 = .ok (.getfield 9, 3) := by decide +kernel
theorem dX4_newDoor_4 : decode cX4_newDoor 4 = .ok (.aload_n 0, 1) := by decide +kernel
theorem dX4_newDoor_5 : decode cX4_newDoor 5 = .ok (.getfield 13, 3) := by decide +kernel
theorem dX4_newDoor_8 : decode cX4_newDoor 8 = .ok (.invokestatic 88, 3) := by decide +kernel
theorem dX4_newDoor_11 : decode cX4_newDoor 11 = .ok (.aload_n 0, 1) := by decide +kernel
theorem dX4_newDoor_12 : decode cX4_newDoor 12 = .ok (.invokevirtual 172, 3) := by decide +kernel
theorem dX4_newDoor_15 : decode cX4_newDoor 15 = .ok (.istore_n 1, 1) := by decide +kernel
theorem dX4_newDoor_16 : decode cX4_newDoor 16 = .ok (.iload_n 1, 1) := by decide +kernel
theorem dX4_newDoor_17 : decode cX4_newDoor 17 = .ok (.ifCond .ge 8, 3) := by decide +kernel
theorem dX4_newDoor_20 : decode cX4_newDoor 20 = .ok (.ldc 37, 2) := by decide +kernel
theorem dX4_newDoor_22 : decode cX4_newDoor 22 = .ok (.goto 4, 3) := by decide +kernel
theorem dX4_newDoor_25 : decode cX4_newDoor 25 = .ok (.iload_n 1, 1) := by decide +kernel
theorem dX4_newDoor_26 : decode cX4_newDoor 26 = .ok (.istore_n 2, 1) := by decide +kernel
theorem dX4_newDoor_27 : decode cX4_newDoor 27 = .ok (.bipush (-9), 2) := by decide +kernel
theorem dX4_newDoor_29 : decode cX4_newDoor 29 = .ok (.istore_n 3, 1) := by decide +kernel
theorem dX4_newDoor_30 : decode cX4_newDoor 30 = .ok (.iconst 0, 1) := by decide +kernel
theorem dX4_newDoor_31 : decode cX4_newDoor 31 = .ok (.istore 4, 2) := by decide +kernel
theorem dX4_newDoor_33 : decode cX4_newDoor 33 = .ok (.iload 4, 2) := by decide +kernel
theorem dX4_newDoor_35 : decode cX4_newDoor 35 = .ok (.bipush 7, 2) := by decide +kernel
theorem dX4_newDoor_37 : decode cX4_newDoor 37 = .ok (.if_icmp .ge 124, 3) := by decide +kernel
theorem dX4_newDoor_40 : decode cX4_newDoor 40 = .ok (.iload 4, 2) := by decide +kernel
theorem dX4_newDoor_42 : decode cX4_newDoor 42 = .ok (.iconst 1, 1) := by decide +kernel
theorem dX4_newDoor_43 : decode cX4_newDoor 43 = .ok (.iadd, 1) := by decide +kernel
theorem dX4_newDoor_44 : decode cX4_newDoor 44 = .ok (.istore 5, 2) := by decide +kernel
theorem dX4_newDoor_46 : decode cX4_newDoor 46 = .ok (.iload 5, 2) := by decide +kernel
theorem dX4_newDoor_48 : decode cX4_newDoor 48 = .ok (.bipush 7, 2) := by decide +kernel
theorem dX4_newDoor_50 : decode cX4_newDoor 50 = .ok (.if_icmp .ge 105, 3) := by decide +kernel
theorem dX4_newDoor_53 : decode cX4_newDoor 53 = .ok (.aload_n 0, 1) := by decide +kernel
theorem dX4_newDoor_54 : decode cX4_newDoor 54 = .ok (.getfield 9, 3) := by decide +kernel
theorem dX4_newDoor_57 : decode cX4_newDoor 57 = .ok (.iconst 3, 1) := by decide +kernel
theorem dX4_newDoor_58 : decode cX4_newDoor 58 = .ok (.iload 4, 2) := by decide +kernel
theorem dX4_newDoor_60 : decode cX4_newDoor 60 = .ok (.iadd, 1) := by decide +kernel
theorem dX4_newDoor_61 : decode cX4_newDoor 61 = .ok (.iaload, 1) := by decide +kernel
theorem dX4_newDoor_62 : decode cX4_newDoor 62 = .ok (.iload 5, 2) := by decide +kernel
theorem dX4_newDoor_64 : decode cX4_newDoor 64 = .ok (.ishr, 1) := by decide +kernel
theorem dX4_newDoor_65 : decode cX4_newDoor 65 = .ok (.iconst 1, 1) := by decide +kernel
theorem dX4_newDoor_66 : decode cX4_newDoor 66 = .ok (.iand, 1) := by decide +kernel
theorem dX4_newDoor_67 : decode cX4_newDoor 67 = .ok (.iconst 1, 1) := by decide +kernel
theorem dX4_newDoor_68 : decode cX4_newDoor 68 = .ok (.if_icmp .ne 6, 3) := by decide +kernel
theorem dX4_newDoor_71 : decode cX4_newDoor 71 = .ok (.goto 78, 3) := by decide +kernel
theorem dX4_newDoor_74 : decode cX4_newDoor 74 = .ok (.aload_n 0, 1) := by decide +kernel
theorem dX4_newDoor_75 : decode cX4_newDoor 75 = .ok (.getfield 9, 3) := by decide +kernel
theorem dX4_newDoor_78 : decode cX4_newDoor 78 = .ok (.aload_n 0, 1) := by decide +kernel
theorem dX4_newDoor_79 : decode cX4_newDoor 79 = .ok (.getfield 13, 3) := by decide +kernel
theorem dX4_newDoor_82 : decode cX4_newDoor 82 = .ok (.invokestatic 88, 3) := by decide +kernel
theorem dX4_newDoor_85 : decode cX4_newDoor 85 = .ok (.aload_n 0, 1) := by decide +kernel
theorem dX4_newDoor_86 : decode cX4_newDoor 86 = .ok (.getfield 13, 3) := by decide +kernel
theorem dX4_newDoor_89 : decode cX4_newDoor 89 = .ok (.iconst 3, 1) := by decide +kernel
theorem dX4_newDoor_90 : decode cX4_newDoor 90 = .ok (.iload 4, 2) := by decide +kernel
theorem dX4_newDoor_92 : decode cX4_newDoor 92 = .ok (.iadd, 1) := by decide +kernel
theorem dX4_newDoor_93 : decode cX4_newDoor 93 = .ok (.dup2, 1) := by decide +kernel
theorem dX4_newDoor_94 : decode cX4_newDoor 94 = .ok (.iaload, 1) := by decide +kernel
theorem dX4_newDoor_95 : decode cX4_newDoor 95 = .ok (.iconst 1, 1) := by decide +kernel
theorem dX4_newDoor_96 : decode cX4_newDoor 96 = .ok (.iload 5, 2) := by decide +kernel
theorem dX4_newDoor_98 : decode cX4_newDoor 98 = .ok (.ishl, 1) := by decide +kernel
theorem dX4_newDoor_99 : decode cX4_newDoor 99 = .ok (.ior, 1) := by decide +kernel
theorem dX4_newDoor_100 : decode cX4_newDoor 100 = .ok (.iastore, 1) := by decide +kernel
theorem dX4_newDoor_101 : decode cX4_newDoor 101 = .ok (.aload_n 0, 1) := by decide +kernel
theorem dX4_newDoor_102 : decode cX4_newDoor 102 = .ok (.getfield 13, 3) := by decide +kernel
theorem dX4_newDoor_105 : decode cX4_newDoor 105 = .ok (.iconst 3, 1) := by decide +kernel
theorem dX4_newDoor_106 : decode cX4_newDoor 106 = .ok (.iload 5, 2) := by decide +kernel
theorem dX4_newDoor_108 : decode cX4_newDoor 108 = .ok (.iadd, 1) := by decide +kernel
theorem dX4_newDoor_109 : decode cX4_newDoor 109 = .ok (.dup2, 1) := by decide +kernel
theorem dX4_newDoor_110 : decode cX4_newDoor 110 = .ok (.iaload, 1) := by decide +kernel
theorem dX4_newDoor_111 : decode cX4_newDoor 111 = .ok (.iconst 1, 1) := by decide +kernel
theorem dX4_newDoor_112 : decode cX4_newDoor 112 = .ok (.iload 4, 2) := by decide +kernel
theorem dX4_newDoor_114 : decode cX4_newDoor 114 = .ok (.ishl, 1) := by decide +kernel
theorem dX4_newDoor_115 : decode cX4_newDoor 115 = .ok (.ior, 1) := by decide +kernel
theorem dX4_newDoor_116 : decode cX4_newDoor 116 = .ok (.iastore, 1) := by decide +kernel
theorem dX4_newDoor_117 : decode cX4_newDoor 117 = .ok (.aload_n 0, 1) := by decide +kernel
theorem dX4_newDoor_118 : decode cX4_newDoor 118 = .ok (.invokevirtual 172, 3) := by decide +kernel
theorem dX4_newDoor_121 : decode cX4_newDoor 121 = .ok (.istore 6, 2) := by decide +kernel
theorem dX4_newDoor_123 : decode cX4_newDoor 123 = .ok (.iload 6, 2) := by decide +kernel
theorem dX4_newDoor_125 : decode cX4_newDoor 125 = .ok (.ifCond .lt 24, 3) := by decide +kernel
theorem dX4_newDoor_128 : decode cX4_newDoor 128 = .ok (.iload 6, 2) := by decide +kernel
theorem dX4_newDoor_130 : decode cX4_newDoor 130 = .ok (.iload_n 2, 1) := by decide +kernel
theorem dX4_newDoor_131 : decode cX4_newDoor 131 = .ok (.if_icmp .lt 6, 3) := by decide +kernel
theorem dX4_newDoor_134 : decode cX4_newDoor 134 = .ok (.goto 15, 3) := by decide +kernel
theorem dX4_newDoor_137 : decode cX4_newDoor 137 = .ok (.bipush 10, 2) := by decide +kernel
theorem dX4_newDoor_139 : decode cX4_newDoor 139 = .ok (.iload 4, 2) := by decide +kernel
theorem dX4_newDoor_141 : decode cX4_newDoor 141 = .ok (.imul, 1) := by decide +kernel
theorem dX4_newDoor_142 : decode cX4_newDoor 142 = .ok (.iload 5, 2) := by decide +kernel
theorem dX4_newDoor_144 : decode cX4_newDoor 144 = .ok (.iadd, 1) := by decide +kernel
theorem dX4_newDoor_145 : decode cX4_newDoor 145 = .ok (.istore_n 3, 1) := by decide +kernel
theorem dX4_newDoor_146 : decode cX4_newDoor 146 = .ok (.iload 6, 2) := by decide +kernel
theorem dX4_newDoor_148 : decode cX4_newDoor 148 = .ok (.istore_n 2, 1) := by decide +kernel
theorem dX4_newDoor_149 : decode cX4_newDoor 149 = .ok (.iinc 5 1, 3) := by decide +kernel
theorem dX4_newDoor_152 : decode cX4_newDoor 152 = .ok (.goto (-106), 3) := by decide +kernel
theorem dX4_newDoor_155 : decode cX4_newDoor 155 = .ok (.iinc 4 1, 3) := by decide +kernel
theorem dX4_newDoor_158 : decode cX4_newDoor 158 = .ok (.goto (-125), 3) := by decide +kernel
theorem dX4_newDoor_161 : decode cX4_newDoor 161 = .ok (.iload_n 3, 1) := by decide +kernel
theorem dX4_newDoor_162 : decode cX4_newDoor 162 = .ok (.ireturn, 1) := by decide +kernel
theorem dX4_row_0 : decode cX4_row 0 = .ok (.iload_n 1, 1) := by decide +kernel
theorem dX4_row_1 : decode cX4_row 1 = .ok (.ifCond .ge 10, 3) := by decide +kernel
theorem dX4_row_4 : decode cX4_row 4 = .ok (.aload_n 0, 1) := by decide +kernel
theorem dX4_row_5 : decode cX4_row 5 = .ok (.bipush (-4), 2) := by decide +kernel
theorem dX4_row_7 : decode cX4_row 7 = .ok (.invokevirtual 38, 3) := by decide +kernel
theorem dX4_row_10 : decode cX4_row 10 = .ok (.ireturn, 1) := by decide +kernel
theorem dX4_row_11 : decode cX4_row 11 = .ok (.iload_n 1, 1) := by decide +kernel
theorem dX4_row_12 : decode cX4_row 12 = .ok (.bipush 99, 2) := by decide +kernel
theorem dX4_row_14 : decode cX4_row 14 = .ok (.if_icmp .gt 12, 3) := by decide +kernel
theorem dX4_row_17 : decode cX4_row 17 = .ok (.aload_n 0, 1) := by decide +kernel
theorem dX4_row_18 : decode cX4_row 18 = .ok (.getfield 204, 3) := by decide +kernel
theorem dX4_row_21 : decode cX4_row 21 = .ok (.bipush 12, 2) := by decide +kernel
theorem dX4_row_23 : decode cX4_row 23 = .ok (.if_icmp .ne 10, 3) := by decide +kernel
theorem dX4_row_26 : decode cX4_row 26 = .ok (.aload_n 0, 1) := by decide +kernel
theorem dX4_row_27 : decode cX4_row 27 = .ok (.bipush (-6), 2) := by decide +kernel
theorem dX4_row_29 : decode cX4_row 29 = .ok (.invokevirtual 38, 3) := by decide +kernel
theorem dX4_row_32 : decode cX4_row 32 = .ok (.ireturn, 1) := by decide +kernel
theorem dX4_row_33 : decode cX4_row 33 = .ok (.aload_n 0, 1) := by decide +kernel
theorem dX4_row_34 : decode cX4_row 34 = .ok (.getfield 25, 3) := by decide +kernel
theorem dX4_row_37 : decode cX4_row 37 = .ok (.aload_n 0, 1) := by decide +kernel
theorem dX4_row_38 : decode cX4_row 38 = .ok (.getfield 204, 3) := by decide +kernel
theorem dX4_row_41 : decode cX4_row 41 = .ok (.iload_n 1, 1) := by decide +kernel
theorem dX4_row_42 : decode cX4_row 42 = .ok (.iastore, 1) := by decide +kernel
theorem dX4_row_43 : decode cX4_row 43 = .ok (.aload_n 0, 1) := by decide +kernel
theorem dX4_row_44 : decode cX4_row 44 = .ok (.dup, 1) := by decide +kernel
theorem dX4_row_45 : decode cX4_row 45 = .ok (.getfield 204, 3) := by decide +kernel
theorem dX4_row_48 : decode cX4_row 48 = .ok (.iconst 1, 1) := by decide +kernel
theorem dX4_row_49 : decode cX4_row 49 = .ok (.iadd, 1) := by decide +kernel
theorem dX4_row_50 : decode cX4_row 50 = .ok (.putfield 204, 3) := by decide +kernel
theorem dX4_row_53 : decode cX4_row 53 = .ok (.aload_n 0, 1) := by decide +kernel
theorem dX4_row_54 : decode cX4_row 54 = .ok (.getfield 204, 3) := by decide +kernel
theorem dX4_row_57 : decode cX4_row 57 = .ok (.ireturn, 1) := by decide +kernel
theorem dX4_isTold_0 : decode cX4_isTold 0 = .ok (.aload_n 0, 1) := by decide +kernel
theorem dX4_isTold_1 : decode cX4_isTold 1 = .ok (.aload_n 0, 1) := by decide +kernel
theorem dX4_isTold_2 : decode cX4_isTold 2 = .ok (.getfield 13, 3) := by decide +kernel
theorem dX4_isTold_5 : decode cX4_isTold 5 = .ok (.bipush 99, 2) := by decide +kernel
theorem dX4_isTold_7 : decode cX4_isTold 7 = .ok (.invokevirtual 137, 3) := by decide +kernel
theorem dX4_isTold_10 : decode cX4_isTold 10 = .ok (.iconst 0, 1) := by decide +kernel
theorem dX4_isTold_11 : decode cX4_isTold 11 = .ok (.istore_n 2, 1) := by decide +kernel
theorem dX4_isTold_12 : decode cX4_isTold 12 = .ok (.iload_n 2, 1) := by decide +kernel
theorem dX4_isTold_13 : decode cX4_isTold 13 = .ok (.aload_n 0, 1) := by decide +kernel
theorem dX4_isTold_14 : decode cX4_isTold 14 = .ok (.getfield 9, 3) := by decide +kernel
theorem dX4_isTold_17 : decode cX4_isTold 17 = .ok (.iconst 0, 1) := by decide +kernel
theorem dX4_isTold_18 : decode cX4_isTold 18 = .ok (.iaload, 1) := by decide +kernel
theorem dX4_isTold_19 : decode cX4_isTold 19 = .ok (.if_icmp .ge 41, 3) := by decide +kernel
theorem dX4_isTold_22 : decode cX4_isTold 22 = .ok (.aload_n 0, 1) := by decide +kernel
theorem dX4_isTold_23 : decode cX4_isTold 23 = .ok (.getfield 13, 3) := by decide +kernel
theorem dX4_isTold_26 : decode cX4_isTold 26 = .ok (.iload_n 1, 1) := by decide +kernel
theorem dX4_isTold_27 : decode cX4_isTold 27 = .ok (.iload_n 2, 1) := by decide +kernel
theorem dX4_isTold_28 : decode cX4_isTold 28 = .ok (.invokestatic 57, 3) := by decide +kernel
theorem dX4_isTold_31 : decode cX4_isTold 31 = .ok (.iaload, 1) := by decide +kernel
theorem dX4_isTold_32 : decode cX4_isTold 32 = .ok (.istore_n 3, 1) := by decide +kernel
theorem dX4_isTold_33 : decode cX4_isTold 33 = .ok (.iload_n 3, 1) := by decide +kernel
theorem dX4_isTold_34 : decode cX4_isTold 34 = .ok (.ifCond .ge 8, 3) := by decide +kernel
theorem dX4_isTold_37 : decode cX4_isTold 37 = .ok (.bipush 10, 2) := by decide +kernel
theorem dX4_isTold_39 : decode cX4_isTold 39 = .ok (.goto 4, 3) := by decide +kernel
theorem dX4_isTold_42 : decode cX4_isTold 42 = .ok (.iload_n 3, 1) := by decide +kernel
theorem dX4_isTold_43 : decode cX4_isTold 43 = .ok (.aload_n 0, 1) := by decide +kernel
theorem dX4_isTold_44 : decode cX4_isTold 44 = .ok (.getfield 25, 3) := by decide +kernel
theorem dX4_isTold_47 : decode cX4_isTold 47 = .ok (.iload_n 2, 1) := by decide +kernel
theorem dX4_isTold_48 : decode cX4_isTold 48 = .ok (.iaload, 1) := by decide +kernel
theorem dX4_isTold_49 : decode cX4_isTold 49 = .ok (.if_icmp .eq 5, 3) := by decide +kernel
theorem dX4_isTold_52 : decode cX4_isTold 52 = .ok (.iconst 0, 1) := by decide +kernel
theorem dX4_isTold_53 : decode cX4_isTold 53 = .ok (.ireturn, 1) := by decide +kernel
theorem dX4_isTold_54 : decode cX4_isTold 54 = .ok (.iinc 2 1, 3) := by decide +kernel
theorem dX4_isTold_57 : decode cX4_isTold 57 = .ok (.goto (-45), 3) := by decide +kernel
theorem dX4_isTold_60 : decode cX4_isTold 60 = .ok (.iconst 1, 1) := by decide +kernel
theorem dX4_isTold_61 : decode cX4_isTold 61 = .ok (.ireturn, 1) := by decide +kernel
theorem dX4_which_0 : decode cX4_which 0 = .ok (.aload_n 0, 1) := by decide +kernel
theorem dX4_which_1 : decode cX4_which 1 = .ok (.iload_n 1, 1) := by decide +kernel
theorem dX4_which_2 : decode cX4_which 2 = .ok (.invokevirtual 131, 3) := by decide +kernel
theorem dX4_which_5 : decode cX4_which 5 = .ok (.ifCond .eq 11, 3) := by decide +kernel
theorem dX4_which_8 : decode cX4_which 8 = .ok (.aload_n 0, 1) := by decide +kernel
theorem dX4_which_9 : decode cX4_which 9 = .ok (.iload_n 2, 1) := by decide +kernel
theorem dX4_which_10 : decode cX4_which 10 = .ok (.invokevirtual 134, 3) := by decide +kernel
theorem dX4_which_13 : decode cX4_which 13 = .ok (.ifCond .ne 9, 3) := by decide +kernel
theorem dX4_which_16 : decode cX4_which 16 = .ok (.aload_n 0, 1) := by decide +kernel
theorem dX4_which_17 : decode cX4_which 17 = .ok (.iconst (-1), 1) := by decide +kernel
theorem dX4_which_18 : decode cX4_which 18 = .ok (.invokevirtual 38, 3) := by decide +kernel
theorem dX4_which_21 : decode cX4_which 21 = .ok (.ireturn, 1) := by decide +kernel
theorem dX4_which_22 : decode cX4_which 22 = .ok (.iload_n 3, 1) := by decide +kernel
theorem dX4_which_23 : decode cX4_which 23 = .ok (.iconst 0, 1) := by decide +kernel
theorem dX4_which_24 : decode cX4_which 24 = .ok (.iconst 1, 1) := by decide +kernel
theorem dX4_which_25 : decode cX4_which 25 = .ok (.invokestatic 42, 3) := by decide +kernel
theorem dX4_which_28 : decode cX4_which 28 = .ok (.ifCond .ne 10, 3) := by decide +kernel
theorem dX4_which_31 : decode cX4_which 31 = .ok (.aload_n 0, 1) := by decide +kernel
theorem dX4_which_32 : decode cX4_which 32 = .ok (.bipush (-2), 2) := by decide +kernel
theorem dX4_which_34 : decode cX4_which 34 = .ok (.invokevirtual 38, 3) := by decide +kernel
theorem dX4_which_37 : decode cX4_which 37 = .ok (.ireturn, 1) := by decide +kernel
theorem dX4_which_38 : decode cX4_which 38 = .ok (.aload_n 0, 1) := by decide +kernel
theorem dX4_which_39 : decode cX4_which 39 = .ok (.getfield 204, 3) := by decide +kernel
theorem dX4_which_42 : decode cX4_which 42 = .ok (.aload_n 0, 1) := by decide +kernel
theorem dX4_which_43 : decode cX4_which 43 = .ok (.getfield 9, 3) := by decide +kernel
theorem dX4_which_46 : decode cX4_which 46 = .ok (.iconst 0, 1) := by decide +kernel
theorem dX4_which_47 : decode cX4_which 47 = .ok (.iaload, 1) := by decide +kernel
theorem dX4_which_48 : decode cX4_which 48 = .ok (.if_icmp .eq 10, 3) := by decide +kernel
theorem dX4_which_51 : decode cX4_which 51 = .ok (.aload_n 0, 1) := by decide +kernel
theorem dX4_which_52 : decode cX4_which 52 = .ok (.bipush (-3), 2) := by decide +kernel
theorem dX4_which_54 : decode cX4_which 54 = .ok (.invokevirtual 38, 3) := by decide +kernel
theorem dX4_which_57 : decode cX4_which 57 = .ok (.ireturn, 1) := by decide +kernel
theorem dX4_which_58 : decode cX4_which 58 = .ok (.iconst 0, 1) := by decide +kernel
theorem dX4_which_59 : decode cX4_which 59 = .ok (.istore 4, 2) := by decide +kernel
theorem dX4_which_61 : decode cX4_which 61 = .ok (.iconst 0, 1) := by decide +kernel
theorem dX4_which_62 : decode cX4_which 62 = .ok (.istore 5, 2) := by decide +kernel
theorem dX4_which_64 : decode cX4_which 64 = .ok (.iload 5, 2) := by decide +kernel
theorem dX4_which_66 : decode cX4_which 66 = .ok (.iload_n 3, 1) := by decide +kernel
theorem dX4_which_67 : decode cX4_which 67 = .ok (.ifCond .ne 8, 3) := by decide +kernel
theorem dX4_which_70 : decode cX4_which 70 = .ok (.bipush 6, 2) := by decide +kernel
theorem dX4_which_72 : decode cX4_which 72 = .ok (.goto 5, 3) := by decide +kernel
theorem dX4_which_75 : decode cX4_which 75 = .ok (.bipush 10, 2) := by decide +kernel
theorem dX4_which_77 : decode cX4_which 77 = .ok (.if_icmp .ge 65, 3) := by decide +kernel
theorem dX4_which_80 : decode cX4_which 80 = .ok (.aload_n 0, 1) := by decide +kernel
theorem dX4_which_81 : decode cX4_which 81 = .ok (.getfield 9, 3) := by decide +kernel
theorem dX4_which_84 : decode cX4_which 84 = .ok (.aload_n 0, 1) := by decide +kernel
theorem dX4_which_85 : decode cX4_which 85 = .ok (.getfield 13, 3) := by decide +kernel
theorem dX4_which_88 : decode cX4_which 88 = .ok (.invokestatic 88, 3) := by decide +kernel
theorem dX4_which_91 : decode cX4_which 91 = .ok (.aload_n 0, 1) := by decide +kernel
theorem dX4_which_92 : decode cX4_which 92 = .ok (.getfield 13, 3) := by decide +kernel
theorem dX4_which_95 : decode cX4_which 95 = .ok (.iload_n 3, 1) := by decide +kernel
theorem dX4_which_96 : decode cX4_which 96 = .ok (.ifCond .ne 11, 3) := by decide +kernel
theorem dX4_which_99 : decode cX4_which 99 = .ok (.iload_n 2, 1) := by decide +kernel
theorem dX4_which_100 : decode cX4_which 100 = .ok (.iconst 0, 1) := by decide +kernel
theorem dX4_which_101 : decode cX4_which 101 = .ok (.invokestatic 50, 3) := by decide +kernel
theorem dX4_which_104 : decode cX4_which 104 = .ok (.goto 8, 3) := by decide +kernel
theorem dX4_which_107 : decode cX4_which 107 = .ok (.iload_n 1, 1) := by decide +kernel
theorem dX4_which_108 : decode cX4_which 108 = .ok (.iconst 1, 1) := by decide +kernel
theorem dX4_which_109 : decode cX4_which 109 = .ok (.invokestatic 54, 3) := by decide +kernel
theorem dX4_which_112 : decode cX4_which 112 = .ok (.iload 5, 2) := by decide +kernel
theorem dX4_which_114 : decode cX4_which 114 = .ok (.iastore, 1) := by decide +kernel
theorem dX4_which_115 : decode cX4_which 115 = .ok (.iload 4, 2) := by decide +kernel
theorem dX4_which_117 : decode cX4_which 117 = .ok (.aload_n 0, 1) := by decide +kernel
theorem dX4_which_118 : decode cX4_which 118 = .ok (.iload_n 1, 1) := by decide +kernel
theorem dX4_which_119 : decode cX4_which 119 = .ok (.invokevirtual 207, 3) := by decide +kernel
theorem dX4_which_122 : decode cX4_which 122 = .ok (.ifCond .eq 10, 3) := by decide +kernel
theorem dX4_which_125 : decode cX4_which 125 = .ok (.iconst 1, 1) := by decide +kernel
theorem dX4_which_126 : decode cX4_which 126 = .ok (.iload 5, 2) := by decide +kernel
theorem dX4_which_128 : decode cX4_which 128 = .ok (.ishl, 1) := by decide +kernel
theorem dX4_which_129 : decode cX4_which 129 = .ok (.goto 4, 3) := by decide +kernel
theorem dX4_which_132 : decode cX4_which 132 = .ok (.iconst 0, 1) := by decide +kernel
theorem dX4_which_133 : decode cX4_which 133 = .ok (.ior, 1) := by decide +kernel
theorem dX4_which_134 : decode cX4_which 134 = .ok (.istore 4, 2) := by decide +kernel
theorem dX4_which_136 : decode cX4_which 136 = .ok (.iinc 5 1, 3) := by decide +kernel
theorem dX4_which_139 : decode cX4_which 139 = .ok (.goto (-75), 3) := by decide +kernel
theorem dX4_which_142 : decode cX4_which 142 = .ok (.iload 4, 2) := by decide +kernel
theorem dX4_which_144 : decode cX4_which 144 = .ok (.ireturn, 1) := by decide +kernel
theorem dX4_judge_0 : decode cX4_judge 0 = .ok (.aload_n 0, 1) := by decide +kernel
theorem dX4_judge_1 : decode cX4_judge 1 = .ok (.iload_n 1, 1) := by decide +kernel
theorem dX4_judge_2 : decode cX4_judge 2 = .ok (.invokevirtual 131, 3) := by decide +kernel
theorem dX4_judge_5 : decode cX4_judge 5 = .ok (.ifCond .ne 9, 3) := by decide +kernel
theorem dX4_judge_8 : decode cX4_judge 8 = .ok (.aload_n 0, 1) := by decide +kernel
theorem dX4_judge_9 : decode cX4_judge 9 = .ok (.iconst (-1), 1) := by decide +kernel
theorem dX4_judge_10 : decode cX4_judge 10 = .ok (.invokevirtual 38, 3) := by decide +kernel
theorem dX4_judge_13 : decode cX4_judge 13 = .ok (.ireturn, 1) := by decide +kernel
theorem dX4_judge_14 : decode cX4_judge 14 = .ok (.aload_n 0, 1) := by decide +kernel
theorem dX4_judge_15 : decode cX4_judge 15 = .ok (.getfield 204, 3) := by decide +kernel
theorem dX4_judge_18 : decode cX4_judge 18 = .ok (.istore_n 2, 1) := by decide +kernel
theorem dX4_judge_19 : decode cX4_judge 19 = .ok (.aload_n 0, 1) := by decide +kernel
theorem dX4_judge_20 : decode cX4_judge 20 = .ok (.iconst 0, 1) := by decide +kernel
theorem dX4_judge_21 : decode cX4_judge 21 = .ok (.putfield 204, 3) := by decide +kernel
theorem dX4_judge_24 : decode cX4_judge 24 = .ok (.aload_n 0, 1) := by decide +kernel
theorem dX4_judge_25 : decode cX4_judge 25 = .ok (.getfield 9, 3) := by decide +kernel
theorem dX4_judge_28 : decode cX4_judge 28 = .ok (.aload_n 0, 1) := by decide +kernel
theorem dX4_judge_29 : decode cX4_judge 29 = .ok (.getfield 13, 3) := by decide +kernel
theorem dX4_judge_32 : decode cX4_judge 32 = .ok (.invokestatic 88, 3) := by decide +kernel
theorem dX4_judge_35 : decode cX4_judge 35 = .ok (.iconst 0, 1) := by decide +kernel
theorem dX4_judge_36 : decode cX4_judge 36 = .ok (.istore_n 3, 1) := by decide +kernel
theorem dX4_judge_37 : decode cX4_judge 37 = .ok (.iload_n 3, 1) := by decide +kernel
theorem dX4_judge_38 : decode cX4_judge 38 = .ok (.iload_n 2, 1) := by decide +kernel
theorem dX4_judge_39 : decode cX4_judge 39 = .ok (.if_icmp .ge 36, 3) := by decide +kernel
theorem dX4_judge_42 : decode cX4_judge 42 = .ok (.aload_n 0, 1) := by decide +kernel
theorem dX4_judge_43 : decode cX4_judge 43 = .ok (.getfield 13, 3) := by decide +kernel
theorem dX4_judge_46 : decode cX4_judge 46 = .ok (.iload_n 1, 1) := by decide +kernel
theorem dX4_judge_47 : decode cX4_judge 47 = .ok (.invokestatic 95, 3) := by decide +kernel
theorem dX4_judge_50 : decode cX4_judge 50 = .ok (.aload_n 0, 1) := by decide +kernel
theorem dX4_judge_51 : decode cX4_judge 51 = .ok (.getfield 25, 3) := by decide +kernel
theorem dX4_judge_54 : decode cX4_judge 54 = .ok (.iload_n 3, 1) := by decide +kernel
theorem dX4_judge_55 : decode cX4_judge 55 = .ok (.iaload, 1) := by decide +kernel
theorem dX4_judge_56 : decode cX4_judge 56 = .ok (.if_icmp .eq 5, 3) := by decide +kernel
theorem dX4_judge_59 : decode cX4_judge 59 = .ok (.iload_n 3, 1) := by decide +kernel
theorem dX4_judge_60 : decode cX4_judge 60 = .ok (.ireturn, 1) := by decide +kernel
theorem dX4_judge_61 : decode cX4_judge 61 = .ok (.aload_n 0, 1) := by decide +kernel
theorem dX4_judge_62 : decode cX4_judge 62 = .ok (.aload_n 0, 1) := by decide +kernel
theorem dX4_judge_63 : decode cX4_judge 63 = .ok (.getfield 13, 3) := by decide +kernel
theorem dX4_judge_66 : decode cX4_judge 66 = .ok (.invokevirtual 84, 3) := by decide +kernel
theorem dX4_judge_69 : decode cX4_judge 69 = .ok (.iinc 3 1, 3) := by decide +kernel
theorem dX4_judge_72 : decode cX4_judge 72 = .ok (.goto (-35), 3) := by decide +kernel
theorem dX4_judge_75 : decode cX4_judge 75 = .ok (.bipush (-9), 2) := by decide +kernel
theorem dX4_judge_77 : decode cX4_judge 77 = .ok (.ireturn, 1) := by decide +kernel
theorem dX4_clear_0 : decode cX4_clear 0 = .ok (.aload_n 0, 1) := by decide +kernel
theorem dX4_clear_1 : decode cX4_clear 1 = .ok (.getfield 204, 3) := by decide +kernel
theorem dX4_clear_4 : decode cX4_clear 4 = .ok (.istore_n 1, 1) := by decide +kernel
theorem dX4_clear_5 : decode cX4_clear 5 = .ok (.aload_n 0, 1) := by decide +kernel
theorem dX4_clear_6 : decode cX4_clear 6 = .ok (.iconst 0, 1) := by decide +kernel
theorem dX4_clear_7 : decode cX4_clear 7 = .ok (.putfield 204, 3) := by decide +kernel
theorem dX4_clear_10 : decode cX4_clear 10 = .ok (.iload_n 1, 1) := by decide +kernel
theorem dX4_clear_11 : decode cX4_clear 11 = .ok (.ireturn, 1) := by decide +kernel
theorem dX4_drawn_0 : decode cX4_drawn 0 = .ok (.aload_n 0, 1) := by decide +kernel
theorem dX4_drawn_1 : decode cX4_drawn 1 = .ok (.aload_n 0, 1) := by decide +kernel
theorem dX4_drawn_2 : decode cX4_drawn 2 = .ok (.getfield 210, 3) := by decide +kernel
theorem dX4_drawn_5 : decode cX4_drawn 5 = .ok (.ldc 213, 2) := by decide +kernel
theorem dX4_drawn_7 : decode cX4_drawn 7 = .ok (.imul, 1) := by decide +kernel
theorem dX4_drawn_8 : decode cX4_drawn 8 = .ok (.ldc 214, 2) := by decide +kernel
theorem dX4_drawn_10 : decode cX4_drawn 10 = .ok (.iadd, 1) := by decide +kernel
theorem dX4_drawn_11 : decode cX4_drawn 11 = .ok (.putfield 210, 3) := by decide +kernel
theorem dX4_drawn_14 : decode cX4_drawn 14 = .ok (.aload_n 0, 1) := by decide +kernel
theorem dX4_drawn_15 : decode cX4_drawn 15 = .ok (.getfield 210, 3) := by decide +kernel
theorem dX4_drawn_18 : decode cX4_drawn 18 = .ok (.ldc 215, 2) := by decide +kernel
theorem dX4_drawn_20 : decode cX4_drawn 20 = .ok (.iand, 1) := by decide +kernel
theorem dX4_drawn_21 : decode cX4_drawn 21 = .ok (.sipush 256, 3) := by decide +kernel
theorem dX4_drawn_24 : decode cX4_drawn 24 = .ok (.idiv, 1) := by decide +kernel
theorem dX4_drawn_25 : decode cX4_drawn 25 = .ok (.iload_n 1, 1) := by decide +kernel
theorem dX4_drawn_26 : decode cX4_drawn 26 = .ok (.irem, 1) := by decide +kernel
theorem dX4_drawn_27 : decode cX4_drawn 27 = .ok (.ireturn, 1) := by decide +kernel
theorem dX4_lots_0 : decode cX4_lots 0 = .ok (.iload_n 1, 1) := by decide +kernel
theorem dX4_lots_1 : decode cX4_lots 1 = .ok (.iconst 1, 1) := by decide +kernel
theorem dX4_lots_2 : decode cX4_lots 2 = .ok (.if_icmp .ge 10, 3) := by decide +kernel
theorem dX4_lots_5 : decode cX4_lots 5 = .ok (.aload_n 0, 1) := by decide +kernel
theorem dX4_lots_6 : decode cX4_lots 6 = .ok (.bipush (-4), 2) := by decide +kernel
theorem dX4_lots_8 : decode cX4_lots 8 = .ok (.invokevirtual 38, 3) := by decide +kernel
theorem dX4_lots_11 : decode cX4_lots 11 = .ok (.ireturn, 1) := by decide +kernel
theorem dX4_lots_12 : decode cX4_lots 12 = .ok (.iload_n 1, 1) := by decide +kernel
theorem dX4_lots_13 : decode cX4_lots 13 = .ok (.bipush 20, 2) := by decide +kernel
theorem dX4_lots_15 : decode cX4_lots 15 = .ok (.if_icmp .le 10, 3) := by decide +kernel
theorem dX4_lots_18 : decode cX4_lots 18 = .ok (.aload_n 0, 1) := by decide +kernel
theorem dX4_lots_19 : decode cX4_lots 19 = .ok (.bipush (-6), 2) := by decide +kernel
theorem dX4_lots_21 : decode cX4_lots 21 = .ok (.invokevirtual 38, 3) := by decide +kernel
theorem dX4_lots_24 : decode cX4_lots 24 = .ok (.ireturn, 1) := by decide +kernel
theorem dX4_lots_25 : decode cX4_lots 25 = .ok (.iload_n 3, 1) := by decide +kernel
theorem dX4_lots_26 : decode cX4_lots 26 = .ok (.iconst 0, 1) := by decide +kernel
theorem dX4_lots_27 : decode cX4_lots 27 = .ok (.iconst 1, 1) := by decide +kernel
theorem dX4_lots_28 : decode cX4_lots 28 = .ok (.invokestatic 42, 3) := by decide +kernel
theorem dX4_lots_31 : decode cX4_lots 31 = .ok (.ifCond .ne 10, 3) := by decide +kernel
theorem dX4_lots_34 : decode cX4_lots 34 = .ok (.aload_n 0, 1) := by decide +kernel
theorem dX4_lots_35 : decode cX4_lots 35 = .ok (.bipush (-2), 2) := by decide +kernel
theorem dX4_lots_37 : decode cX4_lots 37 = .ok (.invokevirtual 38, 3) := by decide +kernel
theorem dX4_lots_40 : decode cX4_lots 40 = .ok (.ireturn, 1) := by decide +kernel
theorem dX4_lots_41 : decode cX4_lots 41 = .ok (.aload_n 0, 1) := by decide +kernel
theorem dX4_lots_42 : decode cX4_lots 42 = .ok (.iload_n 2, 1) := by decide +kernel
theorem dX4_lots_43 : decode cX4_lots 43 = .ok (.putfield 210, 3) := by decide +kernel
theorem dX4_lots_46 : decode cX4_lots 46 = .ok (.iconst 0, 1) := by decide +kernel
theorem dX4_lots_47 : decode cX4_lots 47 = .ok (.istore 4, 2) := by decide +kernel
theorem dX4_lots_49 : decode cX4_lots 49 = .ok (.iconst 0, 1) := by decide +kernel
theorem dX4_lots_50 : decode cX4_lots 50 = .ok (.istore 5, 2) := by decide +kernel
theorem dX4_lots_52 : decode cX4_lots 52 = .ok (.iload 5, 2) := by decide +kernel
theorem dX4_lots_54 : decode cX4_lots 54 = .ok (.iload_n 1, 1) := by decide +kernel
theorem dX4_lots_55 : decode cX4_lots 55 = .ok (.if_icmp .ge 136, 3) := by decide +kernel
theorem dX4_lots_58 : decode cX4_lots 58 = .ok (.aload_n 0, 1) := by decide +kernel
theorem dX4_lots_59 : decode cX4_lots 59 = .ok (.invokevirtual 156, 3) := by decide +kernel
theorem dX4_lots_62 : decode cX4_lots 62 = .ok (.iconst 0, 1) := by decide +kernel
theorem dX4_lots_63 : decode cX4_lots 63 = .ok (.istore 6, 2) := by decide +kernel
theorem dX4_lots_65 : decode cX4_lots 65 = .ok (.iload 6, 2) := by decide +kernel
theorem dX4_lots_67 : decode cX4_lots 67 = .ok (.aload_n 0, 1) := by decide +kernel
theorem dX4_lots_68 : decode cX4_lots 68 = .ok (.getfield 13, 3) := by decide +kernel
theorem dX4_lots_71 : decode cX4_lots 71 = .ok (.iconst 1, 1) := by decide +kernel
theorem dX4_lots_72 : decode cX4_lots 72 = .ok (.iaload, 1) := by decide +kernel
theorem dX4_lots_73 : decode cX4_lots 73 = .ok (.if_icmp .ge 43, 3) := by decide +kernel
theorem dX4_lots_76 : decode cX4_lots 76 = .ok (.aload_n 0, 1) := by decide +kernel
theorem dX4_lots_77 : decode cX4_lots 77 = .ok (.getfield 13, 3) := by decide +kernel
theorem dX4_lots_80 : decode cX4_lots 80 = .ok (.iload 6, 2) := by decide +kernel
theorem dX4_lots_82 : decode cX4_lots 82 = .ok (.iconst 3, 1) := by decide +kernel
theorem dX4_lots_83 : decode cX4_lots 83 = .ok (.invokestatic 54, 3) := by decide +kernel
theorem dX4_lots_86 : decode cX4_lots 86 = .ok (.aload_n 0, 1) := by decide +kernel
theorem dX4_lots_87 : decode cX4_lots 87 = .ok (.bipush 7, 2) := by decide +kernel
theorem dX4_lots_89 : decode cX4_lots 89 = .ok (.invokevirtual 216, 3) := by decide +kernel
theorem dX4_lots_92 : decode cX4_lots 92 = .ok (.iastore, 1) := by decide +kernel
theorem dX4_lots_93 : decode cX4_lots 93 = .ok (.aload_n 0, 1) := by decide +kernel
theorem dX4_lots_94 : decode cX4_lots 94 = .ok (.getfield 13, 3) := by decide +kernel
theorem dX4_lots_97 : decode cX4_lots 97 = .ok (.iload 6, 2) := by decide +kernel
theorem dX4_lots_99 : decode cX4_lots 99 = .ok (.iconst 2, 1) := by decide +kernel
theorem dX4_lots_100 : decode cX4_lots 100 = .ok (.invokestatic 54, 3) := by decide +kernel
theorem dX4_lots_103 : decode cX4_lots 103 = .ok (.aload_n 0, 1) := by decide +kernel
theorem dX4_lots_104 : decode cX4_lots 104 = .ok (.bipush 8, 2) := by decide +kernel
theorem dX4_lots_106 : decode cX4_lots 106 = .ok (.invokevirtual 216, 3) := by decide +kernel
theorem dX4_lots_109 : decode cX4_lots 109 = .ok (.iastore, 1) := by decide +kernel
theorem dX4_lots_110 : decode cX4_lots 110 = .ok (.iinc 6 1, 3) := by decide +kernel
theorem dX4_lots_113 : decode cX4_lots 113 = .ok (.goto (-48), 3) := by decide +kernel
theorem dX4_lots_116 : decode cX4_lots 116 = .ok (.aload_n 0, 1) := by decide +kernel
theorem dX4_lots_117 : decode cX4_lots 117 = .ok (.aload_n 0, 1) := by decide +kernel
theorem dX4_lots_118 : decode cX4_lots 118 = .ok (.getfield 13, 3) := by decide +kernel
theorem dX4_lots_121 : decode cX4_lots 121 = .ok (.bipush 30, 2) := by decide +kernel
theorem dX4_lots_123 : decode cX4_lots 123 = .ok (.invokevirtual 137, 3) := by decide +kernel
theorem dX4_lots_126 : decode cX4_lots 126 = .ok (.iload 4, 2) := by decide +kernel
theorem dX4_lots_128 : decode cX4_lots 128 = .ok (.iload_n 3, 1) := by decide +kernel
theorem dX4_lots_129 : decode cX4_lots 129 = .ok (.ifCond .ne 13, 3) := by decide +kernel
theorem dX4_lots_132 : decode cX4_lots 132 = .ok (.aload_n 0, 1) := by decide +kernel
theorem dX4_lots_133 : decode cX4_lots 133 = .ok (.getfield 13, 3) := by decide +kernel
theorem dX4_lots_136 : decode cX4_lots 136 = .ok (.invokestatic 149, 3) := by decide +kernel
theorem dX4_lots_139 : decode cX4_lots 139 = .ok (.goto 4, 3) := by decide +kernel
theorem dX4_lots_142 : decode cX4_lots 142 = .ok (.iconst 0, 1) := by decide +kernel
theorem dX4_lots_143 : decode cX4_lots 143 = .ok (.iadd, 1) := by decide +kernel
theorem dX4_lots_144 : decode cX4_lots 144 = .ok (.istore 4, 2) := by decide +kernel
theorem dX4_lots_146 : decode cX4_lots 146 = .ok (.iconst 0, 1) := by decide +kernel
theorem dX4_lots_147 : decode cX4_lots 147 = .ok (.istore 6, 2) := by decide +kernel
theorem dX4_lots_149 : decode cX4_lots 149 = .ok (.iload 6, 2) := by decide +kernel
theorem dX4_lots_151 : decode cX4_lots 151 = .ok (.aload_n 0, 1) := by decide +kernel
theorem dX4_lots_152 : decode cX4_lots 152 = .ok (.getfield 13, 3) := by decide +kernel
theorem dX4_lots_155 : decode cX4_lots 155 = .ok (.iconst 1, 1) := by decide +kernel
theorem dX4_lots_156 : decode cX4_lots 156 = .ok (.iaload, 1) := by decide +kernel
theorem dX4_lots_157 : decode cX4_lots 157 = .ok (.if_icmp .ge 28, 3) := by decide +kernel
theorem dX4_lots_160 : decode cX4_lots 160 = .ok (.iload_n 3, 1) := by decide +kernel
theorem dX4_lots_161 : decode cX4_lots 161 = .ok (.iconst 1, 1) := by decide +kernel
theorem dX4_lots_162 : decode cX4_lots 162 = .ok (.if_icmp .ne 23, 3) := by decide +kernel
theorem dX4_lots_165 : decode cX4_lots 165 = .ok (.iload 4, 2) := by decide +kernel
theorem dX4_lots_167 : decode cX4_lots 167 = .ok (.aload_n 0, 1) := by decide +kernel
theorem dX4_lots_168 : decode cX4_lots 168 = .ok (.getfield 13, 3) := by decide +kernel
theorem dX4_lots_171 : decode cX4_lots 171 = .ok (.iload 6, 2) := by decide +kernel
theorem dX4_lots_173 : decode cX4_lots 173 = .ok (.invokestatic 159, 3) := by decide +kernel
theorem dX4_lots_176 : decode cX4_lots 176 = .ok (.iadd, 1) := by decide +kernel
theorem dX4_lots_177 : decode cX4_lots 177 = .ok (.istore 4, 2) := by decide +kernel
theorem dX4_lots_179 : decode cX4_lots 179 = .ok (.iinc 6 1, 3) := by decide +kernel
theorem dX4_lots_182 : decode cX4_lots 182 = .ok (.goto (-33), 3) := by decide +kernel
theorem dX4_lots_185 : decode cX4_lots 185 = .ok (.iinc 5 1, 3) := by decide +kernel
theorem dX4_lots_188 : decode cX4_lots 188 = .ok (.goto (-136), 3) := by decide +kernel
theorem dX4_lots_191 : decode cX4_lots 191 = .ok (.iload 4, 2) := by decide +kernel
theorem dX4_lots_193 : decode cX4_lots 193 = .ok (.ireturn, 1) := by decide +kernel
theorem dX4_image_0 : decode cX4_image 0 = .ok (.aload_n 0, 1) := by decide +kernel
theorem dX4_image_1 : decode cX4_image 1 = .ok (.getfield 9, 3) := by decide +kernel
theorem dX4_image_4 : decode cX4_image 4 = .ok (.aload_n 0, 1) := by decide +kernel
theorem dX4_image_5 : decode cX4_image 5 = .ok (.getfield 16, 3) := by decide +kernel
theorem dX4_image_8 : decode cX4_image 8 = .ok (.invokestatic 88, 3) := by decide +kernel
theorem dX4_image_11 : decode cX4_image 11 = .ok (.aload_n 0, 1) := by decide +kernel
theorem dX4_image_12 : decode cX4_image 12 = .ok (.iconst 1, 1) := by decide +kernel
theorem dX4_image_13 : decode cX4_image 13 = .ok (.putfield 219, 3) := by decide +kernel
theorem dX4_image_16 : decode cX4_image 16 = .ok (.aload_n 0, 1) := by decide +kernel
theorem dX4_image_17 : decode cX4_image 17 = .ok (.getfield 9, 3) := by decide +kernel
theorem dX4_image_20 : decode cX4_image 20 = .ok (.iconst 2, 1) := by decide +kernel
theorem dX4_image_21 : decode cX4_image 21 = .ok (.iaload, 1) := by decide +kernel
theorem dX4_image_22 : decode cX4_image 22 = .ok (.ireturn, 1) := by decide +kernel
theorem dX4_on_0 : decode cX4_on 0 = .ok (.aload_n 0, 1) := by decide +kernel
theorem dX4_on_1 : decode cX4_on 1 = .ok (.getfield 219, 3) := by decide +kernel
theorem dX4_on_4 : decode cX4_on 4 = .ok (.ifCond .ne 10, 3) := by decide +kernel
theorem dX4_on_7 : decode cX4_on 7 = .ok (.aload_n 0, 1) := by decide +kernel
theorem dX4_on_8 : decode cX4_on 8 = .ok (.bipush (-3), 2) := by decide +kernel
theorem dX4_on_10 : decode cX4_on 10 = .ok (.invokevirtual 38, 3) := by decide +kernel
theorem dX4_on_13 : decode cX4_on 13 = .ok (.ireturn, 1) := by decide +kernel
theorem dX4_on_14 : decode cX4_on 14 = .ok (.aload_n 0, 1) := by decide +kernel
theorem dX4_on_15 : decode cX4_on 15 = .ok (.getfield 16, 3) := by decide +kernel
theorem dX4_on_18 : decode cX4_on 18 = .ok (.aload_n 0, 1) := by decide +kernel
theorem dX4_on_19 : decode cX4_on 19 = .ok (.getfield 9, 3) := by decide +kernel
theorem dX4_on_22 : decode cX4_on 22 = .ok (.invokestatic 88, 3) := by decide +kernel
theorem dX4_on_25 : decode cX4_on 25 = .ok (.aload_n 0, 1) := by decide +kernel
theorem dX4_on_26 : decode cX4_on 26 = .ok (.getfield 9, 3) := by decide +kernel
theorem dX4_on_29 : decode cX4_on 29 = .ok (.iconst 2, 1) := by decide +kernel
theorem dX4_on_30 : decode cX4_on 30 = .ok (.iaload, 1) := by decide +kernel
theorem dX4_on_31 : decode cX4_on 31 = .ok (.ireturn, 1) := by decide +kernel
theorem dX4_count_0 : decode cX4_count 0 = .ok (.iload_n 1, 1) := by decide +kernel
theorem dX4_count_1 : decode cX4_count 1 = .ok (.bipush 11, 2) := by decide +kernel
theorem dX4_count_3 : decode cX4_count 3 = .ok (.bipush 16, 2) := by decide +kernel
theorem dX4_count_5 : decode cX4_count 5 = .ok (.invokestatic 42, 3) := by decide +kernel
theorem dX4_count_8 : decode cX4_count 8 = .ok (.ifCond .eq 13, 3) := by decide +kernel
theorem dX4_count_11 : decode cX4_count 11 = .ok (.aload_n 0, 1) := by decide +kernel
theorem dX4_count_12 : decode cX4_count 12 = .ok (.getfield 28, 3) := by decide +kernel
theorem dX4_count_15 : decode cX4_count 15 = .ok (.iload_n 1, 1) := by decide +kernel
theorem dX4_count_16 : decode cX4_count 16 = .ok (.bipush 10, 2) := by decide +kernel
theorem dX4_count_18 : decode cX4_count 18 = .ok (.isub, 1) := by decide +kernel
theorem dX4_count_19 : decode cX4_count 19 = .ok (.iaload, 1) := by decide +kernel
theorem dX4_count_20 : decode cX4_count 20 = .ok (.ireturn, 1) := by decide +kernel
theorem dX4_count_21 : decode cX4_count 21 = .ok (.iconst 0, 1) := by decide +kernel
theorem dX4_count_22 : decode cX4_count 22 = .ok (.istore_n 2, 1) := by decide +kernel
theorem dX4_count_23 : decode cX4_count 23 = .ok (.iload_n 1, 1) := by decide +kernel
theorem dX4_count_24 : decode cX4_count 24 = .ok (.tableswitch 168 0 7 #[48, 55, 62, 112, 119, 150, 158, 163], 48) := by decide +kernel
theorem dX4_count_72 : decode cX4_count 72 = .ok (.aload_n 0, 1) := by decide +kernel
theorem dX4_count_73 : decode cX4_count 73 = .ok (.getfield 9, 3) := by decide +kernel
theorem dX4_count_76 : decode cX4_count 76 = .ok (.iconst 0, 1) := by decide +kernel
theorem dX4_count_77 : decode cX4_count 77 = .ok (.iaload, 1) := by decide +kernel
theorem dX4_count_78 : decode cX4_count 78 = .ok (.ireturn, 1) := by decide +kernel
theorem dX4_count_79 : decode cX4_count 79 = .ok (.aload_n 0, 1) := by decide +kernel
theorem dX4_count_80 : decode cX4_count 80 = .ok (.getfield 9, 3) := by decide +kernel
theorem dX4_count_83 : decode cX4_count 83 = .ok (.iconst 1, 1) := by decide +kernel
theorem dX4_count_84 : decode cX4_count 84 = .ok (.iaload, 1) := by decide +kernel
theorem dX4_count_85 : decode cX4_count 85 = .ok (.ireturn, 1) := by decide +kernel
theorem dX4_count_86 : decode cX4_count 86 = .ok (.iconst 0, 1) := by decide +kernel
theorem dX4_count_87 : decode cX4_count 87 = .ok (.istore_n 3, 1) := by decide +kernel
theorem dX4_count_88 : decode cX4_count 88 = .ok (.iload_n 3, 1) := by decide +kernel
theorem dX4_count_89 : decode cX4_count 89 = .ok (.bipush 7, 2) := by decide +kernel
theorem dX4_count_91 : decode cX4_count 91 = .ok (.if_icmp .ge 43, 3) := by decide +kernel
theorem dX4_count_94 : decode cX4_count 94 = .ok (.iload_n 3, 1) := by decide +kernel
theorem dX4_count_95 : decode cX4_count 95 = .ok (.iconst 1, 1) := by decide +kernel
theorem dX4_count_96 : decode cX4_count 96 = .ok (.iadd, 1) := by decide +kernel
theorem dX4_count_97 : decode cX4_count 97 = .ok (.istore 4, 2) := by decide +kernel
theorem dX4_count_99 : decode cX4_count 99 = .ok (.iload 4, 2) := by decide +kernel
theorem dX4_count_101 : decode cX4_count 101 = .ok (.bipush 7, 2) := by decide +kernel
theorem dX4_count_103 : decode cX4_count 103 = .ok (.if_icmp .ge 25, 3) := by decide +kernel
theorem dX4_count_106 : decode cX4_count 106 = .ok (.iload_n 2, 1) := by decide +kernel
theorem dX4_count_107 : decode cX4_count 107 = .ok (.aload_n 0, 1) := by decide +kernel
theorem dX4_count_108 : decode cX4_count 108 = .ok (.getfield 9, 3) := by decide +kernel
theorem dX4_count_111 : decode cX4_count 111 = .ok (.iconst 3, 1) := by decide +kernel
theorem dX4_count_112 : decode cX4_count 112 = .ok (.iload_n 3, 1) := by decide +kernel
theorem dX4_count_113 : decode cX4_count 113 = .ok (.iadd, 1) := by decide +kernel
theorem dX4_count_114 : decode cX4_count 114 = .ok (.iaload, 1) := by decide +kernel
theorem dX4_count_115 : decode cX4_count 115 = .ok (.iload 4, 2) := by decide +kernel
theorem dX4_count_117 : decode cX4_count 117 = .ok (.ishr, 1) := by decide +kernel
theorem dX4_count_118 : decode cX4_count 118 = .ok (.iconst 1, 1) := by decide +kernel
theorem dX4_count_119 : decode cX4_count 119 = .ok (.iand, 1) := by decide +kernel
theorem dX4_count_120 : decode cX4_count 120 = .ok (.iadd, 1) := by decide +kernel
theorem dX4_count_121 : decode cX4_count 121 = .ok (.istore_n 2, 1) := by decide +kernel
theorem dX4_count_122 : decode cX4_count 122 = .ok (.iinc 4 1, 3) := by decide +kernel
theorem dX4_count_125 : decode cX4_count 125 = .ok (.goto (-26), 3) := by decide +kernel
theorem dX4_count_128 : decode cX4_count 128 = .ok (.iinc 3 1, 3) := by decide +kernel
theorem dX4_count_131 : decode cX4_count 131 = .ok (.goto (-43), 3) := by decide +kernel
theorem dX4_count_134 : decode cX4_count 134 = .ok (.iload_n 2, 1) := by decide +kernel
theorem dX4_count_135 : decode cX4_count 135 = .ok (.ireturn, 1) := by decide +kernel
theorem dX4_count_136 : decode cX4_count 136 = .ok (.aload_n 0, 1) := by decide +kernel
theorem dX4_count_137 : decode cX4_count 137 = .ok (.getfield 9, 3) := by decide +kernel
theorem dX4_count_140 : decode cX4_count 140 = .ok (.iconst 2, 1) := by decide +kernel
theorem dX4_count_141 : decode cX4_count 141 = .ok (.iaload, 1) := by decide +kernel
theorem dX4_count_142 : decode cX4_count 142 = .ok (.ireturn, 1) := by decide +kernel
theorem dX4_count_143 : decode cX4_count 143 = .ok (.iconst 0, 1) := by decide +kernel
theorem dX4_count_144 : decode cX4_count 144 = .ok (.istore_n 3, 1) := by decide +kernel
theorem dX4_count_145 : decode cX4_count 145 = .ok (.iload_n 3, 1) := by decide +kernel
theorem dX4_count_146 : decode cX4_count 146 = .ok (.aload_n 0, 1) := by decide +kernel
theorem dX4_count_147 : decode cX4_count 147 = .ok (.getfield 9, 3) := by decide +kernel
theorem dX4_count_150 : decode cX4_count 150 = .ok (.iconst 1, 1) := by decide +kernel
theorem dX4_count_151 : decode cX4_count 151 = .ok (.iaload, 1) := by decide +kernel
theorem dX4_count_152 : decode cX4_count 152 = .ok (.if_icmp .ge 20, 3) := by decide +kernel
theorem dX4_count_155 : decode cX4_count 155 = .ok (.iload_n 2, 1) := by decide +kernel
theorem dX4_count_156 : decode cX4_count 156 = .ok (.aload_n 0, 1) := by decide +kernel
theorem dX4_count_157 : decode cX4_count 157 = .ok (.getfield 9, 3) := by decide +kernel
theorem dX4_count_160 : decode cX4_count 160 = .ok (.iload_n 3, 1) := by decide +kernel
theorem dX4_count_161 : decode cX4_count 161 = .ok (.invokestatic 95, 3) := by decide +kernel
theorem dX4_count_164 : decode cX4_count 164 = .ok (.iadd, 1) := by decide +kernel
theorem dX4_count_165 : decode cX4_count 165 = .ok (.istore_n 2, 1) := by decide +kernel
theorem dX4_count_166 : decode cX4_count 166 = .ok (.iinc 3 1, 3) := by decide +kernel
theorem dX4_count_169 : decode cX4_count 169 = .ok (.goto (-24), 3) := by decide +kernel
theorem dX4_count_172 : decode cX4_count 172 = .ok (.iload_n 2, 1) := by decide +kernel
theorem dX4_count_173 : decode cX4_count 173 = .ok (.ireturn, 1) := by decide +kernel
theorem dX4_count_174 : decode cX4_count 174 = .ok (.aload_n 0, 1) := by decide +kernel
theorem dX4_count_175 : decode cX4_count 175 = .ok (.getfield 9, 3) := by decide +kernel
theorem dX4_count_178 : decode cX4_count 178 = .ok (.invokestatic 149, 3) := by decide +kernel
theorem dX4_count_181 : decode cX4_count 181 = .ok (.ireturn, 1) := by decide +kernel
theorem dX4_count_182 : decode cX4_count 182 = .ok (.aload_n 0, 1) := by decide +kernel
theorem dX4_count_183 : decode cX4_count 183 = .ok (.getfield 204, 3) := by decide +kernel
theorem dX4_count_186 : decode cX4_count 186 = .ok (.ireturn, 1) := by decide +kernel
theorem dX4_count_187 : decode cX4_count 187 = .ok (.aload_n 0, 1) := by decide +kernel
theorem dX4_count_188 : decode cX4_count 188 = .ok (.getfield 102, 3) := by decide +kernel
theorem dX4_count_191 : decode cX4_count 191 = .ok (.ireturn, 1) := by decide +kernel
theorem dX4_count_192 : decode cX4_count 192 = .ok (.bipush (-9), 2) := by decide +kernel
theorem dX4_count_194 : decode cX4_count 194 = .ok (.ireturn, 1) := by decide +kernel
