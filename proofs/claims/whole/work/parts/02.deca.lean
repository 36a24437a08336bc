theorem dX0_init_0 : decode cX0_init 0 = .ok (.aload_n 0, 1) := by decide +kernel
theorem dX0_init_1 : decode cX0_init 1 = .ok (.invokespecial 3, 3) := by decide +kernel
theorem dX0_init_4 : decode cX0_init 4 = .ok (.aload_n 0, 1) := by decide +kernel
theorem dX0_init_5 : decode cX0_init 5 = .ok (.bipush 96, 2) := by decide +kernel
theorem dX0_init_7 : decode cX0_init 7 = .ok (.newarray .int, 2) := by decide +kernel
theorem dX0_init_9 : decode cX0_init 9 = .ok (.putfield 11, 3) := by decide +kernel
theorem dX0_init_12 : decode cX0_init 12 = .ok (.aload_n 0, 1) := by decide +kernel
theorem dX0_init_13 : decode cX0_init 13 = .ok (.iconst 0, 1) := by decide +kernel
theorem dX0_init_14 : decode cX0_init 14 = .ok (.putfield 15, 3) := by decide +kernel
theorem dX0_init_17 : decode cX0_init 17 = .ok (.return_, 1) := by decide +kernel
theorem dX0_length_0 : decode cX0_length 0 = .ok (.aload_n 0, 1) := by decide +kernel
theorem dX0_length_1 : decode cX0_length 1 = .ok (.getfield 15, 3) := by decide +kernel
theorem dX0_length_4 : decode cX0_length 4 = .ok (.ireturn, 1) := by decide +kernel
theorem dX0_isFull_0 : decode cX0_isFull 0 = .ok (.aload_n 0, 1) := by decide +kernel
theorem dX0_isFull_1 : decode cX0_isFull 1 = .ok (.getfield 15, 3) := by decide +kernel
theorem dX0_isFull_4 : decode cX0_isFull 4 = .ok (.bipush 96, 2) := by decide +kernel
theorem dX0_isFull_6 : decode cX0_isFull 6 = .ok (.if_icmp .lt 7, 3) := by decide +kernel
theorem dX0_isFull_9 : decode cX0_isFull 9 = .ok (.iconst 1, 1) := by decide +kernel
theorem dX0_isFull_10 : decode cX0_isFull 10 = .ok (.goto 4, 3) := by decide +kernel
theorem dX0_isFull_13 : decode cX0_isFull 13 = .ok (.iconst 0, 1) := by decide +kernel
theorem dX0_isFull_14 : decode cX0_isFull 14 = .ok (.ireturn, 1) := by decide +kernel
theorem dX0_append_0 : decode cX0_append 0 = .ok (.aload_n 0, 1) := by decide +kernel
theorem dX0_append_1 : decode cX0_append 1 = .ok (.getfield 15, 3) := by decide +kernel
theorem dX0_append_4 : decode cX0_append 4 = .ok (.bipush 96, 2) := by decide +kernel
theorem dX0_append_6 : decode cX0_append 6 = .ok (.if_icmp .ge 23, 3) := by decide +kernel
theorem dX0_append_9 : decode cX0_append 9 = .ok (.aload_n 0, 1) := by decide +kernel
theorem dX0_append_10 : decode cX0_append 10 = .ok (.getfield 11, 3) := by decide +kernel
theorem dX0_append_13 : decode cX0_append 13 = .ok (.aload_n 0, 1) := by decide +kernel
theorem dX0_append_14 : decode cX0_append 14 = .ok (.getfield 15, 3) := by decide +kernel
theorem dX0_append_17 : decode cX0_append 17 = .ok (.iload_n 1, 1) := by decide +kernel
theorem dX0_append_18 : decode cX0_append 18 = .ok (.iastore, 1) := by decide +kernel
theorem dX0_append_19 : decode cX0_append 19 = .ok (.aload_n 0, 1) := by decide +kernel
theorem dX0_append_20 : decode cX0_append 20 = .ok (.dup, 1) := by decide +kernel
theorem dX0_append_21 : decode cX0_append 21 = .ok (.getfield 15, 3) := by decide +kernel
theorem dX0_append_24 : decode cX0_append 24 = .ok (.iconst 1, 1) := by decide +kernel
theorem dX0_append_25 : decode cX0_append 25 = .ok (.iadd, 1) := by decide +kernel
theorem dX0_append_26 : decode cX0_append 26 = .ok (.putfield 15, 3) := by decide +kernel
theorem dX0_append_29 : decode cX0_append 29 = .ok (.aload_n 0, 1) := by decide +kernel
theorem dX0_append_30 : decode cX0_append 30 = .ok (.getfield 15, 3) := by decide +kernel
theorem dX0_append_33 : decode cX0_append 33 = .ok (.ireturn, 1) := by decide +kernel
theorem dX0_forget_0 : decode cX0_forget 0 = .ok (.aload_n 0, 1) := by decide +kernel
theorem dX0_forget_1 : decode cX0_forget 1 = .ok (.iconst 0, 1) := by decide +kernel
theorem dX0_forget_2 : decode cX0_forget 2 = .ok (.putfield 15, 3) := by decide +kernel
theorem dX0_forget_5 : decode cX0_forget 5 = .ok (.return_, 1) := by decide +kernel
theorem dX0_at_0 : decode cX0_at 0 = .ok (.iload_n 1, 1) := by decide +kernel
theorem dX0_at_1 : decode cX0_at 1 = .ok (.ifCond .lt 20, 3) := by decide +kernel
theorem dX0_at_4 : decode cX0_at 4 = .ok (.iload_n 1, 1) := by decide +kernel
theorem dX0_at_5 : decode cX0_at 5 = .ok (.aload_n 0, 1) := by decide +kernel
theorem dX0_at_6 : decode cX0_at 6 = .ok (.getfield 15, 3) := by decide +kernel
theorem dX0_at_9 : decode cX0_at 9 = .ok (.if_icmp .ge 12, 3) := by decide +kernel
theorem dX0_at_12 : decode cX0_at 12 = .ok (.aload_n 0, 1) := by decide +kernel
theorem dX0_at_13 : decode cX0_at 13 = .ok (.getfield 11, 3) := by decide +kernel
theorem dX0_at_16 : decode cX0_at 16 = .ok (.iload_n 1, 1) := by decide +kernel
theorem dX0_at_17 : decode cX0_at 17 = .ok (.iaload, 1) := by decide +kernel
theorem dX0_at_18 : decode cX0_at 18 = .ok (.goto 4, 3) := by decide +kernel
theorem dX0_at_21 : decode cX0_at 21 = .ok (.iconst 0, 1) := by decide +kernel
theorem dX0_at_22 : decode cX0_at 22 = .ok (.ireturn, 1) := by decide +kernel
theorem dX0_digit_0 : decode cX0_digit 0 = .ok (.aload_n 0, 1) := by decide +kernel
theorem dX0_digit_1 : decode cX0_digit 1 = .ok (.iload_n 1, 1) := by decide +kernel
theorem dX0_digit_2 : decode cX0_digit 2 = .ok (.invokevirtual 19, 3) := by decide +kernel
theorem dX0_digit_5 : decode cX0_digit 5 = .ok (.bipush 48, 2) := by decide +kernel
theorem dX0_digit_7 : decode cX0_digit 7 = .ok (.isub, 1) := by decide +kernel
theorem dX0_digit_8 : decode cX0_digit 8 = .ok (.ireturn, 1) := by decide +kernel
theorem dX0_kindOf_0 : decode cX0_kindOf 0 = .ok (.ldc 23, 2) := by decide +kernel
theorem dX0_kindOf_2 : decode cX0_kindOf 2 = .ok (.iload_n 0, 1) := by decide +kernel
theorem dX0_kindOf_3 : decode cX0_kindOf 3 = .ok (.i2c, 1) := by decide +kernel
theorem dX0_kindOf_4 : decode cX0_kindOf 4 = .ok (.invokevirtual 25, 3) := by decide +kernel
theorem dX0_kindOf_7 : decode cX0_kindOf 7 = .ok (.ireturn, 1) := by decide +kernel
theorem dX0_signsBehind_0 : decode cX0_signsBehind 0 = .ok (.iload_n 0, 1) := by decide +kernel
theorem dX0_signsBehind_1 : decode cX0_signsBehind 1 = .ok (.lookupswitch 65 #[(97, 59), (100, 59), (103, 61), (109, 59), (113, 63), (119, 61)], 59) := by decide +kernel
theorem dX0_signsBehind_60 : decode cX0_signsBehind 60 = .ok (.iconst 2, 1) := by decide +kernel
theorem dX0_signsBehind_61 : decode cX0_signsBehind 61 = .ok (.ireturn, 1) := by decide +kernel
theorem dX0_signsBehind_62 : decode cX0_signsBehind 62 = .ok (.iconst 3, 1) := by decide +kernel
theorem dX0_signsBehind_63 : decode cX0_signsBehind 63 = .ok (.ireturn, 1) := by decide +kernel
theorem dX0_signsBehind_64 : decode cX0_signsBehind 64 = .ok (.iconst 4, 1) := by decide +kernel
theorem dX0_signsBehind_65 : decode cX0_signsBehind 65 = .ok (.ireturn, 1) := by decide +kernel
theorem dX0_signsBehind_66 : decode cX0_signsBehind 66 = .ok (.iconst 0, 1) := by decide +kernel
theorem dX0_signsBehind_67 : decode cX0_signsBehind 67 = .ok (.ireturn, 1) := by decide +kernel
theorem dX0_faultOfForm_0 : decode cX0_faultOfForm 0 = .ok (.iconst 0, 1) := by decide +kernel
theorem dX0_faultOfForm_1 : decode cX0_faultOfForm 1 = .ok (.istore_n 1, 1) := by decide +kernel
theorem dX0_faultOfForm_2 : decode cX0_faultOfForm 2 = .ok (.aload_n 0, 1) := by decide +kernel
theorem dX0_faultOfForm_3 : decode cX0_faultOfForm 3 = .ok (.iload_n 1, 1) := by decide +kernel
theorem dX0_faultOfForm_4 : decode cX0_faultOfForm 4 = .ok (.invokevirtual 30, 3) := by decide +kernel
theorem dX0_faultOfForm_7 : decode cX0_faultOfForm 7 = .ok (.istore_n 2, 1) := by decide +kernel
theorem dX0_faultOfForm_8 : decode cX0_faultOfForm 8 = .ok (.iload_n 2, 1) := by decide +kernel
theorem dX0_faultOfForm_9 : decode cX0_faultOfForm 9 = .ok (.bipush (-9), 2) := by decide +kernel
theorem dX0_faultOfForm_11 : decode cX0_faultOfForm 11 = .ok (.if_icmp .eq 5, 3) := by decide +kernel
theorem dX0_faultOfForm_14 : decode cX0_faultOfForm 14 = .ok (.iload_n 2, 1) := by decide +kernel
theorem dX0_faultOfForm_15 : decode cX0_faultOfForm 15 = .ok (.ireturn, 1) := by decide +kernel
theorem dX0_faultOfForm_16 : decode cX0_faultOfForm 16 = .ok (.iload_n 1, 1) := by decide +kernel
theorem dX0_faultOfForm_17 : decode cX0_faultOfForm 17 = .ok (.aload_n 0, 1) := by decide +kernel
theorem dX0_faultOfForm_18 : decode cX0_faultOfForm 18 = .ok (.iload_n 1, 1) := by decide +kernel
theorem dX0_faultOfForm_19 : decode cX0_faultOfForm 19 = .ok (.invokevirtual 19, 3) := by decide +kernel
theorem dX0_faultOfForm_22 : decode cX0_faultOfForm 22 = .ok (.invokestatic 33, 3) := by decide +kernel
theorem dX0_faultOfForm_25 : decode cX0_faultOfForm 25 = .ok (.iconst 2, 1) := by decide +kernel
theorem dX0_faultOfForm_26 : decode cX0_faultOfForm 26 = .ok (.iadd, 1) := by decide +kernel
theorem dX0_faultOfForm_27 : decode cX0_faultOfForm 27 = .ok (.iadd, 1) := by decide +kernel
theorem dX0_faultOfForm_28 : decode cX0_faultOfForm 28 = .ok (.istore_n 1, 1) := by decide +kernel
theorem dX0_faultOfForm_29 : decode cX0_faultOfForm 29 = .ok (.iload_n 1, 1) := by decide +kernel
theorem dX0_faultOfForm_30 : decode cX0_faultOfForm 30 = .ok (.aload_n 0, 1) := by decide +kernel
theorem dX0_faultOfForm_31 : decode cX0_faultOfForm 31 = .ok (.getfield 15, 3) := by decide +kernel
theorem dX0_faultOfForm_34 : decode cX0_faultOfForm 34 = .ok (.if_icmp .lt (-32), 3) := by decide +kernel
theorem dX0_faultOfForm_37 : decode cX0_faultOfForm 37 = .ok (.bipush (-9), 2) := by decide +kernel
theorem dX0_faultOfForm_39 : decode cX0_faultOfForm 39 = .ok (.ireturn, 1) := by decide +kernel
theorem dX0_faultOfStatement_0 : decode cX0_faultOfStatement 0 = .ok (.aload_n 0, 1) := by decide +kernel
theorem dX0_faultOfStatement_1 : decode cX0_faultOfStatement 1 = .ok (.iload_n 1, 1) := by decide +kernel
theorem dX0_faultOfStatement_2 : decode cX0_faultOfStatement 2 = .ok (.invokevirtual 19, 3) := by decide +kernel
theorem dX0_faultOfStatement_5 : decode cX0_faultOfStatement 5 = .ok (.istore_n 2, 1) := by decide +kernel
theorem dX0_faultOfStatement_6 : decode cX0_faultOfStatement 6 = .ok (.iload_n 2, 1) := by decide +kernel
theorem dX0_faultOfStatement_7 : decode cX0_faultOfStatement 7 = .ok (.invokestatic 33, 3) := by decide +kernel
theorem dX0_faultOfStatement_10 : decode cX0_faultOfStatement 10 = .ok (.istore_n 3, 1) := by decide +kernel
theorem dX0_faultOfStatement_11 : decode cX0_faultOfStatement 11 = .ok (.iload_n 3, 1) := by decide +kernel
theorem dX0_faultOfStatement_12 : decode cX0_faultOfStatement 12 = .ok (.ifCond .ne 5, 3) := by decide +kernel
theorem dX0_faultOfStatement_15 : decode cX0_faultOfStatement 15 = .ok (.iload_n 1, 1) := by decide +kernel
theorem dX0_faultOfStatement_16 : decode cX0_faultOfStatement 16 = .ok (.ireturn, 1) := by decide +kernel
theorem dX0_faultOfStatement_17 : decode cX0_faultOfStatement 17 = .ok (.iconst 1, 1) := by decide +kernel
theorem dX0_faultOfStatement_18 : decode cX0_faultOfStatement 18 = .ok (.istore 4, 2) := by decide +kernel
theorem dX0_faultOfStatement_20 : decode cX0_faultOfStatement 20 = .ok (.iload 4, 2) := by decide +kernel
theorem dX0_faultOfStatement_22 : decode cX0_faultOfStatement 22 = .ok (.iload_n 3, 1) := by decide +kernel
theorem dX0_faultOfStatement_23 : decode cX0_faultOfStatement 23 = .ok (.iconst 1, 1) := by decide +kernel
theorem dX0_faultOfStatement_24 : decode cX0_faultOfStatement 24 = .ok (.iadd, 1) := by decide +kernel
theorem dX0_faultOfStatement_25 : decode cX0_faultOfStatement 25 = .ok (.if_icmp .gt 43, 3) := by decide +kernel
theorem dX0_faultOfStatement_28 : decode cX0_faultOfStatement 28 = .ok (.iload_n 1, 1) := by decide +kernel
theorem dX0_faultOfStatement_29 : decode cX0_faultOfStatement 29 = .ok (.iload 4, 2) := by decide +kernel
theorem dX0_faultOfStatement_31 : decode cX0_faultOfStatement 31 = .ok (.iadd, 1) := by decide +kernel
theorem dX0_faultOfStatement_32 : decode cX0_faultOfStatement 32 = .ok (.aload_n 0, 1) := by decide +kernel
theorem dX0_faultOfStatement_33 : decode cX0_faultOfStatement 33 = .ok (.getfield 15, 3) := by decide +kernel
theorem dX0_faultOfStatement_36 : decode cX0_faultOfStatement 36 = .ok (.if_icmp .ge 21, 3) := by decide +kernel
theorem dX0_faultOfStatement_39 : decode cX0_faultOfStatement 39 = .ok (.iload_n 2, 1) := by decide +kernel
theorem dX0_faultOfStatement_40 : decode cX0_faultOfStatement 40 = .ok (.iload 4, 2) := by decide +kernel
theorem dX0_faultOfStatement_42 : decode cX0_faultOfStatement 42 = .ok (.iload_n 3, 1) := by decide +kernel
theorem dX0_faultOfStatement_43 : decode cX0_faultOfStatement 43 = .ok (.aload_n 0, 1) := by decide +kernel
theorem dX0_faultOfStatement_44 : decode cX0_faultOfStatement 44 = .ok (.iload_n 1, 1) := by decide +kernel
theorem dX0_faultOfStatement_45 : decode cX0_faultOfStatement 45 = .ok (.iload 4, 2) := by decide +kernel
theorem dX0_faultOfStatement_47 : decode cX0_faultOfStatement 47 = .ok (.iadd, 1) := by decide +kernel
theorem dX0_faultOfStatement_48 : decode cX0_faultOfStatement 48 = .ok (.invokevirtual 19, 3) := by decide +kernel
theorem dX0_faultOfStatement_51 : decode cX0_faultOfStatement 51 = .ok (.invokestatic 36, 3) := by decide +kernel
theorem dX0_faultOfStatement_54 : decode cX0_faultOfStatement 54 = .ok (.ifCond .ne 8, 3) := by decide +kernel
theorem dX0_faultOfStatement_57 : decode cX0_faultOfStatement 57 = .ok (.iload_n 1, 1) := by decide +kernel
theorem dX0_faultOfStatement_58 : decode cX0_faultOfStatement 58 = .ok (.iload 4, 2) := by decide +kernel
theorem dX0_faultOfStatement_60 : decode cX0_faultOfStatement 60 = .ok (.iadd, 1) := by decide +kernel
theorem dX0_faultOfStatement_61 : decode cX0_faultOfStatement 61 = .ok (.ireturn, 1) := by decide +kernel
theorem dX0_faultOfStatement_62 : decode cX0_faultOfStatement 62 = .ok (.iinc 4 1, 3) := by decide +kernel
theorem dX0_faultOfStatement_65 : decode cX0_faultOfStatement 65 = .ok (.goto (-45), 3) := by decide +kernel
theorem dX0_faultOfStatement_68 : decode cX0_faultOfStatement 68 = .ok (.bipush (-9), 2) := by decide +kernel
theorem dX0_faultOfStatement_70 : decode cX0_faultOfStatement 70 = .ok (.ireturn, 1) := by decide +kernel
theorem dX0_fits_0 : decode cX0_fits 0 = .ok (.iload_n 1, 1) := by decide +kernel
theorem dX0_fits_1 : decode cX0_fits 1 = .ok (.iload_n 2, 1) := by decide +kernel
theorem dX0_fits_2 : decode cX0_fits 2 = .ok (.if_icmp .le 15, 3) := by decide +kernel
theorem dX0_fits_5 : decode cX0_fits 5 = .ok (.iload_n 3, 1) := by decide +kernel
theorem dX0_fits_6 : decode cX0_fits 6 = .ok (.bipush 59, 2) := by decide +kernel
theorem dX0_fits_8 : decode cX0_fits 8 = .ok (.if_icmp .ne 7, 3) := by decide +kernel
theorem dX0_fits_11 : decode cX0_fits 11 = .ok (.iconst 1, 1) := by decide +kernel
theorem dX0_fits_12 : decode cX0_fits 12 = .ok (.goto 4, 3) := by decide +kernel
theorem dX0_fits_15 : decode cX0_fits 15 = .ok (.iconst 0, 1) := by decide +kernel
theorem dX0_fits_16 : decode cX0_fits 16 = .ok (.ireturn, 1) := by decide +kernel
theorem dX0_fits_17 : decode cX0_fits 17 = .ok (.iload_n 0, 1) := by decide +kernel
theorem dX0_fits_18 : decode cX0_fits 18 = .ok (.bipush 113, 2) := by decide +kernel
theorem dX0_fits_20 : decode cX0_fits 20 = .ok (.if_icmp .ne 21, 3) := by decide +kernel
theorem dX0_fits_23 : decode cX0_fits 23 = .ok (.iload_n 1, 1) := by decide +kernel
theorem dX0_fits_24 : decode cX0_fits 24 = .ok (.iconst 1, 1) := by decide +kernel
theorem dX0_fits_25 : decode cX0_fits 25 = .ok (.if_icmp .ne 16, 3) := by decide +kernel
theorem dX0_fits_28 : decode cX0_fits 28 = .ok (.iload_n 3, 1) := by decide +kernel
theorem dX0_fits_29 : decode cX0_fits 29 = .ok (.invokestatic 40, 3) := by decide +kernel
theorem dX0_fits_32 : decode cX0_fits 32 = .ok (.ifCond .lt 7, 3) := by decide +kernel
theorem dX0_fits_35 : decode cX0_fits 35 = .ok (.iconst 1, 1) := by decide +kernel
theorem dX0_fits_36 : decode cX0_fits 36 = .ok (.goto 4, 3) := by decide +kernel
theorem dX0_fits_39 : decode cX0_fits 39 = .ok (.iconst 0, 1) := by decide +kernel
theorem dX0_fits_40 : decode cX0_fits 40 = .ok (.ireturn, 1) := by decide +kernel
theorem dX0_fits_41 : decode cX0_fits 41 = .ok (.iload_n 3, 1) := by decide +kernel
theorem dX0_fits_42 : decode cX0_fits 42 = .ok (.bipush 48, 2) := by decide +kernel
theorem dX0_fits_44 : decode cX0_fits 44 = .ok (.if_icmp .lt 13, 3) := by decide +kernel
theorem dX0_fits_47 : decode cX0_fits 47 = .ok (.iload_n 3, 1) := by decide +kernel
theorem dX0_fits_48 : decode cX0_fits 48 = .ok (.bipush 57, 2) := by decide +kernel
theorem dX0_fits_50 : decode cX0_fits 50 = .ok (.if_icmp .gt 7, 3) := by decide +kernel
theorem dX0_fits_53 : decode cX0_fits 53 = .ok (.iconst 1, 1) := by decide +kernel
theorem dX0_fits_54 : decode cX0_fits 54 = .ok (.goto 4, 3) := by decide +kernel
theorem dX0_fits_57 : decode cX0_fits 57 = .ok (.iconst 0, 1) := by decide +kernel
theorem dX0_fits_58 : decode cX0_fits 58 = .ok (.ireturn, 1) := by decide +kernel
theorem dX1_init_0 : decode cX1_init 0 = .ok (.aload_n 0, 1) := by decide +kernel
theorem dX1_init_1 : decode cX1_init 1 = .ok (.invokespecial 3, 3) := by decide +kernel
theorem dX1_init_4 : decode cX1_init 4 = .ok (.aload_n 0, 1) := by decide +kernel
theorem dX1_init_5 : decode cX1_init 5 = .ok (.new 9, 3) := by decide +kernel
theorem dX1_init_8 : decode cX1_init 8 = .ok (.dup, 1) := by decide +kernel
theorem dX1_init_9 : decode cX1_init 9 = .ok (.invokespecial 11, 3) := by decide +kernel
theorem dX1_init_12 : decode cX1_init 12 = .ok (.putfield 12, 3) := by decide +kernel
theorem dX1_init_15 : decode cX1_init 15 = .ok (.aload_n 0, 1) := by decide +kernel
theorem dX1_init_16 : decode cX1_init 16 = .ok (.iconst 0, 1) := by decide +kernel
theorem dX1_init_17 : decode cX1_init 17 = .ok (.putfield 18, 3) := by decide +kernel
theorem dX1_init_20 : decode cX1_init 20 = .ok (.aload_n 0, 1) := by decide +kernel
theorem dX1_init_21 : decode cX1_init 21 = .ok (.iconst 0, 1) := by decide +kernel
theorem dX1_init_22 : decode cX1_init 22 = .ok (.putfield 22, 3) := by decide +kernel
theorem dX1_init_25 : decode cX1_init 25 = .ok (.aload_n 0, 1) := by decide +kernel
theorem dX1_init_26 : decode cX1_init 26 = .ok (.bipush 8, 2) := by decide +kernel
theorem dX1_init_28 : decode cX1_init 28 = .ok (.newarray .int, 2) := by decide +kernel
theorem dX1_init_30 : decode cX1_init 30 = .ok (.putfield 25, 3) := by decide +kernel
theorem dX1_init_33 : decode cX1_init 33 = .ok (.aload_n 0, 1) := by decide +kernel
theorem dX1_init_34 : decode cX1_init 34 = .ok (.bipush 8, 2) := by decide +kernel
theorem dX1_init_36 : decode cX1_init 36 = .ok (.newarray .int, 2) := by decide +kernel
theorem dX1_init_38 : decode cX1_init 38 = .ok (.putfield 29, 3) := by decide +kernel
theorem dX1_init_41 : decode cX1_init 41 = .ok (.aload_n 0, 1) := by decide +kernel
theorem dX1_init_42 : decode cX1_init 42 = .ok (.bipush 8, 2) := by decide +kernel
theorem dX1_init_44 : decode cX1_init 44 = .ok (.newarray .int, 2) := by decide +kernel
theorem dX1_init_46 : decode cX1_init 46 = .ok (.putfield 32, 3) := by decide +kernel
theorem dX1_init_49 : decode cX1_init 49 = .ok (.aload_n 0, 1) := by decide +kernel
theorem dX1_init_50 : decode cX1_init 50 = .ok (.bipush 8, 2) := by decide +kernel
theorem dX1_init_52 : decode cX1_init 52 = .ok (.newarray .int, 2) := by decide +kernel
theorem dX1_init_54 : decode cX1_init 54 = .ok (.putfield 35, 3) := by decide +kernel
theorem dX1_init_57 : decode cX1_init 57 = .ok (.aload_n 0, 1) := by decide +kernel
theorem dX1_init_58 : decode cX1_init 58 = .ok (.iconst 0, 1) := by decide +kernel
theorem dX1_init_59 : decode cX1_init 59 = .ok (.putfield 38, 3) := by decide +kernel
theorem dX1_init_62 : decode cX1_init 62 = .ok (.aload_n 0, 1) := by decide +kernel
theorem dX1_init_63 : decode cX1_init 63 = .ok (.iconst 5, 1) := by decide +kernel
theorem dX1_init_64 : decode cX1_init 64 = .ok (.newarray .int, 2) := by decide +kernel
theorem dX1_init_66 : decode cX1_init 66 = .ok (.putfield 41, 3) := by decide +kernel
theorem dX1_init_69 : decode cX1_init 69 = .ok (.aload_n 0, 1) := by decide +kernel
theorem dX1_init_70 : decode cX1_init 70 = .ok (.iconst 5, 1) := by decide +kernel
theorem dX1_init_71 : decode cX1_init 71 = .ok (.newarray .int, 2) := by decide +kernel
theorem dX1_init_73 : decode cX1_init 73 = .ok (.putfield 44, 3) := by decide +kernel
theorem dX1_init_76 : decode cX1_init 76 = .ok (.aload_n 0, 1) := by decide +kernel
theorem dX1_init_77 : decode cX1_init 77 = .ok (.iconst 5, 1) := by decide +kernel
theorem dX1_init_78 : decode cX1_init 78 = .ok (.newarray .int, 2) := by decide +kernel
theorem dX1_init_80 : decode cX1_init 80 = .ok (.putfield 47, 3) := by decide +kernel
theorem dX1_init_83 : decode cX1_init 83 = .ok (.aload_n 0, 1) := by decide +kernel
theorem dX1_init_84 : decode cX1_init 84 = .ok (.iconst 5, 1) := by decide +kernel
theorem dX1_init_85 : decode cX1_init 85 = .ok (.newarray .int, 2) := by decide +kernel
theorem dX1_init_87 : decode cX1_init 87 = .ok (.putfield 50, 3) := by decide +kernel
theorem dX1_init_90 : decode cX1_init 90 = .ok (.aload_n 0, 1) := by decide +kernel
theorem dX1_init_91 : decode cX1_init 91 = .ok (.iconst 5, 1) := by decide +kernel
theorem dX1_init_92 : decode cX1_init 92 = .ok (.newarray .int, 2) := by decide +kernel
theorem dX1_init_94 : decode cX1_init 94 = .ok (.putfield 53, 3) := by decide +kernel
theorem dX1_init_97 : decode cX1_init 97 = .ok (.aload_n 0, 1) := by decide +kernel
theorem dX1_init_98 : decode cX1_init 98 = .ok (.bipush 40, 2) := by decide +kernel
theorem dX1_init_100 : decode cX1_init 100 = .ok (.newarray .int, 2) := by decide +kernel
theorem dX1_init_102 : decode cX1_init 102 = .ok (.putfield 56, 3) := by decide +kernel
theorem dX1_init_105 : decode cX1_init 105 = .ok (.aload_n 0, 1) := by decide +kernel
theorem dX1_init_106 : decode cX1_init 106 = .ok (.bipush 40, 2) := by decide +kernel
theorem dX1_init_108 : decode cX1_init 108 = .ok (.newarray .int, 2) := by decide +kernel
theorem dX1_init_110 : decode cX1_init 110 = .ok (.putfield 59, 3) := by decide +kernel
theorem dX1_init_113 : decode cX1_init 113 = .ok (.aload_n 0, 1) := by decide +kernel
theorem dX1_init_114 : decode cX1_init 114 = .ok (.getfield 56, 3) := by decide +kernel
theorem dX1_init_117 : decode cX1_init 117 = .ok (.bipush (-9), 2) := by decide +kernel
theorem dX1_init_119 : decode cX1_init 119 = .ok (.invokestatic 62, 3) := by decide +kernel
theorem dX1_init_122 : decode cX1_init 122 = .ok (.aload_n 0, 1) := by decide +kernel
theorem dX1_init_123 : decode cX1_init 123 = .ok (.getfield 59, 3) := by decide +kernel
theorem dX1_init_126 : decode cX1_init 126 = .ok (.bipush (-9), 2) := by decide +kernel
theorem dX1_init_128 : decode cX1_init 128 = .ok (.invokestatic 62, 3) := by decide +kernel
theorem dX1_init_131 : decode cX1_init 131 = .ok (.return_, 1) := by decide +kernel
theorem dX1_become_0 : decode cX1_become 0 = .ok (.aload_n 0, 1) := by decide +kernel
theorem dX1_become_1 : decode cX1_become 1 = .ok (.getfield 12, 3) := by decide +kernel
theorem dX1_become_4 : decode cX1_become 4 = .ok (.aload_n 1, 1) := by decide +kernel
theorem dX1_become_5 : decode cX1_become 5 = .ok (.getfield 12, 3) := by decide +kernel
theorem dX1_become_8 : decode cX1_become 8 = .ok (.invokevirtual 68, 3) := by decide +kernel
theorem dX1_become_11 : decode cX1_become 11 = .ok (.aload_n 0, 1) := by decide +kernel
theorem dX1_become_12 : decode cX1_become 12 = .ok (.aload_n 1, 1) := by decide +kernel
theorem dX1_become_13 : decode cX1_become 13 = .ok (.getfield 18, 3) := by decide +kernel
theorem dX1_become_16 : decode cX1_become 16 = .ok (.putfield 18, 3) := by decide +kernel
theorem dX1_become_19 : decode cX1_become 19 = .ok (.aload_n 0, 1) := by decide +kernel
theorem dX1_become_20 : decode cX1_become 20 = .ok (.aload_n 1, 1) := by decide +kernel
theorem dX1_become_21 : decode cX1_become 21 = .ok (.getfield 22, 3) := by decide +kernel
theorem dX1_become_24 : decode cX1_become 24 = .ok (.putfield 22, 3) := by decide +kernel
theorem dX1_become_27 : decode cX1_become 27 = .ok (.aload_n 1, 1) := by decide +kernel
theorem dX1_become_28 : decode cX1_become 28 = .ok (.getfield 25, 3) := by decide +kernel
theorem dX1_become_31 : decode cX1_become 31 = .ok (.iconst 0, 1) := by decide +kernel
theorem dX1_become_32 : decode cX1_become 32 = .ok (.aload_n 0, 1) := by decide +kernel
theorem dX1_become_33 : decode cX1_become 33 = .ok (.getfield 25, 3) := by decide +kernel
theorem dX1_become_36 : decode cX1_become 36 = .ok (.iconst 0, 1) := by decide +kernel
theorem dX1_become_37 : decode cX1_become 37 = .ok (.bipush 8, 2) := by decide +kernel
theorem dX1_become_39 : decode cX1_become 39 = .ok (.invokestatic 72, 3) := by decide +kernel
theorem dX1_become_42 : decode cX1_become 42 = .ok (.aload_n 1, 1) := by decide +kernel
theorem dX1_become_43 : decode cX1_become 43 = .ok (.getfield 29, 3) := by decide +kernel
theorem dX1_become_46 : decode cX1_become 46 = .ok (.iconst 0, 1) := by decide +kernel
theorem dX1_become_47 : decode cX1_become 47 = .ok (.aload_n 0, 1) := by decide +kernel
theorem dX1_become_48 : decode cX1_become 48 = .ok (.getfield 29, 3) := by decide +kernel
theorem dX1_become_51 : decode cX1_become 51 = .ok (.iconst 0, 1) := by decide +kernel
theorem dX1_become_52 : decode cX1_become 52 = .ok (.bipush 8, 2) := by decide +kernel
theorem dX1_become_54 : decode cX1_become 54 = .ok (.invokestatic 72, 3) := by decide +kernel
theorem dX1_become_57 : decode cX1_become 57 = .ok (.aload_n 1, 1) := by decide +kernel
theorem dX1_become_58 : decode cX1_become 58 = .ok (.getfield 32, 3) := by decide +kernel
theorem dX1_become_61 : decode cX1_become 61 = .ok (.iconst 0, 1) := by decide +kernel
theorem dX1_become_62 : decode cX1_become 62 = .ok (.aload_n 0, 1) := by decide +kernel
theorem dX1_become_63 : decode cX1_become 63 = .ok (.getfield 32, 3) := by decide +kernel
theorem dX1_become_66 : decode cX1_become 66 = .ok (.iconst 0, 1) := by decide +kernel
theorem dX1_become_67 : decode cX1_become 67 = .ok (.bipush 8, 2) := by decide +kernel
theorem dX1_become_69 : decode cX1_become 69 = .ok (.invokestatic 72, 3) := by decide +kernel
theorem dX1_become_72 : decode cX1_become 72 = .ok (.aload_n 1, 1) := by decide +kernel
theorem dX1_become_73 : decode cX1_become 73 = .ok (.getfield 35, 3) := by decide +kernel
theorem dX1_become_76 : decode cX1_become 76 = .ok (.iconst 0, 1) := by decide +kernel
theorem dX1_become_77 : decode cX1_become 77 = .ok (.aload_n 0, 1) := by decide +kernel
theorem dX1_become_78 : decode cX1_become 78 = .ok (.getfield 35, 3) := by decide +kernel
theorem dX1_become_81 : decode cX1_become 81 = .ok (.iconst 0, 1) := by decide +kernel
theorem dX1_become_82 : decode cX1_become 82 = .ok (.bipush 8, 2) := by decide +kernel
theorem dX1_become_84 : decode cX1_become 84 = .ok (.invokestatic 72, 3) := by decide +kernel
theorem dX1_become_87 : decode cX1_become 87 = .ok (.aload_n 0, 1) := by decide +kernel
theorem dX1_become_88 : decode cX1_become 88 = .ok (.aload_n 1, 1) := by decide +kernel
theorem dX1_become_89 : decode cX1_become 89 = .ok (.getfield 38, 3) := by decide +kernel
theorem dX1_become_92 : decode cX1_become 92 = .ok (.putfield 38, 3) := by decide +kernel
theorem dX1_become_95 : decode cX1_become 95 = .ok (.aload_n 1, 1) := by decide +kernel
theorem dX1_become_96 : decode cX1_become 96 = .ok (.getfield 41, 3) := by decide +kernel
theorem dX1_become_99 : decode cX1_become 99 = .ok (.iconst 0, 1) := by decide +kernel
theorem dX1_become_100 : decode cX1_become 100 = .ok (.aload_n 0, 1) := by decide +kernel
theorem dX1_become_101 : decode cX1_become 101 = .ok (.getfield 41, 3) := by decide +kernel
theorem dX1_become_104 : decode cX1_become 104 = .ok (.iconst 0, 1) := by decide +kernel
theorem dX1_become_105 : decode cX1_become 105 = .ok (.iconst 5, 1) := by decide +kernel
theorem dX1_become_106 : decode cX1_become 106 = .ok (.invokestatic 72, 3) := by decide +kernel
theorem dX1_become_109 : decode cX1_become 109 = .ok (.aload_n 1, 1) := by decide +kernel
theorem dX1_become_110 : decode cX1_become 110 = .ok (.getfield 44, 3) := by decide +kernel
theorem dX1_become_113 : decode cX1_become 113 = .ok (.iconst 0, 1) := by decide +kernel
theorem dX1_become_114 : decode cX1_become 114 = .ok (.aload_n 0, 1) := by decide +kernel
theorem dX1_become_115 : decode cX1_become 115 = .ok (.getfield 44, 3) := by decide +kernel
theorem dX1_become_118 : decode cX1_become 118 = .ok (.iconst 0, 1) := by decide +kernel
theorem dX1_become_119 : decode cX1_become 119 = .ok (.iconst 5, 1) := by decide +kernel
theorem dX1_become_120 : decode cX1_become 120 = .ok (.invokestatic 72, 3) := by decide +kernel
theorem dX1_become_123 : decode cX1_become 123 = .ok (.aload_n 1, 1) := by decide +kernel
theorem dX1_become_124 : decode cX1_become 124 = .ok (.getfield 47, 3) := by decide +kernel
theorem dX1_become_127 : decode cX1_become 127 = .ok (.iconst 0, 1) := by decide +kernel
theorem dX1_become_128 : decode cX1_become 128 = .ok (.aload_n 0, 1) := by decide +kernel
theorem dX1_become_129 : decode cX1_become 129 = .ok (.getfield 47, 3) := by decide +kernel
theorem dX1_become_132 : decode cX1_become 132 = .ok (.iconst 0, 1) := by decide +kernel
theorem dX1_become_133 : decode cX1_become 133 = .ok (.iconst 5, 1) := by decide +kernel
theorem dX1_become_134 : decode cX1_become 134 = .ok (.invokestatic 72, 3) := by decide +kernel
theorem dX1_become_137 : decode cX1_become 137 = .ok (.aload_n 1, 1) := by decide +kernel
theorem dX1_become_138 : decode cX1_become 138 = .ok (.getfield 50, 3) := by decide +kernel
theorem dX1_become_141 : decode cX1_become 141 = .ok (.iconst 0, 1) := by decide +kernel
theorem dX1_become_142 : decode cX1_become 142 = .ok (.aload_n 0, 1) := by decide +kernel
theorem dX1_become_143 : decode cX1_become 143 = .ok (.getfield 50, 3) := by decide +kernel
theorem dX1_become_146 : decode cX1_become 146 = .ok (.iconst 0, 1) := by decide +kernel
theorem dX1_become_147 : decode cX1_become 147 = .ok (.iconst 5, 1) := by decide +kernel
theorem dX1_become_148 : decode cX1_become 148 = .ok (.invokestatic 72, 3) := by decide +kernel
theorem dX1_become_151 : decode cX1_become 151 = .ok (.aload_n 1, 1) := by decide +kernel
theorem dX1_become_152 : decode cX1_become 152 = .ok (.getfield 53, 3) := by decide +kernel
theorem dX1_become_155 : decode cX1_become 155 = .ok (.iconst 0, 1) := by decide +kernel
theorem dX1_become_156 : decode cX1_become 156 = .ok (.aload_n 0, 1) := by decide +kernel
theorem dX1_become_157 : decode cX1_become 157 = .ok (.getfield 53, 3) := by decide +kernel
theorem dX1_become_160 : decode cX1_become 160 = .ok (.iconst 0, 1) := by decide +kernel
theorem dX1_become_161 : decode cX1_become 161 = .ok (.iconst 5, 1) := by decide +kernel
theorem dX1_become_162 : decode cX1_become 162 = .ok (.invokestatic 72, 3) := by decide +kernel
theorem dX1_become_165 : decode cX1_become 165 = .ok (.aload_n 1, 1) := by decide +kernel
theorem dX1_become_166 : decode cX1_become 166 = .ok (.getfield 56, 3) := by decide +kernel
theorem dX1_become_169 : decode cX1_become 169 = .ok (.iconst 0, 1) := by decide +kernel
theorem dX1_become_170 : decode cX1_become 170 = .ok (.aload_n 0, 1) := by decide +kernel
theorem dX1_become_171 : decode cX1_become 171 = .ok (.getfield 56, 3) := by decide +kernel
theorem dX1_become_174 : decode cX1_become 174 = .ok (.iconst 0, 1) := by decide +kernel
theorem dX1_become_175 : decode cX1_become 175 = .ok (.aload_n 0, 1) := by decide +kernel
theorem dX1_become_176 : decode cX1_become 176 = .ok (.getfield 56, 3) := by decide +kernel
theorem dX1_become_179 : decode cX1_become 179 = .ok (.arraylength, 1) := by decide +kernel
theorem dX1_become_180 : decode cX1_become 180 = .ok (.invokestatic 72, 3) := by decide +kernel
theorem dX1_become_183 : decode cX1_become 183 = .ok (.aload_n 1, 1) := by decide +kernel
theorem dX1_become_184 : decode cX1_become 184 = .ok (.getfield 59, 3) := by decide +kernel
theorem dX1_become_187 : decode cX1_become 187 = .ok (.iconst 0, 1) := by decide +kernel
theorem dX1_become_188 : decode cX1_become 188 = .ok (.aload_n 0, 1) := by decide +kernel
theorem dX1_become_189 : decode cX1_become 189 = .ok (.getfield 59, 3) := by decide +kernel
theorem dX1_become_192 : decode cX1_become 192 = .ok (.iconst 0, 1) := by decide +kernel
theorem dX1_become_193 : decode cX1_become 193 = .ok (.aload_n 0, 1) := by decide +kernel
theorem dX1_become_194 : decode cX1_become 194 = .ok (.getfield 59, 3) := by decide +kernel
theorem dX1_become_197 : decode cX1_become 197 = .ok (.arraylength, 1) := by decide +kernel
theorem dX1_become_198 : decode cX1_become 198 = .ok (.invokestatic 72, 3) := by decide +kernel
theorem dX1_become_201 : decode cX1_become 201 = .ok (.return_, 1) := by decide +kernel
theorem dX1_forgetCopies_0 : decode cX1_forgetCopies 0 = .ok (.aload_n 0, 1) := by decide +kernel
theorem dX1_forgetCopies_1 : decode cX1_forgetCopies 1 = .ok (.getfield 59, 3) := by decide +kernel
theorem dX1_forgetCopies_4 : decode cX1_forgetCopies 4 = .ok (.bipush (-9), 2) := by decide +kernel
theorem dX1_forgetCopies_6 : decode cX1_forgetCopies 6 = .ok (.invokestatic 62, 3) := by decide +kernel
theorem dX1_forgetCopies_9 : decode cX1_forgetCopies 9 = .ok (.return_, 1) := by decide +kernel
theorem dX1_addQuestion_0 : decode cX1_addQuestion 0 = .ok (.aload_n 0, 1) := by decide +kernel
theorem dX1_addQuestion_1 : decode cX1_addQuestion 1 = .ok (.getfield 22, 3) := by decide +kernel
theorem dX1_addQuestion_4 : decode cX1_addQuestion 4 = .ok (.bipush 8, 2) := by decide +kernel
theorem dX1_addQuestion_6 : decode cX1_addQuestion 6 = .ok (.if_icmp .lt 4, 3) := by decide +kernel
theorem dX1_addQuestion_9 : decode cX1_addQuestion 9 = .ok (.return_, 1) := by decide +kernel
theorem dX1_addQuestion_10 : decode cX1_addQuestion 10 = .ok (.aload_n 0, 1) := by decide +kernel
theorem dX1_addQuestion_11 : decode cX1_addQuestion 11 = .ok (.getfield 25, 3) := by decide +kernel
theorem dX1_addQuestion_14 : decode cX1_addQuestion 14 = .ok (.aload_n 0, 1) := by decide +kernel
theorem dX1_addQuestion_15 : decode cX1_addQuestion 15 = .ok (.getfield 22, 3) := by decide +kernel
theorem dX1_addQuestion_18 : decode cX1_addQuestion 18 = .ok (.iload_n 1, 1) := by decide +kernel
theorem dX1_addQuestion_19 : decode cX1_addQuestion 19 = .ok (.iastore, 1) := by decide +kernel
theorem dX1_addQuestion_20 : decode cX1_addQuestion 20 = .ok (.aload_n 0, 1) := by decide +kernel
theorem dX1_addQuestion_21 : decode cX1_addQuestion 21 = .ok (.getfield 29, 3) := by decide +kernel
theorem dX1_addQuestion_24 : decode cX1_addQuestion 24 = .ok (.aload_n 0, 1) := by decide +kernel
theorem dX1_addQuestion_25 : decode cX1_addQuestion 25 = .ok (.getfield 22, 3) := by decide +kernel
theorem dX1_addQuestion_28 : decode cX1_addQuestion 28 = .ok (.iload_n 2, 1) := by decide +kernel
theorem dX1_addQuestion_29 : decode cX1_addQuestion 29 = .ok (.iastore, 1) := by decide +kernel
theorem dX1_addQuestion_30 : decode cX1_addQuestion 30 = .ok (.aload_n 0, 1) := by decide +kernel
theorem dX1_addQuestion_31 : decode cX1_addQuestion 31 = .ok (.getfield 32, 3) := by decide +kernel
theorem dX1_addQuestion_34 : decode cX1_addQuestion 34 = .ok (.aload_n 0, 1) := by decide +kernel
theorem dX1_addQuestion_35 : decode cX1_addQuestion 35 = .ok (.getfield 22, 3) := by decide +kernel
theorem dX1_addQuestion_38 : decode cX1_addQuestion 38 = .ok (.iload_n 3, 1) := by decide +kernel
theorem dX1_addQuestion_39 : decode cX1_addQuestion 39 = .ok (.iastore, 1) := by decide +kernel
theorem dX1_addQuestion_40 : decode cX1_addQuestion 40 = .ok (.aload_n 0, 1) := by decide +kernel
theorem dX1_addQuestion_41 : decode cX1_addQuestion 41 = .ok (.getfield 35, 3) := by decide +kernel
theorem dX1_addQuestion_44 : decode cX1_addQuestion 44 = .ok (.aload_n 0, 1) := by decide +kernel
theorem dX1_addQuestion_45 : decode cX1_addQuestion 45 = .ok (.getfield 22, 3) := by decide +kernel
theorem dX1_addQuestion_48 : decode cX1_addQuestion 48 = .ok (.iload 4, 2) := by decide +kernel
theorem dX1_addQuestion_50 : decode cX1_addQuestion 50 = .ok (.iastore, 1) := by decide +kernel
theorem dX1_addQuestion_51 : decode cX1_addQuestion 51 = .ok (.aload_n 0, 1) := by decide +kernel
theorem dX1_addQuestion_52 : decode cX1_addQuestion 52 = .ok (.dup, 1) := by decide +kernel
theorem dX1_addQuestion_53 : decode cX1_addQuestion 53 = .ok (.getfield 22, 3) := by decide +kernel
theorem dX1_addQuestion_56 : decode cX1_addQuestion 56 = .ok (.iconst 1, 1) := by decide +kernel
theorem dX1_addQuestion_57 : decode cX1_addQuestion 57 = .ok (.iadd, 1) := by decide +kernel
theorem dX1_addQuestion_58 : decode cX1_addQuestion 58 = .ok (.putfield 22, 3) := by decide +kernel
theorem dX1_addQuestion_61 : decode cX1_addQuestion 61 = .ok (.return_, 1) := by decide +kernel
theorem dX1_addGroup_0 : decode cX1_addGroup 0 = .ok (.aload_n 0, 1) := by decide +kernel
theorem dX1_addGroup_1 : decode cX1_addGroup 1 = .ok (.getfield 38, 3) := by decide +kernel
theorem dX1_addGroup_4 : decode cX1_addGroup 4 = .ok (.iconst 5, 1) := by decide +kernel
theorem dX1_addGroup_5 : decode cX1_addGroup 5 = .ok (.if_icmp .lt 4, 3) := by decide +kernel
theorem dX1_addGroup_8 : decode cX1_addGroup 8 = .ok (.return_, 1) := by decide +kernel
theorem dX1_addGroup_9 : decode cX1_addGroup 9 = .ok (.aload_n 0, 1) := by decide +kernel
theorem dX1_addGroup_10 : decode cX1_addGroup 10 = .ok (.getfield 41, 3) := by decide +kernel
theorem dX1_addGroup_13 : decode cX1_addGroup 13 = .ok (.aload_n 0, 1) := by decide +kernel
theorem dX1_addGroup_14 : decode cX1_addGroup 14 = .ok (.getfield 38, 3) := by decide +kernel
theorem dX1_addGroup_17 : decode cX1_addGroup 17 = .ok (.iload_n 1, 1) := by decide +kernel
theorem dX1_addGroup_18 : decode cX1_addGroup 18 = .ok (.iastore, 1) := by decide +kernel
theorem dX1_addGroup_19 : decode cX1_addGroup 19 = .ok (.aload_n 0, 1) := by decide +kernel
theorem dX1_addGroup_20 : decode cX1_addGroup 20 = .ok (.getfield 44, 3) := by decide +kernel
theorem dX1_addGroup_23 : decode cX1_addGroup 23 = .ok (.aload_n 0, 1) := by decide +kernel
theorem dX1_addGroup_24 : decode cX1_addGroup 24 = .ok (.getfield 38, 3) := by decide +kernel
theorem dX1_addGroup_27 : decode cX1_addGroup 27 = .ok (.iload_n 2, 1) := by decide +kernel
theorem dX1_addGroup_28 : decode cX1_addGroup 28 = .ok (.iastore, 1) := by decide +kernel
theorem dX1_addGroup_29 : decode cX1_addGroup 29 = .ok (.aload_n 0, 1) := by decide +kernel
theorem dX1_addGroup_30 : decode cX1_addGroup 30 = .ok (.getfield 47, 3) := by decide +kernel
theorem dX1_addGroup_33 : decode cX1_addGroup 33 = .ok (.aload_n 0, 1) := by decide +kernel
theorem dX1_addGroup_34 : decode cX1_addGroup 34 = .ok (.getfield 38, 3) := by decide +kernel
theorem dX1_addGroup_37 : decode cX1_addGroup 37 = .ok (.iload_n 3, 1) := by decide +kernel
theorem dX1_addGroup_38 : decode cX1_addGroup 38 = .ok (.iastore, 1) := by decide +kernel
theorem dX1_addGroup_39 : decode cX1_addGroup 39 = .ok (.aload_n 0, 1) := by decide +kernel
theorem dX1_addGroup_40 : decode cX1_addGroup 40 = .ok (.dup, 1) := by decide +kernel
theorem dX1_addGroup_41 : decode cX1_addGroup 41 = .ok (.getfield 38, 3) := by decide +kernel
theorem dX1_addGroup_44 : decode cX1_addGroup 44 = .ok (.iconst 1, 1) := by decide +kernel
theorem dX1_addGroup_45 : decode cX1_addGroup 45 = .ok (.iadd, 1) := by decide +kernel
theorem dX1_addGroup_46 : decode cX1_addGroup 46 = .ok (.putfield 38, 3) := by decide +kernel
theorem dX1_addGroup_49 : decode cX1_addGroup 49 = .ok (.return_, 1) := by decide +kernel
theorem dX1_place_0 : decode cX1_place 0 = .ok (.aload_n 0, 1) := by decide +kernel
theorem dX1_place_1 : decode cX1_place 1 = .ok (.getfield 50, 3) := by decide +kernel
theorem dX1_place_4 : decode cX1_place 4 = .ok (.iload_n 1, 1) := by decide +kernel
theorem dX1_place_5 : decode cX1_place 5 = .ok (.iload_n 2, 1) := by decide +kernel
theorem dX1_place_6 : decode cX1_place 6 = .ok (.iastore, 1) := by decide +kernel
theorem dX1_place_7 : decode cX1_place 7 = .ok (.aload_n 0, 1) := by decide +kernel
theorem dX1_place_8 : decode cX1_place 8 = .ok (.getfield 53, 3) := by decide +kernel
theorem dX1_place_11 : decode cX1_place 11 = .ok (.iload_n 1, 1) := by decide +kernel
theorem dX1_place_12 : decode cX1_place 12 = .ok (.iconst 0, 1) := by decide +kernel
theorem dX1_place_13 : decode cX1_place 13 = .ok (.iastore, 1) := by decide +kernel
theorem dX1_place_14 : decode cX1_place 14 = .ok (.return_, 1) := by decide +kernel
theorem dX1_answerOf_0 : decode cX1_answerOf 0 = .ok (.aload_n 0, 1) := by decide +kernel
theorem dX1_answerOf_1 : decode cX1_answerOf 1 = .ok (.getfield 56, 3) := by decide +kernel
theorem dX1_answerOf_4 : decode cX1_answerOf 4 = .ok (.iload_n 1, 1) := by decide +kernel
theorem dX1_answerOf_5 : decode cX1_answerOf 5 = .ok (.bipush 8, 2) := by decide +kernel
theorem dX1_answerOf_7 : decode cX1_answerOf 7 = .ok (.imul, 1) := by decide +kernel
theorem dX1_answerOf_8 : decode cX1_answerOf 8 = .ok (.iload_n 2, 1) := by decide +kernel
theorem dX1_answerOf_9 : decode cX1_answerOf 9 = .ok (.iadd, 1) := by decide +kernel
theorem dX1_answerOf_10 : decode cX1_answerOf 10 = .ok (.iaload, 1) := by decide +kernel
theorem dX1_answerOf_11 : decode cX1_answerOf 11 = .ok (.ireturn, 1) := by decide +kernel
theorem dX1_fill_0 : decode cX1_fill 0 = .ok (.aload_n 0, 1) := by decide +kernel
theorem dX1_fill_1 : decode cX1_fill 1 = .ok (.getfield 56, 3) := by decide +kernel
theorem dX1_fill_4 : decode cX1_fill 4 = .ok (.iload_n 1, 1) := by decide +kernel
theorem dX1_fill_5 : decode cX1_fill 5 = .ok (.bipush 8, 2) := by decide +kernel
theorem dX1_fill_7 : decode cX1_fill 7 = .ok (.imul, 1) := by decide +kernel
theorem dX1_fill_8 : decode cX1_fill 8 = .ok (.iload_n 2, 1) := by decide +kernel
theorem dX1_fill_9 : decode cX1_fill 9 = .ok (.iadd, 1) := by decide +kernel
theorem dX1_fill_10 : decode cX1_fill 10 = .ok (.iload_n 3, 1) := by decide +kernel
theorem dX1_fill_11 : decode cX1_fill 11 = .ok (.iastore, 1) := by decide +kernel
theorem dX1_fill_12 : decode cX1_fill 12 = .ok (.return_, 1) := by decide +kernel
theorem dX1_fillTruth_0 : decode cX1_fillTruth 0 = .ok (.iconst 0, 1) := by decide +kernel
theorem dX1_fillTruth_1 : decode cX1_fillTruth 1 = .ok (.istore_n 2, 1) := by decide +kernel
theorem dX1_fillTruth_2 : decode cX1_fillTruth 2 = .ok (.iload_n 2, 1) := by decide +kernel
theorem dX1_fillTruth_3 : decode cX1_fillTruth 3 = .ok (.aload_n 0, 1) := by decide +kernel
theorem dX1_fillTruth_4 : decode cX1_fillTruth 4 = .ok (.getfield 38, 3) := by decide +kernel
theorem dX1_fillTruth_7 : decode cX1_fillTruth 7 = .ok (.if_icmp .ge 21, 3) := by decide +kernel
theorem dX1_fillTruth_10 : decode cX1_fillTruth 10 = .ok (.aload_n 0, 1) := by decide +kernel
theorem dX1_fillTruth_11 : decode cX1_fillTruth 11 = .ok (.iload_n 2, 1) := by decide +kernel
theorem dX1_fillTruth_12 : decode cX1_fillTruth 12 = .ok (.iload_n 1, 1) := by decide +kernel
theorem dX1_fillTruth_13 : decode cX1_fillTruth 13 = .ok (.aload_n 0, 1) := by decide +kernel
theorem dX1_fillTruth_14 : decode cX1_fillTruth 14 = .ok (.getfield 35, 3) := by decide +kernel
theorem dX1_fillTruth_17 : decode cX1_fillTruth 17 = .ok (.iload_n 1, 1) := by decide +kernel
theorem dX1_fillTruth_18 : decode cX1_fillTruth 18 = .ok (.iaload, 1) := by decide +kernel
theorem dX1_fillTruth_19 : decode cX1_fillTruth 19 = .ok (.invokevirtual 78, 3) := by decide +kernel
theorem dX1_fillTruth_22 : decode cX1_fillTruth 22 = .ok (.iinc 2 1, 3) := by decide +kernel
theorem dX1_fillTruth_25 : decode cX1_fillTruth 25 = .ok (.goto (-23), 3) := by decide +kernel
theorem dX1_fillTruth_28 : decode cX1_fillTruth 28 = .ok (.return_, 1) := by decide +kernel
theorem dX1_sourceOf_0 : decode cX1_sourceOf 0 = .ok (.aload_n 0, 1) := by decide +kernel
theorem dX1_sourceOf_1 : decode cX1_sourceOf 1 = .ok (.getfield 59, 3) := by decide +kernel
theorem dX1_sourceOf_4 : decode cX1_sourceOf 4 = .ok (.iload_n 1, 1) := by decide +kernel
theorem dX1_sourceOf_5 : decode cX1_sourceOf 5 = .ok (.bipush 8, 2) := by decide +kernel
theorem dX1_sourceOf_7 : decode cX1_sourceOf 7 = .ok (.imul, 1) := by decide +kernel
theorem dX1_sourceOf_8 : decode cX1_sourceOf 8 = .ok (.iload_n 2, 1) := by decide +kernel
theorem dX1_sourceOf_9 : decode cX1_sourceOf 9 = .ok (.iadd, 1) := by decide +kernel
theorem dX1_sourceOf_10 : decode cX1_sourceOf 10 = .ok (.iaload, 1) := by decide +kernel
theorem dX1_sourceOf_11 : decode cX1_sourceOf 11 = .ok (.ireturn, 1) := by decide +kernel
theorem dX1_nextQuestion_0 : decode cX1_nextQuestion 0 = .ok (.iconst 0, 1) := by decide +kernel
theorem dX1_nextQuestion_1 : decode cX1_nextQuestion 1 = .ok (.istore_n 2, 1) := by decide +kernel
theorem dX1_nextQuestion_2 : decode cX1_nextQuestion 2 = .ok (.iload_n 2, 1) := by decide +kernel
theorem dX1_nextQuestion_3 : decode cX1_nextQuestion 3 = .ok (.aload_n 0, 1) := by decide +kernel
theorem dX1_nextQuestion_4 : decode cX1_nextQuestion 4 = .ok (.getfield 22, 3) := by decide +kernel
theorem dX1_nextQuestion_7 : decode cX1_nextQuestion 7 = .ok (.if_icmp .ge 41, 3) := by decide +kernel
theorem dX1_nextQuestion_10 : decode cX1_nextQuestion 10 = .ok (.aload_n 0, 1) := by decide +kernel
theorem dX1_nextQuestion_11 : decode cX1_nextQuestion 11 = .ok (.getfield 47, 3) := by decide +kernel
theorem dX1_nextQuestion_14 : decode cX1_nextQuestion 14 = .ok (.iload_n 1, 1) := by decide +kernel
theorem dX1_nextQuestion_15 : decode cX1_nextQuestion 15 = .ok (.iaload, 1) := by decide +kernel
theorem dX1_nextQuestion_16 : decode cX1_nextQuestion 16 = .ok (.iload_n 2, 1) := by decide +kernel
theorem dX1_nextQuestion_17 : decode cX1_nextQuestion 17 = .ok (.iadd, 1) := by decide +kernel
theorem dX1_nextQuestion_18 : decode cX1_nextQuestion 18 = .ok (.aload_n 0, 1) := by decide +kernel
theorem dX1_nextQuestion_19 : decode cX1_nextQuestion 19 = .ok (.getfield 22, 3) := by decide +kernel
theorem dX1_nextQuestion_22 : decode cX1_nextQuestion 22 = .ok (.irem, 1) := by decide +kernel
theorem dX1_nextQuestion_23 : decode cX1_nextQuestion 23 = .ok (.istore_n 3, 1) := by decide +kernel
theorem dX1_nextQuestion_24 : decode cX1_nextQuestion 24 = .ok (.aload_n 0, 1) := by decide +kernel
theorem dX1_nextQuestion_25 : decode cX1_nextQuestion 25 = .ok (.getfield 56, 3) := by decide +kernel
theorem dX1_nextQuestion_28 : decode cX1_nextQuestion 28 = .ok (.iload_n 1, 1) := by decide +kernel
theorem dX1_nextQuestion_29 : decode cX1_nextQuestion 29 = .ok (.bipush 8, 2) := by decide +kernel
theorem dX1_nextQuestion_31 : decode cX1_nextQuestion 31 = .ok (.imul, 1) := by decide +kernel
theorem dX1_nextQuestion_32 : decode cX1_nextQuestion 32 = .ok (.iload_n 3, 1) := by decide +kernel
theorem dX1_nextQuestion_33 : decode cX1_nextQuestion 33 = .ok (.iadd, 1) := by decide +kernel
theorem dX1_nextQuestion_34 : decode cX1_nextQuestion 34 = .ok (.iaload, 1) := by decide +kernel
theorem dX1_nextQuestion_35 : decode cX1_nextQuestion 35 = .ok (.bipush (-9), 2) := by decide +kernel
theorem dX1_nextQuestion_37 : decode cX1_nextQuestion 37 = .ok (.if_icmp .ne 5, 3) := by decide +kernel
theorem dX1_nextQuestion_40 : decode cX1_nextQuestion 40 = .ok (.iload_n 3, 1) := by decide +kernel
theorem dX1_nextQuestion_41 : decode cX1_nextQuestion 41 = .ok (.ireturn, 1) := by decide +kernel
theorem dX1_nextQuestion_42 : decode cX1_nextQuestion 42 = .ok (.iinc 2 1, 3) := by decide +kernel
theorem dX1_nextQuestion_45 : decode cX1_nextQuestion 45 = .ok (.goto (-43), 3) := by decide +kernel
theorem dX1_nextQuestion_48 : decode cX1_nextQuestion 48 = .ok (.bipush (-9), 2) := by decide +kernel
theorem dX1_nextQuestion_50 : decode cX1_nextQuestion 50 = .ok (.ireturn, 1) := by decide +kernel
theorem dX1_isDone_0 : decode cX1_isDone 0 = .ok (.aload_n 0, 1) := by decide +kernel
theorem dX1_isDone_1 : decode cX1_isDone 1 = .ok (.iload_n 1, 1) := by decide +kernel
theorem dX1_isDone_2 : decode cX1_isDone 2 = .ok (.invokevirtual 81, 3) := by decide +kernel
theorem dX1_isDone_5 : decode cX1_isDone 5 = .ok (.bipush (-9), 2) := by decide +kernel
theorem dX1_isDone_7 : decode cX1_isDone 7 = .ok (.if_icmp .ne 7, 3) := by decide +kernel
theorem dX1_isDone_10 : decode cX1_isDone 10 = .ok (.iconst 1, 1) := by decide +kernel
theorem dX1_isDone_11 : decode cX1_isDone 11 = .ok (.goto 4, 3) := by decide +kernel
theorem dX1_isDone_14 : decode cX1_isDone 14 = .ok (.iconst 0, 1) := by decide +kernel
theorem dX1_isDone_15 : decode cX1_isDone 15 = .ok (.ireturn, 1) := by decide +kernel
theorem dX1_undone_0 : decode cX1_undone 0 = .ok (.iconst 0, 1) := by decide +kernel
theorem dX1_undone_1 : decode cX1_undone 1 = .ok (.istore_n 1, 1) := by decide +kernel
theorem dX1_undone_2 : decode cX1_undone 2 = .ok (.iconst 0, 1) := by decide +kernel
theorem dX1_undone_3 : decode cX1_undone 3 = .ok (.istore_n 2, 1) := by decide +kernel
theorem dX1_undone_4 : decode cX1_undone 4 = .ok (.iload_n 2, 1) := by decide +kernel
theorem dX1_undone_5 : decode cX1_undone 5 = .ok (.aload_n 0, 1) := by decide +kernel
theorem dX1_undone_6 : decode cX1_undone 6 = .ok (.getfield 38, 3) := by decide +kernel
theorem dX1_undone_9 : decode cX1_undone 9 = .ok (.if_icmp .ge 25, 3) := by decide +kernel
theorem dX1_undone_12 : decode cX1_undone 12 = .ok (.iload_n 1, 1) := by decide +kernel
theorem dX1_undone_13 : decode cX1_undone 13 = .ok (.aload_n 0, 1) := by decide +kernel
theorem dX1_undone_14 : decode cX1_undone 14 = .ok (.iload_n 2, 1) := by decide +kernel
theorem dX1_undone_15 : decode cX1_undone 15 = .ok (.invokevirtual 85, 3) := by decide +kernel
theorem dX1_undone_18 : decode cX1_undone 18 = .ok (.ifCond .eq 7, 3) := by decide +kernel
theorem dX1_undone_21 : decode cX1_undone 21 = .ok (.iconst 0, 1) := by decide +kernel
theorem dX1_undone_22 : decode cX1_undone 22 = .ok (.goto 4, 3) := by decide +kernel
theorem dX1_undone_25 : decode cX1_undone 25 = .ok (.iconst 1, 1) := by decide +kernel
theorem dX1_undone_26 : decode cX1_undone 26 = .ok (.iadd, 1) := by decide +kernel
theorem dX1_undone_27 : decode cX1_undone 27 = .ok (.istore_n 1, 1) := by decide +kernel
theorem dX1_undone_28 : decode cX1_undone 28 = .ok (.iinc 2 1, 3) := by decide +kernel
theorem dX1_undone_31 : decode cX1_undone 31 = .ok (.goto (-27), 3) := by decide +kernel
theorem dX1_undone_34 : decode cX1_undone 34 = .ok (.iload_n 1, 1) := by decide +kernel
theorem dX1_undone_35 : decode cX1_undone 35 = .ok (.ireturn, 1) := by decide +kernel
theorem dX1_minutesFor_0 : decode cX1_minutesFor 0 = .ok (.aload_n 0, 1) := by decide +kernel
theorem dX1_minutesFor_1 : decode cX1_minutesFor 1 = .ok (.getfield 25, 3) := by decide +kernel
theorem dX1_minutesFor_4 : decode cX1_minutesFor 4 = .ok (.iload_n 1, 1) := by decide +kernel
theorem dX1_minutesFor_5 : decode cX1_minutesFor 5 = .ok (.iaload, 1) := by decide +kernel
theorem dX1_minutesFor_6 : decode cX1_minutesFor 6 = .ok (.tableswitch 47 1 5 #[34, 47, 43, 34, 45], 34) := by decide +kernel
theorem dX1_minutesFor_40 : decode cX1_minutesFor 40 = .ok (.iconst 1, 1) := by decide +kernel
theorem dX1_minutesFor_41 : decode cX1_minutesFor 41 = .ok (.aload_n 0, 1) := by decide +kernel
theorem dX1_minutesFor_42 : decode cX1_minutesFor 42 = .ok (.getfield 29, 3) := by decide +kernel
theorem dX1_minutesFor_45 : decode cX1_minutesFor 45 = .ok (.iload_n 1, 1) := by decide +kernel
theorem dX1_minutesFor_46 : decode cX1_minutesFor 46 = .ok (.iaload, 1) := by decide +kernel
theorem dX1_minutesFor_47 : decode cX1_minutesFor 47 = .ok (.iadd, 1) := by decide +kernel
theorem dX1_minutesFor_48 : decode cX1_minutesFor 48 = .ok (.ireturn, 1) := by decide +kernel
theorem dX1_minutesFor_49 : decode cX1_minutesFor 49 = .ok (.iconst 2, 1) := by decide +kernel
theorem dX1_minutesFor_50 : decode cX1_minutesFor 50 = .ok (.ireturn, 1) := by decide +kernel
theorem dX1_minutesFor_51 : decode cX1_minutesFor 51 = .ok (.iconst 3, 1) := by decide +kernel
theorem dX1_minutesFor_52 : decode cX1_minutesFor 52 = .ok (.ireturn, 1) := by decide +kernel
theorem dX1_minutesFor_53 : decode cX1_minutesFor 53 = .ok (.iconst 1, 1) := by decide +kernel
theorem dX1_minutesFor_54 : decode cX1_minutesFor 54 = .ok (.ireturn, 1) := by decide +kernel
theorem dX1_passMinutes_0 : decode cX1_passMinutes 0 = .ok (.iconst 0, 1) := by decide +kernel
theorem dX1_passMinutes_1 : decode cX1_passMinutes 1 = .ok (.istore_n 2, 1) := by decide +kernel
theorem dX1_passMinutes_2 : decode cX1_passMinutes 2 = .ok (.iload_n 2, 1) := by decide +kernel
theorem dX1_passMinutes_3 : decode cX1_passMinutes 3 = .ok (.iload_n 1, 1) := by decide +kernel
theorem dX1_passMinutes_4 : decode cX1_passMinutes 4 = .ok (.if_icmp .ge 13, 3) := by decide +kernel
theorem dX1_passMinutes_7 : decode cX1_passMinutes 7 = .ok (.aload_n 0, 1) := by decide +kernel
theorem dX1_passMinutes_8 : decode cX1_passMinutes 8 = .ok (.invokevirtual 89, 3) := by decide +kernel
theorem dX1_passMinutes_11 : decode cX1_passMinutes 11 = .ok (.iinc 2 1, 3) := by decide +kernel
theorem dX1_passMinutes_14 : decode cX1_passMinutes 14 = .ok (.goto (-12), 3) := by decide +kernel
theorem dX1_passMinutes_17 : decode cX1_passMinutes 17 = .ok (.return_, 1) := by decide +kernel
theorem dX1_passMinute_0 : decode cX1_passMinute 0 = .ok (.aload_n 0, 1) := by decide +kernel
theorem dX1_passMinute_1 : decode cX1_passMinute 1 = .ok (.dup, 1) := by decide +kernel
theorem dX1_passMinute_2 : decode cX1_passMinute 2 = .ok (.getfield 18, 3) := by decide +kernel
theorem dX1_passMinute_5 : decode cX1_passMinute 5 = .ok (.iconst 1, 1) := by decide +kernel
theorem dX1_passMinute_6 : decode cX1_passMinute 6 = .ok (.iadd, 1) := by decide +kernel
theorem dX1_passMinute_7 : decode cX1_passMinute 7 = .ok (.putfield 18, 3) := by decide +kernel
theorem dX1_passMinute_10 : decode cX1_passMinute 10 = .ok (.iconst 0, 1) := by decide +kernel
theorem dX1_passMinute_11 : decode cX1_passMinute 11 = .ok (.istore_n 1, 1) := by decide +kernel
theorem dX1_passMinute_12 : decode cX1_passMinute 12 = .ok (.iload_n 1, 1) := by decide +kernel
theorem dX1_passMinute_13 : decode cX1_passMinute 13 = .ok (.aload_n 0, 1) := by decide +kernel
theorem dX1_passMinute_14 : decode cX1_passMinute 14 = .ok (.getfield 38, 3) := by decide +kernel
theorem dX1_passMinute_17 : decode cX1_passMinute 17 = .ok (.if_icmp .ge 27, 3) := by decide +kernel
theorem dX1_passMinute_20 : decode cX1_passMinute 20 = .ok (.aload_n 0, 1) := by decide +kernel
theorem dX1_passMinute_21 : decode cX1_passMinute 21 = .ok (.iload_n 1, 1) := by decide +kernel
theorem dX1_passMinute_22 : decode cX1_passMinute 22 = .ok (.invokevirtual 81, 3) := by decide +kernel
theorem dX1_passMinute_25 : decode cX1_passMinute 25 = .ok (.istore_n 2, 1) := by decide +kernel
theorem dX1_passMinute_26 : decode cX1_passMinute 26 = .ok (.iload_n 2, 1) := by decide +kernel
theorem dX1_passMinute_27 : decode cX1_passMinute 27 = .ok (.bipush (-9), 2) := by decide +kernel
theorem dX1_passMinute_29 : decode cX1_passMinute 29 = .ok (.if_icmp .eq 9, 3) := by decide +kernel
theorem dX1_passMinute_32 : decode cX1_passMinute 32 = .ok (.aload_n 0, 1) := by decide +kernel
theorem dX1_passMinute_33 : decode cX1_passMinute 33 = .ok (.iload_n 1, 1) := by decide +kernel
theorem dX1_passMinute_34 : decode cX1_passMinute 34 = .ok (.iload_n 2, 1) := by decide +kernel
theorem dX1_passMinute_35 : decode cX1_passMinute 35 = .ok (.invokevirtual 92, 3) := by decide +kernel
theorem dX1_passMinute_38 : decode cX1_passMinute 38 = .ok (.iinc 1 1, 3) := by decide +kernel
theorem dX1_passMinute_41 : decode cX1_passMinute 41 = .ok (.goto (-29), 3) := by decide +kernel
theorem dX1_passMinute_44 : decode cX1_passMinute 44 = .ok (.return_, 1) := by decide +kernel
theorem dX1_goOnWith_0 : decode cX1_goOnWith 0 = .ok (.aload_n 0, 1) := by decide +kernel
theorem dX1_goOnWith_1 : decode cX1_goOnWith 1 = .ok (.getfield 50, 3) := by decide +kernel
theorem dX1_goOnWith_4 : decode cX1_goOnWith 4 = .ok (.iload_n 1, 1) := by decide +kernel
theorem dX1_goOnWith_5 : decode cX1_goOnWith 5 = .ok (.iaload, 1) := by decide +kernel
theorem dX1_goOnWith_6 : decode cX1_goOnWith 6 = .ok (.aload_n 0, 1) := by decide +kernel
theorem dX1_goOnWith_7 : decode cX1_goOnWith 7 = .ok (.getfield 32, 3) := by decide +kernel
theorem dX1_goOnWith_10 : decode cX1_goOnWith 10 = .ok (.iload_n 2, 1) := by decide +kernel
theorem dX1_goOnWith_11 : decode cX1_goOnWith 11 = .ok (.iaload, 1) := by decide +kernel
theorem dX1_goOnWith_12 : decode cX1_goOnWith 12 = .ok (.if_icmp .eq 28, 3) := by decide +kernel
theorem dX1_goOnWith_15 : decode cX1_goOnWith 15 = .ok (.aload_n 0, 1) := by decide +kernel
theorem dX1_goOnWith_16 : decode cX1_goOnWith 16 = .ok (.iload_n 1, 1) := by decide +kernel
theorem dX1_goOnWith_17 : decode cX1_goOnWith 17 = .ok (.aload_n 0, 1) := by decide +kernel
theorem dX1_goOnWith_18 : decode cX1_goOnWith 18 = .ok (.getfield 12, 3) := by decide +kernel
theorem dX1_goOnWith_21 : decode cX1_goOnWith 21 = .ok (.aload_n 0, 1) := by decide +kernel
theorem dX1_goOnWith_22 : decode cX1_goOnWith 22 = .ok (.getfield 50, 3) := by decide +kernel
theorem dX1_goOnWith_25 : decode cX1_goOnWith 25 = .ok (.iload_n 1, 1) := by decide +kernel
theorem dX1_goOnWith_26 : decode cX1_goOnWith 26 = .ok (.iaload, 1) := by decide +kernel
theorem dX1_goOnWith_27 : decode cX1_goOnWith 27 = .ok (.aload_n 0, 1) := by decide +kernel
theorem dX1_goOnWith_28 : decode cX1_goOnWith 28 = .ok (.getfield 32, 3) := by decide +kernel
theorem dX1_goOnWith_31 : decode cX1_goOnWith 31 = .ok (.iload_n 2, 1) := by decide +kernel
theorem dX1_goOnWith_32 : decode cX1_goOnWith 32 = .ok (.iaload, 1) := by decide +kernel
theorem dX1_goOnWith_33 : decode cX1_goOnWith 33 = .ok (.invokevirtual 96, 3) := by decide +kernel
theorem dX1_goOnWith_36 : decode cX1_goOnWith 36 = .ok (.invokevirtual 100, 3) := by decide +kernel
theorem dX1_goOnWith_39 : decode cX1_goOnWith 39 = .ok (.return_, 1) := by decide +kernel
theorem dX1_goOnWith_40 : decode cX1_goOnWith 40 = .ok (.aload_n 0, 1) := by decide +kernel
theorem dX1_goOnWith_41 : decode cX1_goOnWith 41 = .ok (.getfield 53, 3) := by decide +kernel
theorem dX1_goOnWith_44 : decode cX1_goOnWith 44 = .ok (.iload_n 1, 1) := by decide +kernel
theorem dX1_goOnWith_45 : decode cX1_goOnWith 45 = .ok (.dup2, 1) := by decide +kernel
theorem dX1_goOnWith_46 : decode cX1_goOnWith 46 = .ok (.iaload, 1) := by decide +kernel
theorem dX1_goOnWith_47 : decode cX1_goOnWith 47 = .ok (.iconst 1, 1) := by decide +kernel
theorem dX1_goOnWith_48 : decode cX1_goOnWith 48 = .ok (.iadd, 1) := by decide +kernel
theorem dX1_goOnWith_49 : decode cX1_goOnWith 49 = .ok (.iastore, 1) := by decide +kernel
theorem dX1_goOnWith_50 : decode cX1_goOnWith 50 = .ok (.aload_n 0, 1) := by decide +kernel
theorem dX1_goOnWith_51 : decode cX1_goOnWith 51 = .ok (.getfield 53, 3) := by decide +kernel
theorem dX1_goOnWith_54 : decode cX1_goOnWith 54 = .ok (.iload_n 1, 1) := by decide +kernel
theorem dX1_goOnWith_55 : decode cX1_goOnWith 55 = .ok (.iaload, 1) := by decide +kernel
theorem dX1_goOnWith_56 : decode cX1_goOnWith 56 = .ok (.aload_n 0, 1) := by decide +kernel
theorem dX1_goOnWith_57 : decode cX1_goOnWith 57 = .ok (.iload_n 2, 1) := by decide +kernel
theorem dX1_goOnWith_58 : decode cX1_goOnWith 58 = .ok (.invokevirtual 103, 3) := by decide +kernel
theorem dX1_goOnWith_61 : decode cX1_goOnWith 61 = .ok (.if_icmp .ge 4, 3) := by decide +kernel
theorem dX1_goOnWith_64 : decode cX1_goOnWith 64 = .ok (.return_, 1) := by decide +kernel
theorem dX1_goOnWith_65 : decode cX1_goOnWith 65 = .ok (.aload_n 0, 1) := by decide +kernel
theorem dX1_goOnWith_66 : decode cX1_goOnWith 66 = .ok (.getfield 53, 3) := by decide +kernel
theorem dX1_goOnWith_69 : decode cX1_goOnWith 69 = .ok (.iload_n 1, 1) := by decide +kernel
theorem dX1_goOnWith_70 : decode cX1_goOnWith 70 = .ok (.iconst 0, 1) := by decide +kernel
theorem dX1_goOnWith_71 : decode cX1_goOnWith 71 = .ok (.iastore, 1) := by decide +kernel
theorem dX1_goOnWith_72 : decode cX1_goOnWith 72 = .ok (.aload_n 0, 1) := by decide +kernel
theorem dX1_goOnWith_73 : decode cX1_goOnWith 73 = .ok (.iload_n 1, 1) := by decide +kernel
theorem dX1_goOnWith_74 : decode cX1_goOnWith 74 = .ok (.iload_n 2, 1) := by decide +kernel
theorem dX1_goOnWith_75 : decode cX1_goOnWith 75 = .ok (.invokevirtual 106, 3) := by decide +kernel
theorem dX1_goOnWith_78 : decode cX1_goOnWith 78 = .ok (.ifCond .eq 12, 3) := by decide +kernel
theorem dX1_goOnWith_81 : decode cX1_goOnWith 81 = .ok (.aload_n 0, 1) := by decide +kernel
theorem dX1_goOnWith_82 : decode cX1_goOnWith 82 = .ok (.iload_n 1, 1) := by decide +kernel
theorem dX1_goOnWith_83 : decode cX1_goOnWith 83 = .ok (.iload_n 2, 1) := by decide +kernel
theorem dX1_goOnWith_84 : decode cX1_goOnWith 84 = .ok (.invokevirtual 110, 3) := by decide +kernel
theorem dX1_goOnWith_87 : decode cX1_goOnWith 87 = .ok (.goto 5, 3) := by decide +kernel
theorem dX1_goOnWith_90 : decode cX1_goOnWith 90 = .ok (.bipush (-9), 2) := by decide +kernel
theorem dX1_goOnWith_92 : decode cX1_goOnWith 92 = .ok (.istore_n 3, 1) := by decide +kernel
theorem dX1_goOnWith_93 : decode cX1_goOnWith 93 = .ok (.aload_n 0, 1) := by decide +kernel
theorem dX1_goOnWith_94 : decode cX1_goOnWith 94 = .ok (.getfield 59, 3) := by decide +kernel
theorem dX1_goOnWith_97 : decode cX1_goOnWith 97 = .ok (.iload_n 1, 1) := by decide +kernel
theorem dX1_goOnWith_98 : decode cX1_goOnWith 98 = .ok (.bipush 8, 2) := by decide +kernel
theorem dX1_goOnWith_100 : decode cX1_goOnWith 100 = .ok (.imul, 1) := by decide +kernel
theorem dX1_goOnWith_101 : decode cX1_goOnWith 101 = .ok (.iload_n 2, 1) := by decide +kernel
theorem dX1_goOnWith_102 : decode cX1_goOnWith 102 = .ok (.iadd, 1) := by decide +kernel
theorem dX1_goOnWith_103 : decode cX1_goOnWith 103 = .ok (.iload_n 3, 1) := by decide +kernel
theorem dX1_goOnWith_104 : decode cX1_goOnWith 104 = .ok (.iastore, 1) := by decide +kernel
theorem dX1_goOnWith_105 : decode cX1_goOnWith 105 = .ok (.aload_n 0, 1) := by decide +kernel
theorem dX1_goOnWith_106 : decode cX1_goOnWith 106 = .ok (.iload_n 1, 1) := by decide +kernel
theorem dX1_goOnWith_107 : decode cX1_goOnWith 107 = .ok (.iload_n 2, 1) := by decide +kernel
theorem dX1_goOnWith_108 : decode cX1_goOnWith 108 = .ok (.iload_n 3, 1) := by decide +kernel
theorem dX1_goOnWith_109 : decode cX1_goOnWith 109 = .ok (.bipush (-9), 2) := by decide +kernel
theorem dX1_goOnWith_111 : decode cX1_goOnWith 111 = .ok (.if_icmp .ne 12, 3) := by decide +kernel
theorem dX1_goOnWith_114 : decode cX1_goOnWith 114 = .ok (.aload_n 0, 1) := by decide +kernel
theorem dX1_goOnWith_115 : decode cX1_goOnWith 115 = .ok (.iload_n 1, 1) := by decide +kernel
theorem dX1_goOnWith_116 : decode cX1_goOnWith 116 = .ok (.iload_n 2, 1) := by decide +kernel
theorem dX1_goOnWith_117 : decode cX1_goOnWith 117 = .ok (.invokevirtual 113, 3) := by decide +kernel
theorem dX1_goOnWith_120 : decode cX1_goOnWith 120 = .ok (.goto 9, 3) := by decide +kernel
theorem dX1_goOnWith_123 : decode cX1_goOnWith 123 = .ok (.aload_n 0, 1) := by decide +kernel
theorem dX1_goOnWith_124 : decode cX1_goOnWith 124 = .ok (.iload_n 3, 1) := by decide +kernel
theorem dX1_goOnWith_125 : decode cX1_goOnWith 125 = .ok (.iload_n 2, 1) := by decide +kernel
theorem dX1_goOnWith_126 : decode cX1_goOnWith 126 = .ok (.invokevirtual 116, 3) := by decide +kernel
theorem dX1_goOnWith_129 : decode cX1_goOnWith 129 = .ok (.invokevirtual 78, 3) := by decide +kernel
theorem dX1_goOnWith_132 : decode cX1_goOnWith 132 = .ok (.return_, 1) := by decide +kernel
theorem dX1_wouldCopy_0 : decode cX1_wouldCopy 0 = .ok (.aload_n 0, 1) := by decide +kernel
theorem dX1_wouldCopy_1 : decode cX1_wouldCopy 1 = .ok (.getfield 25, 3) := by decide +kernel
theorem dX1_wouldCopy_4 : decode cX1_wouldCopy 4 = .ok (.iload_n 2, 1) := by decide +kernel
theorem dX1_wouldCopy_5 : decode cX1_wouldCopy 5 = .ok (.iaload, 1) := by decide +kernel
theorem dX1_wouldCopy_6 : decode cX1_wouldCopy 6 = .ok (.lookupswitch 47 #[(0, 26), (1, 26)], 26) := by decide +kernel
theorem dX1_wouldCopy_32 : decode cX1_wouldCopy 32 = .ok (.aload_n 0, 1) := by decide +kernel
theorem dX1_wouldCopy_33 : decode cX1_wouldCopy 33 = .ok (.getfield 41, 3) := by decide +kernel
theorem dX1_wouldCopy_36 : decode cX1_wouldCopy 36 = .ok (.iload_n 1, 1) := by decide +kernel
theorem dX1_wouldCopy_37 : decode cX1_wouldCopy 37 = .ok (.iaload, 1) := by decide +kernel
theorem dX1_wouldCopy_38 : decode cX1_wouldCopy 38 = .ok (.aload_n 0, 1) := by decide +kernel
theorem dX1_wouldCopy_39 : decode cX1_wouldCopy 39 = .ok (.getfield 29, 3) := by decide +kernel
theorem dX1_wouldCopy_42 : decode cX1_wouldCopy 42 = .ok (.iload_n 2, 1) := by decide +kernel
theorem dX1_wouldCopy_43 : decode cX1_wouldCopy 43 = .ok (.iaload, 1) := by decide +kernel
theorem dX1_wouldCopy_44 : decode cX1_wouldCopy 44 = .ok (.if_icmp .ge 7, 3) := by decide +kernel
theorem dX1_wouldCopy_47 : decode cX1_wouldCopy 47 = .ok (.iconst 1, 1) := by decide +kernel
theorem dX1_wouldCopy_48 : decode cX1_wouldCopy 48 = .ok (.goto 4, 3) := by decide +kernel
theorem dX1_wouldCopy_51 : decode cX1_wouldCopy 51 = .ok (.iconst 0, 1) := by decide +kernel
theorem dX1_wouldCopy_52 : decode cX1_wouldCopy 52 = .ok (.ireturn, 1) := by decide +kernel
theorem dX1_wouldCopy_53 : decode cX1_wouldCopy 53 = .ok (.aload_n 0, 1) := by decide +kernel
theorem dX1_wouldCopy_54 : decode cX1_wouldCopy 54 = .ok (.getfield 25, 3) := by decide +kernel
theorem dX1_wouldCopy_57 : decode cX1_wouldCopy 57 = .ok (.iload_n 2, 1) := by decide +kernel
theorem dX1_wouldCopy_58 : decode cX1_wouldCopy 58 = .ok (.iaload, 1) := by decide +kernel
theorem dX1_wouldCopy_59 : decode cX1_wouldCopy 59 = .ok (.iconst 2, 1) := by decide +kernel
theorem dX1_wouldCopy_60 : decode cX1_wouldCopy 60 = .ok (.if_icmp .ne 7, 3) := by decide +kernel
theorem dX1_wouldCopy_63 : decode cX1_wouldCopy 63 = .ok (.iconst 1, 1) := by decide +kernel
theorem dX1_wouldCopy_64 : decode cX1_wouldCopy 64 = .ok (.goto 4, 3) := by decide +kernel
theorem dX1_wouldCopy_67 : decode cX1_wouldCopy 67 = .ok (.iconst 0, 1) := by decide +kernel
theorem dX1_wouldCopy_68 : decode cX1_wouldCopy 68 = .ok (.ireturn, 1) := by decide +kernel
theorem dX1_sourceFor_0 : decode cX1_sourceFor 0 = .ok (.iconst 0, 1) := by decide +kernel
theorem dX1_sourceFor_1 : decode cX1_sourceFor 1 = .ok (.istore_n 3, 1) := by decide +kernel
theorem dX1_sourceFor_2 : decode cX1_sourceFor 2 = .ok (.iload_n 3, 1) := by decide +kernel
theorem dX1_sourceFor_3 : decode cX1_sourceFor 3 = .ok (.aload_n 0, 1) := by decide +kernel
theorem dX1_sourceFor_4 : decode cX1_sourceFor 4 = .ok (.getfield 38, 3) := by decide +kernel
theorem dX1_sourceFor_7 : decode cX1_sourceFor 7 = .ok (.if_icmp .ge 59, 3) := by decide +kernel
theorem dX1_sourceFor_10 : decode cX1_sourceFor 10 = .ok (.iload_n 3, 1) := by decide +kernel
theorem dX1_sourceFor_11 : decode cX1_sourceFor 11 = .ok (.iload_n 1, 1) := by decide +kernel
theorem dX1_sourceFor_12 : decode cX1_sourceFor 12 = .ok (.if_icmp .eq 22, 3) := by decide +kernel
theorem dX1_sourceFor_15 : decode cX1_sourceFor 15 = .ok (.aload_n 0, 1) := by decide +kernel
theorem dX1_sourceFor_16 : decode cX1_sourceFor 16 = .ok (.getfield 50, 3) := by decide +kernel
theorem dX1_sourceFor_19 : decode cX1_sourceFor 19 = .ok (.iload_n 3, 1) := by decide +kernel
theorem dX1_sourceFor_20 : decode cX1_sourceFor 20 = .ok (.iaload, 1) := by decide +kernel
theorem dX1_sourceFor_21 : decode cX1_sourceFor 21 = .ok (.aload_n 0, 1) := by decide +kernel
theorem dX1_sourceFor_22 : decode cX1_sourceFor 22 = .ok (.getfield 50, 3) := by decide +kernel
theorem dX1_sourceFor_25 : decode cX1_sourceFor 25 = .ok (.iload_n 1, 1) := by decide +kernel
theorem dX1_sourceFor_26 : decode cX1_sourceFor 26 = .ok (.iaload, 1) := by decide +kernel
theorem dX1_sourceFor_27 : decode cX1_sourceFor 27 = .ok (.if_icmp .ne 7, 3) := by decide +kernel
theorem dX1_sourceFor_30 : decode cX1_sourceFor 30 = .ok (.iconst 1, 1) := by decide +kernel
theorem dX1_sourceFor_31 : decode cX1_sourceFor 31 = .ok (.goto 4, 3) := by decide +kernel
theorem dX1_sourceFor_34 : decode cX1_sourceFor 34 = .ok (.iconst 0, 1) := by decide +kernel
theorem dX1_sourceFor_35 : decode cX1_sourceFor 35 = .ok (.istore 4, 2) := by decide +kernel
theorem dX1_sourceFor_37 : decode cX1_sourceFor 37 = .ok (.iload 4, 2) := by decide +kernel
theorem dX1_sourceFor_39 : decode cX1_sourceFor 39 = .ok (.ifCond .eq 21, 3) := by decide +kernel
theorem dX1_sourceFor_42 : decode cX1_sourceFor 42 = .ok (.aload_n 0, 1) := by decide +kernel
theorem dX1_sourceFor_43 : decode cX1_sourceFor 43 = .ok (.getfield 56, 3) := by decide +kernel
theorem dX1_sourceFor_46 : decode cX1_sourceFor 46 = .ok (.iload_n 3, 1) := by decide +kernel
theorem dX1_sourceFor_47 : decode cX1_sourceFor 47 = .ok (.bipush 8, 2) := by decide +kernel
theorem dX1_sourceFor_49 : decode cX1_sourceFor 49 = .ok (.imul, 1) := by decide +kernel
theorem dX1_sourceFor_50 : decode cX1_sourceFor 50 = .ok (.iload_n 2, 1) := by decide +kernel
theorem dX1_sourceFor_51 : decode cX1_sourceFor 51 = .ok (.iadd, 1) := by decide +kernel
theorem dX1_sourceFor_52 : decode cX1_sourceFor 52 = .ok (.iaload, 1) := by decide +kernel
theorem dX1_sourceFor_53 : decode cX1_sourceFor 53 = .ok (.bipush (-9), 2) := by decide +kernel
theorem dX1_sourceFor_55 : decode cX1_sourceFor 55 = .ok (.if_icmp .eq 5, 3) := by decide +kernel
theorem dX1_sourceFor_58 : decode cX1_sourceFor 58 = .ok (.iload_n 3, 1) := by decide +kernel
theorem dX1_sourceFor_59 : decode cX1_sourceFor 59 = .ok (.ireturn, 1) := by decide +kernel
theorem dX1_sourceFor_60 : decode cX1_sourceFor 60 = .ok (.iinc 3 1, 3) := by decide +kernel
theorem dX1_sourceFor_63 : decode cX1_sourceFor 63 = .ok (.goto (-61), 3) := by decide +kernel
theorem dX1_sourceFor_66 : decode cX1_sourceFor 66 = .ok (.bipush (-9), 2) := by decide +kernel
theorem dX1_sourceFor_68 : decode cX1_sourceFor 68 = .ok (.ireturn, 1) := by decide +kernel
theorem dX1_ownAnswer_0 : decode cX1_ownAnswer 0 = .ok (.aload_n 0, 1) := by decide +kernel
theorem dX1_ownAnswer_1 : decode cX1_ownAnswer 1 = .ok (.getfield 35, 3) := by decide +kernel
theorem dX1_ownAnswer_4 : decode cX1_ownAnswer 4 = .ok (.iload_n 2, 1) := by decide +kernel
theorem dX1_ownAnswer_5 : decode cX1_ownAnswer 5 = .ok (.iaload, 1) := by decide +kernel
theorem dX1_ownAnswer_6 : decode cX1_ownAnswer 6 = .ok (.istore_n 3, 1) := by decide +kernel
theorem dX1_ownAnswer_7 : decode cX1_ownAnswer 7 = .ok (.aload_n 0, 1) := by decide +kernel
theorem dX1_ownAnswer_8 : decode cX1_ownAnswer 8 = .ok (.getfield 25, 3) := by decide +kernel
theorem dX1_ownAnswer_11 : decode cX1_ownAnswer 11 = .ok (.iload_n 2, 1) := by decide +kernel
theorem dX1_ownAnswer_12 : decode cX1_ownAnswer 12 = .ok (.iaload, 1) := by decide +kernel
theorem dX1_ownAnswer_13 : decode cX1_ownAnswer 13 = .ok (.tableswitch 62 3 5 #[27, 34, 60], 27) := by decide +kernel
theorem dX1_ownAnswer_40 : decode cX1_ownAnswer 40 = .ok (.aload_n 0, 1) := by decide +kernel
theorem dX1_ownAnswer_41 : decode cX1_ownAnswer 41 = .ok (.getfield 44, 3) := by decide +kernel
theorem dX1_ownAnswer_44 : decode cX1_ownAnswer 44 = .ok (.iload_n 1, 1) := by decide +kernel
theorem dX1_ownAnswer_45 : decode cX1_ownAnswer 45 = .ok (.iaload, 1) := by decide +kernel
theorem dX1_ownAnswer_46 : decode cX1_ownAnswer 46 = .ok (.ireturn, 1) := by decide +kernel
theorem dX1_ownAnswer_47 : decode cX1_ownAnswer 47 = .ok (.aload_n 0, 1) := by decide +kernel
theorem dX1_ownAnswer_48 : decode cX1_ownAnswer 48 = .ok (.getfield 44, 3) := by decide +kernel
theorem dX1_ownAnswer_51 : decode cX1_ownAnswer 51 = .ok (.iload_n 1, 1) := by decide +kernel
theorem dX1_ownAnswer_52 : decode cX1_ownAnswer 52 = .ok (.iaload, 1) := by decide +kernel
theorem dX1_ownAnswer_53 : decode cX1_ownAnswer 53 = .ok (.aload_n 0, 1) := by decide +kernel
theorem dX1_ownAnswer_54 : decode cX1_ownAnswer 54 = .ok (.getfield 29, 3) := by decide +kernel
theorem dX1_ownAnswer_57 : decode cX1_ownAnswer 57 = .ok (.iload_n 2, 1) := by decide +kernel
theorem dX1_ownAnswer_58 : decode cX1_ownAnswer 58 = .ok (.iaload, 1) := by decide +kernel
theorem dX1_ownAnswer_59 : decode cX1_ownAnswer 59 = .ok (.if_icmp .ge 12, 3) := by decide +kernel
theorem dX1_ownAnswer_62 : decode cX1_ownAnswer 62 = .ok (.iload_n 3, 1) := by decide +kernel
theorem dX1_ownAnswer_63 : decode cX1_ownAnswer 63 = .ok (.iconst 1, 1) := by decide +kernel
theorem dX1_ownAnswer_64 : decode cX1_ownAnswer 64 = .ok (.iadd, 1) := by decide +kernel
theorem dX1_ownAnswer_65 : decode cX1_ownAnswer 65 = .ok (.bipush 10, 2) := by decide +kernel
theorem dX1_ownAnswer_67 : decode cX1_ownAnswer 67 = .ok (.irem, 1) := by decide +kernel
theorem dX1_ownAnswer_68 : decode cX1_ownAnswer 68 = .ok (.goto 4, 3) := by decide +kernel
theorem dX1_ownAnswer_71 : decode cX1_ownAnswer 71 = .ok (.iload_n 3, 1) := by decide +kernel
theorem dX1_ownAnswer_72 : decode cX1_ownAnswer 72 = .ok (.ireturn, 1) := by decide +kernel
theorem dX1_ownAnswer_73 : decode cX1_ownAnswer 73 = .ok (.iload_n 3, 1) := by decide +kernel
theorem dX1_ownAnswer_74 : decode cX1_ownAnswer 74 = .ok (.ireturn, 1) := by decide +kernel
theorem dX1_ownAnswer_75 : decode cX1_ownAnswer 75 = .ok (.aload_n 0, 1) := by decide +kernel
theorem dX1_ownAnswer_76 : decode cX1_ownAnswer 76 = .ok (.getfield 41, 3) := by decide +kernel
theorem dX1_ownAnswer_79 : decode cX1_ownAnswer 79 = .ok (.iload_n 1, 1) := by decide +kernel
theorem dX1_ownAnswer_80 : decode cX1_ownAnswer 80 = .ok (.iaload, 1) := by decide +kernel
theorem dX1_ownAnswer_81 : decode cX1_ownAnswer 81 = .ok (.aload_n 0, 1) := by decide +kernel
theorem dX1_ownAnswer_82 : decode cX1_ownAnswer 82 = .ok (.getfield 29, 3) := by decide +kernel
theorem dX1_ownAnswer_85 : decode cX1_ownAnswer 85 = .ok (.iload_n 2, 1) := by decide +kernel
theorem dX1_ownAnswer_86 : decode cX1_ownAnswer 86 = .ok (.iaload, 1) := by decide +kernel
theorem dX1_ownAnswer_87 : decode cX1_ownAnswer 87 = .ok (.if_icmp .ge 12, 3) := by decide +kernel
theorem dX1_ownAnswer_90 : decode cX1_ownAnswer 90 = .ok (.aload_n 0, 1) := by decide +kernel
theorem dX1_ownAnswer_91 : decode cX1_ownAnswer 91 = .ok (.getfield 44, 3) := by decide +kernel
theorem dX1_ownAnswer_94 : decode cX1_ownAnswer 94 = .ok (.iload_n 1, 1) := by decide +kernel
theorem dX1_ownAnswer_95 : decode cX1_ownAnswer 95 = .ok (.iaload, 1) := by decide +kernel
theorem dX1_ownAnswer_96 : decode cX1_ownAnswer 96 = .ok (.goto 4, 3) := by decide +kernel
theorem dX1_ownAnswer_99 : decode cX1_ownAnswer 99 = .ok (.iload_n 3, 1) := by decide +kernel
theorem dX1_ownAnswer_100 : decode cX1_ownAnswer 100 = .ok (.ireturn, 1) := by decide +kernel
theorem dX1_answersOf_0 : decode cX1_answersOf 0 = .ok (.iconst 0, 1) := by decide +kernel
theorem dX1_answersOf_1 : decode cX1_answersOf 1 = .ok (.istore_n 2, 1) := by decide +kernel
theorem dX1_answersOf_2 : decode cX1_answersOf 2 = .ok (.iconst 0, 1) := by decide +kernel
theorem dX1_answersOf_3 : decode cX1_answersOf 3 = .ok (.istore_n 3, 1) := by decide +kernel
theorem dX1_answersOf_4 : decode cX1_answersOf 4 = .ok (.iload_n 3, 1) := by decide +kernel
theorem dX1_answersOf_5 : decode cX1_answersOf 5 = .ok (.aload_n 0, 1) := by decide +kernel
theorem dX1_answersOf_6 : decode cX1_answersOf 6 = .ok (.getfield 22, 3) := by decide +kernel
theorem dX1_answersOf_9 : decode cX1_answersOf 9 = .ok (.if_icmp .ge 28, 3) := by decide +kernel
theorem dX1_answersOf_12 : decode cX1_answersOf 12 = .ok (.iload_n 2, 1) := by decide +kernel
theorem dX1_answersOf_13 : decode cX1_answersOf 13 = .ok (.aload_n 0, 1) := by decide +kernel
theorem dX1_answersOf_14 : decode cX1_answersOf 14 = .ok (.iload_n 1, 1) := by decide +kernel
theorem dX1_answersOf_15 : decode cX1_answersOf 15 = .ok (.iload_n 3, 1) := by decide +kernel
theorem dX1_answersOf_16 : decode cX1_answersOf 16 = .ok (.invokevirtual 116, 3) := by decide +kernel
theorem dX1_answersOf_19 : decode cX1_answersOf 19 = .ok (.bipush (-9), 2) := by decide +kernel
theorem dX1_answersOf_21 : decode cX1_answersOf 21 = .ok (.if_icmp .ne 7, 3) := by decide +kernel
theorem dX1_answersOf_24 : decode cX1_answersOf 24 = .ok (.iconst 0, 1) := by decide +kernel
theorem dX1_answersOf_25 : decode cX1_answersOf 25 = .ok (.goto 4, 3) := by decide +kernel
theorem dX1_answersOf_28 : decode cX1_answersOf 28 = .ok (.iconst 1, 1) := by decide +kernel
theorem dX1_answersOf_29 : decode cX1_answersOf 29 = .ok (.iadd, 1) := by decide +kernel
theorem dX1_answersOf_30 : decode cX1_answersOf 30 = .ok (.istore_n 2, 1) := by decide +kernel
theorem dX1_answersOf_31 : decode cX1_answersOf 31 = .ok (.iinc 3 1, 3) := by decide +kernel
theorem dX1_answersOf_34 : decode cX1_answersOf 34 = .ok (.goto (-30), 3) := by decide +kernel
theorem dX1_answersOf_37 : decode cX1_answersOf 37 = .ok (.iload_n 2, 1) := by decide +kernel
theorem dX1_answersOf_38 : decode cX1_answersOf 38 = .ok (.ireturn, 1) := by decide +kernel
theorem dX1_rightOf_0 : decode cX1_rightOf 0 = .ok (.iconst 0, 1) := by decide +kernel
theorem dX1_rightOf_1 : decode cX1_rightOf 1 = .ok (.istore_n 2, 1) := by decide +kernel
theorem dX1_rightOf_2 : decode cX1_rightOf 2 = .ok (.iconst 0, 1) := by decide +kernel
theorem dX1_rightOf_3 : decode cX1_rightOf 3 = .ok (.istore_n 3, 1) := by decide +kernel
theorem dX1_rightOf_4 : decode cX1_rightOf 4 = .ok (.iload_n 3, 1) := by decide +kernel
theorem dX1_rightOf_5 : decode cX1_rightOf 5 = .ok (.aload_n 0, 1) := by decide +kernel
theorem dX1_rightOf_6 : decode cX1_rightOf 6 = .ok (.getfield 22, 3) := by decide +kernel
theorem dX1_rightOf_9 : decode cX1_rightOf 9 = .ok (.if_icmp .ge 32, 3) := by decide +kernel
theorem dX1_rightOf_12 : decode cX1_rightOf 12 = .ok (.iload_n 2, 1) := by decide +kernel
theorem dX1_rightOf_13 : decode cX1_rightOf 13 = .ok (.aload_n 0, 1) := by decide +kernel
theorem dX1_rightOf_14 : decode cX1_rightOf 14 = .ok (.iload_n 1, 1) := by decide +kernel
theorem dX1_rightOf_15 : decode cX1_rightOf 15 = .ok (.iload_n 3, 1) := by decide +kernel
theorem dX1_rightOf_16 : decode cX1_rightOf 16 = .ok (.invokevirtual 116, 3) := by decide +kernel
theorem dX1_rightOf_19 : decode cX1_rightOf 19 = .ok (.aload_n 0, 1) := by decide +kernel
theorem dX1_rightOf_20 : decode cX1_rightOf 20 = .ok (.getfield 35, 3) := by decide +kernel
theorem dX1_rightOf_23 : decode cX1_rightOf 23 = .ok (.iload_n 3, 1) := by decide +kernel
theorem dX1_rightOf_24 : decode cX1_rightOf 24 = .ok (.iaload, 1) := by decide +kernel
theorem dX1_rightOf_25 : decode cX1_rightOf 25 = .ok (.if_icmp .ne 7, 3) := by decide +kernel
theorem dX1_rightOf_28 : decode cX1_rightOf 28 = .ok (.iconst 1, 1) := by decide +kernel
theorem dX1_rightOf_29 : decode cX1_rightOf 29 = .ok (.goto 4, 3) := by decide +kernel
theorem dX1_rightOf_32 : decode cX1_rightOf 32 = .ok (.iconst 0, 1) := by decide +kernel
theorem dX1_rightOf_33 : decode cX1_rightOf 33 = .ok (.iadd, 1) := by decide +kernel
theorem dX1_rightOf_34 : decode cX1_rightOf 34 = .ok (.istore_n 2, 1) := by decide +kernel
theorem dX1_rightOf_35 : decode cX1_rightOf 35 = .ok (.iinc 3 1, 3) := by decide +kernel
theorem dX1_rightOf_38 : decode cX1_rightOf 38 = .ok (.goto (-34), 3) := by decide +kernel
theorem dX1_rightOf_41 : decode cX1_rightOf 41 = .ok (.iload_n 2, 1) := by decide +kernel
theorem dX1_rightOf_42 : decode cX1_rightOf 42 = .ok (.ireturn, 1) := by decide +kernel
theorem dX1_copiedBy_0 : decode cX1_copiedBy 0 = .ok (.iconst 0, 1) := by decide +kernel
theorem dX1_copiedBy_1 : decode cX1_copiedBy 1 = .ok (.istore_n 2, 1) := by decide +kernel
theorem dX1_copiedBy_2 : decode cX1_copiedBy 2 = .ok (.iconst 0, 1) := by decide +kernel
theorem dX1_copiedBy_3 : decode cX1_copiedBy 3 = .ok (.istore_n 3, 1) := by decide +kernel
theorem dX1_copiedBy_4 : decode cX1_copiedBy 4 = .ok (.iload_n 3, 1) := by decide +kernel
theorem dX1_copiedBy_5 : decode cX1_copiedBy 5 = .ok (.aload_n 0, 1) := by decide +kernel
theorem dX1_copiedBy_6 : decode cX1_copiedBy 6 = .ok (.getfield 22, 3) := by decide +kernel
theorem dX1_copiedBy_9 : decode cX1_copiedBy 9 = .ok (.if_icmp .ge 28, 3) := by decide +kernel
theorem dX1_copiedBy_12 : decode cX1_copiedBy 12 = .ok (.iload_n 2, 1) := by decide +kernel
theorem dX1_copiedBy_13 : decode cX1_copiedBy 13 = .ok (.aload_n 0, 1) := by decide +kernel
theorem dX1_copiedBy_14 : decode cX1_copiedBy 14 = .ok (.iload_n 1, 1) := by decide +kernel
theorem dX1_copiedBy_15 : decode cX1_copiedBy 15 = .ok (.iload_n 3, 1) := by decide +kernel
theorem dX1_copiedBy_16 : decode cX1_copiedBy 16 = .ok (.invokevirtual 119, 3) := by decide +kernel
theorem dX1_copiedBy_19 : decode cX1_copiedBy 19 = .ok (.bipush (-9), 2) := by decide +kernel
theorem dX1_copiedBy_21 : decode cX1_copiedBy 21 = .ok (.if_icmp .ne 7, 3) := by decide +kernel
theorem dX1_copiedBy_24 : decode cX1_copiedBy 24 = .ok (.iconst 0, 1) := by decide +kernel
theorem dX1_copiedBy_25 : decode cX1_copiedBy 25 = .ok (.goto 4, 3) := by decide +kernel
theorem dX1_copiedBy_28 : decode cX1_copiedBy 28 = .ok (.iconst 1, 1) := by decide +kernel
theorem dX1_copiedBy_29 : decode cX1_copiedBy 29 = .ok (.iadd, 1) := by decide +kernel
theorem dX1_copiedBy_30 : decode cX1_copiedBy 30 = .ok (.istore_n 2, 1) := by decide +kernel
theorem dX1_copiedBy_31 : decode cX1_copiedBy 31 = .ok (.iinc 3 1, 3) := by decide +kernel
theorem dX1_copiedBy_34 : decode cX1_copiedBy 34 = .ok (.goto (-30), 3) := by decide +kernel
theorem dX1_copiedBy_37 : decode cX1_copiedBy 37 = .ok (.iload_n 2, 1) := by decide +kernel
theorem dX1_copiedBy_38 : decode cX1_copiedBy 38 = .ok (.ireturn, 1) := by decide +kernel
theorem dX1_answersOfAll_0 : decode cX1_answersOfAll 0 = .ok (.iconst 0, 1) := by decide +kernel
theorem dX1_answersOfAll_1 : decode cX1_answersOfAll 1 = .ok (.istore_n 1, 1) := by decide +kernel
theorem dX1_answersOfAll_2 : decode cX1_answersOfAll 2 = .ok (.iconst 0, 1) := by decide +kernel
theorem dX1_answersOfAll_3 : decode cX1_answersOfAll 3 = .ok (.istore_n 2, 1) := by decide +kernel
theorem dX1_answersOfAll_4 : decode cX1_answersOfAll 4 = .ok (.iload_n 2, 1) := by decide +kernel
theorem dX1_answersOfAll_5 : decode cX1_answersOfAll 5 = .ok (.aload_n 0, 1) := by decide +kernel
theorem dX1_answersOfAll_6 : decode cX1_answersOfAll 6 = .ok (.getfield 38, 3) := by decide +kernel
theorem dX1_answersOfAll_9 : decode cX1_answersOfAll 9 = .ok (.if_icmp .ge 17, 3) := by decide +kernel
theorem dX1_answersOfAll_12 : decode cX1_answersOfAll 12 = .ok (.iload_n 1, 1) := by decide +kernel
theorem dX1_answersOfAll_13 : decode cX1_answersOfAll 13 = .ok (.aload_n 0, 1) := by decide +kernel
theorem dX1_answersOfAll_14 : decode cX1_answersOfAll 14 = .ok (.iload_n 2, 1) := by decide +kernel
theorem dX1_answersOfAll_15 : decode cX1_answersOfAll 15 = .ok (.invokevirtual 122, 3) := by decide +kernel
theorem dX1_answersOfAll_18 : decode cX1_answersOfAll 18 = .ok (.iadd, 1) := by decide +kernel
theorem dX1_answersOfAll_19 : decode cX1_answersOfAll 19 = .ok (.istore_n 1, 1) := by decide +kernel
theorem dX1_answersOfAll_20 : decode cX1_answersOfAll 20 = .ok (.iinc 2 1, 3) := by decide +kernel
theorem dX1_answersOfAll_23 : decode cX1_answersOfAll 23 = .ok (.goto (-19), 3) := by decide +kernel
theorem dX1_answersOfAll_26 : decode cX1_answersOfAll 26 = .ok (.iload_n 1, 1) := by decide +kernel
theorem dX1_answersOfAll_27 : decode cX1_answersOfAll 27 = .ok (.ireturn, 1) := by decide +kernel
theorem dX1_rightOfAll_0 : decode cX1_rightOfAll 0 = .ok (.iconst 0, 1) := by decide +kernel
theorem dX1_rightOfAll_1 : decode cX1_rightOfAll 1 = .ok (.istore_n 1, 1) := by decide +kernel
theorem dX1_rightOfAll_2 : decode cX1_rightOfAll 2 = .ok (.iconst 0, 1) := by decide +kernel
theorem dX1_rightOfAll_3 : decode cX1_rightOfAll 3 = .ok (.istore_n 2, 1) := by decide +kernel
theorem dX1_rightOfAll_4 : decode cX1_rightOfAll 4 = .ok (.iload_n 2, 1) := by decide +kernel
theorem dX1_rightOfAll_5 : decode cX1_rightOfAll 5 = .ok (.aload_n 0, 1) := by decide +kernel
theorem dX1_rightOfAll_6 : decode cX1_rightOfAll 6 = .ok (.getfield 38, 3) := by decide +kernel
theorem dX1_rightOfAll_9 : decode cX1_rightOfAll 9 = .ok (.if_icmp .ge 17, 3) := by decide +kernel
theorem dX1_rightOfAll_12 : decode cX1_rightOfAll 12 = .ok (.iload_n 1, 1) := by decide +kernel
theorem dX1_rightOfAll_13 : decode cX1_rightOfAll 13 = .ok (.aload_n 0, 1) := by decide +kernel
theorem dX1_rightOfAll_14 : decode cX1_rightOfAll 14 = .ok (.iload_n 2, 1) := by decide +kernel
theorem dX1_rightOfAll_15 : decode cX1_rightOfAll 15 = .ok (.invokevirtual 125, 3) := by decide +kernel
theorem dX1_rightOfAll_18 : decode cX1_rightOfAll 18 = .ok (.iadd, 1) := by decide +kernel
theorem dX1_rightOfAll_19 : decode cX1_rightOfAll 19 = .ok (.istore_n 1, 1) := by decide +kernel
theorem dX1_rightOfAll_20 : decode cX1_rightOfAll 20 = .ok (.iinc 2 1, 3) := by decide +kernel
theorem dX1_rightOfAll_23 : decode cX1_rightOfAll 23 = .ok (.goto (-19), 3) := by decide +kernel
theorem dX1_rightOfAll_26 : decode cX1_rightOfAll 26 = .ok (.iload_n 1, 1) := by decide +kernel
theorem dX1_rightOfAll_27 : decode cX1_rightOfAll 27 = .ok (.ireturn, 1) := by decide +kernel
theorem dX1_copiedByAll_0 : decode cX1_copiedByAll 0 = .ok (.iconst 0, 1) := by decide +kernel
theorem dX1_copiedByAll_1 : decode cX1_copiedByAll 1 = .ok (.istore_n 1, 1) := by decide +kernel
theorem dX1_copiedByAll_2 : decode cX1_copiedByAll 2 = .ok (.iconst 0, 1) := by decide +kernel
theorem dX1_copiedByAll_3 : decode cX1_copiedByAll 3 = .ok (.istore_n 2, 1) := by decide +kernel
theorem dX1_copiedByAll_4 : decode cX1_copiedByAll 4 = .ok (.iload_n 2, 1) := by decide +kernel
theorem dX1_copiedByAll_5 : decode cX1_copiedByAll 5 = .ok (.aload_n 0, 1) := by decide +kernel
theorem dX1_copiedByAll_6 : decode cX1_copiedByAll 6 = .ok (.getfield 38, 3) := by decide +kernel
theorem dX1_copiedByAll_9 : decode cX1_copiedByAll 9 = .ok (.if_icmp .ge 17, 3) := by decide +kernel
theorem dX1_copiedByAll_12 : decode cX1_copiedByAll 12 = .ok (.iload_n 1, 1) := by decide +kernel
theorem dX1_copiedByAll_13 : decode cX1_copiedByAll 13 = .ok (.aload_n 0, 1) := by decide +kernel
theorem dX1_copiedByAll_14 : decode cX1_copiedByAll 14 = .ok (.iload_n 2, 1) := by decide +kernel
theorem dX1_copiedByAll_15 : decode cX1_copiedByAll 15 = .ok (.invokevirtual 128, 3) := by decide +kernel
theorem dX1_copiedByAll_18 : decode cX1_copiedByAll 18 = .ok (.iadd, 1) := by decide +kernel
theorem dX1_copiedByAll_19 : decode cX1_copiedByAll 19 = .ok (.istore_n 1, 1) := by decide +kernel
theorem dX1_copiedByAll_20 : decode cX1_copiedByAll 20 = .ok (.iinc 2 1, 3) := by decide +kernel
theorem dX1_copiedByAll_23 : decode cX1_copiedByAll 23 = .ok (.goto (-19), 3) := by decide +kernel
theorem dX1_copiedByAll_26 : decode cX1_copiedByAll 26 = .ok (.iload_n 1, 1) := by decide +kernel
theorem dX1_copiedByAll_27 : decode cX1_copiedByAll 27 = .ok (.ireturn, 1) := by decide +kernel
theorem dX1_groupsAt_0 : decode cX1_groupsAt 0 = .ok (.iconst 0, 1) := by decide +kernel
theorem dX1_groupsAt_1 : decode cX1_groupsAt 1 = .ok (.istore_n 2, 1) := by decide +kernel
theorem dX1_groupsAt_2 : decode cX1_groupsAt 2 = .ok (.iconst 0, 1) := by decide +kernel
theorem dX1_groupsAt_3 : decode cX1_groupsAt 3 = .ok (.istore_n 3, 1) := by decide +kernel
theorem dX1_groupsAt_4 : decode cX1_groupsAt 4 = .ok (.iload_n 3, 1) := by decide +kernel
theorem dX1_groupsAt_5 : decode cX1_groupsAt 5 = .ok (.aload_n 0, 1) := by decide +kernel
theorem dX1_groupsAt_6 : decode cX1_groupsAt 6 = .ok (.getfield 38, 3) := by decide +kernel
theorem dX1_groupsAt_9 : decode cX1_groupsAt 9 = .ok (.if_icmp .ge 27, 3) := by decide +kernel
theorem dX1_groupsAt_12 : decode cX1_groupsAt 12 = .ok (.iload_n 2, 1) := by decide +kernel
theorem dX1_groupsAt_13 : decode cX1_groupsAt 13 = .ok (.aload_n 0, 1) := by decide +kernel
theorem dX1_groupsAt_14 : decode cX1_groupsAt 14 = .ok (.getfield 50, 3) := by decide +kernel
theorem dX1_groupsAt_17 : decode cX1_groupsAt 17 = .ok (.iload_n 3, 1) := by decide +kernel
theorem dX1_groupsAt_18 : decode cX1_groupsAt 18 = .ok (.iaload, 1) := by decide +kernel
theorem dX1_groupsAt_19 : decode cX1_groupsAt 19 = .ok (.iload_n 1, 1) := by decide +kernel
theorem dX1_groupsAt_20 : decode cX1_groupsAt 20 = .ok (.if_icmp .ne 7, 3) := by decide +kernel
theorem dX1_groupsAt_23 : decode cX1_groupsAt 23 = .ok (.iconst 1, 1) := by decide +kernel
theorem dX1_groupsAt_24 : decode cX1_groupsAt 24 = .ok (.goto 4, 3) := by decide +kernel
theorem dX1_groupsAt_27 : decode cX1_groupsAt 27 = .ok (.iconst 0, 1) := by decide +kernel
theorem dX1_groupsAt_28 : decode cX1_groupsAt 28 = .ok (.iadd, 1) := by decide +kernel
theorem dX1_groupsAt_29 : decode cX1_groupsAt 29 = .ok (.istore_n 2, 1) := by decide +kernel
theorem dX1_groupsAt_30 : decode cX1_groupsAt 30 = .ok (.iinc 3 1, 3) := by decide +kernel
theorem dX1_groupsAt_33 : decode cX1_groupsAt 33 = .ok (.goto (-29), 3) := by decide +kernel
theorem dX1_groupsAt_36 : decode cX1_groupsAt 36 = .ok (.iload_n 2, 1) := by decide +kernel
theorem dX1_groupsAt_37 : decode cX1_groupsAt 37 = .ok (.ireturn, 1) := by decide +kernel
theorem dX2_init_0 : decode cX2_init 0 = .ok (.aload_n 0, 1) := by decide +kernel
theorem dX2_init_1 : decode cX2_init 1 = .ok (.invokespecial 3, 3) := by decide +kernel
theorem dX2_init_4 : decode cX2_init 4 = .ok (.aload_n 0, 1) := by decide +kernel
theorem dX2_init_5 : decode cX2_init 5 = .ok (.bipush 49, 2) := by decide +kernel
theorem dX2_init_7 : decode cX2_init 7 = .ok (.newarray .int, 2) := by decide +kernel
theorem dX2_init_9 : decode cX2_init 9 = .ok (.putfield 11, 3) := by decide +kernel
theorem dX2_init_12 : decode cX2_init 12 = .ok (.aload_n 0, 1) := by decide +kernel
theorem dX2_init_13 : decode cX2_init 13 = .ok (.bipush 49, 2) := by decide +kernel
theorem dX2_init_15 : decode cX2_init 15 = .ok (.newarray .int, 2) := by decide +kernel
theorem dX2_init_17 : decode cX2_init 17 = .ok (.putfield 15, 3) := by decide +kernel
theorem dX2_init_20 : decode cX2_init 20 = .ok (.aload_n 0, 1) := by decide +kernel
theorem dX2_init_21 : decode cX2_init 21 = .ok (.invokevirtual 18, 3) := by decide +kernel
theorem dX2_init_24 : decode cX2_init 24 = .ok (.return_, 1) := by decide +kernel
theorem dX2_become_0 : decode cX2_become 0 = .ok (.aload_n 1, 1) := by decide +kernel
theorem dX2_become_1 : decode cX2_become 1 = .ok (.getfield 11, 3) := by decide +kernel
theorem dX2_become_4 : decode cX2_become 4 = .ok (.iconst 0, 1) := by decide +kernel
theorem dX2_become_5 : decode cX2_become 5 = .ok (.aload_n 0, 1) := by decide +kernel
theorem dX2_become_6 : decode cX2_become 6 = .ok (.getfield 11, 3) := by decide +kernel
theorem dX2_become_9 : decode cX2_become 9 = .ok (.iconst 0, 1) := by decide +kernel
theorem dX2_become_10 : decode cX2_become 10 = .ok (.aload_n 0, 1) := by decide +kernel
theorem dX2_become_11 : decode cX2_become 11 = .ok (.getfield 11, 3) := by decide +kernel
theorem dX2_become_14 : decode cX2_become 14 = .ok (.arraylength, 1) := by decide +kernel
theorem dX2_become_15 : decode cX2_become 15 = .ok (.invokestatic 21, 3) := by decide +kernel
theorem dX2_become_18 : decode cX2_become 18 = .ok (.aload_n 1, 1) := by decide +kernel
theorem dX2_become_19 : decode cX2_become 19 = .ok (.getfield 15, 3) := by decide +kernel
theorem dX2_become_22 : decode cX2_become 22 = .ok (.iconst 0, 1) := by decide +kernel
theorem dX2_become_23 : decode cX2_become 23 = .ok (.aload_n 0, 1) := by decide +kernel
theorem dX2_become_24 : decode cX2_become 24 = .ok (.getfield 15, 3) := by decide +kernel
theorem dX2_become_27 : decode cX2_become 27 = .ok (.iconst 0, 1) := by decide +kernel
theorem dX2_become_28 : decode cX2_become 28 = .ok (.aload_n 0, 1) := by decide +kernel
theorem dX2_become_29 : decode cX2_become 29 = .ok (.getfield 15, 3) := by decide +kernel
theorem dX2_become_32 : decode cX2_become 32 = .ok (.arraylength, 1) := by decide +kernel
theorem dX2_become_33 : decode cX2_become 33 = .ok (.invokestatic 21, 3) := by decide +kernel
theorem dX2_become_36 : decode cX2_become 36 = .ok (.return_, 1) := by decide +kernel
theorem dX2_isOpen_0 : decode cX2_isOpen 0 = .ok (.aload_n 0, 1) := by decide +kernel
theorem dX2_isOpen_1 : decode cX2_isOpen 1 = .ok (.getfield 11, 3) := by decide +kernel
theorem dX2_isOpen_4 : decode cX2_isOpen 4 = .ok (.iload_n 1, 1) := by decide +kernel
theorem dX2_isOpen_5 : decode cX2_isOpen 5 = .ok (.bipush 7, 2) := by decide +kernel
theorem dX2_isOpen_7 : decode cX2_isOpen 7 = .ok (.imul, 1) := by decide +kernel
theorem dX2_isOpen_8 : decode cX2_isOpen 8 = .ok (.iload_n 2, 1) := by decide +kernel
theorem dX2_isOpen_9 : decode cX2_isOpen 9 = .ok (.iadd, 1) := by decide +kernel
theorem dX2_isOpen_10 : decode cX2_isOpen 10 = .ok (.iaload, 1) := by decide +kernel
theorem dX2_isOpen_11 : decode cX2_isOpen 11 = .ok (.iconst 1, 1) := by decide +kernel
theorem dX2_isOpen_12 : decode cX2_isOpen 12 = .ok (.if_icmp .ne 7, 3) := by decide +kernel
theorem dX2_isOpen_15 : decode cX2_isOpen 15 = .ok (.iconst 1, 1) := by decide +kernel
theorem dX2_isOpen_16 : decode cX2_isOpen 16 = .ok (.goto 4, 3) := by decide +kernel
theorem dX2_isOpen_19 : decode cX2_isOpen 19 = .ok (.iconst 0, 1) := by decide +kernel
theorem dX2_isOpen_20 : decode cX2_isOpen 20 = .ok (.ireturn, 1) := by decide +kernel
theorem dX2_turn_0 : decode cX2_turn 0 = .ok (.aload_n 0, 1) := by decide +kernel
theorem dX2_turn_1 : decode cX2_turn 1 = .ok (.iload_n 1, 1) := by decide +kernel
theorem dX2_turn_2 : decode cX2_turn 2 = .ok (.iload_n 2, 1) := by decide +kernel
theorem dX2_turn_3 : decode cX2_turn 3 = .ok (.invokevirtual 27, 3) := by decide +kernel
theorem dX2_turn_6 : decode cX2_turn 6 = .ok (.ifCond .eq 7, 3) := by decide +kernel
theorem dX2_turn_9 : decode cX2_turn 9 = .ok (.iconst 0, 1) := by decide +kernel
theorem dX2_turn_10 : decode cX2_turn 10 = .ok (.goto 4, 3) := by decide +kernel
theorem dX2_turn_13 : decode cX2_turn 13 = .ok (.iconst 1, 1) := by decide +kernel
theorem dX2_turn_14 : decode cX2_turn 14 = .ok (.istore_n 3, 1) := by decide +kernel
theorem dX2_turn_15 : decode cX2_turn 15 = .ok (.aload_n 0, 1) := by decide +kernel
theorem dX2_turn_16 : decode cX2_turn 16 = .ok (.getfield 11, 3) := by decide +kernel
theorem dX2_turn_19 : decode cX2_turn 19 = .ok (.iload_n 1, 1) := by decide +kernel
theorem dX2_turn_20 : decode cX2_turn 20 = .ok (.bipush 7, 2) := by decide +kernel
theorem dX2_turn_22 : decode cX2_turn 22 = .ok (.imul, 1) := by decide +kernel
theorem dX2_turn_23 : decode cX2_turn 23 = .ok (.iload_n 2, 1) := by decide +kernel
theorem dX2_turn_24 : decode cX2_turn 24 = .ok (.iadd, 1) := by decide +kernel
theorem dX2_turn_25 : decode cX2_turn 25 = .ok (.iload_n 3, 1) := by decide +kernel
theorem dX2_turn_26 : decode cX2_turn 26 = .ok (.iastore, 1) := by decide +kernel
theorem dX2_turn_27 : decode cX2_turn 27 = .ok (.aload_n 0, 1) := by decide +kernel
theorem dX2_turn_28 : decode cX2_turn 28 = .ok (.getfield 11, 3) := by decide +kernel
theorem dX2_turn_31 : decode cX2_turn 31 = .ok (.iload_n 2, 1) := by decide +kernel
theorem dX2_turn_32 : decode cX2_turn 32 = .ok (.bipush 7, 2) := by decide +kernel
theorem dX2_turn_34 : decode cX2_turn 34 = .ok (.imul, 1) := by decide +kernel
theorem dX2_turn_35 : decode cX2_turn 35 = .ok (.iload_n 1, 1) := by decide +kernel
theorem dX2_turn_36 : decode cX2_turn 36 = .ok (.iadd, 1) := by decide +kernel
theorem dX2_turn_37 : decode cX2_turn 37 = .ok (.iload_n 3, 1) := by decide +kernel
theorem dX2_turn_38 : decode cX2_turn 38 = .ok (.iastore, 1) := by decide +kernel
theorem dX2_turn_39 : decode cX2_turn 39 = .ok (.aload_n 0, 1) := by decide +kernel
theorem dX2_turn_40 : decode cX2_turn 40 = .ok (.invokevirtual 18, 3) := by decide +kernel
theorem dX2_turn_43 : decode cX2_turn 43 = .ok (.return_, 1) := by decide +kernel
theorem dX2_doors_0 : decode cX2_doors 0 = .ok (.iconst 0, 1) := by decide +kernel
theorem dX2_doors_1 : decode cX2_doors 1 = .ok (.istore_n 1, 1) := by decide +kernel
theorem dX2_doors_2 : decode cX2_doors 2 = .ok (.iconst 0, 1) := by decide +kernel
theorem dX2_doors_3 : decode cX2_doors 3 = .ok (.istore_n 2, 1) := by decide +kernel
theorem dX2_doors_4 : decode cX2_doors 4 = .ok (.iload_n 2, 1) := by decide +kernel
theorem dX2_doors_5 : decode cX2_doors 5 = .ok (.aload_n 0, 1) := by decide +kernel
theorem dX2_doors_6 : decode cX2_doors 6 = .ok (.getfield 11, 3) := by decide +kernel
theorem dX2_doors_9 : decode cX2_doors 9 = .ok (.arraylength, 1) := by decide +kernel
theorem dX2_doors_10 : decode cX2_doors 10 = .ok (.if_icmp .ge 18, 3) := by decide +kernel
theorem dX2_doors_13 : decode cX2_doors 13 = .ok (.iload_n 1, 1) := by decide +kernel
theorem dX2_doors_14 : decode cX2_doors 14 = .ok (.aload_n 0, 1) := by decide +kernel
theorem dX2_doors_15 : decode cX2_doors 15 = .ok (.getfield 11, 3) := by decide +kernel
theorem dX2_doors_18 : decode cX2_doors 18 = .ok (.iload_n 2, 1) := by decide +kernel
theorem dX2_doors_19 : decode cX2_doors 19 = .ok (.iaload, 1) := by decide +kernel
theorem dX2_doors_20 : decode cX2_doors 20 = .ok (.iadd, 1) := by decide +kernel
theorem dX2_doors_21 : decode cX2_doors 21 = .ok (.istore_n 1, 1) := by decide +kernel
theorem dX2_doors_22 : decode cX2_doors 22 = .ok (.iinc 2 1, 3) := by decide +kernel
theorem dX2_doors_25 : decode cX2_doors 25 = .ok (.goto (-21), 3) := by decide +kernel
theorem dX2_doors_28 : decode cX2_doors 28 = .ok (.iload_n 1, 1) := by decide +kernel
theorem dX2_doors_29 : decode cX2_doors 29 = .ok (.iconst 2, 1) := by decide +kernel
theorem dX2_doors_30 : decode cX2_doors 30 = .ok (.idiv, 1) := by decide +kernel
theorem dX2_doors_31 : decode cX2_doors 31 = .ok (.ireturn, 1) := by decide +kernel
theorem dX2_distance_0 : decode cX2_distance 0 = .ok (.aload_n 0, 1) := by decide +kernel
theorem dX2_distance_1 : decode cX2_distance 1 = .ok (.getfield 15, 3) := by decide +kernel
theorem dX2_distance_4 : decode cX2_distance 4 = .ok (.iload_n 1, 1) := by decide +kernel
theorem dX2_distance_5 : decode cX2_distance 5 = .ok (.bipush 7, 2) := by decide +kernel
theorem dX2_distance_7 : decode cX2_distance 7 = .ok (.imul, 1) := by decide +kernel
theorem dX2_distance_8 : decode cX2_distance 8 = .ok (.iload_n 2, 1) := by decide +kernel
theorem dX2_distance_9 : decode cX2_distance 9 = .ok (.iadd, 1) := by decide +kernel
theorem dX2_distance_10 : decode cX2_distance 10 = .ok (.iaload, 1) := by decide +kernel
theorem dX2_distance_11 : decode cX2_distance 11 = .ok (.istore_n 3, 1) := by decide +kernel
theorem dX2_distance_12 : decode cX2_distance 12 = .ok (.iload_n 3, 1) := by decide +kernel
theorem dX2_distance_13 : decode cX2_distance 13 = .ok (.sipush 1000, 3) := by decide +kernel
theorem dX2_distance_16 : decode cX2_distance 16 = .ok (.if_icmp .lt 8, 3) := by decide +kernel
theorem dX2_distance_19 : decode cX2_distance 19 = .ok (.bipush (-9), 2) := by decide +kernel
theorem dX2_distance_21 : decode cX2_distance 21 = .ok (.goto 4, 3) := by decide +kernel
theorem dX2_distance_24 : decode cX2_distance 24 = .ok (.iload_n 3, 1) := by decide +kernel
theorem dX2_distance_25 : decode cX2_distance 25 = .ok (.ireturn, 1) := by decide +kernel
theorem dX2_towards_0 : decode cX2_towards 0 = .ok (.aload_n 0, 1) := by decide +kernel
theorem dX2_towards_1 : decode cX2_towards 1 = .ok (.getfield 15, 3) := by decide +kernel
theorem dX2_towards_4 : decode cX2_towards 4 = .ok (.iload_n 1, 1) := by decide +kernel
theorem dX2_towards_5 : decode cX2_towards 5 = .ok (.bipush 7, 2) := by decide +kernel
theorem dX2_towards_7 : decode cX2_towards 7 = .ok (.imul, 1) := by decide +kernel
theorem dX2_towards_8 : decode cX2_towards 8 = .ok (.iload_n 2, 1) := by decide +kernel
theorem dX2_towards_9 : decode cX2_towards 9 = .ok (.iadd, 1) := by decide +kernel
theorem dX2_towards_10 : decode cX2_towards 10 = .ok (.iaload, 1) := by decide +kernel
theorem dX2_towards_11 : decode cX2_towards 11 = .ok (.istore_n 3, 1) := by decide +kernel
theorem dX2_towards_12 : decode cX2_towards 12 = .ok (.iconst 0, 1) := by decide +kernel
theorem dX2_towards_13 : decode cX2_towards 13 = .ok (.istore 4, 2) := by decide +kernel
theorem dX2_towards_15 : decode cX2_towards 15 = .ok (.iload 4, 2) := by decide +kernel
theorem dX2_towards_17 : decode cX2_towards 17 = .ok (.bipush 7, 2) := by decide +kernel
theorem dX2_towards_19 : decode cX2_towards 19 = .ok (.if_icmp .ge 44, 3) := by decide +kernel
theorem dX2_towards_22 : decode cX2_towards 22 = .ok (.aload_n 0, 1) := by decide +kernel
theorem dX2_towards_23 : decode cX2_towards 23 = .ok (.getfield 11, 3) := by decide +kernel
theorem dX2_towards_26 : decode cX2_towards 26 = .ok (.iload_n 1, 1) := by decide +kernel
theorem dX2_towards_27 : decode cX2_towards 27 = .ok (.bipush 7, 2) := by decide +kernel
theorem dX2_towards_29 : decode cX2_towards 29 = .ok (.imul, 1) := by decide +kernel
theorem dX2_towards_30 : decode cX2_towards 30 = .ok (.iload 4, 2) := by decide +kernel
theorem dX2_towards_32 : decode cX2_towards 32 = .ok (.iadd, 1) := by decide +kernel
theorem dX2_towards_33 : decode cX2_towards 33 = .ok (.iaload, 1) := by decide +kernel
theorem dX2_towards_34 : decode cX2_towards 34 = .ok (.iconst 1, 1) := by decide +kernel
theorem dX2_towards_35 : decode cX2_towards 35 = .ok (.if_icmp .ne 22, 3) := by decide +kernel
theorem dX2_towards_38 : decode cX2_towards 38 = .ok (.aload_n 0, 1) := by decide +kernel
theorem dX2_towards_39 : decode cX2_towards 39 = .ok (.getfield 15, 3) := by decide +kernel
theorem dX2_towards_42 : decode cX2_towards 42 = .ok (.iload 4, 2) := by decide +kernel
theorem dX2_towards_44 : decode cX2_towards 44 = .ok (.bipush 7, 2) := by decide +kernel
theorem dX2_towards_46 : decode cX2_towards 46 = .ok (.imul, 1) := by decide +kernel
theorem dX2_towards_47 : decode cX2_towards 47 = .ok (.iload_n 2, 1) := by decide +kernel
theorem dX2_towards_48 : decode cX2_towards 48 = .ok (.iadd, 1) := by decide +kernel
theorem dX2_towards_49 : decode cX2_towards 49 = .ok (.iaload, 1) := by decide +kernel
theorem dX2_towards_50 : decode cX2_towards 50 = .ok (.iload_n 3, 1) := by decide +kernel
theorem dX2_towards_51 : decode cX2_towards 51 = .ok (.if_icmp .ge 6, 3) := by decide +kernel
theorem dX2_towards_54 : decode cX2_towards 54 = .ok (.iload 4, 2) := by decide +kernel
theorem dX2_towards_56 : decode cX2_towards 56 = .ok (.ireturn, 1) := by decide +kernel
theorem dX2_towards_57 : decode cX2_towards 57 = .ok (.iinc 4 1, 3) := by decide +kernel
theorem dX2_towards_60 : decode cX2_towards 60 = .ok (.goto (-45), 3) := by decide +kernel
theorem dX2_towards_63 : decode cX2_towards 63 = .ok (.iload_n 1, 1) := by decide +kernel
theorem dX2_towards_64 : decode cX2_towards 64 = .ok (.ireturn, 1) := by decide +kernel
theorem dX2_measure_0 : decode cX2_measure 0 = .ok (.iconst 0, 1) := by decide +kernel
theorem dX2_measure_1 : decode cX2_measure 1 = .ok (.istore_n 1, 1) := by decide +kernel
theorem dX2_measure_2 : decode cX2_measure 2 = .ok (.iload_n 1, 1) := by decide +kernel
theorem dX2_measure_3 : decode cX2_measure 3 = .ok (.aload_n 0, 1) := by decide +kernel
theorem dX2_measure_4 : decode cX2_measure 4 = .ok (.getfield 15, 3) := by decide +kernel
theorem dX2_measure_7 : decode cX2_measure 7 = .ok (.arraylength, 1) := by decide +kernel
theorem dX2_measure_8 : decode cX2_measure 8 = .ok (.if_icmp .ge 32, 3) := by decide +kernel
theorem dX2_measure_11 : decode cX2_measure 11 = .ok (.aload_n 0, 1) := by decide +kernel
theorem dX2_measure_12 : decode cX2_measure 12 = .ok (.getfield 15, 3) := by decide +kernel
theorem dX2_measure_15 : decode cX2_measure 15 = .ok (.iload_n 1, 1) := by decide +kernel
theorem dX2_measure_16 : decode cX2_measure 16 = .ok (.aload_n 0, 1) := by decide +kernel
theorem dX2_measure_17 : decode cX2_measure 17 = .ok (.getfield 11, 3) := by decide +kernel
theorem dX2_measure_20 : decode cX2_measure 20 = .ok (.iload_n 1, 1) := by decide +kernel
theorem dX2_measure_21 : decode cX2_measure 21 = .ok (.iaload, 1) := by decide +kernel
theorem dX2_measure_22 : decode cX2_measure 22 = .ok (.iconst 1, 1) := by decide +kernel
theorem dX2_measure_23 : decode cX2_measure 23 = .ok (.if_icmp .ne 7, 3) := by decide +kernel
theorem dX2_measure_26 : decode cX2_measure 26 = .ok (.iconst 1, 1) := by decide +kernel
theorem dX2_measure_27 : decode cX2_measure 27 = .ok (.goto 6, 3) := by decide +kernel
theorem dX2_measure_30 : decode cX2_measure 30 = .ok (.sipush 1000, 3) := by decide +kernel
theorem dX2_measure_33 : decode cX2_measure 33 = .ok (.iastore, 1) := by decide +kernel
theorem dX2_measure_34 : decode cX2_measure 34 = .ok (.iinc 1 1, 3) := by decide +kernel
theorem dX2_measure_37 : decode cX2_measure 37 = .ok (.goto (-35), 3) := by decide +kernel
theorem dX2_measure_40 : decode cX2_measure 40 = .ok (.iconst 0, 1) := by decide +kernel
theorem dX2_measure_41 : decode cX2_measure 41 = .ok (.istore_n 1, 1) := by decide +kernel
theorem dX2_measure_42 : decode cX2_measure 42 = .ok (.iload_n 1, 1) := by decide +kernel
theorem dX2_measure_43 : decode cX2_measure 43 = .ok (.bipush 7, 2) := by decide +kernel
theorem dX2_measure_45 : decode cX2_measure 45 = .ok (.if_icmp .ge 21, 3) := by decide +kernel
theorem dX2_measure_48 : decode cX2_measure 48 = .ok (.aload_n 0, 1) := by decide +kernel
theorem dX2_measure_49 : decode cX2_measure 49 = .ok (.getfield 15, 3) := by decide +kernel
theorem dX2_measure_52 : decode cX2_measure 52 = .ok (.iload_n 1, 1) := by decide +kernel
theorem dX2_measure_53 : decode cX2_measure 53 = .ok (.bipush 7, 2) := by decide +kernel
theorem dX2_measure_55 : decode cX2_measure 55 = .ok (.imul, 1) := by decide +kernel
theorem dX2_measure_56 : decode cX2_measure 56 = .ok (.iload_n 1, 1) := by decide +kernel
theorem dX2_measure_57 : decode cX2_measure 57 = .ok (.iadd, 1) := by decide +kernel
theorem dX2_measure_58 : decode cX2_measure 58 = .ok (.iconst 0, 1) := by decide +kernel
theorem dX2_measure_59 : decode cX2_measure 59 = .ok (.iastore, 1) := by decide +kernel
theorem dX2_measure_60 : decode cX2_measure 60 = .ok (.iinc 1 1, 3) := by decide +kernel
theorem dX2_measure_63 : decode cX2_measure 63 = .ok (.goto (-21), 3) := by decide +kernel
theorem dX2_measure_66 : decode cX2_measure 66 = .ok (.iconst 0, 1) := by decide +kernel
theorem dX2_measure_67 : decode cX2_measure 67 = .ok (.istore_n 1, 1) := by decide +kernel
theorem dX2_measure_68 : decode cX2_measure 68 = .ok (.iload_n 1, 1) := by decide +kernel
theorem dX2_measure_69 : decode cX2_measure 69 = .ok (.bipush 7, 2) := by decide +kernel
theorem dX2_measure_71 : decode cX2_measure 71 = .ok (.if_icmp .ge 14, 3) := by decide +kernel
theorem dX2_measure_74 : decode cX2_measure 74 = .ok (.aload_n 0, 1) := by decide +kernel
theorem dX2_measure_75 : decode cX2_measure 75 = .ok (.iload_n 1, 1) := by decide +kernel
theorem dX2_measure_76 : decode cX2_measure 76 = .ok (.invokevirtual 31, 3) := by decide +kernel
theorem dX2_measure_79 : decode cX2_measure 79 = .ok (.iinc 1 1, 3) := by decide +kernel
theorem dX2_measure_82 : decode cX2_measure 82 = .ok (.goto (-14), 3) := by decide +kernel
theorem dX2_measure_85 : decode cX2_measure 85 = .ok (.return_, 1) := by decide +kernel
theorem dX2_shortenBy_0 : decode cX2_shortenBy 0 = .ok (.iconst 0, 1) := by decide +kernel
theorem dX2_shortenBy_1 : decode cX2_shortenBy 1 = .ok (.istore_n 2, 1) := by decide +kernel
theorem dX2_shortenBy_2 : decode cX2_shortenBy 2 = .ok (.iload_n 2, 1) := by decide +kernel
theorem dX2_shortenBy_3 : decode cX2_shortenBy 3 = .ok (.bipush 7, 2) := by decide +kernel
theorem dX2_shortenBy_5 : decode cX2_shortenBy 5 = .ok (.if_icmp .ge 75, 3) := by decide +kernel
theorem dX2_shortenBy_8 : decode cX2_shortenBy 8 = .ok (.iconst 0, 1) := by decide +kernel
theorem dX2_shortenBy_9 : decode cX2_shortenBy 9 = .ok (.istore_n 3, 1) := by decide +kernel
theorem dX2_shortenBy_10 : decode cX2_shortenBy 10 = .ok (.iload_n 3, 1) := by decide +kernel
theorem dX2_shortenBy_11 : decode cX2_shortenBy 11 = .ok (.bipush 7, 2) := by decide +kernel
theorem dX2_shortenBy_13 : decode cX2_shortenBy 13 = .ok (.if_icmp .ge 61, 3) := by decide +kernel
theorem dX2_shortenBy_16 : decode cX2_shortenBy 16 = .ok (.aload_n 0, 1) := by decide +kernel
theorem dX2_shortenBy_17 : decode cX2_shortenBy 17 = .ok (.getfield 15, 3) := by decide +kernel
theorem dX2_shortenBy_20 : decode cX2_shortenBy 20 = .ok (.iload_n 2, 1) := by decide +kernel
theorem dX2_shortenBy_21 : decode cX2_shortenBy 21 = .ok (.bipush 7, 2) := by decide +kernel
theorem dX2_shortenBy_23 : decode cX2_shortenBy 23 = .ok (.imul, 1) := by decide +kernel
theorem dX2_shortenBy_24 : decode cX2_shortenBy 24 = .ok (.iload_n 1, 1) := by decide +kernel
theorem dX2_shortenBy_25 : decode cX2_shortenBy 25 = .ok (.iadd, 1) := by decide +kernel
theorem dX2_shortenBy_26 : decode cX2_shortenBy 26 = .ok (.iaload, 1) := by decide +kernel
theorem dX2_shortenBy_27 : decode cX2_shortenBy 27 = .ok (.aload_n 0, 1) := by decide +kernel
theorem dX2_shortenBy_28 : decode cX2_shortenBy 28 = .ok (.getfield 15, 3) := by decide +kernel
theorem dX2_shortenBy_31 : decode cX2_shortenBy 31 = .ok (.iload_n 1, 1) := by decide +kernel
theorem dX2_shortenBy_32 : decode cX2_shortenBy 32 = .ok (.bipush 7, 2) := by decide +kernel
theorem dX2_shortenBy_34 : decode cX2_shortenBy 34 = .ok (.imul, 1) := by decide +kernel
theorem dX2_shortenBy_35 : decode cX2_shortenBy 35 = .ok (.iload_n 3, 1) := by decide +kernel
theorem dX2_shortenBy_36 : decode cX2_shortenBy 36 = .ok (.iadd, 1) := by decide +kernel
theorem dX2_shortenBy_37 : decode cX2_shortenBy 37 = .ok (.iaload, 1) := by decide +kernel
theorem dX2_shortenBy_38 : decode cX2_shortenBy 38 = .ok (.iadd, 1) := by decide +kernel
theorem dX2_shortenBy_39 : decode cX2_shortenBy 39 = .ok (.istore 4, 2) := by decide +kernel
theorem dX2_shortenBy_41 : decode cX2_shortenBy 41 = .ok (.aload_n 0, 1) := by decide +kernel
theorem dX2_shortenBy_42 : decode cX2_shortenBy 42 = .ok (.getfield 15, 3) := by decide +kernel
theorem dX2_shortenBy_45 : decode cX2_shortenBy 45 = .ok (.iload_n 2, 1) := by decide +kernel
theorem dX2_shortenBy_46 : decode cX2_shortenBy 46 = .ok (.bipush 7, 2) := by decide +kernel
theorem dX2_shortenBy_48 : decode cX2_shortenBy 48 = .ok (.imul, 1) := by decide +kernel
theorem dX2_shortenBy_49 : decode cX2_shortenBy 49 = .ok (.iload_n 3, 1) := by decide +kernel
theorem dX2_shortenBy_50 : decode cX2_shortenBy 50 = .ok (.iadd, 1) := by decide +kernel
theorem dX2_shortenBy_51 : decode cX2_shortenBy 51 = .ok (.aload_n 0, 1) := by decide +kernel
theorem dX2_shortenBy_52 : decode cX2_shortenBy 52 = .ok (.getfield 15, 3) := by decide +kernel
theorem dX2_shortenBy_55 : decode cX2_shortenBy 55 = .ok (.iload_n 2, 1) := by decide +kernel
theorem dX2_shortenBy_56 : decode cX2_shortenBy 56 = .ok (.bipush 7, 2) := by decide +kernel
theorem dX2_shortenBy_58 : decode cX2_shortenBy 58 = .ok (.imul, 1) := by decide +kernel
theorem dX2_shortenBy_59 : decode cX2_shortenBy 59 = .ok (.iload_n 3, 1) := by decide +kernel
theorem dX2_shortenBy_60 : decode cX2_shortenBy 60 = .ok (.iadd, 1) := by decide +kernel
theorem dX2_shortenBy_61 : decode cX2_shortenBy 61 = .ok (.iaload, 1) := by decide +kernel
theorem dX2_shortenBy_62 : decode cX2_shortenBy 62 = .ok (.iload 4, 2) := by decide +kernel
theorem dX2_shortenBy_64 : decode cX2_shortenBy 64 = .ok (.invokestatic 35, 3) := by decide +kernel
theorem dX2_shortenBy_67 : decode cX2_shortenBy 67 = .ok (.iastore, 1) := by decide +kernel
theorem dX2_shortenBy_68 : decode cX2_shortenBy 68 = .ok (.iinc 3 1, 3) := by decide +kernel
theorem dX2_shortenBy_71 : decode cX2_shortenBy 71 = .ok (.goto (-61), 3) := by decide +kernel
theorem dX2_shortenBy_74 : decode cX2_shortenBy 74 = .ok (.iinc 2 1, 3) := by decide +kernel
theorem dX2_shortenBy_77 : decode cX2_shortenBy 77 = .ok (.goto (-75), 3) := by decide +kernel
theorem dX2_shortenBy_80 : decode cX2_shortenBy 80 = .ok (.return_, 1) := by decide +kernel
theorem dJ0_length_8abf5_0 : decode cJ0_length_8abf5 0 = .ok (.aload_n 0, 1) := by decide +kernel
theorem dJ0_length_8abf5_1 : decode cJ0_length_8abf5 1 = .ok (.getfield 9, 3) := by decide +kernel
theorem dJ0_length_8abf5_4 : decode cJ0_length_8abf5 4 = .ok (.arraylength, 1) := by decide +kernel
theorem dJ0_length_8abf5_5 : decode cJ0_length_8abf5 5 = .ok (.aload_n 0, 1) := by decide +kernel
theorem dJ0_length_8abf5_6 : decode cJ0_length_8abf5 6 = .ok (.invokevirtual 335, 3) := by decide +kernel
theorem dJ0_length_8abf5_9 : decode cJ0_length_8abf5 9 = .ok (.ishr, 1) := by decide +kernel
theorem dJ0_length_8abf5_10 : decode cJ0_length_8abf5 10 = .ok (.ireturn, 1) := by decide +kernel
theorem dJ0_indexOf_0f7a4_0 : decode cJ0_indexOf_0f7a4 0 = .ok (.aload_n 0, 1) := by decide +kernel
theorem dJ0_indexOf_0f7a4_1 : decode cJ0_indexOf_0f7a4 1 = .ok (.iload_n 1, 1) := by decide +kernel
theorem dJ0_indexOf_0f7a4_2 : decode cJ0_indexOf_0f7a4 2 = .ok (.iconst 0, 1) := by decide +kernel
theorem dJ0_indexOf_0f7a4_3 : decode cJ0_indexOf_0f7a4 3 = .ok (.invokevirtual 633, 3) := by decide +kernel
theorem dJ0_indexOf_0f7a4_6 : decode cJ0_indexOf_0f7a4 6 = .ok (.ireturn, 1) := by decide +kernel
theorem dJ0_indexOf_7cf53_0 : decode cJ0_indexOf_7cf53 0 = .ok (.aload_n 0, 1) := by decide +kernel
theorem dJ0_indexOf_7cf53_1 : decode cJ0_indexOf_7cf53 1 = .ok (.invokevirtual 492, 3) := by decide +kernel
theorem dJ0_indexOf_7cf53_4 : decode cJ0_indexOf_7cf53 4 = .ok (.ifCond .eq 19, 3) := by decide +kernel
theorem dJ0_indexOf_7cf53_7 : decode cJ0_indexOf_7cf53 7 = .ok (.aload_n 0, 1) := by decide +kernel
theorem dJ0_indexOf_7cf53_8 : decode cJ0_indexOf_7cf53 8 = .ok (.getfield 9, 3) := by decide +kernel
theorem dJ0_indexOf_7cf53_11 : decode cJ0_indexOf_7cf53 11 = .ok (.iload_n 1, 1) := by decide +kernel
theorem dJ0_indexOf_7cf53_12 : decode cJ0_indexOf_7cf53 12 = .ok (.iload_n 2, 1) := by decide +kernel
theorem dJ0_indexOf_7cf53_13 : decode cJ0_indexOf_7cf53 13 = .ok (.aload_n 0, 1) := by decide +kernel
theorem dJ0_indexOf_7cf53_14 : decode cJ0_indexOf_7cf53 14 = .ok (.invokevirtual 505, 3) := by decide +kernel
theorem dJ0_indexOf_7cf53_17 : decode cJ0_indexOf_7cf53 17 = .ok (.invokestatic 637, 3) := by decide +kernel
theorem dJ0_indexOf_7cf53_20 : decode cJ0_indexOf_7cf53 20 = .ok (.goto 16, 3) := by decide +kernel
theorem dJ0_indexOf_7cf53_23 : decode cJ0_indexOf_7cf53 23 = .ok (.aload_n 0, 1) := by decide +kernel
theorem dJ0_indexOf_7cf53_24 : decode cJ0_indexOf_7cf53 24 = .ok (.getfield 9, 3) := by decide +kernel
theorem dJ0_indexOf_7cf53_27 : decode cJ0_indexOf_7cf53 27 = .ok (.iload_n 1, 1) := by decide +kernel
theorem dJ0_indexOf_7cf53_28 : decode cJ0_indexOf_7cf53 28 = .ok (.iload_n 2, 1) := by decide +kernel
theorem dJ0_indexOf_7cf53_29 : decode cJ0_indexOf_7cf53 29 = .ok (.aload_n 0, 1) := by decide +kernel
theorem dJ0_indexOf_7cf53_30 : decode cJ0_indexOf_7cf53 30 = .ok (.invokevirtual 505, 3) := by decide +kernel
theorem dJ0_indexOf_7cf53_33 : decode cJ0_indexOf_7cf53 33 = .ok (.invokestatic 640, 3) := by decide +kernel
theorem dJ0_indexOf_7cf53_36 : decode cJ0_indexOf_7cf53 36 = .ok (.ireturn, 1) := by decide +kernel
theorem dJ0_coder_7d493_0 : decode cJ0_coder_7d493 0 = .ok (.getstatic 38, 3) := by decide +kernel
theorem dJ0_coder_7d493_3 : decode cJ0_coder_7d493 3 = .ok (.ifCond .eq 10, 3) := by decide +kernel
theorem dJ0_coder_7d493_6 : decode cJ0_coder_7d493 6 = .ok (.aload_n 0, 1) := by decide +kernel
theorem dJ0_coder_7d493_7 : decode cJ0_coder_7d493 7 = .ok (.getfield 15, 3) := by decide +kernel
theorem dJ0_coder_7d493_10 : decode cJ0_coder_7d493 10 = .ok (.goto 4, 3) := by decide +kernel
theorem dJ0_coder_7d493_13 : decode cJ0_coder_7d493 13 = .ok (.iconst 1, 1) := by decide +kernel
theorem dJ0_coder_7d493_14 : decode cJ0_coder_7d493 14 = .ok (.ireturn, 1) := by decide +kernel
theorem dJ0_isLatin1_aae02_0 : decode cJ0_isLatin1_aae02 0 = .ok (.getstatic 38, 3) := by decide +kernel
theorem dJ0_isLatin1_aae02_3 : decode cJ0_isLatin1_aae02 3 = .ok (.ifCond .eq 14, 3) := by decide +kernel
theorem dJ0_isLatin1_aae02_6 : decode cJ0_isLatin1_aae02 6 = .ok (.aload_n 0, 1) := by decide +kernel
theorem dJ0_isLatin1_aae02_7 : decode cJ0_isLatin1_aae02 7 = .ok (.getfield 15, 3) := by decide +kernel
theorem dJ0_isLatin1_aae02_10 : decode cJ0_isLatin1_aae02 10 = .ok (.ifCond .ne 7, 3) := by decide +kernel
theorem dJ0_isLatin1_aae02_13 : decode cJ0_isLatin1_aae02 13 = .ok (.iconst 1, 1) := by decide +kernel
theorem dJ0_isLatin1_aae02_14 : decode cJ0_isLatin1_aae02 14 = .ok (.goto 4, 3) := by decide +kernel
theorem dJ0_isLatin1_aae02_17 : decode cJ0_isLatin1_aae02 17 = .ok (.iconst 0, 1) := by decide +kernel
theorem dJ0_isLatin1_aae02_18 : decode cJ0_isLatin1_aae02 18 = .ok (.ireturn, 1) := by decide +kernel
theorem dJ1_canEncode_9a6ad_0 : decode cJ1_canEncode_9a6ad 0 = .ok (.iload_n 0, 1) := by decide +kernel
theorem dJ1_canEncode_9a6ad_1 : decode cJ1_canEncode_9a6ad 1 = .ok (.ifCond .lt 14, 3) := by decide +kernel
theorem dJ1_canEncode_9a6ad_4 : decode cJ1_canEncode_9a6ad 4 = .ok (.iload_n 0, 1) := by decide +kernel
theorem dJ1_canEncode_9a6ad_5 : decode cJ1_canEncode_9a6ad 5 = .ok (.sipush 255, 3) := by decide +kernel
theorem dJ1_canEncode_9a6ad_8 : decode cJ1_canEncode_9a6ad 8 = .ok (.if_icmp .gt 7, 3) := by decide +kernel
theorem dJ1_canEncode_9a6ad_11 : decode cJ1_canEncode_9a6ad 11 = .ok (.iconst 1, 1) := by decide +kernel
theorem dJ1_canEncode_9a6ad_12 : decode cJ1_canEncode_9a6ad 12 = .ok (.goto 4, 3) := by decide +kernel
theorem dJ1_canEncode_9a6ad_15 : decode cJ1_canEncode_9a6ad 15 = .ok (.iconst 0, 1) := by decide +kernel
theorem dJ1_canEncode_9a6ad_16 : decode cJ1_canEncode_9a6ad 16 = .ok (.ireturn, 1) := by decide +kernel
theorem dJ1_indexOf_4cfef_0 : decode cJ1_indexOf_4cfef 0 = .ok (.iload_n 1, 1) := by decide +kernel
theorem dJ1_indexOf_4cfef_1 : decode cJ1_indexOf_4cfef 1 = .ok (.invokestatic 88, 3) := by decide +kernel
theorem dJ1_indexOf_4cfef_4 : decode cJ1_indexOf_4cfef 4 = .ok (.ifCond .ne 5, 3) := by decide +kernel
theorem dJ1_indexOf_4cfef_7 : decode cJ1_indexOf_4cfef 7 = .ok (.iconst (-1), 1) := by decide +kernel
theorem dJ1_indexOf_4cfef_8 : decode cJ1_indexOf_4cfef 8 = .ok (.ireturn, 1) := by decide +kernel
theorem dJ1_indexOf_4cfef_9 : decode cJ1_indexOf_4cfef 9 = .ok (.iload_n 2, 1) := by decide +kernel
theorem dJ1_indexOf_4cfef_10 : decode cJ1_indexOf_4cfef 10 = .ok (.iconst 0, 1) := by decide +kernel
theorem dJ1_indexOf_4cfef_11 : decode cJ1_indexOf_4cfef 11 = .ok (.invokestatic 92, 3) := by decide +kernel
theorem dJ1_indexOf_4cfef_14 : decode cJ1_indexOf_4cfef 14 = .ok (.istore_n 2, 1) := by decide +kernel
theorem dJ1_indexOf_4cfef_15 : decode cJ1_indexOf_4cfef 15 = .ok (.iload_n 3, 1) := by decide +kernel
theorem dJ1_indexOf_4cfef_16 : decode cJ1_indexOf_4cfef 16 = .ok (.aload_n 0, 1) := by decide +kernel
theorem dJ1_indexOf_4cfef_17 : decode cJ1_indexOf_4cfef 17 = .ok (.arraylength, 1) := by decide +kernel
theorem dJ1_indexOf_4cfef_18 : decode cJ1_indexOf_4cfef 18 = .ok (.invokestatic 38, 3) := by decide +kernel
theorem dJ1_indexOf_4cfef_21 : decode cJ1_indexOf_4cfef 21 = .ok (.istore_n 3, 1) := by decide +kernel
theorem dJ1_indexOf_4cfef_22 : decode cJ1_indexOf_4cfef 22 = .ok (.iload_n 2, 1) := by decide +kernel
theorem dJ1_indexOf_4cfef_23 : decode cJ1_indexOf_4cfef 23 = .ok (.iload_n 3, 1) := by decide +kernel
theorem dJ1_indexOf_4cfef_24 : decode cJ1_indexOf_4cfef 24 = .ok (.if_icmp .lt 5, 3) := by decide +kernel
theorem dJ1_indexOf_4cfef_27 : decode cJ1_indexOf_4cfef 27 = .ok (.iconst (-1), 1) := by decide +kernel
theorem dJ1_indexOf_4cfef_28 : decode cJ1_indexOf_4cfef 28 = .ok (.ireturn, 1) := by decide +kernel
theorem dJ1_indexOf_4cfef_29 : decode cJ1_indexOf_4cfef 29 = .ok (.aload_n 0, 1) := by decide +kernel
theorem dJ1_indexOf_4cfef_30 : decode cJ1_indexOf_4cfef 30 = .ok (.iload_n 1, 1) := by decide +kernel
theorem dJ1_indexOf_4cfef_31 : decode cJ1_indexOf_4cfef 31 = .ok (.iload_n 2, 1) := by decide +kernel
theorem dJ1_indexOf_4cfef_32 : decode cJ1_indexOf_4cfef 32 = .ok (.iload_n 3, 1) := by decide +kernel
theorem dJ1_indexOf_4cfef_33 : decode cJ1_indexOf_4cfef 33 = .ok (.invokestatic 95, 3) := by decide +kernel
theorem dJ1_indexOf_4cfef_36 : decode cJ1_indexOf_4cfef 36 = .ok (.ireturn, 1) := by decide +kernel
theorem dJ1_indexOfChar_4cfef_0 : decode cJ1_indexOfChar_4cfef 0 = .ok (.iload_n 1, 1) := by decide +kernel
theorem dJ1_indexOfChar_4cfef_1 : decode cJ1_indexOfChar_4cfef 1 = .ok (.i2b, 1) := by decide +kernel
theorem dJ1_indexOfChar_4cfef_2 : decode cJ1_indexOfChar_4cfef 2 = .ok (.istore 4, 2) := by decide +kernel
theorem dJ1_indexOfChar_4cfef_4 : decode cJ1_indexOfChar_4cfef 4 = .ok (.iload_n 2, 1) := by decide +kernel
theorem dJ1_indexOfChar_4cfef_5 : decode cJ1_indexOfChar_4cfef 5 = .ok (.istore 5, 2) := by decide +kernel
theorem dJ1_indexOfChar_4cfef_7 : decode cJ1_indexOfChar_4cfef 7 = .ok (.iload 5, 2) := by decide +kernel
theorem dJ1_indexOfChar_4cfef_9 : decode cJ1_indexOfChar_4cfef 9 = .ok (.iload_n 3, 1) := by decide +kernel
theorem dJ1_indexOfChar_4cfef_10 : decode cJ1_indexOfChar_4cfef 10 = .ok (.if_icmp .ge 21, 3) := by decide +kernel
theorem dJ1_indexOfChar_4cfef_13 : decode cJ1_indexOfChar_4cfef 13 = .ok (.aload_n 0, 1) := by decide +kernel
theorem dJ1_indexOfChar_4cfef_14 : decode cJ1_indexOfChar_4cfef 14 = .ok (.iload 5, 2) := by decide +kernel
theorem dJ1_indexOfChar_4cfef_16 : decode cJ1_indexOfChar_4cfef 16 = .ok (.baload, 1) := by decide +kernel
theorem dJ1_indexOfChar_4cfef_17 : decode cJ1_indexOfChar_4cfef 17 = .ok (.iload 4, 2) := by decide +kernel
theorem dJ1_indexOfChar_4cfef_19 : decode cJ1_indexOfChar_4cfef 19 = .ok (.if_icmp .ne 6, 3) := by decide +kernel
theorem dJ1_indexOfChar_4cfef_22 : decode cJ1_indexOfChar_4cfef 22 = .ok (.iload 5, 2) := by decide +kernel
theorem dJ1_indexOfChar_4cfef_24 : decode cJ1_indexOfChar_4cfef 24 = .ok (.ireturn, 1) := by decide +kernel
theorem dJ1_indexOfChar_4cfef_25 : decode cJ1_indexOfChar_4cfef 25 = .ok (.iinc 5 1, 3) := by decide +kernel
theorem dJ1_indexOfChar_4cfef_28 : decode cJ1_indexOfChar_4cfef 28 = .ok (.goto (-21), 3) := by decide +kernel
theorem dJ1_indexOfChar_4cfef_31 : decode cJ1_indexOfChar_4cfef 31 = .ok (.iconst (-1), 1) := by decide +kernel
theorem dJ1_indexOfChar_4cfef_32 : decode cJ1_indexOfChar_4cfef 32 = .ok (.ireturn, 1) := by decide +kernel
theorem dJ7_fill_53178_0 : decode cJ7_fill_53178 0 = .ok (.iconst 0, 1) := by decide +kernel
theorem dJ7_fill_53178_1 : decode cJ7_fill_53178 1 = .ok (.istore_n 2, 1) := by decide +kernel
theorem dJ7_fill_53178_2 : decode cJ7_fill_53178 2 = .ok (.aload_n 0, 1) := by decide +kernel
theorem dJ7_fill_53178_3 : decode cJ7_fill_53178 3 = .ok (.arraylength, 1) := by decide +kernel
theorem dJ7_fill_53178_4 : decode cJ7_fill_53178 4 = .ok (.istore_n 3, 1) := by decide +kernel
theorem dJ7_fill_53178_5 : decode cJ7_fill_53178 5 = .ok (.iload_n 2, 1) := by decide +kernel
theorem dJ7_fill_53178_6 : decode cJ7_fill_53178 6 = .ok (.iload_n 3, 1) := by decide +kernel
theorem dJ7_fill_53178_7 : decode cJ7_fill_53178 7 = .ok (.if_icmp .ge 13, 3) := by decide +kernel
theorem dJ7_fill_53178_10 : decode cJ7_fill_53178 10 = .ok (.aload_n 0, 1) := by decide +kernel
theorem dJ7_fill_53178_11 : decode cJ7_fill_53178 11 = .ok (.iload_n 2, 1) := by decide +kernel
theorem dJ7_fill_53178_12 : decode cJ7_fill_53178 12 = .ok (.iload_n 1, 1) := by decide +kernel
theorem dJ7_fill_53178_13 : decode cJ7_fill_53178 13 = .ok (.iastore, 1) := by decide +kernel
theorem dJ7_fill_53178_14 : decode cJ7_fill_53178 14 = .ok (.iinc 2 1, 3) := by decide +kernel
theorem dJ7_fill_53178_17 : decode cJ7_fill_53178 17 = .ok (.goto (-12), 3) := by decide +kernel
theorem dJ7_fill_53178_20 : decode cJ7_fill_53178 20 = .ok (.return_, 1) := by decide +kernel
