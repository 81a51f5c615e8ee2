theorem dJ6_numberOfTrailingZeros_0f7a4_0 : decode cJ6_numberOfTrailingZeros_0f7a4 0 = .ok (.iload_n 0, 1) := by decide +kernel
theorem dJ6_numberOfTrailingZeros_0f7a4_1 : decode cJ6_numberOfTrailingZeros_0f7a4 1 = .ok (.iconst (-1), 1) := by decide +kernel
theorem dJ6_numberOfTrailingZeros_0f7a4_2 : decode cJ6_numberOfTrailingZeros_0f7a4 2 = .ok (.ixor, 1) := by decide +kernel
theorem dJ6_numberOfTrailingZeros_0f7a4_3 : decode cJ6_numberOfTrailingZeros_0f7a4 3 = .ok (.iload_n 0, 1) := by decide +kernel
theorem dJ6_numberOfTrailingZeros_0f7a4_4 : decode cJ6_numberOfTrailingZeros_0f7a4 4 = .ok (.iconst 1, 1) := by decide +kernel
theorem dJ6_numberOfTrailingZeros_0f7a4_5 : decode cJ6_numberOfTrailingZeros_0f7a4 5 = .ok (.isub, 1) := by decide +kernel
theorem dJ6_numberOfTrailingZeros_0f7a4_6 : decode cJ6_numberOfTrailingZeros_0f7a4 6 = .ok (.iand, 1) := by decide +kernel
theorem dJ6_numberOfTrailingZeros_0f7a4_7 : decode cJ6_numberOfTrailingZeros_0f7a4 7 = .ok (.istore_n 0, 1) := by decide +kernel
theorem dJ6_numberOfTrailingZeros_0f7a4_8 : decode cJ6_numberOfTrailingZeros_0f7a4 8 = .ok (.iload_n 0, 1) := by decide +kernel
theorem dJ6_numberOfTrailingZeros_0f7a4_9 : decode cJ6_numberOfTrailingZeros_0f7a4 9 = .ok (.ifCond .gt 8, 3) := by decide +kernel
theorem dJ6_numberOfTrailingZeros_0f7a4_12 : decode cJ6_numberOfTrailingZeros_0f7a4 12 = .ok (.iload_n 0, 1) := by decide +kernel
theorem dJ6_numberOfTrailingZeros_0f7a4_13 : decode cJ6_numberOfTrailingZeros_0f7a4 13 = .ok (.bipush 32, 2) := by decide +kernel
theorem dJ6_numberOfTrailingZeros_0f7a4_15 : decode cJ6_numberOfTrailingZeros_0f7a4 15 = .ok (.iand, 1) := by decide +kernel
theorem dJ6_numberOfTrailingZeros_0f7a4_16 : decode cJ6_numberOfTrailingZeros_0f7a4 16 = .ok (.ireturn, 1) := by decide +kernel
theorem dJ6_numberOfTrailingZeros_0f7a4_17 : decode cJ6_numberOfTrailingZeros_0f7a4 17 = .ok (.iconst 1, 1) := by decide +kernel
theorem dJ6_numberOfTrailingZeros_0f7a4_18 : decode cJ6_numberOfTrailingZeros_0f7a4 18 = .ok (.istore_n 1, 1) := by decide +kernel
theorem dJ6_numberOfTrailingZeros_0f7a4_19 : decode cJ6_numberOfTrailingZeros_0f7a4 19 = .ok (.iload_n 0, 1) := by decide +kernel
theorem dJ6_numberOfTrailingZeros_0f7a4_20 : decode cJ6_numberOfTrailingZeros_0f7a4 20 = .ok (.ldc_w 264, 3) := by decide +kernel
theorem dJ6_numberOfTrailingZeros_0f7a4_23 : decode cJ6_numberOfTrailingZeros_0f7a4 23 = .ok (.if_icmp .le 11, 3) := by decide +kernel
theorem dJ6_numberOfTrailingZeros_0f7a4_26 : decode cJ6_numberOfTrailingZeros_0f7a4 26 = .ok (.iinc 1 16, 3) := by decide +kernel
theorem dJ6_numberOfTrailingZeros_0f7a4_29 : decode cJ6_numberOfTrailingZeros_0f7a4 29 = .ok (.iload_n 0, 1) := by decide +kernel
theorem dJ6_numberOfTrailingZeros_0f7a4_30 : decode cJ6_numberOfTrailingZeros_0f7a4 30 = .ok (.bipush 16, 2) := by decide +kernel
theorem dJ6_numberOfTrailingZeros_0f7a4_32 : decode cJ6_numberOfTrailingZeros_0f7a4 32 = .ok (.iushr, 1) := by decide +kernel
theorem dJ6_numberOfTrailingZeros_0f7a4_33 : decode cJ6_numberOfTrailingZeros_0f7a4 33 = .ok (.istore_n 0, 1) := by decide +kernel
theorem dJ6_numberOfTrailingZeros_0f7a4_34 : decode cJ6_numberOfTrailingZeros_0f7a4 34 = .ok (.iload_n 0, 1) := by decide +kernel
theorem dJ6_numberOfTrailingZeros_0f7a4_35 : decode cJ6_numberOfTrailingZeros_0f7a4 35 = .ok (.sipush 256, 3) := by decide +kernel
theorem dJ6_numberOfTrailingZeros_0f7a4_38 : decode cJ6_numberOfTrailingZeros_0f7a4 38 = .ok (.if_icmp .le 11, 3) := by decide +kernel
theorem dJ6_numberOfTrailingZeros_0f7a4_41 : decode cJ6_numberOfTrailingZeros_0f7a4 41 = .ok (.iinc 1 8, 3) := by decide +kernel
theorem dJ6_numberOfTrailingZeros_0f7a4_44 : decode cJ6_numberOfTrailingZeros_0f7a4 44 = .ok (.iload_n 0, 1) := by decide +kernel
theorem dJ6_numberOfTrailingZeros_0f7a4_45 : decode cJ6_numberOfTrailingZeros_0f7a4 45 = .ok (.bipush 8, 2) := by decide +kernel
theorem dJ6_numberOfTrailingZeros_0f7a4_47 : decode cJ6_numberOfTrailingZeros_0f7a4 47 = .ok (.iushr, 1) := by decide +kernel
theorem dJ6_numberOfTrailingZeros_0f7a4_48 : decode cJ6_numberOfTrailingZeros_0f7a4 48 = .ok (.istore_n 0, 1) := by decide +kernel
theorem dJ6_numberOfTrailingZeros_0f7a4_49 : decode cJ6_numberOfTrailingZeros_0f7a4 49 = .ok (.iload_n 0, 1) := by decide +kernel
theorem dJ6_numberOfTrailingZeros_0f7a4_50 : decode cJ6_numberOfTrailingZeros_0f7a4 50 = .ok (.bipush 16, 2) := by decide +kernel
theorem dJ6_numberOfTrailingZeros_0f7a4_52 : decode cJ6_numberOfTrailingZeros_0f7a4 52 = .ok (.if_icmp .le 10, 3) := by decide +kernel
theorem dJ6_numberOfTrailingZeros_0f7a4_55 : decode cJ6_numberOfTrailingZeros_0f7a4 55 = .ok (.iinc 1 4, 3) := by decide +kernel
theorem dJ6_numberOfTrailingZeros_0f7a4_58 : decode cJ6_numberOfTrailingZeros_0f7a4 58 = .ok (.iload_n 0, 1) := by decide +kernel
theorem dJ6_numberOfTrailingZeros_0f7a4_59 : decode cJ6_numberOfTrailingZeros_0f7a4 59 = .ok (.iconst 4, 1) := by decide +kernel
theorem dJ6_numberOfTrailingZeros_0f7a4_60 : decode cJ6_numberOfTrailingZeros_0f7a4 60 = .ok (.iushr, 1) := by decide +kernel
theorem dJ6_numberOfTrailingZeros_0f7a4_61 : decode cJ6_numberOfTrailingZeros_0f7a4 61 = .ok (.istore_n 0, 1) := by decide +kernel
theorem dJ6_numberOfTrailingZeros_0f7a4_62 : decode cJ6_numberOfTrailingZeros_0f7a4 62 = .ok (.iload_n 0, 1) := by decide +kernel
theorem dJ6_numberOfTrailingZeros_0f7a4_63 : decode cJ6_numberOfTrailingZeros_0f7a4 63 = .ok (.iconst 4, 1) := by decide +kernel
theorem dJ6_numberOfTrailingZeros_0f7a4_64 : decode cJ6_numberOfTrailingZeros_0f7a4 64 = .ok (.if_icmp .le 10, 3) := by decide +kernel
theorem dJ6_numberOfTrailingZeros_0f7a4_67 : decode cJ6_numberOfTrailingZeros_0f7a4 67 = .ok (.iinc 1 2, 3) := by decide +kernel
theorem dJ6_numberOfTrailingZeros_0f7a4_70 : decode cJ6_numberOfTrailingZeros_0f7a4 70 = .ok (.iload_n 0, 1) := by decide +kernel
theorem dJ6_numberOfTrailingZeros_0f7a4_71 : decode cJ6_numberOfTrailingZeros_0f7a4 71 = .ok (.iconst 2, 1) := by decide +kernel
theorem dJ6_numberOfTrailingZeros_0f7a4_72 : decode cJ6_numberOfTrailingZeros_0f7a4 72 = .ok (.iushr, 1) := by decide +kernel
theorem dJ6_numberOfTrailingZeros_0f7a4_73 : decode cJ6_numberOfTrailingZeros_0f7a4 73 = .ok (.istore_n 0, 1) := by decide +kernel
theorem dJ6_numberOfTrailingZeros_0f7a4_74 : decode cJ6_numberOfTrailingZeros_0f7a4 74 = .ok (.iload_n 1, 1) := by decide +kernel
theorem dJ6_numberOfTrailingZeros_0f7a4_75 : decode cJ6_numberOfTrailingZeros_0f7a4 75 = .ok (.iload_n 0, 1) := by decide +kernel
theorem dJ6_numberOfTrailingZeros_0f7a4_76 : decode cJ6_numberOfTrailingZeros_0f7a4 76 = .ok (.iconst 1, 1) := by decide +kernel
theorem dJ6_numberOfTrailingZeros_0f7a4_77 : decode cJ6_numberOfTrailingZeros_0f7a4 77 = .ok (.iushr, 1) := by decide +kernel
theorem dJ6_numberOfTrailingZeros_0f7a4_78 : decode cJ6_numberOfTrailingZeros_0f7a4 78 = .ok (.iadd, 1) := by decide +kernel
theorem dJ6_numberOfTrailingZeros_0f7a4_79 : decode cJ6_numberOfTrailingZeros_0f7a4 79 = .ok (.ireturn, 1) := by decide +kernel
theorem dJ6_bitCount_0f7a4_0 : decode cJ6_bitCount_0f7a4 0 = .ok (.iload_n 0, 1) := by decide +kernel
theorem dJ6_bitCount_0f7a4_1 : decode cJ6_bitCount_0f7a4 1 = .ok (.iload_n 0, 1) := by decide +kernel
theorem dJ6_bitCount_0f7a4_2 : decode cJ6_bitCount_0f7a4 2 = .ok (.iconst 1, 1) := by decide +kernel
theorem dJ6_bitCount_0f7a4_3 : decode cJ6_bitCount_0f7a4 3 = .ok (.iushr, 1) := by decide +kernel
theorem dJ6_bitCount_0f7a4_4 : decode cJ6_bitCount_0f7a4 4 = .ok (.ldc_w 265, 3) := by decide +kernel
theorem dJ6_bitCount_0f7a4_7 : decode cJ6_bitCount_0f7a4 7 = .ok (.iand, 1) := by decide +kernel
theorem dJ6_bitCount_0f7a4_8 : decode cJ6_bitCount_0f7a4 8 = .ok (.isub, 1) := by decide +kernel
theorem dJ6_bitCount_0f7a4_9 : decode cJ6_bitCount_0f7a4 9 = .ok (.istore_n 0, 1) := by decide +kernel
theorem dJ6_bitCount_0f7a4_10 : decode cJ6_bitCount_0f7a4 10 = .ok (.iload_n 0, 1) := by decide +kernel
theorem dJ6_bitCount_0f7a4_11 : decode cJ6_bitCount_0f7a4 11 = .ok (.ldc_w 266, 3) := by decide +kernel
theorem dJ6_bitCount_0f7a4_14 : decode cJ6_bitCount_0f7a4 14 = .ok (.iand, 1) := by decide +kernel
theorem dJ6_bitCount_0f7a4_15 : decode cJ6_bitCount_0f7a4 15 = .ok (.iload_n 0, 1) := by decide +kernel
theorem dJ6_bitCount_0f7a4_16 : decode cJ6_bitCount_0f7a4 16 = .ok (.iconst 2, 1) := by decide +kernel
theorem dJ6_bitCount_0f7a4_17 : decode cJ6_bitCount_0f7a4 17 = .ok (.iushr, 1) := by decide +kernel
theorem dJ6_bitCount_0f7a4_18 : decode cJ6_bitCount_0f7a4 18 = .ok (.ldc_w 266, 3) := by decide +kernel
theorem dJ6_bitCount_0f7a4_21 : decode cJ6_bitCount_0f7a4 21 = .ok (.iand, 1) := by decide +kernel
theorem dJ6_bitCount_0f7a4_22 : decode cJ6_bitCount_0f7a4 22 = .ok (.iadd, 1) := by decide +kernel
theorem dJ6_bitCount_0f7a4_23 : decode cJ6_bitCount_0f7a4 23 = .ok (.istore_n 0, 1) := by decide +kernel
theorem dJ6_bitCount_0f7a4_24 : decode cJ6_bitCount_0f7a4 24 = .ok (.iload_n 0, 1) := by decide +kernel
theorem dJ6_bitCount_0f7a4_25 : decode cJ6_bitCount_0f7a4 25 = .ok (.iload_n 0, 1) := by decide +kernel
theorem dJ6_bitCount_0f7a4_26 : decode cJ6_bitCount_0f7a4 26 = .ok (.iconst 4, 1) := by decide +kernel
theorem dJ6_bitCount_0f7a4_27 : decode cJ6_bitCount_0f7a4 27 = .ok (.iushr, 1) := by decide +kernel
theorem dJ6_bitCount_0f7a4_28 : decode cJ6_bitCount_0f7a4 28 = .ok (.iadd, 1) := by decide +kernel
theorem dJ6_bitCount_0f7a4_29 : decode cJ6_bitCount_0f7a4 29 = .ok (.ldc_w 267, 3) := by decide +kernel
theorem dJ6_bitCount_0f7a4_32 : decode cJ6_bitCount_0f7a4 32 = .ok (.iand, 1) := by decide +kernel
theorem dJ6_bitCount_0f7a4_33 : decode cJ6_bitCount_0f7a4 33 = .ok (.istore_n 0, 1) := by decide +kernel
theorem dJ6_bitCount_0f7a4_34 : decode cJ6_bitCount_0f7a4 34 = .ok (.iload_n 0, 1) := by decide +kernel
theorem dJ6_bitCount_0f7a4_35 : decode cJ6_bitCount_0f7a4 35 = .ok (.iload_n 0, 1) := by decide +kernel
theorem dJ6_bitCount_0f7a4_36 : decode cJ6_bitCount_0f7a4 36 = .ok (.bipush 8, 2) := by decide +kernel
theorem dJ6_bitCount_0f7a4_38 : decode cJ6_bitCount_0f7a4 38 = .ok (.iushr, 1) := by decide +kernel
theorem dJ6_bitCount_0f7a4_39 : decode cJ6_bitCount_0f7a4 39 = .ok (.iadd, 1) := by decide +kernel
theorem dJ6_bitCount_0f7a4_40 : decode cJ6_bitCount_0f7a4 40 = .ok (.istore_n 0, 1) := by decide +kernel
theorem dJ6_bitCount_0f7a4_41 : decode cJ6_bitCount_0f7a4 41 = .ok (.iload_n 0, 1) := by decide +kernel
theorem dJ6_bitCount_0f7a4_42 : decode cJ6_bitCount_0f7a4 42 = .ok (.iload_n 0, 1) := by decide +kernel
theorem dJ6_bitCount_0f7a4_43 : decode cJ6_bitCount_0f7a4 43 = .ok (.bipush 16, 2) := by decide +kernel
theorem dJ6_bitCount_0f7a4_45 : decode cJ6_bitCount_0f7a4 45 = .ok (.iushr, 1) := by decide +kernel
theorem dJ6_bitCount_0f7a4_46 : decode cJ6_bitCount_0f7a4 46 = .ok (.iadd, 1) := by decide +kernel
theorem dJ6_bitCount_0f7a4_47 : decode cJ6_bitCount_0f7a4 47 = .ok (.istore_n 0, 1) := by decide +kernel
theorem dJ6_bitCount_0f7a4_48 : decode cJ6_bitCount_0f7a4 48 = .ok (.iload_n 0, 1) := by decide +kernel
theorem dJ6_bitCount_0f7a4_49 : decode cJ6_bitCount_0f7a4 49 = .ok (.bipush 63, 2) := by decide +kernel
theorem dJ6_bitCount_0f7a4_51 : decode cJ6_bitCount_0f7a4 51 = .ok (.iand, 1) := by decide +kernel
theorem dJ6_bitCount_0f7a4_52 : decode cJ6_bitCount_0f7a4 52 = .ok (.ireturn, 1) := by decide +kernel
theorem dX0_begin_0 : decode cX0_begin 0 = .ok (.aload_n 0, 1) := by decide +kernel
theorem dX0_begin_1 : decode cX0_begin 1 = .ok (.iload_n 1, 1) := by decide +kernel
theorem dX0_begin_2 : decode cX0_begin 2 = .ok (.putfield 15, 3) := by decide +kernel
theorem dX0_begin_5 : decode cX0_begin 5 = .ok (.aload_n 0, 1) := by decide +kernel
theorem dX0_begin_6 : decode cX0_begin 6 = .ok (.iload_n 2, 1) := by decide +kernel
theorem dX0_begin_7 : decode cX0_begin 7 = .ok (.putfield 19, 3) := by decide +kernel
theorem dX0_begin_10 : decode cX0_begin 10 = .ok (.aload_n 0, 1) := by decide +kernel
theorem dX0_begin_11 : decode cX0_begin 11 = .ok (.iconst 0, 1) := by decide +kernel
theorem dX0_begin_12 : decode cX0_begin 12 = .ok (.putfield 22, 3) := by decide +kernel
theorem dX0_begin_15 : decode cX0_begin 15 = .ok (.aload_n 0, 1) := by decide +kernel
theorem dX0_begin_16 : decode cX0_begin 16 = .ok (.iload_n 3, 1) := by decide +kernel
theorem dX0_begin_17 : decode cX0_begin 17 = .ok (.putfield 25, 3) := by decide +kernel
theorem dX0_begin_20 : decode cX0_begin 20 = .ok (.aload_n 0, 1) := by decide +kernel
theorem dX0_begin_21 : decode cX0_begin 21 = .ok (.iconst 0, 1) := by decide +kernel
theorem dX0_begin_22 : decode cX0_begin 22 = .ok (.putfield 28, 3) := by decide +kernel
theorem dX0_begin_25 : decode cX0_begin 25 = .ok (.aload_n 0, 1) := by decide +kernel
theorem dX0_begin_26 : decode cX0_begin 26 = .ok (.iconst 0, 1) := by decide +kernel
theorem dX0_begin_27 : decode cX0_begin 27 = .ok (.putfield 31, 3) := by decide +kernel
theorem dX0_begin_30 : decode cX0_begin 30 = .ok (.aload_n 0, 1) := by decide +kernel
theorem dX0_begin_31 : decode cX0_begin 31 = .ok (.iconst 0, 1) := by decide +kernel
theorem dX0_begin_32 : decode cX0_begin 32 = .ok (.putfield 34, 3) := by decide +kernel
theorem dX0_begin_35 : decode cX0_begin 35 = .ok (.aload_n 0, 1) := by decide +kernel
theorem dX0_begin_36 : decode cX0_begin 36 = .ok (.iconst 0, 1) := by decide +kernel
theorem dX0_begin_37 : decode cX0_begin 37 = .ok (.putfield 37, 3) := by decide +kernel
theorem dX0_begin_40 : decode cX0_begin 40 = .ok (.return_, 1) := by decide +kernel
theorem dX0_copyName_0 : decode cX0_copyName 0 = .ok (.aload_n 0, 1) := by decide +kernel
theorem dX0_copyName_1 : decode cX0_copyName 1 = .ok (.aload_n 1, 1) := by decide +kernel
theorem dX0_copyName_2 : decode cX0_copyName 2 = .ok (.getfield 22, 3) := by decide +kernel
theorem dX0_copyName_5 : decode cX0_copyName 5 = .ok (.putfield 22, 3) := by decide +kernel
theorem dX0_copyName_8 : decode cX0_copyName 8 = .ok (.aload_n 1, 1) := by decide +kernel
theorem dX0_copyName_9 : decode cX0_copyName 9 = .ok (.getfield 9, 3) := by decide +kernel
theorem dX0_copyName_12 : decode cX0_copyName 12 = .ok (.iconst 0, 1) := by decide +kernel
theorem dX0_copyName_13 : decode cX0_copyName 13 = .ok (.aload_n 0, 1) := by decide +kernel
theorem dX0_copyName_14 : decode cX0_copyName 14 = .ok (.getfield 9, 3) := by decide +kernel
theorem dX0_copyName_17 : decode cX0_copyName 17 = .ok (.iconst 0, 1) := by decide +kernel
theorem dX0_copyName_18 : decode cX0_copyName 18 = .ok (.bipush 6, 2) := by decide +kernel
theorem dX0_copyName_20 : decode cX0_copyName 20 = .ok (.invokestatic 45, 3) := by decide +kernel
theorem dX0_copyName_23 : decode cX0_copyName 23 = .ok (.return_, 1) := by decide +kernel
theorem dX0_become_0 : decode cX0_become 0 = .ok (.aload_n 0, 1) := by decide +kernel
theorem dX0_become_1 : decode cX0_become 1 = .ok (.aload_n 1, 1) := by decide +kernel
theorem dX0_become_2 : decode cX0_become 2 = .ok (.getfield 15, 3) := by decide +kernel
theorem dX0_become_5 : decode cX0_become 5 = .ok (.putfield 15, 3) := by decide +kernel
theorem dX0_become_8 : decode cX0_become 8 = .ok (.aload_n 0, 1) := by decide +kernel
theorem dX0_become_9 : decode cX0_become 9 = .ok (.aload_n 1, 1) := by decide +kernel
theorem dX0_become_10 : decode cX0_become 10 = .ok (.getfield 19, 3) := by decide +kernel
theorem dX0_become_13 : decode cX0_become 13 = .ok (.putfield 19, 3) := by decide +kernel
theorem dX0_become_16 : decode cX0_become 16 = .ok (.aload_n 0, 1) := by decide +kernel
theorem dX0_become_17 : decode cX0_become 17 = .ok (.aload_n 1, 1) := by decide +kernel
theorem dX0_become_18 : decode cX0_become 18 = .ok (.invokevirtual 41, 3) := by decide +kernel
theorem dX0_become_21 : decode cX0_become 21 = .ok (.aload_n 0, 1) := by decide +kernel
theorem dX0_become_22 : decode cX0_become 22 = .ok (.aload_n 1, 1) := by decide +kernel
theorem dX0_become_23 : decode cX0_become 23 = .ok (.getfield 25, 3) := by decide +kernel
theorem dX0_become_26 : decode cX0_become 26 = .ok (.putfield 25, 3) := by decide +kernel
theorem dX0_become_29 : decode cX0_become 29 = .ok (.aload_n 0, 1) := by decide +kernel
theorem dX0_become_30 : decode cX0_become 30 = .ok (.aload_n 1, 1) := by decide +kernel
theorem dX0_become_31 : decode cX0_become 31 = .ok (.getfield 28, 3) := by decide +kernel
theorem dX0_become_34 : decode cX0_become 34 = .ok (.putfield 28, 3) := by decide +kernel
theorem dX0_become_37 : decode cX0_become 37 = .ok (.aload_n 0, 1) := by decide +kernel
theorem dX0_become_38 : decode cX0_become 38 = .ok (.aload_n 1, 1) := by decide +kernel
theorem dX0_become_39 : decode cX0_become 39 = .ok (.getfield 31, 3) := by decide +kernel
theorem dX0_become_42 : decode cX0_become 42 = .ok (.putfield 31, 3) := by decide +kernel
theorem dX0_become_45 : decode cX0_become 45 = .ok (.aload_n 0, 1) := by decide +kernel
theorem dX0_become_46 : decode cX0_become 46 = .ok (.aload_n 1, 1) := by decide +kernel
theorem dX0_become_47 : decode cX0_become 47 = .ok (.getfield 34, 3) := by decide +kernel
theorem dX0_become_50 : decode cX0_become 50 = .ok (.putfield 34, 3) := by decide +kernel
theorem dX0_become_53 : decode cX0_become 53 = .ok (.aload_n 0, 1) := by decide +kernel
theorem dX0_become_54 : decode cX0_become 54 = .ok (.aload_n 1, 1) := by decide +kernel
theorem dX0_become_55 : decode cX0_become 55 = .ok (.getfield 37, 3) := by decide +kernel
theorem dX0_become_58 : decode cX0_become 58 = .ok (.putfield 37, 3) := by decide +kernel
theorem dX0_become_61 : decode cX0_become 61 = .ok (.return_, 1) := by decide +kernel
theorem dX0_steps_0 : decode cX0_steps 0 = .ok (.aload_n 0, 1) := by decide +kernel
theorem dX0_steps_1 : decode cX0_steps 1 = .ok (.getfield 15, 3) := by decide +kernel
theorem dX0_steps_4 : decode cX0_steps 4 = .ok (.tableswitch 73 1 7 #[44, 46, 73, 73, 55, 62, 71], 44) := by decide +kernel
theorem dX0_steps_48 : decode cX0_steps 48 = .ok (.iconst 2, 1) := by decide +kernel
theorem dX0_steps_49 : decode cX0_steps 49 = .ok (.ireturn, 1) := by decide +kernel
theorem dX0_steps_50 : decode cX0_steps 50 = .ok (.aload_n 0, 1) := by decide +kernel
theorem dX0_steps_51 : decode cX0_steps 51 = .ok (.getfield 19, 3) := by decide +kernel
theorem dX0_steps_54 : decode cX0_steps 54 = .ok (.iconst 3, 1) := by decide +kernel
theorem dX0_steps_55 : decode cX0_steps 55 = .ok (.idiv, 1) := by decide +kernel
theorem dX0_steps_56 : decode cX0_steps 56 = .ok (.iconst 1, 1) := by decide +kernel
theorem dX0_steps_57 : decode cX0_steps 57 = .ok (.iadd, 1) := by decide +kernel
theorem dX0_steps_58 : decode cX0_steps 58 = .ok (.ireturn, 1) := by decide +kernel
theorem dX0_steps_59 : decode cX0_steps 59 = .ok (.aload_n 0, 1) := by decide +kernel
theorem dX0_steps_60 : decode cX0_steps 60 = .ok (.getfield 22, 3) := by decide +kernel
theorem dX0_steps_63 : decode cX0_steps 63 = .ok (.iconst 2, 1) := by decide +kernel
theorem dX0_steps_64 : decode cX0_steps 64 = .ok (.idiv, 1) := by decide +kernel
theorem dX0_steps_65 : decode cX0_steps 65 = .ok (.ireturn, 1) := by decide +kernel
theorem dX0_steps_66 : decode cX0_steps 66 = .ok (.aload_n 0, 1) := by decide +kernel
theorem dX0_steps_67 : decode cX0_steps 67 = .ok (.getfield 19, 3) := by decide +kernel
theorem dX0_steps_70 : decode cX0_steps 70 = .ok (.iconst 3, 1) := by decide +kernel
theorem dX0_steps_71 : decode cX0_steps 71 = .ok (.idiv, 1) := by decide +kernel
theorem dX0_steps_72 : decode cX0_steps 72 = .ok (.iconst 2, 1) := by decide +kernel
theorem dX0_steps_73 : decode cX0_steps 73 = .ok (.iadd, 1) := by decide +kernel
theorem dX0_steps_74 : decode cX0_steps 74 = .ok (.ireturn, 1) := by decide +kernel
theorem dX0_steps_75 : decode cX0_steps 75 = .ok (.iconst 2, 1) := by decide +kernel
theorem dX0_steps_76 : decode cX0_steps 76 = .ok (.ireturn, 1) := by decide +kernel
theorem dX0_steps_77 : decode cX0_steps 77 = .ok (.iconst 1, 1) := by decide +kernel
theorem dX0_steps_78 : decode cX0_steps 78 = .ok (.ireturn, 1) := by decide +kernel
theorem dX0_weight_0 : decode cX0_weight 0 = .ok (.aload_n 0, 1) := by decide +kernel
theorem dX0_weight_1 : decode cX0_weight 1 = .ok (.getfield 19, 3) := by decide +kernel
theorem dX0_weight_4 : decode cX0_weight 4 = .ok (.iconst 1, 1) := by decide +kernel
theorem dX0_weight_5 : decode cX0_weight 5 = .ok (.iadd, 1) := by decide +kernel
theorem dX0_weight_6 : decode cX0_weight 6 = .ok (.istore_n 1, 1) := by decide +kernel
theorem dX0_weight_7 : decode cX0_weight 7 = .ok (.aload_n 0, 1) := by decide +kernel
theorem dX0_weight_8 : decode cX0_weight 8 = .ok (.getfield 15, 3) := by decide +kernel
theorem dX0_weight_11 : decode cX0_weight 11 = .ok (.tableswitch 78 1 7 #[41, 45, 48, 52, 58, 64, 72], 41) := by decide +kernel
theorem dX0_weight_52 : decode cX0_weight 52 = .ok (.iconst 2, 1) := by decide +kernel
theorem dX0_weight_53 : decode cX0_weight 53 = .ok (.iload_n 1, 1) := by decide +kernel
theorem dX0_weight_54 : decode cX0_weight 54 = .ok (.imul, 1) := by decide +kernel
theorem dX0_weight_55 : decode cX0_weight 55 = .ok (.ireturn, 1) := by decide +kernel
theorem dX0_weight_56 : decode cX0_weight 56 = .ok (.bipush 9, 2) := by decide +kernel
theorem dX0_weight_58 : decode cX0_weight 58 = .ok (.ireturn, 1) := by decide +kernel
theorem dX0_weight_59 : decode cX0_weight 59 = .ok (.iload_n 1, 1) := by decide +kernel
theorem dX0_weight_60 : decode cX0_weight 60 = .ok (.iconst 2, 1) := by decide +kernel
theorem dX0_weight_61 : decode cX0_weight 61 = .ok (.idiv, 1) := by decide +kernel
theorem dX0_weight_62 : decode cX0_weight 62 = .ok (.ireturn, 1) := by decide +kernel
theorem dX0_weight_63 : decode cX0_weight 63 = .ok (.iconst 2, 1) := by decide +kernel
theorem dX0_weight_64 : decode cX0_weight 64 = .ok (.iload_n 1, 1) := by decide +kernel
theorem dX0_weight_65 : decode cX0_weight 65 = .ok (.imul, 1) := by decide +kernel
theorem dX0_weight_66 : decode cX0_weight 66 = .ok (.iconst 3, 1) := by decide +kernel
theorem dX0_weight_67 : decode cX0_weight 67 = .ok (.iadd, 1) := by decide +kernel
theorem dX0_weight_68 : decode cX0_weight 68 = .ok (.ireturn, 1) := by decide +kernel
theorem dX0_weight_69 : decode cX0_weight 69 = .ok (.iload_n 1, 1) := by decide +kernel
theorem dX0_weight_70 : decode cX0_weight 70 = .ok (.iconst 2, 1) := by decide +kernel
theorem dX0_weight_71 : decode cX0_weight 71 = .ok (.idiv, 1) := by decide +kernel
theorem dX0_weight_72 : decode cX0_weight 72 = .ok (.iconst 2, 1) := by decide +kernel
theorem dX0_weight_73 : decode cX0_weight 73 = .ok (.iadd, 1) := by decide +kernel
theorem dX0_weight_74 : decode cX0_weight 74 = .ok (.ireturn, 1) := by decide +kernel
theorem dX0_weight_75 : decode cX0_weight 75 = .ok (.bipush 9, 2) := by decide +kernel
theorem dX0_weight_77 : decode cX0_weight 77 = .ok (.aload_n 0, 1) := by decide +kernel
theorem dX0_weight_78 : decode cX0_weight 78 = .ok (.getfield 19, 3) := by decide +kernel
theorem dX0_weight_81 : decode cX0_weight 81 = .ok (.isub, 1) := by decide +kernel
theorem dX0_weight_82 : decode cX0_weight 82 = .ok (.ireturn, 1) := by decide +kernel
theorem dX0_weight_83 : decode cX0_weight 83 = .ok (.iconst 2, 1) := by decide +kernel
theorem dX0_weight_84 : decode cX0_weight 84 = .ok (.iload_n 1, 1) := by decide +kernel
theorem dX0_weight_85 : decode cX0_weight 85 = .ok (.imul, 1) := by decide +kernel
theorem dX0_weight_86 : decode cX0_weight 86 = .ok (.iconst 3, 1) := by decide +kernel
theorem dX0_weight_87 : decode cX0_weight 87 = .ok (.iadd, 1) := by decide +kernel
theorem dX0_weight_88 : decode cX0_weight 88 = .ok (.ireturn, 1) := by decide +kernel
theorem dX0_weight_89 : decode cX0_weight 89 = .ok (.iload_n 1, 1) := by decide +kernel
theorem dX0_weight_90 : decode cX0_weight 90 = .ok (.ireturn, 1) := by decide +kernel
theorem dX0_isVowel_0 : decode cX0_isVowel 0 = .ok (.bipush 97, 2) := by decide +kernel
theorem dX0_isVowel_2 : decode cX0_isVowel 2 = .ok (.iload_n 0, 1) := by decide +kernel
theorem dX0_isVowel_3 : decode cX0_isVowel 3 = .ok (.iadd, 1) := by decide +kernel
theorem dX0_isVowel_4 : decode cX0_isVowel 4 = .ok (.lookupswitch 54 #[(97, 52), (101, 52), (105, 52), (111, 52), (117, 52)], 52) := by decide +kernel
theorem dX0_isVowel_56 : decode cX0_isVowel 56 = .ok (.iconst 1, 1) := by decide +kernel
theorem dX0_isVowel_57 : decode cX0_isVowel 57 = .ok (.ireturn, 1) := by decide +kernel
theorem dX0_isVowel_58 : decode cX0_isVowel 58 = .ok (.iconst 0, 1) := by decide +kernel
theorem dX0_isVowel_59 : decode cX0_isVowel 59 = .ok (.ireturn, 1) := by decide +kernel
theorem dX0_veers_0 : decode cX0_veers 0 = .ok (.iload_n 1, 1) := by decide +kernel
theorem dX0_veers_1 : decode cX0_veers 1 = .ok (.iconst 4, 1) := by decide +kernel
theorem dX0_veers_2 : decode cX0_veers 2 = .ok (.irem, 1) := by decide +kernel
theorem dX0_veers_3 : decode cX0_veers 3 = .ok (.ifCond .ne 7, 3) := by decide +kernel
theorem dX0_veers_6 : decode cX0_veers 6 = .ok (.iconst 1, 1) := by decide +kernel
theorem dX0_veers_7 : decode cX0_veers 7 = .ok (.goto 4, 3) := by decide +kernel
theorem dX0_veers_10 : decode cX0_veers 10 = .ok (.iconst 0, 1) := by decide +kernel
theorem dX0_veers_11 : decode cX0_veers 11 = .ok (.istore_n 2, 1) := by decide +kernel
theorem dX0_veers_12 : decode cX0_veers 12 = .ok (.iload_n 1, 1) := by decide +kernel
theorem dX0_veers_13 : decode cX0_veers 13 = .ok (.aload_n 0, 1) := by decide +kernel
theorem dX0_veers_14 : decode cX0_veers 14 = .ok (.getfield 19, 3) := by decide +kernel
theorem dX0_veers_17 : decode cX0_veers 17 = .ok (.iconst 2, 1) := by decide +kernel
theorem dX0_veers_18 : decode cX0_veers 18 = .ok (.iadd, 1) := by decide +kernel
theorem dX0_veers_19 : decode cX0_veers 19 = .ok (.irem, 1) := by decide +kernel
theorem dX0_veers_20 : decode cX0_veers 20 = .ok (.ifCond .ne 7, 3) := by decide +kernel
theorem dX0_veers_23 : decode cX0_veers 23 = .ok (.iconst 3, 1) := by decide +kernel
theorem dX0_veers_24 : decode cX0_veers 24 = .ok (.goto 4, 3) := by decide +kernel
theorem dX0_veers_27 : decode cX0_veers 27 = .ok (.iconst 0, 1) := by decide +kernel
theorem dX0_veers_28 : decode cX0_veers 28 = .ok (.istore_n 3, 1) := by decide +kernel
theorem dX0_veers_29 : decode cX0_veers 29 = .ok (.aload_n 0, 1) := by decide +kernel
theorem dX0_veers_30 : decode cX0_veers 30 = .ok (.getfield 34, 3) := by decide +kernel
theorem dX0_veers_33 : decode cX0_veers 33 = .ok (.ifCond .ne 7, 3) := by decide +kernel
theorem dX0_veers_36 : decode cX0_veers 36 = .ok (.iconst 2, 1) := by decide +kernel
theorem dX0_veers_37 : decode cX0_veers 37 = .ok (.goto 4, 3) := by decide +kernel
theorem dX0_veers_40 : decode cX0_veers 40 = .ok (.iload_n 2, 1) := by decide +kernel
theorem dX0_veers_41 : decode cX0_veers 41 = .ok (.istore 4, 2) := by decide +kernel
theorem dX0_veers_43 : decode cX0_veers 43 = .ok (.aload_n 0, 1) := by decide +kernel
theorem dX0_veers_44 : decode cX0_veers 44 = .ok (.getfield 15, 3) := by decide +kernel
theorem dX0_veers_47 : decode cX0_veers 47 = .ok (.tableswitch 90 1 7 #[41, 90, 43, 45, 48, 52, 64], 41) := by decide +kernel
theorem dX0_veers_88 : decode cX0_veers 88 = .ok (.iload_n 2, 1) := by decide +kernel
theorem dX0_veers_89 : decode cX0_veers 89 = .ok (.ireturn, 1) := by decide +kernel
theorem dX0_veers_90 : decode cX0_veers 90 = .ok (.iload_n 3, 1) := by decide +kernel
theorem dX0_veers_91 : decode cX0_veers 91 = .ok (.ireturn, 1) := by decide +kernel
theorem dX0_veers_92 : decode cX0_veers 92 = .ok (.iload 4, 2) := by decide +kernel
theorem dX0_veers_94 : decode cX0_veers 94 = .ok (.ireturn, 1) := by decide +kernel
theorem dX0_veers_95 : decode cX0_veers 95 = .ok (.iload_n 3, 1) := by decide +kernel
theorem dX0_veers_96 : decode cX0_veers 96 = .ok (.iconst 1, 1) := by decide +kernel
theorem dX0_veers_97 : decode cX0_veers 97 = .ok (.iadd, 1) := by decide +kernel
theorem dX0_veers_98 : decode cX0_veers 98 = .ok (.ireturn, 1) := by decide +kernel
theorem dX0_veers_99 : decode cX0_veers 99 = .ok (.iload_n 1, 1) := by decide +kernel
theorem dX0_veers_100 : decode cX0_veers 100 = .ok (.iconst 2, 1) := by decide +kernel
theorem dX0_veers_101 : decode cX0_veers 101 = .ok (.irem, 1) := by decide +kernel
theorem dX0_veers_102 : decode cX0_veers 102 = .ok (.ifCond .ne 7, 3) := by decide +kernel
theorem dX0_veers_105 : decode cX0_veers 105 = .ok (.iconst 0, 1) := by decide +kernel
theorem dX0_veers_106 : decode cX0_veers 106 = .ok (.goto 4, 3) := by decide +kernel
theorem dX0_veers_109 : decode cX0_veers 109 = .ok (.iconst 1, 1) := by decide +kernel
theorem dX0_veers_110 : decode cX0_veers 110 = .ok (.ireturn, 1) := by decide +kernel
theorem dX0_veers_111 : decode cX0_veers 111 = .ok (.aload_n 0, 1) := by decide +kernel
theorem dX0_veers_112 : decode cX0_veers 112 = .ok (.getfield 22, 3) := by decide +kernel
theorem dX0_veers_115 : decode cX0_veers 115 = .ok (.ifCond .le 19, 3) := by decide +kernel
theorem dX0_veers_118 : decode cX0_veers 118 = .ok (.aload_n 0, 1) := by decide +kernel
theorem dX0_veers_119 : decode cX0_veers 119 = .ok (.getfield 9, 3) := by decide +kernel
theorem dX0_veers_122 : decode cX0_veers 122 = .ok (.iconst 0, 1) := by decide +kernel
theorem dX0_veers_123 : decode cX0_veers 123 = .ok (.iaload, 1) := by decide +kernel
theorem dX0_veers_124 : decode cX0_veers 124 = .ok (.invokestatic 51, 3) := by decide +kernel
theorem dX0_veers_127 : decode cX0_veers 127 = .ok (.ifCond .eq 7, 3) := by decide +kernel
theorem dX0_veers_130 : decode cX0_veers 130 = .ok (.iconst 3, 1) := by decide +kernel
theorem dX0_veers_131 : decode cX0_veers 131 = .ok (.goto 5, 3) := by decide +kernel
theorem dX0_veers_134 : decode cX0_veers 134 = .ok (.iload 4, 2) := by decide +kernel
theorem dX0_veers_136 : decode cX0_veers 136 = .ok (.ireturn, 1) := by decide +kernel
theorem dX0_veers_137 : decode cX0_veers 137 = .ok (.iconst 0, 1) := by decide +kernel
theorem dX0_veers_138 : decode cX0_veers 138 = .ok (.ireturn, 1) := by decide +kernel
theorem dX0_enough_0 : decode cX0_enough 0 = .ok (.aload_n 0, 1) := by decide +kernel
theorem dX0_enough_1 : decode cX0_enough 1 = .ok (.getfield 15, 3) := by decide +kernel
theorem dX0_enough_4 : decode cX0_enough 4 = .ok (.tableswitch 73 0 7 #[48, 51, 54, 73, 57, 73, 60, 63], 48) := by decide +kernel
theorem dX0_enough_52 : decode cX0_enough 52 = .ok (.bipush 20, 2) := by decide +kernel
theorem dX0_enough_54 : decode cX0_enough 54 = .ok (.ireturn, 1) := by decide +kernel
theorem dX0_enough_55 : decode cX0_enough 55 = .ok (.bipush 40, 2) := by decide +kernel
theorem dX0_enough_57 : decode cX0_enough 57 = .ok (.ireturn, 1) := by decide +kernel
theorem dX0_enough_58 : decode cX0_enough 58 = .ok (.bipush 99, 2) := by decide +kernel
theorem dX0_enough_60 : decode cX0_enough 60 = .ok (.ireturn, 1) := by decide +kernel
theorem dX0_enough_61 : decode cX0_enough 61 = .ok (.bipush 35, 2) := by decide +kernel
theorem dX0_enough_63 : decode cX0_enough 63 = .ok (.ireturn, 1) := by decide +kernel
theorem dX0_enough_64 : decode cX0_enough 64 = .ok (.bipush 49, 2) := by decide +kernel
theorem dX0_enough_66 : decode cX0_enough 66 = .ok (.ireturn, 1) := by decide +kernel
theorem dX0_enough_67 : decode cX0_enough 67 = .ok (.bipush 35, 2) := by decide +kernel
theorem dX0_enough_69 : decode cX0_enough 69 = .ok (.aload_n 0, 1) := by decide +kernel
theorem dX0_enough_70 : decode cX0_enough 70 = .ok (.getfield 19, 3) := by decide +kernel
theorem dX0_enough_73 : decode cX0_enough 73 = .ok (.iconst 2, 1) := by decide +kernel
theorem dX0_enough_74 : decode cX0_enough 74 = .ok (.idiv, 1) := by decide +kernel
theorem dX0_enough_75 : decode cX0_enough 75 = .ok (.isub, 1) := by decide +kernel
theorem dX0_enough_76 : decode cX0_enough 76 = .ok (.ireturn, 1) := by decide +kernel
theorem dX0_enough_77 : decode cX0_enough 77 = .ok (.aload_n 0, 1) := by decide +kernel
theorem dX0_enough_78 : decode cX0_enough 78 = .ok (.getfield 19, 3) := by decide +kernel
theorem dX0_enough_81 : decode cX0_enough 81 = .ok (.iconst 5, 1) := by decide +kernel
theorem dX0_enough_82 : decode cX0_enough 82 = .ok (.iadd, 1) := by decide +kernel
theorem dX0_enough_83 : decode cX0_enough 83 = .ok (.ireturn, 1) := by decide +kernel
theorem dX0_goes_0 : decode cX0_goes 0 = .ok (.aload_n 0, 1) := by decide +kernel
theorem dX0_goes_1 : decode cX0_goes 1 = .ok (.getfield 37, 3) := by decide +kernel
theorem dX0_goes_4 : decode cX0_goes 4 = .ok (.ifCond .ne 15, 3) := by decide +kernel
theorem dX0_goes_7 : decode cX0_goes 7 = .ok (.aload_n 0, 1) := by decide +kernel
theorem dX0_goes_8 : decode cX0_goes 8 = .ok (.getfield 31, 3) := by decide +kernel
theorem dX0_goes_11 : decode cX0_goes 11 = .ok (.iconst 4, 1) := by decide +kernel
theorem dX0_goes_12 : decode cX0_goes 12 = .ok (.if_icmp .eq 7, 3) := by decide +kernel
theorem dX0_goes_15 : decode cX0_goes 15 = .ok (.iconst 1, 1) := by decide +kernel
theorem dX0_goes_16 : decode cX0_goes 16 = .ok (.goto 4, 3) := by decide +kernel
theorem dX0_goes_19 : decode cX0_goes 19 = .ok (.iconst 0, 1) := by decide +kernel
theorem dX0_goes_20 : decode cX0_goes 20 = .ok (.ireturn, 1) := by decide +kernel
theorem dX0_quartersByWord_0 : decode cX0_quartersByWord 0 = .ok (.aload_n 0, 1) := by decide +kernel
theorem dX0_quartersByWord_1 : decode cX0_quartersByWord 1 = .ok (.getfield 31, 3) := by decide +kernel
theorem dX0_quartersByWord_4 : decode cX0_quartersByWord 4 = .ok (.tableswitch 34 1 3 #[28, 30, 32], 28) := by decide +kernel
theorem dX0_quartersByWord_32 : decode cX0_quartersByWord 32 = .ok (.iconst 3, 1) := by decide +kernel
theorem dX0_quartersByWord_33 : decode cX0_quartersByWord 33 = .ok (.ireturn, 1) := by decide +kernel
theorem dX0_quartersByWord_34 : decode cX0_quartersByWord 34 = .ok (.iconst 1, 1) := by decide +kernel
theorem dX0_quartersByWord_35 : decode cX0_quartersByWord 35 = .ok (.ireturn, 1) := by decide +kernel
theorem dX0_quartersByWord_36 : decode cX0_quartersByWord 36 = .ok (.iconst 2, 1) := by decide +kernel
theorem dX0_quartersByWord_37 : decode cX0_quartersByWord 37 = .ok (.ireturn, 1) := by decide +kernel
theorem dX0_quartersByWord_38 : decode cX0_quartersByWord 38 = .ok (.iconst 0, 1) := by decide +kernel
theorem dX0_quartersByWord_39 : decode cX0_quartersByWord 39 = .ok (.ireturn, 1) := by decide +kernel
theorem dX0_turn_0 : decode cX0_turn 0 = .ok (.aload_n 0, 1) := by decide +kernel
theorem dX0_turn_1 : decode cX0_turn 1 = .ok (.aload_n 0, 1) := by decide +kernel
theorem dX0_turn_2 : decode cX0_turn 2 = .ok (.getfield 28, 3) := by decide +kernel
theorem dX0_turn_5 : decode cX0_turn 5 = .ok (.iload_n 1, 1) := by decide +kernel
theorem dX0_turn_6 : decode cX0_turn 6 = .ok (.iadd, 1) := by decide +kernel
theorem dX0_turn_7 : decode cX0_turn 7 = .ok (.iconst 4, 1) := by decide +kernel
theorem dX0_turn_8 : decode cX0_turn 8 = .ok (.irem, 1) := by decide +kernel
theorem dX0_turn_9 : decode cX0_turn 9 = .ok (.putfield 28, 3) := by decide +kernel
theorem dX0_turn_12 : decode cX0_turn 12 = .ok (.return_, 1) := by decide +kernel
theorem dX0_gain_0 : decode cX0_gain 0 = .ok (.aload_n 0, 1) := by decide +kernel
theorem dX0_gain_1 : decode cX0_gain 1 = .ok (.aload_n 0, 1) := by decide +kernel
theorem dX0_gain_2 : decode cX0_gain 2 = .ok (.getfield 34, 3) := by decide +kernel
theorem dX0_gain_5 : decode cX0_gain 5 = .ok (.iload_n 1, 1) := by decide +kernel
theorem dX0_gain_6 : decode cX0_gain 6 = .ok (.iadd, 1) := by decide +kernel
theorem dX0_gain_7 : decode cX0_gain 7 = .ok (.bipush 99, 2) := by decide +kernel
theorem dX0_gain_9 : decode cX0_gain 9 = .ok (.invokestatic 55, 3) := by decide +kernel
theorem dX0_gain_12 : decode cX0_gain 12 = .ok (.putfield 34, 3) := by decide +kernel
theorem dX0_gain_15 : decode cX0_gain 15 = .ok (.return_, 1) := by decide +kernel
theorem dX0_hasFullName_0 : decode cX0_hasFullName 0 = .ok (.aload_n 0, 1) := by decide +kernel
theorem dX0_hasFullName_1 : decode cX0_hasFullName 1 = .ok (.getfield 22, 3) := by decide +kernel
theorem dX0_hasFullName_4 : decode cX0_hasFullName 4 = .ok (.bipush 6, 2) := by decide +kernel
theorem dX0_hasFullName_6 : decode cX0_hasFullName 6 = .ok (.if_icmp .lt 7, 3) := by decide +kernel
theorem dX0_hasFullName_9 : decode cX0_hasFullName 9 = .ok (.iconst 1, 1) := by decide +kernel
theorem dX0_hasFullName_10 : decode cX0_hasFullName 10 = .ok (.goto 4, 3) := by decide +kernel
theorem dX0_hasFullName_13 : decode cX0_hasFullName 13 = .ok (.iconst 0, 1) := by decide +kernel
theorem dX0_hasFullName_14 : decode cX0_hasFullName 14 = .ok (.ireturn, 1) := by decide +kernel
theorem dX0_lengthenName_0 : decode cX0_lengthenName 0 = .ok (.aload_n 0, 1) := by decide +kernel
theorem dX0_lengthenName_1 : decode cX0_lengthenName 1 = .ok (.invokevirtual 61, 3) := by decide +kernel
theorem dX0_lengthenName_4 : decode cX0_lengthenName 4 = .ok (.ifCond .ne 23, 3) := by decide +kernel
theorem dX0_lengthenName_7 : decode cX0_lengthenName 7 = .ok (.aload_n 0, 1) := by decide +kernel
theorem dX0_lengthenName_8 : decode cX0_lengthenName 8 = .ok (.getfield 9, 3) := by decide +kernel
theorem dX0_lengthenName_11 : decode cX0_lengthenName 11 = .ok (.aload_n 0, 1) := by decide +kernel
theorem dX0_lengthenName_12 : decode cX0_lengthenName 12 = .ok (.getfield 22, 3) := by decide +kernel
theorem dX0_lengthenName_15 : decode cX0_lengthenName 15 = .ok (.iload_n 1, 1) := by decide +kernel
theorem dX0_lengthenName_16 : decode cX0_lengthenName 16 = .ok (.iastore, 1) := by decide +kernel
theorem dX0_lengthenName_17 : decode cX0_lengthenName 17 = .ok (.aload_n 0, 1) := by decide +kernel
theorem dX0_lengthenName_18 : decode cX0_lengthenName 18 = .ok (.dup, 1) := by decide +kernel
theorem dX0_lengthenName_19 : decode cX0_lengthenName 19 = .ok (.getfield 22, 3) := by decide +kernel
theorem dX0_lengthenName_22 : decode cX0_lengthenName 22 = .ok (.iconst 1, 1) := by decide +kernel
theorem dX0_lengthenName_23 : decode cX0_lengthenName 23 = .ok (.iadd, 1) := by decide +kernel
theorem dX0_lengthenName_24 : decode cX0_lengthenName 24 = .ok (.putfield 22, 3) := by decide +kernel
theorem dX0_lengthenName_27 : decode cX0_lengthenName 27 = .ok (.return_, 1) := by decide +kernel
theorem dX0_hasLetter_0 : decode cX0_hasLetter 0 = .ok (.iconst 0, 1) := by decide +kernel
theorem dX0_hasLetter_1 : decode cX0_hasLetter 1 = .ok (.istore_n 2, 1) := by decide +kernel
theorem dX0_hasLetter_2 : decode cX0_hasLetter 2 = .ok (.iload_n 2, 1) := by decide +kernel
theorem dX0_hasLetter_3 : decode cX0_hasLetter 3 = .ok (.aload_n 0, 1) := by decide +kernel
theorem dX0_hasLetter_4 : decode cX0_hasLetter 4 = .ok (.getfield 22, 3) := by decide +kernel
theorem dX0_hasLetter_7 : decode cX0_hasLetter 7 = .ok (.if_icmp .ge 21, 3) := by decide +kernel
theorem dX0_hasLetter_10 : decode cX0_hasLetter 10 = .ok (.aload_n 0, 1) := by decide +kernel
theorem dX0_hasLetter_11 : decode cX0_hasLetter 11 = .ok (.getfield 9, 3) := by decide +kernel
theorem dX0_hasLetter_14 : decode cX0_hasLetter 14 = .ok (.iload_n 2, 1) := by decide +kernel
theorem dX0_hasLetter_15 : decode cX0_hasLetter 15 = .ok (.iaload, 1) := by decide +kernel
theorem dX0_hasLetter_16 : decode cX0_hasLetter 16 = .ok (.iload_n 1, 1) := by decide +kernel
theorem dX0_hasLetter_17 : decode cX0_hasLetter 17 = .ok (.if_icmp .ne 5, 3) := by decide +kernel
theorem dX0_hasLetter_20 : decode cX0_hasLetter 20 = .ok (.iconst 1, 1) := by decide +kernel
theorem dX0_hasLetter_21 : decode cX0_hasLetter 21 = .ok (.ireturn, 1) := by decide +kernel
theorem dX0_hasLetter_22 : decode cX0_hasLetter 22 = .ok (.iinc 2 1, 3) := by decide +kernel
theorem dX0_hasLetter_25 : decode cX0_hasLetter 25 = .ok (.goto (-23), 3) := by decide +kernel
theorem dX0_hasLetter_28 : decode cX0_hasLetter 28 = .ok (.iconst 0, 1) := by decide +kernel
theorem dX0_hasLetter_29 : decode cX0_hasLetter 29 = .ok (.ireturn, 1) := by decide +kernel
theorem dX0_vowelsInName_0 : decode cX0_vowelsInName 0 = .ok (.iconst 0, 1) := by decide +kernel
theorem dX0_vowelsInName_1 : decode cX0_vowelsInName 1 = .ok (.istore_n 1, 1) := by decide +kernel
theorem dX0_vowelsInName_2 : decode cX0_vowelsInName 2 = .ok (.iconst 0, 1) := by decide +kernel
theorem dX0_vowelsInName_3 : decode cX0_vowelsInName 3 = .ok (.istore_n 2, 1) := by decide +kernel
theorem dX0_vowelsInName_4 : decode cX0_vowelsInName 4 = .ok (.iload_n 2, 1) := by decide +kernel
theorem dX0_vowelsInName_5 : decode cX0_vowelsInName 5 = .ok (.aload_n 0, 1) := by decide +kernel
theorem dX0_vowelsInName_6 : decode cX0_vowelsInName 6 = .ok (.getfield 22, 3) := by decide +kernel
theorem dX0_vowelsInName_9 : decode cX0_vowelsInName 9 = .ok (.if_icmp .ge 24, 3) := by decide +kernel
theorem dX0_vowelsInName_12 : decode cX0_vowelsInName 12 = .ok (.aload_n 0, 1) := by decide +kernel
theorem dX0_vowelsInName_13 : decode cX0_vowelsInName 13 = .ok (.getfield 9, 3) := by decide +kernel
theorem dX0_vowelsInName_16 : decode cX0_vowelsInName 16 = .ok (.iload_n 2, 1) := by decide +kernel
theorem dX0_vowelsInName_17 : decode cX0_vowelsInName 17 = .ok (.iaload, 1) := by decide +kernel
theorem dX0_vowelsInName_18 : decode cX0_vowelsInName 18 = .ok (.invokestatic 51, 3) := by decide +kernel
theorem dX0_vowelsInName_21 : decode cX0_vowelsInName 21 = .ok (.ifCond .eq 6, 3) := by decide +kernel
theorem dX0_vowelsInName_24 : decode cX0_vowelsInName 24 = .ok (.iinc 1 1, 3) := by decide +kernel
theorem dX0_vowelsInName_27 : decode cX0_vowelsInName 27 = .ok (.iinc 2 1, 3) := by decide +kernel
theorem dX0_vowelsInName_30 : decode cX0_vowelsInName 30 = .ok (.goto (-26), 3) := by decide +kernel
theorem dX0_vowelsInName_33 : decode cX0_vowelsInName 33 = .ok (.iload_n 1, 1) := by decide +kernel
theorem dX0_vowelsInName_34 : decode cX0_vowelsInName 34 = .ok (.ireturn, 1) := by decide +kernel
theorem dX0_nameAgainst_0 : decode cX0_nameAgainst 0 = .ok (.iconst 0, 1) := by decide +kernel
theorem dX0_nameAgainst_1 : decode cX0_nameAgainst 1 = .ok (.istore_n 2, 1) := by decide +kernel
theorem dX0_nameAgainst_2 : decode cX0_nameAgainst 2 = .ok (.iload_n 2, 1) := by decide +kernel
theorem dX0_nameAgainst_3 : decode cX0_nameAgainst 3 = .ok (.aload_n 0, 1) := by decide +kernel
theorem dX0_nameAgainst_4 : decode cX0_nameAgainst 4 = .ok (.getfield 22, 3) := by decide +kernel
theorem dX0_nameAgainst_7 : decode cX0_nameAgainst 7 = .ok (.if_icmp .ge 46, 3) := by decide +kernel
theorem dX0_nameAgainst_10 : decode cX0_nameAgainst 10 = .ok (.iload_n 2, 1) := by decide +kernel
theorem dX0_nameAgainst_11 : decode cX0_nameAgainst 11 = .ok (.aload_n 1, 1) := by decide +kernel
theorem dX0_nameAgainst_12 : decode cX0_nameAgainst 12 = .ok (.getfield 22, 3) := by decide +kernel
theorem dX0_nameAgainst_15 : decode cX0_nameAgainst 15 = .ok (.if_icmp .ge 38, 3) := by decide +kernel
theorem dX0_nameAgainst_18 : decode cX0_nameAgainst 18 = .ok (.aload_n 0, 1) := by decide +kernel
theorem dX0_nameAgainst_19 : decode cX0_nameAgainst 19 = .ok (.getfield 9, 3) := by decide +kernel
theorem dX0_nameAgainst_22 : decode cX0_nameAgainst 22 = .ok (.iload_n 2, 1) := by decide +kernel
theorem dX0_nameAgainst_23 : decode cX0_nameAgainst 23 = .ok (.iaload, 1) := by decide +kernel
theorem dX0_nameAgainst_24 : decode cX0_nameAgainst 24 = .ok (.aload_n 1, 1) := by decide +kernel
theorem dX0_nameAgainst_25 : decode cX0_nameAgainst 25 = .ok (.getfield 9, 3) := by decide +kernel
theorem dX0_nameAgainst_28 : decode cX0_nameAgainst 28 = .ok (.iload_n 2, 1) := by decide +kernel
theorem dX0_nameAgainst_29 : decode cX0_nameAgainst 29 = .ok (.iaload, 1) := by decide +kernel
theorem dX0_nameAgainst_30 : decode cX0_nameAgainst 30 = .ok (.if_icmp .eq 17, 3) := by decide +kernel
theorem dX0_nameAgainst_33 : decode cX0_nameAgainst 33 = .ok (.aload_n 0, 1) := by decide +kernel
theorem dX0_nameAgainst_34 : decode cX0_nameAgainst 34 = .ok (.getfield 9, 3) := by decide +kernel
theorem dX0_nameAgainst_37 : decode cX0_nameAgainst 37 = .ok (.iload_n 2, 1) := by decide +kernel
theorem dX0_nameAgainst_38 : decode cX0_nameAgainst 38 = .ok (.iaload, 1) := by decide +kernel
theorem dX0_nameAgainst_39 : decode cX0_nameAgainst 39 = .ok (.aload_n 1, 1) := by decide +kernel
theorem dX0_nameAgainst_40 : decode cX0_nameAgainst 40 = .ok (.getfield 9, 3) := by decide +kernel
theorem dX0_nameAgainst_43 : decode cX0_nameAgainst 43 = .ok (.iload_n 2, 1) := by decide +kernel
theorem dX0_nameAgainst_44 : decode cX0_nameAgainst 44 = .ok (.iaload, 1) := by decide +kernel
theorem dX0_nameAgainst_45 : decode cX0_nameAgainst 45 = .ok (.isub, 1) := by decide +kernel
theorem dX0_nameAgainst_46 : decode cX0_nameAgainst 46 = .ok (.ireturn, 1) := by decide +kernel
theorem dX0_nameAgainst_47 : decode cX0_nameAgainst 47 = .ok (.iinc 2 1, 3) := by decide +kernel
theorem dX0_nameAgainst_50 : decode cX0_nameAgainst 50 = .ok (.goto (-48), 3) := by decide +kernel
theorem dX0_nameAgainst_53 : decode cX0_nameAgainst 53 = .ok (.aload_n 0, 1) := by decide +kernel
theorem dX0_nameAgainst_54 : decode cX0_nameAgainst 54 = .ok (.getfield 22, 3) := by decide +kernel
theorem dX0_nameAgainst_57 : decode cX0_nameAgainst 57 = .ok (.aload_n 1, 1) := by decide +kernel
theorem dX0_nameAgainst_58 : decode cX0_nameAgainst 58 = .ok (.getfield 22, 3) := by decide +kernel
theorem dX0_nameAgainst_61 : decode cX0_nameAgainst 61 = .ok (.isub, 1) := by decide +kernel
theorem dX0_nameAgainst_62 : decode cX0_nameAgainst 62 = .ok (.ireturn, 1) := by decide +kernel
theorem dX0_placesAlike_0 : decode cX0_placesAlike 0 = .ok (.iconst 0, 1) := by decide +kernel
theorem dX0_placesAlike_1 : decode cX0_placesAlike 1 = .ok (.istore_n 2, 1) := by decide +kernel
theorem dX0_placesAlike_2 : decode cX0_placesAlike 2 = .ok (.iconst 0, 1) := by decide +kernel
theorem dX0_placesAlike_3 : decode cX0_placesAlike 3 = .ok (.istore_n 3, 1) := by decide +kernel
theorem dX0_placesAlike_4 : decode cX0_placesAlike 4 = .ok (.iload_n 3, 1) := by decide +kernel
theorem dX0_placesAlike_5 : decode cX0_placesAlike 5 = .ok (.aload_n 0, 1) := by decide +kernel
theorem dX0_placesAlike_6 : decode cX0_placesAlike 6 = .ok (.getfield 22, 3) := by decide +kernel
theorem dX0_placesAlike_9 : decode cX0_placesAlike 9 = .ok (.if_icmp .ge 35, 3) := by decide +kernel
theorem dX0_placesAlike_12 : decode cX0_placesAlike 12 = .ok (.iload_n 3, 1) := by decide +kernel
theorem dX0_placesAlike_13 : decode cX0_placesAlike 13 = .ok (.aload_n 1, 1) := by decide +kernel
theorem dX0_placesAlike_14 : decode cX0_placesAlike 14 = .ok (.getfield 22, 3) := by decide +kernel
theorem dX0_placesAlike_17 : decode cX0_placesAlike 17 = .ok (.if_icmp .ge 27, 3) := by decide +kernel
theorem dX0_placesAlike_20 : decode cX0_placesAlike 20 = .ok (.aload_n 0, 1) := by decide +kernel
theorem dX0_placesAlike_21 : decode cX0_placesAlike 21 = .ok (.getfield 9, 3) := by decide +kernel
theorem dX0_placesAlike_24 : decode cX0_placesAlike 24 = .ok (.iload_n 3, 1) := by decide +kernel
theorem dX0_placesAlike_25 : decode cX0_placesAlike 25 = .ok (.iaload, 1) := by decide +kernel
theorem dX0_placesAlike_26 : decode cX0_placesAlike 26 = .ok (.aload_n 1, 1) := by decide +kernel
theorem dX0_placesAlike_27 : decode cX0_placesAlike 27 = .ok (.getfield 9, 3) := by decide +kernel
theorem dX0_placesAlike_30 : decode cX0_placesAlike 30 = .ok (.iload_n 3, 1) := by decide +kernel
theorem dX0_placesAlike_31 : decode cX0_placesAlike 31 = .ok (.iaload, 1) := by decide +kernel
theorem dX0_placesAlike_32 : decode cX0_placesAlike 32 = .ok (.if_icmp .ne 6, 3) := by decide +kernel
theorem dX0_placesAlike_35 : decode cX0_placesAlike 35 = .ok (.iinc 2 1, 3) := by decide +kernel
theorem dX0_placesAlike_38 : decode cX0_placesAlike 38 = .ok (.iinc 3 1, 3) := by decide +kernel
theorem dX0_placesAlike_41 : decode cX0_placesAlike 41 = .ok (.goto (-37), 3) := by decide +kernel
theorem dX0_placesAlike_44 : decode cX0_placesAlike 44 = .ok (.iload_n 2, 1) := by decide +kernel
theorem dX0_placesAlike_45 : decode cX0_placesAlike 45 = .ok (.ireturn, 1) := by decide +kernel
theorem dX0_lettersAlikeAhead_0 : decode cX0_lettersAlikeAhead 0 = .ok (.iconst 0, 1) := by decide +kernel
theorem dX0_lettersAlikeAhead_1 : decode cX0_lettersAlikeAhead 1 = .ok (.istore_n 2, 1) := by decide +kernel
theorem dX0_lettersAlikeAhead_2 : decode cX0_lettersAlikeAhead 2 = .ok (.iload_n 2, 1) := by decide +kernel
theorem dX0_lettersAlikeAhead_3 : decode cX0_lettersAlikeAhead 3 = .ok (.aload_n 0, 1) := by decide +kernel
theorem dX0_lettersAlikeAhead_4 : decode cX0_lettersAlikeAhead 4 = .ok (.getfield 22, 3) := by decide +kernel
theorem dX0_lettersAlikeAhead_7 : decode cX0_lettersAlikeAhead 7 = .ok (.if_icmp .ge 32, 3) := by decide +kernel
theorem dX0_lettersAlikeAhead_10 : decode cX0_lettersAlikeAhead 10 = .ok (.iload_n 2, 1) := by decide +kernel
theorem dX0_lettersAlikeAhead_11 : decode cX0_lettersAlikeAhead 11 = .ok (.aload_n 1, 1) := by decide +kernel
theorem dX0_lettersAlikeAhead_12 : decode cX0_lettersAlikeAhead 12 = .ok (.getfield 22, 3) := by decide +kernel
theorem dX0_lettersAlikeAhead_15 : decode cX0_lettersAlikeAhead 15 = .ok (.if_icmp .ge 24, 3) := by decide +kernel
theorem dX0_lettersAlikeAhead_18 : decode cX0_lettersAlikeAhead 18 = .ok (.aload_n 0, 1) := by decide +kernel
theorem dX0_lettersAlikeAhead_19 : decode cX0_lettersAlikeAhead 19 = .ok (.getfield 9, 3) := by decide +kernel
theorem dX0_lettersAlikeAhead_22 : decode cX0_lettersAlikeAhead 22 = .ok (.iload_n 2, 1) := by decide +kernel
theorem dX0_lettersAlikeAhead_23 : decode cX0_lettersAlikeAhead 23 = .ok (.iaload, 1) := by decide +kernel
theorem dX0_lettersAlikeAhead_24 : decode cX0_lettersAlikeAhead 24 = .ok (.aload_n 1, 1) := by decide +kernel
theorem dX0_lettersAlikeAhead_25 : decode cX0_lettersAlikeAhead 25 = .ok (.getfield 9, 3) := by decide +kernel
theorem dX0_lettersAlikeAhead_28 : decode cX0_lettersAlikeAhead 28 = .ok (.iload_n 2, 1) := by decide +kernel
theorem dX0_lettersAlikeAhead_29 : decode cX0_lettersAlikeAhead 29 = .ok (.iaload, 1) := by decide +kernel
theorem dX0_lettersAlikeAhead_30 : decode cX0_lettersAlikeAhead 30 = .ok (.if_icmp .ne 9, 3) := by decide +kernel
theorem dX0_lettersAlikeAhead_33 : decode cX0_lettersAlikeAhead 33 = .ok (.iinc 2 1, 3) := by decide +kernel
theorem dX0_lettersAlikeAhead_36 : decode cX0_lettersAlikeAhead 36 = .ok (.goto (-34), 3) := by decide +kernel
theorem dX0_lettersAlikeAhead_39 : decode cX0_lettersAlikeAhead 39 = .ok (.iload_n 2, 1) := by decide +kernel
theorem dX0_lettersAlikeAhead_40 : decode cX0_lettersAlikeAhead 40 = .ok (.ireturn, 1) := by decide +kernel
theorem dX0_lettersShared_0 : decode cX0_lettersShared 0 = .ok (.iconst 0, 1) := by decide +kernel
theorem dX0_lettersShared_1 : decode cX0_lettersShared 1 = .ok (.istore_n 2, 1) := by decide +kernel
theorem dX0_lettersShared_2 : decode cX0_lettersShared 2 = .ok (.iconst 0, 1) := by decide +kernel
theorem dX0_lettersShared_3 : decode cX0_lettersShared 3 = .ok (.istore_n 3, 1) := by decide +kernel
theorem dX0_lettersShared_4 : decode cX0_lettersShared 4 = .ok (.iload_n 3, 1) := by decide +kernel
theorem dX0_lettersShared_5 : decode cX0_lettersShared 5 = .ok (.bipush 26, 2) := by decide +kernel
theorem dX0_lettersShared_7 : decode cX0_lettersShared 7 = .ok (.if_icmp .ge 28, 3) := by decide +kernel
theorem dX0_lettersShared_10 : decode cX0_lettersShared 10 = .ok (.aload_n 0, 1) := by decide +kernel
theorem dX0_lettersShared_11 : decode cX0_lettersShared 11 = .ok (.iload_n 3, 1) := by decide +kernel
theorem dX0_lettersShared_12 : decode cX0_lettersShared 12 = .ok (.invokevirtual 65, 3) := by decide +kernel
theorem dX0_lettersShared_15 : decode cX0_lettersShared 15 = .ok (.ifCond .eq 14, 3) := by decide +kernel
theorem dX0_lettersShared_18 : decode cX0_lettersShared 18 = .ok (.aload_n 1, 1) := by decide +kernel
theorem dX0_lettersShared_19 : decode cX0_lettersShared 19 = .ok (.iload_n 3, 1) := by decide +kernel
theorem dX0_lettersShared_20 : decode cX0_lettersShared 20 = .ok (.invokevirtual 65, 3) := by decide +kernel
theorem dX0_lettersShared_23 : decode cX0_lettersShared 23 = .ok (.ifCond .eq 6, 3) := by decide +kernel
theorem dX0_lettersShared_26 : decode cX0_lettersShared 26 = .ok (.iinc 2 1, 3) := by decide +kernel
theorem dX0_lettersShared_29 : decode cX0_lettersShared 29 = .ok (.iinc 3 1, 3) := by decide +kernel
theorem dX0_lettersShared_32 : decode cX0_lettersShared 32 = .ok (.goto (-28), 3) := by decide +kernel
theorem dX0_lettersShared_35 : decode cX0_lettersShared 35 = .ok (.iload_n 2, 1) := by decide +kernel
theorem dX0_lettersShared_36 : decode cX0_lettersShared 36 = .ok (.ireturn, 1) := by decide +kernel
theorem dX1_copy_0 : decode cX1_copy 0 = .ok (.aload_n 1, 1) := by decide +kernel
theorem dX1_copy_1 : decode cX1_copy 1 = .ok (.getfield 9, 3) := by decide +kernel
theorem dX1_copy_4 : decode cX1_copy 4 = .ok (.iconst 0, 1) := by decide +kernel
theorem dX1_copy_5 : decode cX1_copy 5 = .ok (.aload_n 0, 1) := by decide +kernel
theorem dX1_copy_6 : decode cX1_copy 6 = .ok (.getfield 9, 3) := by decide +kernel
theorem dX1_copy_9 : decode cX1_copy 9 = .ok (.iconst 0, 1) := by decide +kernel
theorem dX1_copy_10 : decode cX1_copy 10 = .ok (.bipush 48, 2) := by decide +kernel
theorem dX1_copy_12 : decode cX1_copy 12 = .ok (.invokestatic 28, 3) := by decide +kernel
theorem dX1_copy_15 : decode cX1_copy 15 = .ok (.aload_n 1, 1) := by decide +kernel
theorem dX1_copy_16 : decode cX1_copy 16 = .ok (.getfield 15, 3) := by decide +kernel
theorem dX1_copy_19 : decode cX1_copy 19 = .ok (.iconst 0, 1) := by decide +kernel
theorem dX1_copy_20 : decode cX1_copy 20 = .ok (.aload_n 0, 1) := by decide +kernel
theorem dX1_copy_21 : decode cX1_copy 21 = .ok (.getfield 15, 3) := by decide +kernel
theorem dX1_copy_24 : decode cX1_copy 24 = .ok (.iconst 0, 1) := by decide +kernel
theorem dX1_copy_25 : decode cX1_copy 25 = .ok (.bipush 48, 2) := by decide +kernel
theorem dX1_copy_27 : decode cX1_copy 27 = .ok (.invokestatic 28, 3) := by decide +kernel
theorem dX1_copy_30 : decode cX1_copy 30 = .ok (.aload_n 1, 1) := by decide +kernel
theorem dX1_copy_31 : decode cX1_copy 31 = .ok (.getfield 18, 3) := by decide +kernel
theorem dX1_copy_34 : decode cX1_copy 34 = .ok (.iconst 0, 1) := by decide +kernel
theorem dX1_copy_35 : decode cX1_copy 35 = .ok (.aload_n 0, 1) := by decide +kernel
theorem dX1_copy_36 : decode cX1_copy 36 = .ok (.getfield 18, 3) := by decide +kernel
theorem dX1_copy_39 : decode cX1_copy 39 = .ok (.iconst 0, 1) := by decide +kernel
theorem dX1_copy_40 : decode cX1_copy 40 = .ok (.bipush 48, 2) := by decide +kernel
theorem dX1_copy_42 : decode cX1_copy 42 = .ok (.invokestatic 28, 3) := by decide +kernel
theorem dX1_copy_45 : decode cX1_copy 45 = .ok (.iconst 0, 1) := by decide +kernel
theorem dX1_copy_46 : decode cX1_copy 46 = .ok (.istore_n 2, 1) := by decide +kernel
theorem dX1_copy_47 : decode cX1_copy 47 = .ok (.iload_n 2, 1) := by decide +kernel
theorem dX1_copy_48 : decode cX1_copy 48 = .ok (.aload_n 1, 1) := by decide +kernel
theorem dX1_copy_49 : decode cX1_copy 49 = .ok (.getfield 34, 3) := by decide +kernel
theorem dX1_copy_52 : decode cX1_copy 52 = .ok (.if_icmp .ge 24, 3) := by decide +kernel
theorem dX1_copy_55 : decode cX1_copy 55 = .ok (.aload_n 0, 1) := by decide +kernel
theorem dX1_copy_56 : decode cX1_copy 56 = .ok (.getfield 23, 3) := by decide +kernel
theorem dX1_copy_59 : decode cX1_copy 59 = .ok (.iload_n 2, 1) := by decide +kernel
theorem dX1_copy_60 : decode cX1_copy 60 = .ok (.aaload, 1) := by decide +kernel
theorem dX1_copy_61 : decode cX1_copy 61 = .ok (.aload_n 1, 1) := by decide +kernel
theorem dX1_copy_62 : decode cX1_copy 62 = .ok (.getfield 23, 3) := by decide +kernel
theorem dX1_copy_65 : decode cX1_copy 65 = .ok (.iload_n 2, 1) := by decide +kernel
theorem dX1_copy_66 : decode cX1_copy 66 = .ok (.aaload, 1) := by decide +kernel
theorem dX1_copy_67 : decode cX1_copy 67 = .ok (.invokevirtual 38, 3) := by decide +kernel
theorem dX1_copy_70 : decode cX1_copy 70 = .ok (.iinc 2 1, 3) := by decide +kernel
theorem dX1_copy_73 : decode cX1_copy 73 = .ok (.goto (-26), 3) := by decide +kernel
theorem dX1_copy_76 : decode cX1_copy 76 = .ok (.aload_n 0, 1) := by decide +kernel
theorem dX1_copy_77 : decode cX1_copy 77 = .ok (.aload_n 1, 1) := by decide +kernel
theorem dX1_copy_78 : decode cX1_copy 78 = .ok (.getfield 34, 3) := by decide +kernel
theorem dX1_copy_81 : decode cX1_copy 81 = .ok (.putfield 34, 3) := by decide +kernel
theorem dX1_copy_84 : decode cX1_copy 84 = .ok (.aload_n 0, 1) := by decide +kernel
theorem dX1_copy_85 : decode cX1_copy 85 = .ok (.aload_n 1, 1) := by decide +kernel
theorem dX1_copy_86 : decode cX1_copy 86 = .ok (.getfield 42, 3) := by decide +kernel
theorem dX1_copy_89 : decode cX1_copy 89 = .ok (.putfield 42, 3) := by decide +kernel
theorem dX1_copy_92 : decode cX1_copy 92 = .ok (.aload_n 0, 1) := by decide +kernel
theorem dX1_copy_93 : decode cX1_copy 93 = .ok (.aload_n 1, 1) := by decide +kernel
theorem dX1_copy_94 : decode cX1_copy 94 = .ok (.getfield 45, 3) := by decide +kernel
theorem dX1_copy_97 : decode cX1_copy 97 = .ok (.putfield 45, 3) := by decide +kernel
theorem dX1_copy_100 : decode cX1_copy 100 = .ok (.return_, 1) := by decide +kernel
theorem dX1_isFull_0 : decode cX1_isFull 0 = .ok (.aload_n 0, 1) := by decide +kernel
theorem dX1_isFull_1 : decode cX1_isFull 1 = .ok (.getfield 34, 3) := by decide +kernel
theorem dX1_isFull_4 : decode cX1_isFull 4 = .ok (.iconst 5, 1) := by decide +kernel
theorem dX1_isFull_5 : decode cX1_isFull 5 = .ok (.if_icmp .lt 7, 3) := by decide +kernel
theorem dX1_isFull_8 : decode cX1_isFull 8 = .ok (.iconst 1, 1) := by decide +kernel
theorem dX1_isFull_9 : decode cX1_isFull 9 = .ok (.goto 4, 3) := by decide +kernel
theorem dX1_isFull_12 : decode cX1_isFull 12 = .ok (.iconst 0, 1) := by decide +kernel
theorem dX1_isFull_13 : decode cX1_isFull 13 = .ok (.ireturn, 1) := by decide +kernel
theorem dX1_addHead_0 : decode cX1_addHead 0 = .ok (.aload_n 0, 1) := by decide +kernel
theorem dX1_addHead_1 : decode cX1_addHead 1 = .ok (.invokevirtual 48, 3) := by decide +kernel
theorem dX1_addHead_4 : decode cX1_addHead 4 = .ok (.ifCond .ne 28, 3) := by decide +kernel
theorem dX1_addHead_7 : decode cX1_addHead 7 = .ok (.aload_n 0, 1) := by decide +kernel
theorem dX1_addHead_8 : decode cX1_addHead 8 = .ok (.getfield 23, 3) := by decide +kernel
theorem dX1_addHead_11 : decode cX1_addHead 11 = .ok (.aload_n 0, 1) := by decide +kernel
theorem dX1_addHead_12 : decode cX1_addHead 12 = .ok (.getfield 34, 3) := by decide +kernel
theorem dX1_addHead_15 : decode cX1_addHead 15 = .ok (.aaload, 1) := by decide +kernel
theorem dX1_addHead_16 : decode cX1_addHead 16 = .ok (.iload_n 1, 1) := by decide +kernel
theorem dX1_addHead_17 : decode cX1_addHead 17 = .ok (.iload_n 2, 1) := by decide +kernel
theorem dX1_addHead_18 : decode cX1_addHead 18 = .ok (.iload_n 3, 1) := by decide +kernel
theorem dX1_addHead_19 : decode cX1_addHead 19 = .ok (.invokevirtual 52, 3) := by decide +kernel
theorem dX1_addHead_22 : decode cX1_addHead 22 = .ok (.aload_n 0, 1) := by decide +kernel
theorem dX1_addHead_23 : decode cX1_addHead 23 = .ok (.dup, 1) := by decide +kernel
theorem dX1_addHead_24 : decode cX1_addHead 24 = .ok (.getfield 34, 3) := by decide +kernel
theorem dX1_addHead_27 : decode cX1_addHead 27 = .ok (.iconst 1, 1) := by decide +kernel
theorem dX1_addHead_28 : decode cX1_addHead 28 = .ok (.iadd, 1) := by decide +kernel
theorem dX1_addHead_29 : decode cX1_addHead 29 = .ok (.putfield 34, 3) := by decide +kernel
theorem dX1_addHead_32 : decode cX1_addHead 32 = .ok (.return_, 1) := by decide +kernel
theorem dX1_lengthenNewestName_0 : decode cX1_lengthenNewestName 0 = .ok (.aload_n 0, 1) := by decide +kernel
theorem dX1_lengthenNewestName_1 : decode cX1_lengthenNewestName 1 = .ok (.getfield 34, 3) := by decide +kernel
theorem dX1_lengthenNewestName_4 : decode cX1_lengthenNewestName 4 = .ok (.ifCond .le 18, 3) := by decide +kernel
theorem dX1_lengthenNewestName_7 : decode cX1_lengthenNewestName 7 = .ok (.aload_n 0, 1) := by decide +kernel
theorem dX1_lengthenNewestName_8 : decode cX1_lengthenNewestName 8 = .ok (.getfield 23, 3) := by decide +kernel
theorem dX1_lengthenNewestName_11 : decode cX1_lengthenNewestName 11 = .ok (.aload_n 0, 1) := by decide +kernel
theorem dX1_lengthenNewestName_12 : decode cX1_lengthenNewestName 12 = .ok (.getfield 34, 3) := by decide +kernel
theorem dX1_lengthenNewestName_15 : decode cX1_lengthenNewestName 15 = .ok (.iconst 1, 1) := by decide +kernel
theorem dX1_lengthenNewestName_16 : decode cX1_lengthenNewestName 16 = .ok (.isub, 1) := by decide +kernel
theorem dX1_lengthenNewestName_17 : decode cX1_lengthenNewestName 17 = .ok (.aaload, 1) := by decide +kernel
theorem dX1_lengthenNewestName_18 : decode cX1_lengthenNewestName 18 = .ok (.iload_n 1, 1) := by decide +kernel
theorem dX1_lengthenNewestName_19 : decode cX1_lengthenNewestName 19 = .ok (.invokevirtual 56, 3) := by decide +kernel
theorem dX1_lengthenNewestName_22 : decode cX1_lengthenNewestName 22 = .ok (.return_, 1) := by decide +kernel
theorem dX1_beside_0 : decode cX1_beside 0 = .ok (.iload_n 0, 1) := by decide +kernel
theorem dX1_beside_1 : decode cX1_beside 1 = .ok (.bipush 8, 2) := by decide +kernel
theorem dX1_beside_3 : decode cX1_beside 3 = .ok (.irem, 1) := by decide +kernel
theorem dX1_beside_4 : decode cX1_beside 4 = .ok (.istore_n 2, 1) := by decide +kernel
theorem dX1_beside_5 : decode cX1_beside 5 = .ok (.iload_n 1, 1) := by decide +kernel
theorem dX1_beside_6 : decode cX1_beside 6 = .ok (.tableswitch 86 0 3 #[30, 45, 59, 74], 30) := by decide +kernel
theorem dX1_beside_36 : decode cX1_beside 36 = .ok (.iload_n 0, 1) := by decide +kernel
theorem dX1_beside_37 : decode cX1_beside 37 = .ok (.bipush 8, 2) := by decide +kernel
theorem dX1_beside_39 : decode cX1_beside 39 = .ok (.if_icmp .lt 10, 3) := by decide +kernel
theorem dX1_beside_42 : decode cX1_beside 42 = .ok (.iload_n 0, 1) := by decide +kernel
theorem dX1_beside_43 : decode cX1_beside 43 = .ok (.bipush 8, 2) := by decide +kernel
theorem dX1_beside_45 : decode cX1_beside 45 = .ok (.isub, 1) := by decide +kernel
theorem dX1_beside_46 : decode cX1_beside 46 = .ok (.goto 4, 3) := by decide +kernel
theorem dX1_beside_49 : decode cX1_beside 49 = .ok (.iconst (-1), 1) := by decide +kernel
theorem dX1_beside_50 : decode cX1_beside 50 = .ok (.ireturn, 1) := by decide +kernel
theorem dX1_beside_51 : decode cX1_beside 51 = .ok (.iload_n 2, 1) := by decide +kernel
theorem dX1_beside_52 : decode cX1_beside 52 = .ok (.bipush 7, 2) := by decide +kernel
theorem dX1_beside_54 : decode cX1_beside 54 = .ok (.if_icmp .ge 9, 3) := by decide +kernel
theorem dX1_beside_57 : decode cX1_beside 57 = .ok (.iload_n 0, 1) := by decide +kernel
theorem dX1_beside_58 : decode cX1_beside 58 = .ok (.iconst 1, 1) := by decide +kernel
theorem dX1_beside_59 : decode cX1_beside 59 = .ok (.iadd, 1) := by decide +kernel
theorem dX1_beside_60 : decode cX1_beside 60 = .ok (.goto 4, 3) := by decide +kernel
theorem dX1_beside_63 : decode cX1_beside 63 = .ok (.iconst (-1), 1) := by decide +kernel
theorem dX1_beside_64 : decode cX1_beside 64 = .ok (.ireturn, 1) := by decide +kernel
theorem dX1_beside_65 : decode cX1_beside 65 = .ok (.iload_n 0, 1) := by decide +kernel
theorem dX1_beside_66 : decode cX1_beside 66 = .ok (.bipush 40, 2) := by decide +kernel
theorem dX1_beside_68 : decode cX1_beside 68 = .ok (.if_icmp .ge 10, 3) := by decide +kernel
theorem dX1_beside_71 : decode cX1_beside 71 = .ok (.iload_n 0, 1) := by decide +kernel
theorem dX1_beside_72 : decode cX1_beside 72 = .ok (.bipush 8, 2) := by decide +kernel
theorem dX1_beside_74 : decode cX1_beside 74 = .ok (.iadd, 1) := by decide +kernel
theorem dX1_beside_75 : decode cX1_beside 75 = .ok (.goto 4, 3) := by decide +kernel
theorem dX1_beside_78 : decode cX1_beside 78 = .ok (.iconst (-1), 1) := by decide +kernel
theorem dX1_beside_79 : decode cX1_beside 79 = .ok (.ireturn, 1) := by decide +kernel
theorem dX1_beside_80 : decode cX1_beside 80 = .ok (.iload_n 2, 1) := by decide +kernel
theorem dX1_beside_81 : decode cX1_beside 81 = .ok (.ifCond .le 9, 3) := by decide +kernel
theorem dX1_beside_84 : decode cX1_beside 84 = .ok (.iload_n 0, 1) := by decide +kernel
theorem dX1_beside_85 : decode cX1_beside 85 = .ok (.iconst 1, 1) := by decide +kernel
theorem dX1_beside_86 : decode cX1_beside 86 = .ok (.isub, 1) := by decide +kernel
theorem dX1_beside_87 : decode cX1_beside 87 = .ok (.goto 4, 3) := by decide +kernel
theorem dX1_beside_90 : decode cX1_beside 90 = .ok (.iconst (-1), 1) := by decide +kernel
theorem dX1_beside_91 : decode cX1_beside 91 = .ok (.ireturn, 1) := by decide +kernel
theorem dX1_beside_92 : decode cX1_beside 92 = .ok (.iconst (-1), 1) := by decide +kernel
theorem dX1_beside_93 : decode cX1_beside 93 = .ok (.ireturn, 1) := by decide +kernel
theorem dX1_go_0 : decode cX1_go 0 = .ok (.aload_n 1, 1) := by decide +kernel
theorem dX1_go_1 : decode cX1_go 1 = .ok (.invokevirtual 96, 3) := by decide +kernel
theorem dX1_go_4 : decode cX1_go 4 = .ok (.istore_n 2, 1) := by decide +kernel
theorem dX1_go_5 : decode cX1_go 5 = .ok (.iconst 0, 1) := by decide +kernel
theorem dX1_go_6 : decode cX1_go 6 = .ok (.istore_n 3, 1) := by decide +kernel
theorem dX1_go_7 : decode cX1_go 7 = .ok (.iload_n 3, 1) := by decide +kernel
theorem dX1_go_8 : decode cX1_go 8 = .ok (.iload_n 2, 1) := by decide +kernel
theorem dX1_go_9 : decode cX1_go 9 = .ok (.if_icmp .ge 74, 3) := by decide +kernel
theorem dX1_go_12 : decode cX1_go 12 = .ok (.aload_n 1, 1) := by decide +kernel
theorem dX1_go_13 : decode cX1_go 13 = .ok (.getfield 99, 3) := by decide +kernel
theorem dX1_go_16 : decode cX1_go 16 = .ok (.aload_n 1, 1) := by decide +kernel
theorem dX1_go_17 : decode cX1_go 17 = .ok (.getfield 102, 3) := by decide +kernel
theorem dX1_go_20 : decode cX1_go 20 = .ok (.invokestatic 105, 3) := by decide +kernel
theorem dX1_go_23 : decode cX1_go 23 = .ok (.istore 4, 2) := by decide +kernel
theorem dX1_go_25 : decode cX1_go 25 = .ok (.iload 4, 2) := by decide +kernel
theorem dX1_go_27 : decode cX1_go 27 = .ok (.iconst (-1), 1) := by decide +kernel
theorem dX1_go_28 : decode cX1_go 28 = .ok (.if_icmp .ne 9, 3) := by decide +kernel
theorem dX1_go_31 : decode cX1_go 31 = .ok (.aload_n 1, 1) := by decide +kernel
theorem dX1_go_32 : decode cX1_go 32 = .ok (.iconst 2, 1) := by decide +kernel
theorem dX1_go_33 : decode cX1_go 33 = .ok (.invokevirtual 74, 3) := by decide +kernel
theorem dX1_go_36 : decode cX1_go 36 = .ok (.return_, 1) := by decide +kernel
theorem dX1_go_37 : decode cX1_go 37 = .ok (.aload_n 0, 1) := by decide +kernel
theorem dX1_go_38 : decode cX1_go 38 = .ok (.getfield 9, 3) := by decide +kernel
theorem dX1_go_41 : decode cX1_go 41 = .ok (.iload 4, 2) := by decide +kernel
theorem dX1_go_43 : decode cX1_go 43 = .ok (.iaload, 1) := by decide +kernel
theorem dX1_go_44 : decode cX1_go 44 = .ok (.ifCond .le 27, 3) := by decide +kernel
theorem dX1_go_47 : decode cX1_go 47 = .ok (.aload_n 0, 1) := by decide +kernel
theorem dX1_go_48 : decode cX1_go 48 = .ok (.getfield 9, 3) := by decide +kernel
theorem dX1_go_51 : decode cX1_go 51 = .ok (.iload 4, 2) := by decide +kernel
theorem dX1_go_53 : decode cX1_go 53 = .ok (.aload_n 0, 1) := by decide +kernel
theorem dX1_go_54 : decode cX1_go 54 = .ok (.getfield 9, 3) := by decide +kernel
theorem dX1_go_57 : decode cX1_go 57 = .ok (.iload 4, 2) := by decide +kernel
theorem dX1_go_59 : decode cX1_go 59 = .ok (.iaload, 1) := by decide +kernel
theorem dX1_go_60 : decode cX1_go 60 = .ok (.aload_n 1, 1) := by decide +kernel
theorem dX1_go_61 : decode cX1_go 61 = .ok (.invokevirtual 109, 3) := by decide +kernel
theorem dX1_go_64 : decode cX1_go 64 = .ok (.isub, 1) := by decide +kernel
theorem dX1_go_65 : decode cX1_go 65 = .ok (.iconst 0, 1) := by decide +kernel
theorem dX1_go_66 : decode cX1_go 66 = .ok (.invokestatic 112, 3) := by decide +kernel
theorem dX1_go_69 : decode cX1_go 69 = .ok (.iastore, 1) := by decide +kernel
theorem dX1_go_70 : decode cX1_go 70 = .ok (.return_, 1) := by decide +kernel
theorem dX1_go_71 : decode cX1_go 71 = .ok (.aload_n 1, 1) := by decide +kernel
theorem dX1_go_72 : decode cX1_go 72 = .ok (.iload 4, 2) := by decide +kernel
theorem dX1_go_74 : decode cX1_go 74 = .ok (.putfield 99, 3) := by decide +kernel
theorem dX1_go_77 : decode cX1_go 77 = .ok (.iinc 3 1, 3) := by decide +kernel
theorem dX1_go_80 : decode cX1_go 80 = .ok (.goto (-73), 3) := by decide +kernel
theorem dX1_go_83 : decode cX1_go 83 = .ok (.return_, 1) := by decide +kernel
theorem dX1_gather_0 : decode cX1_gather 0 = .ok (.aload_n 1, 1) := by decide +kernel
theorem dX1_gather_1 : decode cX1_gather 1 = .ok (.aload_n 0, 1) := by decide +kernel
theorem dX1_gather_2 : decode cX1_gather 2 = .ok (.getfield 18, 3) := by decide +kernel
theorem dX1_gather_5 : decode cX1_gather 5 = .ok (.aload_n 1, 1) := by decide +kernel
theorem dX1_gather_6 : decode cX1_gather 6 = .ok (.getfield 99, 3) := by decide +kernel
theorem dX1_gather_9 : decode cX1_gather 9 = .ok (.iaload, 1) := by decide +kernel
theorem dX1_gather_10 : decode cX1_gather 10 = .ok (.invokevirtual 117, 3) := by decide +kernel
theorem dX1_gather_13 : decode cX1_gather 13 = .ok (.ifCond .eq 26, 3) := by decide +kernel
theorem dX1_gather_16 : decode cX1_gather 16 = .ok (.aload_n 1, 1) := by decide +kernel
theorem dX1_gather_17 : decode cX1_gather 17 = .ok (.aload_n 0, 1) := by decide +kernel
theorem dX1_gather_18 : decode cX1_gather 18 = .ok (.getfield 15, 3) := by decide +kernel
theorem dX1_gather_21 : decode cX1_gather 21 = .ok (.aload_n 1, 1) := by decide +kernel
theorem dX1_gather_22 : decode cX1_gather 22 = .ok (.getfield 99, 3) := by decide +kernel
theorem dX1_gather_25 : decode cX1_gather 25 = .ok (.iaload, 1) := by decide +kernel
theorem dX1_gather_26 : decode cX1_gather 26 = .ok (.invokevirtual 121, 3) := by decide +kernel
theorem dX1_gather_29 : decode cX1_gather 29 = .ok (.aload_n 0, 1) := by decide +kernel
theorem dX1_gather_30 : decode cX1_gather 30 = .ok (.getfield 15, 3) := by decide +kernel
theorem dX1_gather_33 : decode cX1_gather 33 = .ok (.aload_n 1, 1) := by decide +kernel
theorem dX1_gather_34 : decode cX1_gather 34 = .ok (.getfield 99, 3) := by decide +kernel
theorem dX1_gather_37 : decode cX1_gather 37 = .ok (.iconst 0, 1) := by decide +kernel
theorem dX1_gather_38 : decode cX1_gather 38 = .ok (.iastore, 1) := by decide +kernel
theorem dX1_gather_39 : decode cX1_gather 39 = .ok (.return_, 1) := by decide +kernel
theorem dX1_leastAwakeBeside_0 : decode cX1_leastAwakeBeside 0 = .ok (.iconst 0, 1) := by decide +kernel
theorem dX1_leastAwakeBeside_1 : decode cX1_leastAwakeBeside 1 = .ok (.istore_n 2, 1) := by decide +kernel
theorem dX1_leastAwakeBeside_2 : decode cX1_leastAwakeBeside 2 = .ok (.iload_n 2, 1) := by decide +kernel
theorem dX1_leastAwakeBeside_3 : decode cX1_leastAwakeBeside 3 = .ok (.aload_n 0, 1) := by decide +kernel
theorem dX1_leastAwakeBeside_4 : decode cX1_leastAwakeBeside 4 = .ok (.getfield 34, 3) := by decide +kernel
theorem dX1_leastAwakeBeside_7 : decode cX1_leastAwakeBeside 7 = .ok (.if_icmp .ge 49, 3) := by decide +kernel
theorem dX1_leastAwakeBeside_10 : decode cX1_leastAwakeBeside 10 = .ok (.iload_n 2, 1) := by decide +kernel
theorem dX1_leastAwakeBeside_11 : decode cX1_leastAwakeBeside 11 = .ok (.iload_n 1, 1) := by decide +kernel
theorem dX1_leastAwakeBeside_12 : decode cX1_leastAwakeBeside 12 = .ok (.if_icmp .eq 38, 3) := by decide +kernel
theorem dX1_leastAwakeBeside_15 : decode cX1_leastAwakeBeside 15 = .ok (.aload_n 0, 1) := by decide +kernel
theorem dX1_leastAwakeBeside_16 : decode cX1_leastAwakeBeside 16 = .ok (.getfield 23, 3) := by decide +kernel
theorem dX1_leastAwakeBeside_19 : decode cX1_leastAwakeBeside 19 = .ok (.iload_n 2, 1) := by decide +kernel
theorem dX1_leastAwakeBeside_20 : decode cX1_leastAwakeBeside 20 = .ok (.aaload, 1) := by decide +kernel
theorem dX1_leastAwakeBeside_21 : decode cX1_leastAwakeBeside 21 = .ok (.getfield 99, 3) := by decide +kernel
theorem dX1_leastAwakeBeside_24 : decode cX1_leastAwakeBeside 24 = .ok (.aload_n 0, 1) := by decide +kernel
theorem dX1_leastAwakeBeside_25 : decode cX1_leastAwakeBeside 25 = .ok (.getfield 23, 3) := by decide +kernel
theorem dX1_leastAwakeBeside_28 : decode cX1_leastAwakeBeside 28 = .ok (.iload_n 1, 1) := by decide +kernel
theorem dX1_leastAwakeBeside_29 : decode cX1_leastAwakeBeside 29 = .ok (.aaload, 1) := by decide +kernel
theorem dX1_leastAwakeBeside_30 : decode cX1_leastAwakeBeside 30 = .ok (.getfield 99, 3) := by decide +kernel
theorem dX1_leastAwakeBeside_33 : decode cX1_leastAwakeBeside 33 = .ok (.if_icmp .ne 17, 3) := by decide +kernel
theorem dX1_leastAwakeBeside_36 : decode cX1_leastAwakeBeside 36 = .ok (.aload_n 0, 1) := by decide +kernel
theorem dX1_leastAwakeBeside_37 : decode cX1_leastAwakeBeside 37 = .ok (.getfield 23, 3) := by decide +kernel
theorem dX1_leastAwakeBeside_40 : decode cX1_leastAwakeBeside 40 = .ok (.iload_n 2, 1) := by decide +kernel
theorem dX1_leastAwakeBeside_41 : decode cX1_leastAwakeBeside 41 = .ok (.aaload, 1) := by decide +kernel
theorem dX1_leastAwakeBeside_42 : decode cX1_leastAwakeBeside 42 = .ok (.getfield 92, 3) := by decide +kernel
theorem dX1_leastAwakeBeside_45 : decode cX1_leastAwakeBeside 45 = .ok (.ifCond .ne 5, 3) := by decide +kernel
theorem dX1_leastAwakeBeside_48 : decode cX1_leastAwakeBeside 48 = .ok (.iload_n 2, 1) := by decide +kernel
theorem dX1_leastAwakeBeside_49 : decode cX1_leastAwakeBeside 49 = .ok (.ireturn, 1) := by decide +kernel
theorem dX1_leastAwakeBeside_50 : decode cX1_leastAwakeBeside 50 = .ok (.iinc 2 1, 3) := by decide +kernel
theorem dX1_leastAwakeBeside_53 : decode cX1_leastAwakeBeside 53 = .ok (.goto (-51), 3) := by decide +kernel
theorem dX1_leastAwakeBeside_56 : decode cX1_leastAwakeBeside 56 = .ok (.iconst (-1), 1) := by decide +kernel
theorem dX1_leastAwakeBeside_57 : decode cX1_leastAwakeBeside 57 = .ok (.ireturn, 1) := by decide +kernel
theorem dX1_meet_0 : decode cX1_meet 0 = .ok (.aload_n 0, 1) := by decide +kernel
theorem dX1_meet_1 : decode cX1_meet 1 = .ok (.iload_n 1, 1) := by decide +kernel
theorem dX1_meet_2 : decode cX1_meet 2 = .ok (.invokevirtual 124, 3) := by decide +kernel
theorem dX1_meet_5 : decode cX1_meet 5 = .ok (.istore_n 2, 1) := by decide +kernel
theorem dX1_meet_6 : decode cX1_meet 6 = .ok (.iload_n 2, 1) := by decide +kernel
theorem dX1_meet_7 : decode cX1_meet 7 = .ok (.iconst (-1), 1) := by decide +kernel
theorem dX1_meet_8 : decode cX1_meet 8 = .ok (.if_icmp .ne 4, 3) := by decide +kernel
theorem dX1_meet_11 : decode cX1_meet 11 = .ok (.return_, 1) := by decide +kernel
theorem dX1_meet_12 : decode cX1_meet 12 = .ok (.aload_n 0, 1) := by decide +kernel
theorem dX1_meet_13 : decode cX1_meet 13 = .ok (.aload_n 0, 1) := by decide +kernel
theorem dX1_meet_14 : decode cX1_meet 14 = .ok (.getfield 45, 3) := by decide +kernel
theorem dX1_meet_17 : decode cX1_meet 17 = .ok (.iconst 1, 1) := by decide +kernel
theorem dX1_meet_18 : decode cX1_meet 18 = .ok (.iadd, 1) := by decide +kernel
theorem dX1_meet_19 : decode cX1_meet 19 = .ok (.sipush 9999, 3) := by decide +kernel
theorem dX1_meet_22 : decode cX1_meet 22 = .ok (.invokestatic 127, 3) := by decide +kernel
theorem dX1_meet_25 : decode cX1_meet 25 = .ok (.putfield 45, 3) := by decide +kernel
theorem dX1_meet_28 : decode cX1_meet 28 = .ok (.aload_n 0, 1) := by decide +kernel
theorem dX1_meet_29 : decode cX1_meet 29 = .ok (.getfield 23, 3) := by decide +kernel
theorem dX1_meet_32 : decode cX1_meet 32 = .ok (.iload_n 1, 1) := by decide +kernel
theorem dX1_meet_33 : decode cX1_meet 33 = .ok (.aaload, 1) := by decide +kernel
theorem dX1_meet_34 : decode cX1_meet 34 = .ok (.astore_n 3, 1) := by decide +kernel
theorem dX1_meet_35 : decode cX1_meet 35 = .ok (.aload_n 0, 1) := by decide +kernel
theorem dX1_meet_36 : decode cX1_meet 36 = .ok (.getfield 23, 3) := by decide +kernel
theorem dX1_meet_39 : decode cX1_meet 39 = .ok (.iload_n 2, 1) := by decide +kernel
theorem dX1_meet_40 : decode cX1_meet 40 = .ok (.aaload, 1) := by decide +kernel
theorem dX1_meet_41 : decode cX1_meet 41 = .ok (.astore 4, 2) := by decide +kernel
theorem dX1_meet_43 : decode cX1_meet 43 = .ok (.aload_n 3, 1) := by decide +kernel
theorem dX1_meet_44 : decode cX1_meet 44 = .ok (.invokevirtual 109, 3) := by decide +kernel
theorem dX1_meet_47 : decode cX1_meet 47 = .ok (.aload 4, 2) := by decide +kernel
theorem dX1_meet_49 : decode cX1_meet 49 = .ok (.invokevirtual 109, 3) := by decide +kernel
theorem dX1_meet_52 : decode cX1_meet 52 = .ok (.isub, 1) := by decide +kernel
theorem dX1_meet_53 : decode cX1_meet 53 = .ok (.istore 5, 2) := by decide +kernel
theorem dX1_meet_55 : decode cX1_meet 55 = .ok (.iload 5, 2) := by decide +kernel
theorem dX1_meet_57 : decode cX1_meet 57 = .ok (.ifCond .ne 11, 3) := by decide +kernel
theorem dX1_meet_60 : decode cX1_meet 60 = .ok (.aload_n 3, 1) := by decide +kernel
theorem dX1_meet_61 : decode cX1_meet 61 = .ok (.aload 4, 2) := by decide +kernel
theorem dX1_meet_63 : decode cX1_meet 63 = .ok (.invokevirtual 130, 3) := by decide +kernel
theorem dX1_meet_66 : decode cX1_meet 66 = .ok (.istore 5, 2) := by decide +kernel
theorem dX1_meet_68 : decode cX1_meet 68 = .ok (.iload 5, 2) := by decide +kernel
theorem dX1_meet_70 : decode cX1_meet 70 = .ok (.ifCond .ne 8, 3) := by decide +kernel
theorem dX1_meet_73 : decode cX1_meet 73 = .ok (.iload_n 2, 1) := by decide +kernel
theorem dX1_meet_74 : decode cX1_meet 74 = .ok (.iload_n 1, 1) := by decide +kernel
theorem dX1_meet_75 : decode cX1_meet 75 = .ok (.isub, 1) := by decide +kernel
theorem dX1_meet_76 : decode cX1_meet 76 = .ok (.istore 5, 2) := by decide +kernel
theorem dX1_meet_78 : decode cX1_meet 78 = .ok (.iload 5, 2) := by decide +kernel
theorem dX1_meet_80 : decode cX1_meet 80 = .ok (.ifCond .ge 7, 3) := by decide +kernel
theorem dX1_meet_83 : decode cX1_meet 83 = .ok (.aload_n 3, 1) := by decide +kernel
theorem dX1_meet_84 : decode cX1_meet 84 = .ok (.goto 5, 3) := by decide +kernel
theorem dX1_meet_87 : decode cX1_meet 87 = .ok (.aload 4, 2) := by decide +kernel
theorem dX1_meet_89 : decode cX1_meet 89 = .ok (.astore 6, 2) := by decide +kernel
theorem dX1_meet_91 : decode cX1_meet 91 = .ok (.iload 5, 2) := by decide +kernel
theorem dX1_meet_93 : decode cX1_meet 93 = .ok (.ifCond .ge 8, 3) := by decide +kernel
theorem dX1_meet_96 : decode cX1_meet 96 = .ok (.aload 4, 2) := by decide +kernel
theorem dX1_meet_98 : decode cX1_meet 98 = .ok (.goto 4, 3) := by decide +kernel
theorem dX1_meet_101 : decode cX1_meet 101 = .ok (.aload_n 3, 1) := by decide +kernel
theorem dX1_meet_102 : decode cX1_meet 102 = .ok (.astore 7, 2) := by decide +kernel
theorem dX1_meet_104 : decode cX1_meet 104 = .ok (.aload 6, 2) := by decide +kernel
theorem dX1_meet_106 : decode cX1_meet 106 = .ok (.getfield 86, 3) := by decide +kernel
theorem dX1_meet_109 : decode cX1_meet 109 = .ok (.iconst 2, 1) := by decide +kernel
theorem dX1_meet_110 : decode cX1_meet 110 = .ok (.idiv, 1) := by decide +kernel
theorem dX1_meet_111 : decode cX1_meet 111 = .ok (.istore 8, 2) := by decide +kernel
theorem dX1_meet_113 : decode cX1_meet 113 = .ok (.aload 6, 2) := by decide +kernel
theorem dX1_meet_115 : decode cX1_meet 115 = .ok (.iconst 2, 1) := by decide +kernel
theorem dX1_meet_116 : decode cX1_meet 116 = .ok (.invokevirtual 74, 3) := by decide +kernel
theorem dX1_meet_119 : decode cX1_meet 119 = .ok (.aload 6, 2) := by decide +kernel
theorem dX1_meet_121 : decode cX1_meet 121 = .ok (.dup, 1) := by decide +kernel
theorem dX1_meet_122 : decode cX1_meet 122 = .ok (.getfield 86, 3) := by decide +kernel
theorem dX1_meet_125 : decode cX1_meet 125 = .ok (.iload 8, 2) := by decide +kernel
theorem dX1_meet_127 : decode cX1_meet 127 = .ok (.isub, 1) := by decide +kernel
theorem dX1_meet_128 : decode cX1_meet 128 = .ok (.putfield 86, 3) := by decide +kernel
theorem dX1_meet_131 : decode cX1_meet 131 = .ok (.aload 7, 2) := by decide +kernel
theorem dX1_meet_133 : decode cX1_meet 133 = .ok (.iload 8, 2) := by decide +kernel
theorem dX1_meet_135 : decode cX1_meet 135 = .ok (.invokevirtual 121, 3) := by decide +kernel
theorem dX1_meet_138 : decode cX1_meet 138 = .ok (.return_, 1) := by decide +kernel
theorem dX1_takeTurn_0 : decode cX1_takeTurn 0 = .ok (.aload_n 0, 1) := by decide +kernel
theorem dX1_takeTurn_1 : decode cX1_takeTurn 1 = .ok (.getfield 23, 3) := by decide +kernel
theorem dX1_takeTurn_4 : decode cX1_takeTurn 4 = .ok (.iload_n 1, 1) := by decide +kernel
theorem dX1_takeTurn_5 : decode cX1_takeTurn 5 = .ok (.aaload, 1) := by decide +kernel
theorem dX1_takeTurn_6 : decode cX1_takeTurn 6 = .ok (.astore_n 2, 1) := by decide +kernel
theorem dX1_takeTurn_7 : decode cX1_takeTurn 7 = .ok (.aload_n 2, 1) := by decide +kernel
theorem dX1_takeTurn_8 : decode cX1_takeTurn 8 = .ok (.aload_n 2, 1) := by decide +kernel
theorem dX1_takeTurn_9 : decode cX1_takeTurn 9 = .ok (.invokevirtual 66, 3) := by decide +kernel
theorem dX1_takeTurn_12 : decode cX1_takeTurn 12 = .ok (.aload_n 2, 1) := by decide +kernel
theorem dX1_takeTurn_13 : decode cX1_takeTurn 13 = .ok (.aload_n 0, 1) := by decide +kernel
theorem dX1_takeTurn_14 : decode cX1_takeTurn 14 = .ok (.getfield 42, 3) := by decide +kernel
theorem dX1_takeTurn_17 : decode cX1_takeTurn 17 = .ok (.invokevirtual 70, 3) := by decide +kernel
theorem dX1_takeTurn_20 : decode cX1_takeTurn 20 = .ok (.iadd, 1) := by decide +kernel
theorem dX1_takeTurn_21 : decode cX1_takeTurn 21 = .ok (.invokevirtual 74, 3) := by decide +kernel
theorem dX1_takeTurn_24 : decode cX1_takeTurn 24 = .ok (.aload_n 0, 1) := by decide +kernel
theorem dX1_takeTurn_25 : decode cX1_takeTurn 25 = .ok (.aload_n 2, 1) := by decide +kernel
theorem dX1_takeTurn_26 : decode cX1_takeTurn 26 = .ok (.invokevirtual 77, 3) := by decide +kernel
theorem dX1_takeTurn_29 : decode cX1_takeTurn 29 = .ok (.aload_n 0, 1) := by decide +kernel
theorem dX1_takeTurn_30 : decode cX1_takeTurn 30 = .ok (.aload_n 2, 1) := by decide +kernel
theorem dX1_takeTurn_31 : decode cX1_takeTurn 31 = .ok (.invokevirtual 80, 3) := by decide +kernel
theorem dX1_takeTurn_34 : decode cX1_takeTurn 34 = .ok (.aload_n 0, 1) := by decide +kernel
theorem dX1_takeTurn_35 : decode cX1_takeTurn 35 = .ok (.iload_n 1, 1) := by decide +kernel
theorem dX1_takeTurn_36 : decode cX1_takeTurn 36 = .ok (.invokevirtual 83, 3) := by decide +kernel
theorem dX1_takeTurn_39 : decode cX1_takeTurn 39 = .ok (.aload_n 2, 1) := by decide +kernel
theorem dX1_takeTurn_40 : decode cX1_takeTurn 40 = .ok (.getfield 86, 3) := by decide +kernel
theorem dX1_takeTurn_43 : decode cX1_takeTurn 43 = .ok (.aload_n 2, 1) := by decide +kernel
theorem dX1_takeTurn_44 : decode cX1_takeTurn 44 = .ok (.invokevirtual 89, 3) := by decide +kernel
theorem dX1_takeTurn_47 : decode cX1_takeTurn 47 = .ok (.if_icmp .lt 8, 3) := by decide +kernel
theorem dX1_takeTurn_50 : decode cX1_takeTurn 50 = .ok (.aload_n 2, 1) := by decide +kernel
theorem dX1_takeTurn_51 : decode cX1_takeTurn 51 = .ok (.iconst 1, 1) := by decide +kernel
theorem dX1_takeTurn_52 : decode cX1_takeTurn 52 = .ok (.putfield 92, 3) := by decide +kernel
theorem dX1_takeTurn_55 : decode cX1_takeTurn 55 = .ok (.return_, 1) := by decide +kernel
theorem dX1_passNights_0 : decode cX1_passNights 0 = .ok (.iconst 0, 1) := by decide +kernel
theorem dX1_passNights_1 : decode cX1_passNights 1 = .ok (.istore_n 2, 1) := by decide +kernel
theorem dX1_passNights_2 : decode cX1_passNights 2 = .ok (.iload_n 2, 1) := by decide +kernel
theorem dX1_passNights_3 : decode cX1_passNights 3 = .ok (.iload_n 1, 1) := by decide +kernel
theorem dX1_passNights_4 : decode cX1_passNights 4 = .ok (.if_icmp .ge 52, 3) := by decide +kernel
theorem dX1_passNights_7 : decode cX1_passNights 7 = .ok (.aload_n 0, 1) := by decide +kernel
theorem dX1_passNights_8 : decode cX1_passNights 8 = .ok (.dup, 1) := by decide +kernel
theorem dX1_passNights_9 : decode cX1_passNights 9 = .ok (.getfield 42, 3) := by decide +kernel
theorem dX1_passNights_12 : decode cX1_passNights 12 = .ok (.iconst 1, 1) := by decide +kernel
theorem dX1_passNights_13 : decode cX1_passNights 13 = .ok (.iadd, 1) := by decide +kernel
theorem dX1_passNights_14 : decode cX1_passNights 14 = .ok (.putfield 42, 3) := by decide +kernel
theorem dX1_passNights_17 : decode cX1_passNights 17 = .ok (.iconst 0, 1) := by decide +kernel
theorem dX1_passNights_18 : decode cX1_passNights 18 = .ok (.istore_n 3, 1) := by decide +kernel
theorem dX1_passNights_19 : decode cX1_passNights 19 = .ok (.iload_n 3, 1) := by decide +kernel
theorem dX1_passNights_20 : decode cX1_passNights 20 = .ok (.aload_n 0, 1) := by decide +kernel
theorem dX1_passNights_21 : decode cX1_passNights 21 = .ok (.getfield 34, 3) := by decide +kernel
theorem dX1_passNights_24 : decode cX1_passNights 24 = .ok (.if_icmp .ge 26, 3) := by decide +kernel
theorem dX1_passNights_27 : decode cX1_passNights 27 = .ok (.aload_n 0, 1) := by decide +kernel
theorem dX1_passNights_28 : decode cX1_passNights 28 = .ok (.getfield 23, 3) := by decide +kernel
theorem dX1_passNights_31 : decode cX1_passNights 31 = .ok (.iload_n 3, 1) := by decide +kernel
theorem dX1_passNights_32 : decode cX1_passNights 32 = .ok (.aaload, 1) := by decide +kernel
theorem dX1_passNights_33 : decode cX1_passNights 33 = .ok (.invokevirtual 60, 3) := by decide +kernel
theorem dX1_passNights_36 : decode cX1_passNights 36 = .ok (.ifCond .eq 8, 3) := by decide +kernel
theorem dX1_passNights_39 : decode cX1_passNights 39 = .ok (.aload_n 0, 1) := by decide +kernel
theorem dX1_passNights_40 : decode cX1_passNights 40 = .ok (.iload_n 3, 1) := by decide +kernel
theorem dX1_passNights_41 : decode cX1_passNights 41 = .ok (.invokevirtual 63, 3) := by decide +kernel
theorem dX1_passNights_44 : decode cX1_passNights 44 = .ok (.iinc 3 1, 3) := by decide +kernel
theorem dX1_passNights_47 : decode cX1_passNights 47 = .ok (.goto (-28), 3) := by decide +kernel
theorem dX1_passNights_50 : decode cX1_passNights 50 = .ok (.iinc 2 1, 3) := by decide +kernel
theorem dX1_passNights_53 : decode cX1_passNights 53 = .ok (.goto (-51), 3) := by decide +kernel
theorem dX1_passNights_56 : decode cX1_passNights 56 = .ok (.return_, 1) := by decide +kernel
theorem dX1_rainNight_0 : decode cX1_rainNight 0 = .ok (.aload_n 0, 1) := by decide +kernel
theorem dX1_rainNight_1 : decode cX1_rainNight 1 = .ok (.dup, 1) := by decide +kernel
theorem dX1_rainNight_2 : decode cX1_rainNight 2 = .ok (.getfield 42, 3) := by decide +kernel
theorem dX1_rainNight_5 : decode cX1_rainNight 5 = .ok (.iconst 1, 1) := by decide +kernel
theorem dX1_rainNight_6 : decode cX1_rainNight 6 = .ok (.iadd, 1) := by decide +kernel
theorem dX1_rainNight_7 : decode cX1_rainNight 7 = .ok (.putfield 42, 3) := by decide +kernel
theorem dX1_rainNight_10 : decode cX1_rainNight 10 = .ok (.return_, 1) := by decide +kernel
theorem dX1_headsOn_0 : decode cX1_headsOn 0 = .ok (.iconst 0, 1) := by decide +kernel
theorem dX1_headsOn_1 : decode cX1_headsOn 1 = .ok (.istore_n 2, 1) := by decide +kernel
theorem dX1_headsOn_2 : decode cX1_headsOn 2 = .ok (.iconst 0, 1) := by decide +kernel
theorem dX1_headsOn_3 : decode cX1_headsOn 3 = .ok (.istore_n 3, 1) := by decide +kernel
theorem dX1_headsOn_4 : decode cX1_headsOn 4 = .ok (.iload_n 3, 1) := by decide +kernel
theorem dX1_headsOn_5 : decode cX1_headsOn 5 = .ok (.aload_n 0, 1) := by decide +kernel
theorem dX1_headsOn_6 : decode cX1_headsOn 6 = .ok (.getfield 34, 3) := by decide +kernel
theorem dX1_headsOn_9 : decode cX1_headsOn 9 = .ok (.if_icmp .ge 28, 3) := by decide +kernel
theorem dX1_headsOn_12 : decode cX1_headsOn 12 = .ok (.aload_n 0, 1) := by decide +kernel
theorem dX1_headsOn_13 : decode cX1_headsOn 13 = .ok (.getfield 23, 3) := by decide +kernel
theorem dX1_headsOn_16 : decode cX1_headsOn 16 = .ok (.iload_n 3, 1) := by decide +kernel
theorem dX1_headsOn_17 : decode cX1_headsOn 17 = .ok (.aaload, 1) := by decide +kernel
theorem dX1_headsOn_18 : decode cX1_headsOn 18 = .ok (.getfield 99, 3) := by decide +kernel
theorem dX1_headsOn_21 : decode cX1_headsOn 21 = .ok (.iload_n 1, 1) := by decide +kernel
theorem dX1_headsOn_22 : decode cX1_headsOn 22 = .ok (.if_icmp .ne 9, 3) := by decide +kernel
theorem dX1_headsOn_25 : decode cX1_headsOn 25 = .ok (.iload_n 2, 1) := by decide +kernel
theorem dX1_headsOn_26 : decode cX1_headsOn 26 = .ok (.iconst 1, 1) := by decide +kernel
theorem dX1_headsOn_27 : decode cX1_headsOn 27 = .ok (.iload_n 3, 1) := by decide +kernel
theorem dX1_headsOn_28 : decode cX1_headsOn 28 = .ok (.ishl, 1) := by decide +kernel
theorem dX1_headsOn_29 : decode cX1_headsOn 29 = .ok (.ior, 1) := by decide +kernel
theorem dX1_headsOn_30 : decode cX1_headsOn 30 = .ok (.istore_n 2, 1) := by decide +kernel
theorem dX1_headsOn_31 : decode cX1_headsOn 31 = .ok (.iinc 3 1, 3) := by decide +kernel
theorem dX1_headsOn_34 : decode cX1_headsOn 34 = .ok (.goto (-30), 3) := by decide +kernel
theorem dX1_headsOn_37 : decode cX1_headsOn 37 = .ok (.iload_n 2, 1) := by decide +kernel
theorem dX1_headsOn_38 : decode cX1_headsOn 38 = .ok (.ireturn, 1) := by decide +kernel
theorem dX1_settledBits_0 : decode cX1_settledBits 0 = .ok (.iconst 0, 1) := by decide +kernel
theorem dX1_settledBits_1 : decode cX1_settledBits 1 = .ok (.istore_n 1, 1) := by decide +kernel
theorem dX1_settledBits_2 : decode cX1_settledBits 2 = .ok (.iconst 0, 1) := by decide +kernel
theorem dX1_settledBits_3 : decode cX1_settledBits 3 = .ok (.istore_n 2, 1) := by decide +kernel
theorem dX1_settledBits_4 : decode cX1_settledBits 4 = .ok (.iload_n 2, 1) := by decide +kernel
theorem dX1_settledBits_5 : decode cX1_settledBits 5 = .ok (.aload_n 0, 1) := by decide +kernel
theorem dX1_settledBits_6 : decode cX1_settledBits 6 = .ok (.getfield 34, 3) := by decide +kernel
theorem dX1_settledBits_9 : decode cX1_settledBits 9 = .ok (.if_icmp .ge 27, 3) := by decide +kernel
theorem dX1_settledBits_12 : decode cX1_settledBits 12 = .ok (.aload_n 0, 1) := by decide +kernel
theorem dX1_settledBits_13 : decode cX1_settledBits 13 = .ok (.getfield 23, 3) := by decide +kernel
theorem dX1_settledBits_16 : decode cX1_settledBits 16 = .ok (.iload_n 2, 1) := by decide +kernel
theorem dX1_settledBits_17 : decode cX1_settledBits 17 = .ok (.aaload, 1) := by decide +kernel
theorem dX1_settledBits_18 : decode cX1_settledBits 18 = .ok (.getfield 92, 3) := by decide +kernel
theorem dX1_settledBits_21 : decode cX1_settledBits 21 = .ok (.ifCond .eq 9, 3) := by decide +kernel
theorem dX1_settledBits_24 : decode cX1_settledBits 24 = .ok (.iload_n 1, 1) := by decide +kernel
theorem dX1_settledBits_25 : decode cX1_settledBits 25 = .ok (.iconst 1, 1) := by decide +kernel
theorem dX1_settledBits_26 : decode cX1_settledBits 26 = .ok (.iload_n 2, 1) := by decide +kernel
theorem dX1_settledBits_27 : decode cX1_settledBits 27 = .ok (.ishl, 1) := by decide +kernel
theorem dX1_settledBits_28 : decode cX1_settledBits 28 = .ok (.ior, 1) := by decide +kernel
theorem dX1_settledBits_29 : decode cX1_settledBits 29 = .ok (.istore_n 1, 1) := by decide +kernel
theorem dX1_settledBits_30 : decode cX1_settledBits 30 = .ok (.iinc 2 1, 3) := by decide +kernel
theorem dX1_settledBits_33 : decode cX1_settledBits 33 = .ok (.goto (-29), 3) := by decide +kernel
theorem dX1_settledBits_36 : decode cX1_settledBits 36 = .ok (.iload_n 1, 1) := by decide +kernel
theorem dX1_settledBits_37 : decode cX1_settledBits 37 = .ok (.ireturn, 1) := by decide +kernel
theorem dX1_followersOf_0 : decode cX1_followersOf 0 = .ok (.iconst 0, 1) := by decide +kernel
theorem dX1_followersOf_1 : decode cX1_followersOf 1 = .ok (.istore_n 2, 1) := by decide +kernel
theorem dX1_followersOf_2 : decode cX1_followersOf 2 = .ok (.iconst 0, 1) := by decide +kernel
theorem dX1_followersOf_3 : decode cX1_followersOf 3 = .ok (.istore_n 3, 1) := by decide +kernel
theorem dX1_followersOf_4 : decode cX1_followersOf 4 = .ok (.iload_n 3, 1) := by decide +kernel
theorem dX1_followersOf_5 : decode cX1_followersOf 5 = .ok (.aload_n 0, 1) := by decide +kernel
theorem dX1_followersOf_6 : decode cX1_followersOf 6 = .ok (.getfield 34, 3) := by decide +kernel
theorem dX1_followersOf_9 : decode cX1_followersOf 9 = .ok (.if_icmp .ge 30, 3) := by decide +kernel
theorem dX1_followersOf_12 : decode cX1_followersOf 12 = .ok (.iload_n 1, 1) := by decide +kernel
theorem dX1_followersOf_13 : decode cX1_followersOf 13 = .ok (.iload_n 3, 1) := by decide +kernel
theorem dX1_followersOf_14 : decode cX1_followersOf 14 = .ok (.ishr, 1) := by decide +kernel
theorem dX1_followersOf_15 : decode cX1_followersOf 15 = .ok (.iconst 1, 1) := by decide +kernel
theorem dX1_followersOf_16 : decode cX1_followersOf 16 = .ok (.iand, 1) := by decide +kernel
theorem dX1_followersOf_17 : decode cX1_followersOf 17 = .ok (.iconst 1, 1) := by decide +kernel
theorem dX1_followersOf_18 : decode cX1_followersOf 18 = .ok (.if_icmp .ne 15, 3) := by decide +kernel
theorem dX1_followersOf_21 : decode cX1_followersOf 21 = .ok (.iload_n 2, 1) := by decide +kernel
theorem dX1_followersOf_22 : decode cX1_followersOf 22 = .ok (.aload_n 0, 1) := by decide +kernel
theorem dX1_followersOf_23 : decode cX1_followersOf 23 = .ok (.getfield 23, 3) := by decide +kernel
theorem dX1_followersOf_26 : decode cX1_followersOf 26 = .ok (.iload_n 3, 1) := by decide +kernel
theorem dX1_followersOf_27 : decode cX1_followersOf 27 = .ok (.aaload, 1) := by decide +kernel
theorem dX1_followersOf_28 : decode cX1_followersOf 28 = .ok (.getfield 86, 3) := by decide +kernel
theorem dX1_followersOf_31 : decode cX1_followersOf 31 = .ok (.iadd, 1) := by decide +kernel
theorem dX1_followersOf_32 : decode cX1_followersOf 32 = .ok (.istore_n 2, 1) := by decide +kernel
theorem dX1_followersOf_33 : decode cX1_followersOf 33 = .ok (.iinc 3 1, 3) := by decide +kernel
theorem dX1_followersOf_36 : decode cX1_followersOf 36 = .ok (.goto (-32), 3) := by decide +kernel
theorem dX1_followersOf_39 : decode cX1_followersOf 39 = .ok (.iload_n 2, 1) := by decide +kernel
theorem dX1_followersOf_40 : decode cX1_followersOf 40 = .ok (.ireturn, 1) := by decide +kernel
theorem dX1_allFollowers_0 : decode cX1_allFollowers 0 = .ok (.aload_n 0, 1) := by decide +kernel
theorem dX1_allFollowers_1 : decode cX1_allFollowers 1 = .ok (.iconst 1, 1) := by decide +kernel
theorem dX1_allFollowers_2 : decode cX1_allFollowers 2 = .ok (.aload_n 0, 1) := by decide +kernel
theorem dX1_allFollowers_3 : decode cX1_allFollowers 3 = .ok (.getfield 34, 3) := by decide +kernel
theorem dX1_allFollowers_6 : decode cX1_allFollowers 6 = .ok (.ishl, 1) := by decide +kernel
theorem dX1_allFollowers_7 : decode cX1_allFollowers 7 = .ok (.iconst 1, 1) := by decide +kernel
theorem dX1_allFollowers_8 : decode cX1_allFollowers 8 = .ok (.isub, 1) := by decide +kernel
theorem dX1_allFollowers_9 : decode cX1_allFollowers 9 = .ok (.invokevirtual 134, 3) := by decide +kernel
theorem dX1_allFollowers_12 : decode cX1_allFollowers 12 = .ok (.ireturn, 1) := by decide +kernel
theorem dX1_sumOf_0 : decode cX1_sumOf 0 = .ok (.iconst 0, 1) := by decide +kernel
theorem dX1_sumOf_1 : decode cX1_sumOf 1 = .ok (.istore_n 1, 1) := by decide +kernel
theorem dX1_sumOf_2 : decode cX1_sumOf 2 = .ok (.iconst 0, 1) := by decide +kernel
theorem dX1_sumOf_3 : decode cX1_sumOf 3 = .ok (.istore_n 2, 1) := by decide +kernel
theorem dX1_sumOf_4 : decode cX1_sumOf 4 = .ok (.iload_n 2, 1) := by decide +kernel
theorem dX1_sumOf_5 : decode cX1_sumOf 5 = .ok (.aload_n 0, 1) := by decide +kernel
theorem dX1_sumOf_6 : decode cX1_sumOf 6 = .ok (.arraylength, 1) := by decide +kernel
theorem dX1_sumOf_7 : decode cX1_sumOf 7 = .ok (.if_icmp .ge 15, 3) := by decide +kernel
theorem dX1_sumOf_10 : decode cX1_sumOf 10 = .ok (.iload_n 1, 1) := by decide +kernel
theorem dX1_sumOf_11 : decode cX1_sumOf 11 = .ok (.aload_n 0, 1) := by decide +kernel
theorem dX1_sumOf_12 : decode cX1_sumOf 12 = .ok (.iload_n 2, 1) := by decide +kernel
theorem dX1_sumOf_13 : decode cX1_sumOf 13 = .ok (.iaload, 1) := by decide +kernel
theorem dX1_sumOf_14 : decode cX1_sumOf 14 = .ok (.iadd, 1) := by decide +kernel
theorem dX1_sumOf_15 : decode cX1_sumOf 15 = .ok (.istore_n 1, 1) := by decide +kernel
theorem dX1_sumOf_16 : decode cX1_sumOf 16 = .ok (.iinc 2 1, 3) := by decide +kernel
theorem dX1_sumOf_19 : decode cX1_sumOf 19 = .ok (.goto (-15), 3) := by decide +kernel
theorem dX1_sumOf_22 : decode cX1_sumOf 22 = .ok (.iload_n 1, 1) := by decide +kernel
theorem dX1_sumOf_23 : decode cX1_sumOf 23 = .ok (.ireturn, 1) := by decide +kernel
theorem dX1_allPeople_0 : decode cX1_allPeople 0 = .ok (.aload_n 0, 1) := by decide +kernel
theorem dX1_allPeople_1 : decode cX1_allPeople 1 = .ok (.getfield 15, 3) := by decide +kernel
theorem dX1_allPeople_4 : decode cX1_allPeople 4 = .ok (.invokestatic 137, 3) := by decide +kernel
theorem dX1_allPeople_7 : decode cX1_allPeople 7 = .ok (.ireturn, 1) := by decide +kernel
theorem dX1_allWalls_0 : decode cX1_allWalls 0 = .ok (.aload_n 0, 1) := by decide +kernel
theorem dX1_allWalls_1 : decode cX1_allWalls 1 = .ok (.getfield 9, 3) := by decide +kernel
theorem dX1_allWalls_4 : decode cX1_allWalls 4 = .ok (.invokestatic 137, 3) := by decide +kernel
theorem dX1_allWalls_7 : decode cX1_allWalls 7 = .ok (.ireturn, 1) := by decide +kernel
theorem dX1_vowels_0 : decode cX1_vowels 0 = .ok (.iconst 0, 1) := by decide +kernel
theorem dX1_vowels_1 : decode cX1_vowels 1 = .ok (.istore_n 1, 1) := by decide +kernel
theorem dX1_vowels_2 : decode cX1_vowels 2 = .ok (.iconst 0, 1) := by decide +kernel
theorem dX1_vowels_3 : decode cX1_vowels 3 = .ok (.istore_n 2, 1) := by decide +kernel
theorem dX1_vowels_4 : decode cX1_vowels 4 = .ok (.iload_n 2, 1) := by decide +kernel
theorem dX1_vowels_5 : decode cX1_vowels 5 = .ok (.aload_n 0, 1) := by decide +kernel
theorem dX1_vowels_6 : decode cX1_vowels 6 = .ok (.getfield 34, 3) := by decide +kernel
theorem dX1_vowels_9 : decode cX1_vowels 9 = .ok (.if_icmp .ge 21, 3) := by decide +kernel
theorem dX1_vowels_12 : decode cX1_vowels 12 = .ok (.iload_n 1, 1) := by decide +kernel
theorem dX1_vowels_13 : decode cX1_vowels 13 = .ok (.aload_n 0, 1) := by decide +kernel
theorem dX1_vowels_14 : decode cX1_vowels 14 = .ok (.getfield 23, 3) := by decide +kernel
theorem dX1_vowels_17 : decode cX1_vowels 17 = .ok (.iload_n 2, 1) := by decide +kernel
theorem dX1_vowels_18 : decode cX1_vowels 18 = .ok (.aaload, 1) := by decide +kernel
theorem dX1_vowels_19 : decode cX1_vowels 19 = .ok (.invokevirtual 141, 3) := by decide +kernel
theorem dX1_vowels_22 : decode cX1_vowels 22 = .ok (.iadd, 1) := by decide +kernel
theorem dX1_vowels_23 : decode cX1_vowels 23 = .ok (.istore_n 1, 1) := by decide +kernel
theorem dX1_vowels_24 : decode cX1_vowels 24 = .ok (.iinc 2 1, 3) := by decide +kernel
theorem dX1_vowels_27 : decode cX1_vowels 27 = .ok (.goto (-23), 3) := by decide +kernel
theorem dX1_vowels_30 : decode cX1_vowels 30 = .ok (.iload_n 1, 1) := by decide +kernel
theorem dX1_vowels_31 : decode cX1_vowels 31 = .ok (.ireturn, 1) := by decide +kernel
theorem dX1_isInSomeName_0 : decode cX1_isInSomeName 0 = .ok (.iconst 0, 1) := by decide +kernel
theorem dX1_isInSomeName_1 : decode cX1_isInSomeName 1 = .ok (.istore_n 2, 1) := by decide +kernel
theorem dX1_isInSomeName_2 : decode cX1_isInSomeName 2 = .ok (.iload_n 2, 1) := by decide +kernel
theorem dX1_isInSomeName_3 : decode cX1_isInSomeName 3 = .ok (.aload_n 0, 1) := by decide +kernel
theorem dX1_isInSomeName_4 : decode cX1_isInSomeName 4 = .ok (.getfield 34, 3) := by decide +kernel
theorem dX1_isInSomeName_7 : decode cX1_isInSomeName 7 = .ok (.if_icmp .ge 24, 3) := by decide +kernel
theorem dX1_isInSomeName_10 : decode cX1_isInSomeName 10 = .ok (.aload_n 0, 1) := by decide +kernel
theorem dX1_isInSomeName_11 : decode cX1_isInSomeName 11 = .ok (.getfield 23, 3) := by decide +kernel
theorem dX1_isInSomeName_14 : decode cX1_isInSomeName 14 = .ok (.iload_n 2, 1) := by decide +kernel
theorem dX1_isInSomeName_15 : decode cX1_isInSomeName 15 = .ok (.aaload, 1) := by decide +kernel
theorem dX1_isInSomeName_16 : decode cX1_isInSomeName 16 = .ok (.iload_n 1, 1) := by decide +kernel
theorem dX1_isInSomeName_17 : decode cX1_isInSomeName 17 = .ok (.invokevirtual 117, 3) := by decide +kernel
theorem dX1_isInSomeName_20 : decode cX1_isInSomeName 20 = .ok (.ifCond .eq 5, 3) := by decide +kernel
theorem dX1_isInSomeName_23 : decode cX1_isInSomeName 23 = .ok (.iconst 1, 1) := by decide +kernel
theorem dX1_isInSomeName_24 : decode cX1_isInSomeName 24 = .ok (.ireturn, 1) := by decide +kernel
theorem dX1_isInSomeName_25 : decode cX1_isInSomeName 25 = .ok (.iinc 2 1, 3) := by decide +kernel
theorem dX1_isInSomeName_28 : decode cX1_isInSomeName 28 = .ok (.goto (-26), 3) := by decide +kernel
theorem dX1_isInSomeName_31 : decode cX1_isInSomeName 31 = .ok (.iconst 0, 1) := by decide +kernel
theorem dX1_isInSomeName_32 : decode cX1_isInSomeName 32 = .ok (.ireturn, 1) := by decide +kernel
theorem dX1_hungry_0 : decode cX1_hungry 0 = .ok (.iconst 0, 1) := by decide +kernel
theorem dX1_hungry_1 : decode cX1_hungry 1 = .ok (.istore_n 1, 1) := by decide +kernel
theorem dX1_hungry_2 : decode cX1_hungry 2 = .ok (.iconst 0, 1) := by decide +kernel
theorem dX1_hungry_3 : decode cX1_hungry 3 = .ok (.istore_n 2, 1) := by decide +kernel
theorem dX1_hungry_4 : decode cX1_hungry 4 = .ok (.iload_n 2, 1) := by decide +kernel
theorem dX1_hungry_5 : decode cX1_hungry 5 = .ok (.bipush 48, 2) := by decide +kernel
theorem dX1_hungry_7 : decode cX1_hungry 7 = .ok (.if_icmp .ge 31, 3) := by decide +kernel
theorem dX1_hungry_10 : decode cX1_hungry 10 = .ok (.aload_n 0, 1) := by decide +kernel
theorem dX1_hungry_11 : decode cX1_hungry 11 = .ok (.aload_n 0, 1) := by decide +kernel
theorem dX1_hungry_12 : decode cX1_hungry 12 = .ok (.getfield 18, 3) := by decide +kernel
theorem dX1_hungry_15 : decode cX1_hungry 15 = .ok (.iload_n 2, 1) := by decide +kernel
theorem dX1_hungry_16 : decode cX1_hungry 16 = .ok (.iaload, 1) := by decide +kernel
theorem dX1_hungry_17 : decode cX1_hungry 17 = .ok (.invokevirtual 144, 3) := by decide +kernel
theorem dX1_hungry_20 : decode cX1_hungry 20 = .ok (.ifCond .ne 12, 3) := by decide +kernel
theorem dX1_hungry_23 : decode cX1_hungry 23 = .ok (.iload_n 1, 1) := by decide +kernel
theorem dX1_hungry_24 : decode cX1_hungry 24 = .ok (.aload_n 0, 1) := by decide +kernel
theorem dX1_hungry_25 : decode cX1_hungry 25 = .ok (.getfield 15, 3) := by decide +kernel
theorem dX1_hungry_28 : decode cX1_hungry 28 = .ok (.iload_n 2, 1) := by decide +kernel
theorem dX1_hungry_29 : decode cX1_hungry 29 = .ok (.iaload, 1) := by decide +kernel
theorem dX1_hungry_30 : decode cX1_hungry 30 = .ok (.iadd, 1) := by decide +kernel
theorem dX1_hungry_31 : decode cX1_hungry 31 = .ok (.istore_n 1, 1) := by decide +kernel
theorem dX1_hungry_32 : decode cX1_hungry 32 = .ok (.iinc 2 1, 3) := by decide +kernel
theorem dX1_hungry_35 : decode cX1_hungry 35 = .ok (.goto (-31), 3) := by decide +kernel
theorem dX1_hungry_38 : decode cX1_hungry 38 = .ok (.iload_n 1, 1) := by decide +kernel
theorem dX1_hungry_39 : decode cX1_hungry 39 = .ok (.ireturn, 1) := by decide +kernel
theorem dX1_alone_0 : decode cX1_alone 0 = .ok (.iconst 0, 1) := by decide +kernel
theorem dX1_alone_1 : decode cX1_alone 1 = .ok (.istore_n 1, 1) := by decide +kernel
theorem dX1_alone_2 : decode cX1_alone 2 = .ok (.iconst 0, 1) := by decide +kernel
theorem dX1_alone_3 : decode cX1_alone 3 = .ok (.istore_n 2, 1) := by decide +kernel
theorem dX1_alone_4 : decode cX1_alone 4 = .ok (.iload_n 2, 1) := by decide +kernel
theorem dX1_alone_5 : decode cX1_alone 5 = .ok (.aload_n 0, 1) := by decide +kernel
theorem dX1_alone_6 : decode cX1_alone 6 = .ok (.getfield 34, 3) := by decide +kernel
theorem dX1_alone_9 : decode cX1_alone 9 = .ok (.if_icmp .ge 34, 3) := by decide +kernel
theorem dX1_alone_12 : decode cX1_alone 12 = .ok (.aload_n 0, 1) := by decide +kernel
theorem dX1_alone_13 : decode cX1_alone 13 = .ok (.aload_n 0, 1) := by decide +kernel
theorem dX1_alone_14 : decode cX1_alone 14 = .ok (.getfield 23, 3) := by decide +kernel
theorem dX1_alone_17 : decode cX1_alone 17 = .ok (.iload_n 2, 1) := by decide +kernel
theorem dX1_alone_18 : decode cX1_alone 18 = .ok (.aaload, 1) := by decide +kernel
theorem dX1_alone_19 : decode cX1_alone 19 = .ok (.getfield 99, 3) := by decide +kernel
theorem dX1_alone_22 : decode cX1_alone 22 = .ok (.invokevirtual 147, 3) := by decide +kernel
theorem dX1_alone_25 : decode cX1_alone 25 = .ok (.iconst 1, 1) := by decide +kernel
theorem dX1_alone_26 : decode cX1_alone 26 = .ok (.iload_n 2, 1) := by decide +kernel
theorem dX1_alone_27 : decode cX1_alone 27 = .ok (.ishl, 1) := by decide +kernel
theorem dX1_alone_28 : decode cX1_alone 28 = .ok (.if_icmp .ne 9, 3) := by decide +kernel
theorem dX1_alone_31 : decode cX1_alone 31 = .ok (.iload_n 1, 1) := by decide +kernel
theorem dX1_alone_32 : decode cX1_alone 32 = .ok (.iconst 1, 1) := by decide +kernel
theorem dX1_alone_33 : decode cX1_alone 33 = .ok (.iload_n 2, 1) := by decide +kernel
theorem dX1_alone_34 : decode cX1_alone 34 = .ok (.ishl, 1) := by decide +kernel
theorem dX1_alone_35 : decode cX1_alone 35 = .ok (.ior, 1) := by decide +kernel
theorem dX1_alone_36 : decode cX1_alone 36 = .ok (.istore_n 1, 1) := by decide +kernel
theorem dX1_alone_37 : decode cX1_alone 37 = .ok (.iinc 2 1, 3) := by decide +kernel
theorem dX1_alone_40 : decode cX1_alone 40 = .ok (.goto (-36), 3) := by decide +kernel
theorem dX1_alone_43 : decode cX1_alone 43 = .ok (.iload_n 1, 1) := by decide +kernel
theorem dX1_alone_44 : decode cX1_alone 44 = .ok (.ireturn, 1) := by decide +kernel
theorem dX2_think_0 : decode cX2_think 0 = .ok (.aload_n 0, 1) := by decide +kernel
theorem dX2_think_1 : decode cX2_think 1 = .ok (.getfield 12, 3) := by decide +kernel
theorem dX2_think_4 : decode cX2_think 4 = .ok (.aload_n 1, 1) := by decide +kernel
theorem dX2_think_5 : decode cX2_think 5 = .ok (.invokevirtual 25, 3) := by decide +kernel
theorem dX2_think_8 : decode cX2_think 8 = .ok (.aload_n 0, 1) := by decide +kernel
theorem dX2_think_9 : decode cX2_think 9 = .ok (.getfield 12, 3) := by decide +kernel
theorem dX2_think_12 : decode cX2_think 12 = .ok (.areturn, 1) := by decide +kernel
theorem dX2_behindNights_0 : decode cX2_behindNights 0 = .ok (.aload_n 0, 1) := by decide +kernel
theorem dX2_behindNights_1 : decode cX2_behindNights 1 = .ok (.aload_n 1, 1) := by decide +kernel
theorem dX2_behindNights_2 : decode cX2_behindNights 2 = .ok (.invokevirtual 29, 3) := by decide +kernel
theorem dX2_behindNights_5 : decode cX2_behindNights 5 = .ok (.pop, 1) := by decide +kernel
theorem dX2_behindNights_6 : decode cX2_behindNights 6 = .ok (.aload_n 0, 1) := by decide +kernel
theorem dX2_behindNights_7 : decode cX2_behindNights 7 = .ok (.getfield 12, 3) := by decide +kernel
theorem dX2_behindNights_10 : decode cX2_behindNights 10 = .ok (.iload_n 2, 1) := by decide +kernel
theorem dX2_behindNights_11 : decode cX2_behindNights 11 = .ok (.invokevirtual 33, 3) := by decide +kernel
theorem dX2_behindNights_14 : decode cX2_behindNights 14 = .ok (.aload_n 0, 1) := by decide +kernel
theorem dX2_behindNights_15 : decode cX2_behindNights 15 = .ok (.getfield 12, 3) := by decide +kernel
theorem dX2_behindNights_18 : decode cX2_behindNights 18 = .ok (.areturn, 1) := by decide +kernel
theorem dX2_nightsUntilOn_0 : decode cX2_nightsUntilOn 0 = .ok (.aload_n 0, 1) := by decide +kernel
theorem dX2_nightsUntilOn_1 : decode cX2_nightsUntilOn 1 = .ok (.aload_n 1, 1) := by decide +kernel
theorem dX2_nightsUntilOn_2 : decode cX2_nightsUntilOn 2 = .ok (.invokevirtual 29, 3) := by decide +kernel
theorem dX2_nightsUntilOn_5 : decode cX2_nightsUntilOn 5 = .ok (.pop, 1) := by decide +kernel
theorem dX2_nightsUntilOn_6 : decode cX2_nightsUntilOn 6 = .ok (.iconst 0, 1) := by decide +kernel
theorem dX2_nightsUntilOn_7 : decode cX2_nightsUntilOn 7 = .ok (.istore 4, 2) := by decide +kernel
theorem dX2_nightsUntilOn_9 : decode cX2_nightsUntilOn 9 = .ok (.iload 4, 2) := by decide +kernel
theorem dX2_nightsUntilOn_11 : decode cX2_nightsUntilOn 11 = .ok (.bipush 60, 2) := by decide +kernel
theorem dX2_nightsUntilOn_13 : decode cX2_nightsUntilOn 13 = .ok (.if_icmp .gt 36, 3) := by decide +kernel
theorem dX2_nightsUntilOn_16 : decode cX2_nightsUntilOn 16 = .ok (.aload_n 0, 1) := by decide +kernel
theorem dX2_nightsUntilOn_17 : decode cX2_nightsUntilOn 17 = .ok (.getfield 12, 3) := by decide +kernel
theorem dX2_nightsUntilOn_20 : decode cX2_nightsUntilOn 20 = .ok (.getfield 37, 3) := by decide +kernel
theorem dX2_nightsUntilOn_23 : decode cX2_nightsUntilOn 23 = .ok (.iload_n 2, 1) := by decide +kernel
theorem dX2_nightsUntilOn_24 : decode cX2_nightsUntilOn 24 = .ok (.aaload, 1) := by decide +kernel
theorem dX2_nightsUntilOn_25 : decode cX2_nightsUntilOn 25 = .ok (.getfield 41, 3) := by decide +kernel
theorem dX2_nightsUntilOn_28 : decode cX2_nightsUntilOn 28 = .ok (.iload_n 3, 1) := by decide +kernel
theorem dX2_nightsUntilOn_29 : decode cX2_nightsUntilOn 29 = .ok (.if_icmp .ne 6, 3) := by decide +kernel
theorem dX2_nightsUntilOn_32 : decode cX2_nightsUntilOn 32 = .ok (.iload 4, 2) := by decide +kernel
theorem dX2_nightsUntilOn_34 : decode cX2_nightsUntilOn 34 = .ok (.ireturn, 1) := by decide +kernel
theorem dX2_nightsUntilOn_35 : decode cX2_nightsUntilOn 35 = .ok (.aload_n 0, 1) := by decide +kernel
theorem dX2_nightsUntilOn_36 : decode cX2_nightsUntilOn 36 = .ok (.getfield 12, 3) := by decide +kernel
theorem dX2_nightsUntilOn_39 : decode cX2_nightsUntilOn 39 = .ok (.iconst 1, 1) := by decide +kernel
theorem dX2_nightsUntilOn_40 : decode cX2_nightsUntilOn 40 = .ok (.invokevirtual 33, 3) := by decide +kernel
theorem dX2_nightsUntilOn_43 : decode cX2_nightsUntilOn 43 = .ok (.iinc 4 1, 3) := by decide +kernel
theorem dX2_nightsUntilOn_46 : decode cX2_nightsUntilOn 46 = .ok (.goto (-37), 3) := by decide +kernel
theorem dX2_nightsUntilOn_49 : decode cX2_nightsUntilOn 49 = .ok (.bipush (-9), 2) := by decide +kernel
theorem dX2_nightsUntilOn_51 : decode cX2_nightsUntilOn 51 = .ok (.ireturn, 1) := by decide +kernel
theorem dX2_nightsUntilSettled_0 : decode cX2_nightsUntilSettled 0 = .ok (.aload_n 0, 1) := by decide +kernel
theorem dX2_nightsUntilSettled_1 : decode cX2_nightsUntilSettled 1 = .ok (.aload_n 1, 1) := by decide +kernel
theorem dX2_nightsUntilSettled_2 : decode cX2_nightsUntilSettled 2 = .ok (.invokevirtual 29, 3) := by decide +kernel
theorem dX2_nightsUntilSettled_5 : decode cX2_nightsUntilSettled 5 = .ok (.pop, 1) := by decide +kernel
theorem dX2_nightsUntilSettled_6 : decode cX2_nightsUntilSettled 6 = .ok (.iconst 0, 1) := by decide +kernel
theorem dX2_nightsUntilSettled_7 : decode cX2_nightsUntilSettled 7 = .ok (.istore_n 3, 1) := by decide +kernel
theorem dX2_nightsUntilSettled_8 : decode cX2_nightsUntilSettled 8 = .ok (.iload_n 3, 1) := by decide +kernel
theorem dX2_nightsUntilSettled_9 : decode cX2_nightsUntilSettled 9 = .ok (.bipush 60, 2) := by decide +kernel
theorem dX2_nightsUntilSettled_11 : decode cX2_nightsUntilSettled 11 = .ok (.if_icmp .gt 34, 3) := by decide +kernel
theorem dX2_nightsUntilSettled_14 : decode cX2_nightsUntilSettled 14 = .ok (.aload_n 0, 1) := by decide +kernel
theorem dX2_nightsUntilSettled_15 : decode cX2_nightsUntilSettled 15 = .ok (.getfield 12, 3) := by decide +kernel
theorem dX2_nightsUntilSettled_18 : decode cX2_nightsUntilSettled 18 = .ok (.getfield 37, 3) := by decide +kernel
theorem dX2_nightsUntilSettled_21 : decode cX2_nightsUntilSettled 21 = .ok (.iload_n 2, 1) := by decide +kernel
theorem dX2_nightsUntilSettled_22 : decode cX2_nightsUntilSettled 22 = .ok (.aaload, 1) := by decide +kernel
theorem dX2_nightsUntilSettled_23 : decode cX2_nightsUntilSettled 23 = .ok (.getfield 47, 3) := by decide +kernel
theorem dX2_nightsUntilSettled_26 : decode cX2_nightsUntilSettled 26 = .ok (.ifCond .eq 5, 3) := by decide +kernel
theorem dX2_nightsUntilSettled_29 : decode cX2_nightsUntilSettled 29 = .ok (.iload_n 3, 1) := by decide +kernel
theorem dX2_nightsUntilSettled_30 : decode cX2_nightsUntilSettled 30 = .ok (.ireturn, 1) := by decide +kernel
theorem dX2_nightsUntilSettled_31 : decode cX2_nightsUntilSettled 31 = .ok (.aload_n 0, 1) := by decide +kernel
theorem dX2_nightsUntilSettled_32 : decode cX2_nightsUntilSettled 32 = .ok (.getfield 12, 3) := by decide +kernel
theorem dX2_nightsUntilSettled_35 : decode cX2_nightsUntilSettled 35 = .ok (.iconst 1, 1) := by decide +kernel
theorem dX2_nightsUntilSettled_36 : decode cX2_nightsUntilSettled 36 = .ok (.invokevirtual 33, 3) := by decide +kernel
theorem dX2_nightsUntilSettled_39 : decode cX2_nightsUntilSettled 39 = .ok (.iinc 3 1, 3) := by decide +kernel
theorem dX2_nightsUntilSettled_42 : decode cX2_nightsUntilSettled 42 = .ok (.goto (-34), 3) := by decide +kernel
theorem dX2_nightsUntilSettled_45 : decode cX2_nightsUntilSettled 45 = .ok (.bipush (-9), 2) := by decide +kernel
theorem dX2_nightsUntilSettled_47 : decode cX2_nightsUntilSettled 47 = .ok (.ireturn, 1) := by decide +kernel
theorem dX2_firstToSettle_0 : decode cX2_firstToSettle 0 = .ok (.aload_n 0, 1) := by decide +kernel
theorem dX2_firstToSettle_1 : decode cX2_firstToSettle 1 = .ok (.aload_n 1, 1) := by decide +kernel
theorem dX2_firstToSettle_2 : decode cX2_firstToSettle 2 = .ok (.invokevirtual 29, 3) := by decide +kernel
theorem dX2_firstToSettle_5 : decode cX2_firstToSettle 5 = .ok (.pop, 1) := by decide +kernel
theorem dX2_firstToSettle_6 : decode cX2_firstToSettle 6 = .ok (.iconst 0, 1) := by decide +kernel
theorem dX2_firstToSettle_7 : decode cX2_firstToSettle 7 = .ok (.istore_n 2, 1) := by decide +kernel
theorem dX2_firstToSettle_8 : decode cX2_firstToSettle 8 = .ok (.iload_n 2, 1) := by decide +kernel
theorem dX2_firstToSettle_9 : decode cX2_firstToSettle 9 = .ok (.bipush 60, 2) := by decide +kernel
theorem dX2_firstToSettle_11 : decode cX2_firstToSettle 11 = .ok (.if_icmp .ge 41, 3) := by decide +kernel
theorem dX2_firstToSettle_14 : decode cX2_firstToSettle 14 = .ok (.aload_n 0, 1) := by decide +kernel
theorem dX2_firstToSettle_15 : decode cX2_firstToSettle 15 = .ok (.getfield 12, 3) := by decide +kernel
theorem dX2_firstToSettle_18 : decode cX2_firstToSettle 18 = .ok (.iconst 1, 1) := by decide +kernel
theorem dX2_firstToSettle_19 : decode cX2_firstToSettle 19 = .ok (.invokevirtual 33, 3) := by decide +kernel
theorem dX2_firstToSettle_22 : decode cX2_firstToSettle 22 = .ok (.aload_n 0, 1) := by decide +kernel
theorem dX2_firstToSettle_23 : decode cX2_firstToSettle 23 = .ok (.getfield 12, 3) := by decide +kernel
theorem dX2_firstToSettle_26 : decode cX2_firstToSettle 26 = .ok (.invokevirtual 51, 3) := by decide +kernel
theorem dX2_firstToSettle_29 : decode cX2_firstToSettle 29 = .ok (.aload_n 1, 1) := by decide +kernel
theorem dX2_firstToSettle_30 : decode cX2_firstToSettle 30 = .ok (.invokevirtual 51, 3) := by decide +kernel
theorem dX2_firstToSettle_33 : decode cX2_firstToSettle 33 = .ok (.iconst (-1), 1) := by decide +kernel
theorem dX2_firstToSettle_34 : decode cX2_firstToSettle 34 = .ok (.ixor, 1) := by decide +kernel
theorem dX2_firstToSettle_35 : decode cX2_firstToSettle 35 = .ok (.iand, 1) := by decide +kernel
theorem dX2_firstToSettle_36 : decode cX2_firstToSettle 36 = .ok (.istore_n 3, 1) := by decide +kernel
theorem dX2_firstToSettle_37 : decode cX2_firstToSettle 37 = .ok (.iload_n 3, 1) := by decide +kernel
theorem dX2_firstToSettle_38 : decode cX2_firstToSettle 38 = .ok (.ifCond .eq 8, 3) := by decide +kernel
theorem dX2_firstToSettle_41 : decode cX2_firstToSettle 41 = .ok (.iload_n 3, 1) := by decide +kernel
theorem dX2_firstToSettle_42 : decode cX2_firstToSettle 42 = .ok (.invokestatic 55, 3) := by decide +kernel
theorem dX2_firstToSettle_45 : decode cX2_firstToSettle 45 = .ok (.ireturn, 1) := by decide +kernel
theorem dX2_firstToSettle_46 : decode cX2_firstToSettle 46 = .ok (.iinc 2 1, 3) := by decide +kernel
theorem dX2_firstToSettle_49 : decode cX2_firstToSettle 49 = .ok (.goto (-41), 3) := by decide +kernel
theorem dX2_firstToSettle_52 : decode cX2_firstToSettle 52 = .ok (.bipush (-9), 2) := by decide +kernel
theorem dX2_firstToSettle_54 : decode cX2_firstToSettle 54 = .ok (.ireturn, 1) := by decide +kernel
theorem dX2_nightsUntilTogether_0 : decode cX2_nightsUntilTogether 0 = .ok (.aload_n 0, 1) := by decide +kernel
theorem dX2_nightsUntilTogether_1 : decode cX2_nightsUntilTogether 1 = .ok (.aload_n 1, 1) := by decide +kernel
theorem dX2_nightsUntilTogether_2 : decode cX2_nightsUntilTogether 2 = .ok (.invokevirtual 29, 3) := by decide +kernel
theorem dX2_nightsUntilTogether_5 : decode cX2_nightsUntilTogether 5 = .ok (.pop, 1) := by decide +kernel
theorem dX2_nightsUntilTogether_6 : decode cX2_nightsUntilTogether 6 = .ok (.iconst 0, 1) := by decide +kernel
theorem dX2_nightsUntilTogether_7 : decode cX2_nightsUntilTogether 7 = .ok (.istore 4, 2) := by decide +kernel
theorem dX2_nightsUntilTogether_9 : decode cX2_nightsUntilTogether 9 = .ok (.iload 4, 2) := by decide +kernel
theorem dX2_nightsUntilTogether_11 : decode cX2_nightsUntilTogether 11 = .ok (.bipush 60, 2) := by decide +kernel
theorem dX2_nightsUntilTogether_13 : decode cX2_nightsUntilTogether 13 = .ok (.if_icmp .gt 47, 3) := by decide +kernel
theorem dX2_nightsUntilTogether_16 : decode cX2_nightsUntilTogether 16 = .ok (.aload_n 0, 1) := by decide +kernel
theorem dX2_nightsUntilTogether_17 : decode cX2_nightsUntilTogether 17 = .ok (.getfield 12, 3) := by decide +kernel
theorem dX2_nightsUntilTogether_20 : decode cX2_nightsUntilTogether 20 = .ok (.getfield 37, 3) := by decide +kernel
theorem dX2_nightsUntilTogether_23 : decode cX2_nightsUntilTogether 23 = .ok (.iload_n 2, 1) := by decide +kernel
theorem dX2_nightsUntilTogether_24 : decode cX2_nightsUntilTogether 24 = .ok (.aaload, 1) := by decide +kernel
theorem dX2_nightsUntilTogether_25 : decode cX2_nightsUntilTogether 25 = .ok (.getfield 41, 3) := by decide +kernel
theorem dX2_nightsUntilTogether_28 : decode cX2_nightsUntilTogether 28 = .ok (.aload_n 0, 1) := by decide +kernel
theorem dX2_nightsUntilTogether_29 : decode cX2_nightsUntilTogether 29 = .ok (.getfield 12, 3) := by decide +kernel
theorem dX2_nightsUntilTogether_32 : decode cX2_nightsUntilTogether 32 = .ok (.getfield 37, 3) := by decide +kernel
theorem dX2_nightsUntilTogether_35 : decode cX2_nightsUntilTogether 35 = .ok (.iload_n 3, 1) := by decide +kernel
theorem dX2_nightsUntilTogether_36 : decode cX2_nightsUntilTogether 36 = .ok (.aaload, 1) := by decide +kernel
theorem dX2_nightsUntilTogether_37 : decode cX2_nightsUntilTogether 37 = .ok (.getfield 41, 3) := by decide +kernel
theorem dX2_nightsUntilTogether_40 : decode cX2_nightsUntilTogether 40 = .ok (.if_icmp .ne 6, 3) := by decide +kernel
theorem dX2_nightsUntilTogether_43 : decode cX2_nightsUntilTogether 43 = .ok (.iload 4, 2) := by decide +kernel
theorem dX2_nightsUntilTogether_45 : decode cX2_nightsUntilTogether 45 = .ok (.ireturn, 1) := by decide +kernel
theorem dX2_nightsUntilTogether_46 : decode cX2_nightsUntilTogether 46 = .ok (.aload_n 0, 1) := by decide +kernel
theorem dX2_nightsUntilTogether_47 : decode cX2_nightsUntilTogether 47 = .ok (.getfield 12, 3) := by decide +kernel
theorem dX2_nightsUntilTogether_50 : decode cX2_nightsUntilTogether 50 = .ok (.iconst 1, 1) := by decide +kernel
theorem dX2_nightsUntilTogether_51 : decode cX2_nightsUntilTogether 51 = .ok (.invokevirtual 33, 3) := by decide +kernel
theorem dX2_nightsUntilTogether_54 : decode cX2_nightsUntilTogether 54 = .ok (.iinc 4 1, 3) := by decide +kernel
theorem dX2_nightsUntilTogether_57 : decode cX2_nightsUntilTogether 57 = .ok (.goto (-48), 3) := by decide +kernel
theorem dX2_nightsUntilTogether_60 : decode cX2_nightsUntilTogether 60 = .ok (.bipush (-9), 2) := by decide +kernel
theorem dX2_nightsUntilTogether_62 : decode cX2_nightsUntilTogether 62 = .ok (.ireturn, 1) := by decide +kernel
theorem dX2_choicesOf_0 : decode cX2_choicesOf 0 = .ok (.iload_n 0, 1) := by decide +kernel
theorem dX2_choicesOf_1 : decode cX2_choicesOf 1 = .ok (.tableswitch 35 0 2 #[27, 30, 33], 27) := by decide +kernel
theorem dX2_choicesOf_28 : decode cX2_choicesOf 28 = .ok (.bipush 8, 2) := by decide +kernel
theorem dX2_choicesOf_30 : decode cX2_choicesOf 30 = .ok (.ireturn, 1) := by decide +kernel
theorem dX2_choicesOf_31 : decode cX2_choicesOf 31 = .ok (.bipush 10, 2) := by decide +kernel
theorem dX2_choicesOf_33 : decode cX2_choicesOf 33 = .ok (.ireturn, 1) := by decide +kernel
theorem dX2_choicesOf_34 : decode cX2_choicesOf 34 = .ok (.iconst 5, 1) := by decide +kernel
theorem dX2_choicesOf_35 : decode cX2_choicesOf 35 = .ok (.ireturn, 1) := by decide +kernel
theorem dX2_choicesOf_36 : decode cX2_choicesOf 36 = .ok (.bipush 26, 2) := by decide +kernel
theorem dX2_choicesOf_38 : decode cX2_choicesOf 38 = .ok (.ireturn, 1) := by decide +kernel
theorem dX2_choose_0 : decode cX2_choose 0 = .ok (.iload_n 2, 1) := by decide +kernel
theorem dX2_choose_1 : decode cX2_choose 1 = .ok (.tableswitch 75 0 2 #[27, 43, 59], 27) := by decide +kernel
theorem dX2_choose_28 : decode cX2_choose 28 = .ok (.aload_n 0, 1) := by decide +kernel
theorem dX2_choose_29 : decode cX2_choose 29 = .ok (.getfield 12, 3) := by decide +kernel
theorem dX2_choose_32 : decode cX2_choose 32 = .ok (.getfield 37, 3) := by decide +kernel
theorem dX2_choose_35 : decode cX2_choose 35 = .ok (.iload_n 1, 1) := by decide +kernel
theorem dX2_choose_36 : decode cX2_choose 36 = .ok (.aaload, 1) := by decide +kernel
theorem dX2_choose_37 : decode cX2_choose 37 = .ok (.iload_n 3, 1) := by decide +kernel
theorem dX2_choose_38 : decode cX2_choose 38 = .ok (.putfield 61, 3) := by decide +kernel
theorem dX2_choose_41 : decode cX2_choose 41 = .ok (.goto 48, 3) := by decide +kernel
theorem dX2_choose_44 : decode cX2_choose 44 = .ok (.aload_n 0, 1) := by decide +kernel
theorem dX2_choose_45 : decode cX2_choose 45 = .ok (.getfield 12, 3) := by decide +kernel
theorem dX2_choose_48 : decode cX2_choose 48 = .ok (.getfield 37, 3) := by decide +kernel
theorem dX2_choose_51 : decode cX2_choose 51 = .ok (.iload_n 1, 1) := by decide +kernel
theorem dX2_choose_52 : decode cX2_choose 52 = .ok (.aaload, 1) := by decide +kernel
theorem dX2_choose_53 : decode cX2_choose 53 = .ok (.iload_n 3, 1) := by decide +kernel
theorem dX2_choose_54 : decode cX2_choose 54 = .ok (.putfield 64, 3) := by decide +kernel
theorem dX2_choose_57 : decode cX2_choose 57 = .ok (.goto 32, 3) := by decide +kernel
theorem dX2_choose_60 : decode cX2_choose 60 = .ok (.aload_n 0, 1) := by decide +kernel
theorem dX2_choose_61 : decode cX2_choose 61 = .ok (.getfield 12, 3) := by decide +kernel
theorem dX2_choose_64 : decode cX2_choose 64 = .ok (.getfield 37, 3) := by decide +kernel
theorem dX2_choose_67 : decode cX2_choose 67 = .ok (.iload_n 1, 1) := by decide +kernel
theorem dX2_choose_68 : decode cX2_choose 68 = .ok (.aaload, 1) := by decide +kernel
theorem dX2_choose_69 : decode cX2_choose 69 = .ok (.iload_n 3, 1) := by decide +kernel
theorem dX2_choose_70 : decode cX2_choose 70 = .ok (.putfield 67, 3) := by decide +kernel
theorem dX2_choose_73 : decode cX2_choose 73 = .ok (.goto 16, 3) := by decide +kernel
theorem dX2_choose_76 : decode cX2_choose 76 = .ok (.aload_n 0, 1) := by decide +kernel
theorem dX2_choose_77 : decode cX2_choose 77 = .ok (.getfield 12, 3) := by decide +kernel
theorem dX2_choose_80 : decode cX2_choose 80 = .ok (.getfield 37, 3) := by decide +kernel
theorem dX2_choose_83 : decode cX2_choose 83 = .ok (.iload_n 1, 1) := by decide +kernel
theorem dX2_choose_84 : decode cX2_choose 84 = .ok (.aaload, 1) := by decide +kernel
theorem dX2_choose_85 : decode cX2_choose 85 = .ok (.iload_n 3, 1) := by decide +kernel
theorem dX2_choose_86 : decode cX2_choose 86 = .ok (.invokevirtual 70, 3) := by decide +kernel
theorem dX2_choose_89 : decode cX2_choose 89 = .ok (.return_, 1) := by decide +kernel
theorem dX2_bestChoice_0 : decode cX2_bestChoice 0 = .ok (.iload 4, 2) := by decide +kernel
theorem dX2_bestChoice_2 : decode cX2_bestChoice 2 = .ok (.invokestatic 73, 3) := by decide +kernel
theorem dX2_bestChoice_5 : decode cX2_bestChoice 5 = .ok (.istore 6, 2) := by decide +kernel
theorem dX2_bestChoice_7 : decode cX2_bestChoice 7 = .ok (.bipush (-9), 2) := by decide +kernel
theorem dX2_bestChoice_9 : decode cX2_bestChoice 9 = .ok (.istore 7, 2) := by decide +kernel
theorem dX2_bestChoice_11 : decode cX2_bestChoice 11 = .ok (.bipush (-9), 2) := by decide +kernel
theorem dX2_bestChoice_13 : decode cX2_bestChoice 13 = .ok (.istore 8, 2) := by decide +kernel
theorem dX2_bestChoice_15 : decode cX2_bestChoice 15 = .ok (.iconst 0, 1) := by decide +kernel
theorem dX2_bestChoice_16 : decode cX2_bestChoice 16 = .ok (.istore 9, 2) := by decide +kernel
theorem dX2_bestChoice_18 : decode cX2_bestChoice 18 = .ok (.iload 9, 2) := by decide +kernel
theorem dX2_bestChoice_20 : decode cX2_bestChoice 20 = .ok (.iload 6, 2) := by decide +kernel
theorem dX2_bestChoice_22 : decode cX2_bestChoice 22 = .ok (.if_icmp .ge 67, 3) := by decide +kernel
theorem dX2_bestChoice_25 : decode cX2_bestChoice 25 = .ok (.aload_n 0, 1) := by decide +kernel
theorem dX2_bestChoice_26 : decode cX2_bestChoice 26 = .ok (.aload_n 1, 1) := by decide +kernel
theorem dX2_bestChoice_27 : decode cX2_bestChoice 27 = .ok (.invokevirtual 29, 3) := by decide +kernel
theorem dX2_bestChoice_30 : decode cX2_bestChoice 30 = .ok (.pop, 1) := by decide +kernel
theorem dX2_bestChoice_31 : decode cX2_bestChoice 31 = .ok (.aload_n 0, 1) := by decide +kernel
theorem dX2_bestChoice_32 : decode cX2_bestChoice 32 = .ok (.iload_n 2, 1) := by decide +kernel
theorem dX2_bestChoice_33 : decode cX2_bestChoice 33 = .ok (.iload 4, 2) := by decide +kernel
theorem dX2_bestChoice_35 : decode cX2_bestChoice 35 = .ok (.iload 9, 2) := by decide +kernel
theorem dX2_bestChoice_37 : decode cX2_bestChoice 37 = .ok (.invokevirtual 76, 3) := by decide +kernel
theorem dX2_bestChoice_40 : decode cX2_bestChoice 40 = .ok (.aload_n 0, 1) := by decide +kernel
theorem dX2_bestChoice_41 : decode cX2_bestChoice 41 = .ok (.getfield 12, 3) := by decide +kernel
theorem dX2_bestChoice_44 : decode cX2_bestChoice 44 = .ok (.iload_n 3, 1) := by decide +kernel
theorem dX2_bestChoice_45 : decode cX2_bestChoice 45 = .ok (.invokevirtual 33, 3) := by decide +kernel
theorem dX2_bestChoice_48 : decode cX2_bestChoice 48 = .ok (.aload_n 0, 1) := by decide +kernel
theorem dX2_bestChoice_49 : decode cX2_bestChoice 49 = .ok (.getfield 12, 3) := by decide +kernel
theorem dX2_bestChoice_52 : decode cX2_bestChoice 52 = .ok (.getfield 37, 3) := by decide +kernel
theorem dX2_bestChoice_55 : decode cX2_bestChoice 55 = .ok (.iload_n 2, 1) := by decide +kernel
theorem dX2_bestChoice_56 : decode cX2_bestChoice 56 = .ok (.aaload, 1) := by decide +kernel
theorem dX2_bestChoice_57 : decode cX2_bestChoice 57 = .ok (.getfield 80, 3) := by decide +kernel
theorem dX2_bestChoice_60 : decode cX2_bestChoice 60 = .ok (.iload 8, 2) := by decide +kernel
theorem dX2_bestChoice_62 : decode cX2_bestChoice 62 = .ok (.if_icmp .le 21, 3) := by decide +kernel
theorem dX2_bestChoice_65 : decode cX2_bestChoice 65 = .ok (.iload 9, 2) := by decide +kernel
theorem dX2_bestChoice_67 : decode cX2_bestChoice 67 = .ok (.istore 7, 2) := by decide +kernel
theorem dX2_bestChoice_69 : decode cX2_bestChoice 69 = .ok (.aload_n 0, 1) := by decide +kernel
theorem dX2_bestChoice_70 : decode cX2_bestChoice 70 = .ok (.getfield 12, 3) := by decide +kernel
theorem dX2_bestChoice_73 : decode cX2_bestChoice 73 = .ok (.getfield 37, 3) := by decide +kernel
theorem dX2_bestChoice_76 : decode cX2_bestChoice 76 = .ok (.iload_n 2, 1) := by decide +kernel
theorem dX2_bestChoice_77 : decode cX2_bestChoice 77 = .ok (.aaload, 1) := by decide +kernel
theorem dX2_bestChoice_78 : decode cX2_bestChoice 78 = .ok (.getfield 80, 3) := by decide +kernel
theorem dX2_bestChoice_81 : decode cX2_bestChoice 81 = .ok (.istore 8, 2) := by decide +kernel
theorem dX2_bestChoice_83 : decode cX2_bestChoice 83 = .ok (.iinc 9 1, 3) := by decide +kernel
theorem dX2_bestChoice_86 : decode cX2_bestChoice 86 = .ok (.goto (-68), 3) := by decide +kernel
theorem dX2_bestChoice_89 : decode cX2_bestChoice 89 = .ok (.iload 5, 2) := by decide +kernel
theorem dX2_bestChoice_91 : decode cX2_bestChoice 91 = .ok (.ifCond .eq 8, 3) := by decide +kernel
theorem dX2_bestChoice_94 : decode cX2_bestChoice 94 = .ok (.iload 8, 2) := by decide +kernel
theorem dX2_bestChoice_96 : decode cX2_bestChoice 96 = .ok (.goto 5, 3) := by decide +kernel
theorem dX2_bestChoice_99 : decode cX2_bestChoice 99 = .ok (.iload 7, 2) := by decide +kernel
theorem dX2_bestChoice_101 : decode cX2_bestChoice 101 = .ok (.ireturn, 1) := by decide +kernel
theorem dX2_leastWallThatHolds_0 : decode cX2_leastWallThatHolds 0 = .ok (.iconst 0, 1) := by decide +kernel
theorem dX2_leastWallThatHolds_1 : decode cX2_leastWallThatHolds 1 = .ok (.istore 5, 2) := by decide +kernel
theorem dX2_leastWallThatHolds_3 : decode cX2_leastWallThatHolds 3 = .ok (.iload 5, 2) := by decide +kernel
theorem dX2_leastWallThatHolds_5 : decode cX2_leastWallThatHolds 5 = .ok (.bipush 9, 2) := by decide +kernel
theorem dX2_leastWallThatHolds_7 : decode cX2_leastWallThatHolds 7 = .ok (.if_icmp .gt 89, 3) := by decide +kernel
theorem dX2_leastWallThatHolds_10 : decode cX2_leastWallThatHolds 10 = .ok (.aload_n 0, 1) := by decide +kernel
theorem dX2_leastWallThatHolds_11 : decode cX2_leastWallThatHolds 11 = .ok (.aload_n 1, 1) := by decide +kernel
theorem dX2_leastWallThatHolds_12 : decode cX2_leastWallThatHolds 12 = .ok (.invokevirtual 29, 3) := by decide +kernel
theorem dX2_leastWallThatHolds_15 : decode cX2_leastWallThatHolds 15 = .ok (.pop, 1) := by decide +kernel
theorem dX2_leastWallThatHolds_16 : decode cX2_leastWallThatHolds 16 = .ok (.aload_n 0, 1) := by decide +kernel
theorem dX2_leastWallThatHolds_17 : decode cX2_leastWallThatHolds 17 = .ok (.getfield 12, 3) := by decide +kernel
theorem dX2_leastWallThatHolds_20 : decode cX2_leastWallThatHolds 20 = .ok (.getfield 83, 3) := by decide +kernel
theorem dX2_leastWallThatHolds_23 : decode cX2_leastWallThatHolds 23 = .ok (.iload_n 3, 1) := by decide +kernel
theorem dX2_leastWallThatHolds_24 : decode cX2_leastWallThatHolds 24 = .ok (.iload 5, 2) := by decide +kernel
theorem dX2_leastWallThatHolds_26 : decode cX2_leastWallThatHolds 26 = .ok (.iastore, 1) := by decide +kernel
theorem dX2_leastWallThatHolds_27 : decode cX2_leastWallThatHolds 27 = .ok (.iconst 1, 1) := by decide +kernel
theorem dX2_leastWallThatHolds_28 : decode cX2_leastWallThatHolds 28 = .ok (.istore 6, 2) := by decide +kernel
theorem dX2_leastWallThatHolds_30 : decode cX2_leastWallThatHolds 30 = .ok (.iconst 0, 1) := by decide +kernel
theorem dX2_leastWallThatHolds_31 : decode cX2_leastWallThatHolds 31 = .ok (.istore 7, 2) := by decide +kernel
theorem dX2_leastWallThatHolds_33 : decode cX2_leastWallThatHolds 33 = .ok (.iload 7, 2) := by decide +kernel
theorem dX2_leastWallThatHolds_35 : decode cX2_leastWallThatHolds 35 = .ok (.iload 4, 2) := by decide +kernel
theorem dX2_leastWallThatHolds_37 : decode cX2_leastWallThatHolds 37 = .ok (.if_icmp .ge 45, 3) := by decide +kernel
theorem dX2_leastWallThatHolds_40 : decode cX2_leastWallThatHolds 40 = .ok (.iload 6, 2) := by decide +kernel
theorem dX2_leastWallThatHolds_42 : decode cX2_leastWallThatHolds 42 = .ok (.ifCond .eq 40, 3) := by decide +kernel
theorem dX2_leastWallThatHolds_45 : decode cX2_leastWallThatHolds 45 = .ok (.aload_n 0, 1) := by decide +kernel
theorem dX2_leastWallThatHolds_46 : decode cX2_leastWallThatHolds 46 = .ok (.getfield 12, 3) := by decide +kernel
theorem dX2_leastWallThatHolds_49 : decode cX2_leastWallThatHolds 49 = .ok (.iconst 1, 1) := by decide +kernel
theorem dX2_leastWallThatHolds_50 : decode cX2_leastWallThatHolds 50 = .ok (.invokevirtual 33, 3) := by decide +kernel
theorem dX2_leastWallThatHolds_53 : decode cX2_leastWallThatHolds 53 = .ok (.aload_n 0, 1) := by decide +kernel
theorem dX2_leastWallThatHolds_54 : decode cX2_leastWallThatHolds 54 = .ok (.getfield 12, 3) := by decide +kernel
theorem dX2_leastWallThatHolds_57 : decode cX2_leastWallThatHolds 57 = .ok (.getfield 37, 3) := by decide +kernel
theorem dX2_leastWallThatHolds_60 : decode cX2_leastWallThatHolds 60 = .ok (.iload_n 2, 1) := by decide +kernel
theorem dX2_leastWallThatHolds_61 : decode cX2_leastWallThatHolds 61 = .ok (.aaload, 1) := by decide +kernel
theorem dX2_leastWallThatHolds_62 : decode cX2_leastWallThatHolds 62 = .ok (.getfield 41, 3) := by decide +kernel
theorem dX2_leastWallThatHolds_65 : decode cX2_leastWallThatHolds 65 = .ok (.iload_n 3, 1) := by decide +kernel
theorem dX2_leastWallThatHolds_66 : decode cX2_leastWallThatHolds 66 = .ok (.if_icmp .eq 7, 3) := by decide +kernel
theorem dX2_leastWallThatHolds_69 : decode cX2_leastWallThatHolds 69 = .ok (.iconst 1, 1) := by decide +kernel
theorem dX2_leastWallThatHolds_70 : decode cX2_leastWallThatHolds 70 = .ok (.goto 4, 3) := by decide +kernel
theorem dX2_leastWallThatHolds_73 : decode cX2_leastWallThatHolds 73 = .ok (.iconst 0, 1) := by decide +kernel
theorem dX2_leastWallThatHolds_74 : decode cX2_leastWallThatHolds 74 = .ok (.istore 6, 2) := by decide +kernel
theorem dX2_leastWallThatHolds_76 : decode cX2_leastWallThatHolds 76 = .ok (.iinc 7 1, 3) := by decide +kernel
theorem dX2_leastWallThatHolds_79 : decode cX2_leastWallThatHolds 79 = .ok (.goto (-46), 3) := by decide +kernel
theorem dX2_leastWallThatHolds_82 : decode cX2_leastWallThatHolds 82 = .ok (.iload 6, 2) := by decide +kernel
theorem dX2_leastWallThatHolds_84 : decode cX2_leastWallThatHolds 84 = .ok (.ifCond .eq 6, 3) := by decide +kernel
theorem dX2_leastWallThatHolds_87 : decode cX2_leastWallThatHolds 87 = .ok (.iload 5, 2) := by decide +kernel
theorem dX2_leastWallThatHolds_89 : decode cX2_leastWallThatHolds 89 = .ok (.ireturn, 1) := by decide +kernel
theorem dX2_leastWallThatHolds_90 : decode cX2_leastWallThatHolds 90 = .ok (.iinc 5 1, 3) := by decide +kernel
theorem dX2_leastWallThatHolds_93 : decode cX2_leastWallThatHolds 93 = .ok (.goto (-90), 3) := by decide +kernel
theorem dX2_leastWallThatHolds_96 : decode cX2_leastWallThatHolds 96 = .ok (.bipush (-9), 2) := by decide +kernel
theorem dX2_leastWallThatHolds_98 : decode cX2_leastWallThatHolds 98 = .ok (.ireturn, 1) := by decide +kernel
theorem dX2_fieldToWall_0 : decode cX2_fieldToWall 0 = .ok (.iconst 0, 1) := by decide +kernel
theorem dX2_fieldToWall_1 : decode cX2_fieldToWall 1 = .ok (.istore 5, 2) := by decide +kernel
theorem dX2_fieldToWall_3 : decode cX2_fieldToWall 3 = .ok (.iload 5, 2) := by decide +kernel
theorem dX2_fieldToWall_5 : decode cX2_fieldToWall 5 = .ok (.bipush 48, 2) := by decide +kernel
theorem dX2_fieldToWall_7 : decode cX2_fieldToWall 7 = .ok (.if_icmp .ge 55, 3) := by decide +kernel
theorem dX2_fieldToWall_10 : decode cX2_fieldToWall 10 = .ok (.aload_n 0, 1) := by decide +kernel
theorem dX2_fieldToWall_11 : decode cX2_fieldToWall 11 = .ok (.aload_n 1, 1) := by decide +kernel
theorem dX2_fieldToWall_12 : decode cX2_fieldToWall 12 = .ok (.invokevirtual 29, 3) := by decide +kernel
theorem dX2_fieldToWall_15 : decode cX2_fieldToWall 15 = .ok (.pop, 1) := by decide +kernel
theorem dX2_fieldToWall_16 : decode cX2_fieldToWall 16 = .ok (.aload_n 0, 1) := by decide +kernel
theorem dX2_fieldToWall_17 : decode cX2_fieldToWall 17 = .ok (.getfield 12, 3) := by decide +kernel
theorem dX2_fieldToWall_20 : decode cX2_fieldToWall 20 = .ok (.getfield 83, 3) := by decide +kernel
theorem dX2_fieldToWall_23 : decode cX2_fieldToWall 23 = .ok (.iload 5, 2) := by decide +kernel
theorem dX2_fieldToWall_25 : decode cX2_fieldToWall 25 = .ok (.bipush 9, 2) := by decide +kernel
theorem dX2_fieldToWall_27 : decode cX2_fieldToWall 27 = .ok (.iastore, 1) := by decide +kernel
theorem dX2_fieldToWall_28 : decode cX2_fieldToWall 28 = .ok (.aload_n 0, 1) := by decide +kernel
theorem dX2_fieldToWall_29 : decode cX2_fieldToWall 29 = .ok (.getfield 12, 3) := by decide +kernel
theorem dX2_fieldToWall_32 : decode cX2_fieldToWall 32 = .ok (.iload 4, 2) := by decide +kernel
theorem dX2_fieldToWall_34 : decode cX2_fieldToWall 34 = .ok (.invokevirtual 33, 3) := by decide +kernel
theorem dX2_fieldToWall_37 : decode cX2_fieldToWall 37 = .ok (.aload_n 0, 1) := by decide +kernel
theorem dX2_fieldToWall_38 : decode cX2_fieldToWall 38 = .ok (.getfield 12, 3) := by decide +kernel
theorem dX2_fieldToWall_41 : decode cX2_fieldToWall 41 = .ok (.getfield 37, 3) := by decide +kernel
theorem dX2_fieldToWall_44 : decode cX2_fieldToWall 44 = .ok (.iload_n 2, 1) := by decide +kernel
theorem dX2_fieldToWall_45 : decode cX2_fieldToWall 45 = .ok (.aaload, 1) := by decide +kernel
theorem dX2_fieldToWall_46 : decode cX2_fieldToWall 46 = .ok (.getfield 41, 3) := by decide +kernel
theorem dX2_fieldToWall_49 : decode cX2_fieldToWall 49 = .ok (.iload_n 3, 1) := by decide +kernel
theorem dX2_fieldToWall_50 : decode cX2_fieldToWall 50 = .ok (.if_icmp .ne 6, 3) := by decide +kernel
theorem dX2_fieldToWall_53 : decode cX2_fieldToWall 53 = .ok (.iload 5, 2) := by decide +kernel
theorem dX2_fieldToWall_55 : decode cX2_fieldToWall 55 = .ok (.ireturn, 1) := by decide +kernel
theorem dX2_fieldToWall_56 : decode cX2_fieldToWall 56 = .ok (.iinc 5 1, 3) := by decide +kernel
theorem dX2_fieldToWall_59 : decode cX2_fieldToWall 59 = .ok (.goto (-56), 3) := by decide +kernel
theorem dX2_fieldToWall_62 : decode cX2_fieldToWall 62 = .ok (.bipush (-9), 2) := by decide +kernel
theorem dX2_fieldToWall_64 : decode cX2_fieldToWall 64 = .ok (.ireturn, 1) := by decide +kernel
theorem dX2_namesToChange_0 : decode cX2_namesToChange 0 = .ok (.bipush (-9), 2) := by decide +kernel
theorem dX2_namesToChange_2 : decode cX2_namesToChange 2 = .ok (.istore_n 3, 1) := by decide +kernel
theorem dX2_namesToChange_3 : decode cX2_namesToChange 3 = .ok (.aload_n 0, 1) := by decide +kernel
theorem dX2_namesToChange_4 : decode cX2_namesToChange 4 = .ok (.aload_n 1, 1) := by decide +kernel
theorem dX2_namesToChange_5 : decode cX2_namesToChange 5 = .ok (.iload_n 2, 1) := by decide +kernel
theorem dX2_namesToChange_6 : decode cX2_namesToChange 6 = .ok (.invokevirtual 86, 3) := by decide +kernel
theorem dX2_namesToChange_9 : decode cX2_namesToChange 9 = .ok (.invokevirtual 90, 3) := by decide +kernel
theorem dX2_namesToChange_12 : decode cX2_namesToChange 12 = .ok (.istore 4, 2) := by decide +kernel
theorem dX2_namesToChange_14 : decode cX2_namesToChange 14 = .ok (.iconst 0, 1) := by decide +kernel
theorem dX2_namesToChange_15 : decode cX2_namesToChange 15 = .ok (.istore 5, 2) := by decide +kernel
theorem dX2_namesToChange_17 : decode cX2_namesToChange 17 = .ok (.iload 5, 2) := by decide +kernel
theorem dX2_namesToChange_19 : decode cX2_namesToChange 19 = .ok (.aload_n 1, 1) := by decide +kernel
theorem dX2_namesToChange_20 : decode cX2_namesToChange 20 = .ok (.getfield 93, 3) := by decide +kernel
theorem dX2_namesToChange_23 : decode cX2_namesToChange 23 = .ok (.if_icmp .ge 114, 3) := by decide +kernel
theorem dX2_namesToChange_26 : decode cX2_namesToChange 26 = .ok (.iload 5, 2) := by decide +kernel
theorem dX2_namesToChange_28 : decode cX2_namesToChange 28 = .ok (.iconst 1, 1) := by decide +kernel
theorem dX2_namesToChange_29 : decode cX2_namesToChange 29 = .ok (.iadd, 1) := by decide +kernel
theorem dX2_namesToChange_30 : decode cX2_namesToChange 30 = .ok (.istore 6, 2) := by decide +kernel
theorem dX2_namesToChange_32 : decode cX2_namesToChange 32 = .ok (.iload 6, 2) := by decide +kernel
theorem dX2_namesToChange_34 : decode cX2_namesToChange 34 = .ok (.aload_n 1, 1) := by decide +kernel
theorem dX2_namesToChange_35 : decode cX2_namesToChange 35 = .ok (.getfield 93, 3) := by decide +kernel
theorem dX2_namesToChange_38 : decode cX2_namesToChange 38 = .ok (.if_icmp .ge 93, 3) := by decide +kernel
theorem dX2_namesToChange_41 : decode cX2_namesToChange 41 = .ok (.aload_n 0, 1) := by decide +kernel
theorem dX2_namesToChange_42 : decode cX2_namesToChange 42 = .ok (.aload_n 1, 1) := by decide +kernel
theorem dX2_namesToChange_43 : decode cX2_namesToChange 43 = .ok (.invokevirtual 29, 3) := by decide +kernel
theorem dX2_namesToChange_46 : decode cX2_namesToChange 46 = .ok (.pop, 1) := by decide +kernel
theorem dX2_namesToChange_47 : decode cX2_namesToChange 47 = .ok (.aload_n 0, 1) := by decide +kernel
theorem dX2_namesToChange_48 : decode cX2_namesToChange 48 = .ok (.getfield 12, 3) := by decide +kernel
theorem dX2_namesToChange_51 : decode cX2_namesToChange 51 = .ok (.getfield 37, 3) := by decide +kernel
theorem dX2_namesToChange_54 : decode cX2_namesToChange 54 = .ok (.iload 5, 2) := by decide +kernel
theorem dX2_namesToChange_56 : decode cX2_namesToChange 56 = .ok (.aaload, 1) := by decide +kernel
theorem dX2_namesToChange_57 : decode cX2_namesToChange 57 = .ok (.aload_n 1, 1) := by decide +kernel
theorem dX2_namesToChange_58 : decode cX2_namesToChange 58 = .ok (.getfield 37, 3) := by decide +kernel
theorem dX2_namesToChange_61 : decode cX2_namesToChange 61 = .ok (.iload 6, 2) := by decide +kernel
theorem dX2_namesToChange_63 : decode cX2_namesToChange 63 = .ok (.aaload, 1) := by decide +kernel
theorem dX2_namesToChange_64 : decode cX2_namesToChange 64 = .ok (.invokevirtual 96, 3) := by decide +kernel
theorem dX2_namesToChange_67 : decode cX2_namesToChange 67 = .ok (.aload_n 0, 1) := by decide +kernel
theorem dX2_namesToChange_68 : decode cX2_namesToChange 68 = .ok (.getfield 12, 3) := by decide +kernel
theorem dX2_namesToChange_71 : decode cX2_namesToChange 71 = .ok (.getfield 37, 3) := by decide +kernel
theorem dX2_namesToChange_74 : decode cX2_namesToChange 74 = .ok (.iload 6, 2) := by decide +kernel
theorem dX2_namesToChange_76 : decode cX2_namesToChange 76 = .ok (.aaload, 1) := by decide +kernel
theorem dX2_namesToChange_77 : decode cX2_namesToChange 77 = .ok (.aload_n 1, 1) := by decide +kernel
theorem dX2_namesToChange_78 : decode cX2_namesToChange 78 = .ok (.getfield 37, 3) := by decide +kernel
theorem dX2_namesToChange_81 : decode cX2_namesToChange 81 = .ok (.iload 5, 2) := by decide +kernel
theorem dX2_namesToChange_83 : decode cX2_namesToChange 83 = .ok (.aaload, 1) := by decide +kernel
theorem dX2_namesToChange_84 : decode cX2_namesToChange 84 = .ok (.invokevirtual 96, 3) := by decide +kernel
theorem dX2_namesToChange_87 : decode cX2_namesToChange 87 = .ok (.aload_n 0, 1) := by decide +kernel
theorem dX2_namesToChange_88 : decode cX2_namesToChange 88 = .ok (.getfield 12, 3) := by decide +kernel
theorem dX2_namesToChange_91 : decode cX2_namesToChange 91 = .ok (.iload_n 2, 1) := by decide +kernel
theorem dX2_namesToChange_92 : decode cX2_namesToChange 92 = .ok (.invokevirtual 33, 3) := by decide +kernel
theorem dX2_namesToChange_95 : decode cX2_namesToChange 95 = .ok (.aload_n 0, 1) := by decide +kernel
theorem dX2_namesToChange_96 : decode cX2_namesToChange 96 = .ok (.getfield 12, 3) := by decide +kernel
theorem dX2_namesToChange_99 : decode cX2_namesToChange 99 = .ok (.invokevirtual 90, 3) := by decide +kernel
theorem dX2_namesToChange_102 : decode cX2_namesToChange 102 = .ok (.iload 4, 2) := by decide +kernel
theorem dX2_namesToChange_104 : decode cX2_namesToChange 104 = .ok (.if_icmp .le 21, 3) := by decide +kernel
theorem dX2_namesToChange_107 : decode cX2_namesToChange 107 = .ok (.bipush 10, 2) := by decide +kernel
theorem dX2_namesToChange_109 : decode cX2_namesToChange 109 = .ok (.iload 5, 2) := by decide +kernel
theorem dX2_namesToChange_111 : decode cX2_namesToChange 111 = .ok (.imul, 1) := by decide +kernel
theorem dX2_namesToChange_112 : decode cX2_namesToChange 112 = .ok (.iload 6, 2) := by decide +kernel
theorem dX2_namesToChange_114 : decode cX2_namesToChange 114 = .ok (.iadd, 1) := by decide +kernel
theorem dX2_namesToChange_115 : decode cX2_namesToChange 115 = .ok (.istore_n 3, 1) := by decide +kernel
theorem dX2_namesToChange_116 : decode cX2_namesToChange 116 = .ok (.aload_n 0, 1) := by decide +kernel
theorem dX2_namesToChange_117 : decode cX2_namesToChange 117 = .ok (.getfield 12, 3) := by decide +kernel
theorem dX2_namesToChange_120 : decode cX2_namesToChange 120 = .ok (.invokevirtual 90, 3) := by decide +kernel
theorem dX2_namesToChange_123 : decode cX2_namesToChange 123 = .ok (.istore 4, 2) := by decide +kernel
theorem dX2_namesToChange_125 : decode cX2_namesToChange 125 = .ok (.iinc 6 1, 3) := by decide +kernel
theorem dX2_namesToChange_128 : decode cX2_namesToChange 128 = .ok (.goto (-96), 3) := by decide +kernel
theorem dX2_namesToChange_131 : decode cX2_namesToChange 131 = .ok (.iinc 5 1, 3) := by decide +kernel
theorem dX2_namesToChange_134 : decode cX2_namesToChange 134 = .ok (.goto (-117), 3) := by decide +kernel
theorem dX2_namesToChange_137 : decode cX2_namesToChange 137 = .ok (.iload_n 3, 1) := by decide +kernel
theorem dX2_namesToChange_138 : decode cX2_namesToChange 138 = .ok (.ireturn, 1) := by decide +kernel
theorem dX2_goesThatWay_0 : decode cX2_goesThatWay 0 = .ok (.iconst 0, 1) := by decide +kernel
theorem dX2_goesThatWay_1 : decode cX2_goesThatWay 1 = .ok (.istore 4, 2) := by decide +kernel
theorem dX2_goesThatWay_3 : decode cX2_goesThatWay 3 = .ok (.iload 4, 2) := by decide +kernel
theorem dX2_goesThatWay_5 : decode cX2_goesThatWay 5 = .ok (.iload_n 3, 1) := by decide +kernel
theorem dX2_goesThatWay_6 : decode cX2_goesThatWay 6 = .ok (.if_icmp .ge 50, 3) := by decide +kernel
theorem dX2_goesThatWay_9 : decode cX2_goesThatWay 9 = .ok (.iload 4, 2) := by decide +kernel
theorem dX2_goesThatWay_11 : decode cX2_goesThatWay 11 = .ok (.aload_n 2, 1) := by decide +kernel
theorem dX2_goesThatWay_12 : decode cX2_goesThatWay 12 = .ok (.arraylength, 1) := by decide +kernel
theorem dX2_goesThatWay_13 : decode cX2_goesThatWay 13 = .ok (.if_icmp .ge 43, 3) := by decide +kernel
theorem dX2_goesThatWay_16 : decode cX2_goesThatWay 16 = .ok (.iload 4, 2) := by decide +kernel
theorem dX2_goesThatWay_18 : decode cX2_goesThatWay 18 = .ok (.ifCond .le 11, 3) := by decide +kernel
theorem dX2_goesThatWay_21 : decode cX2_goesThatWay 21 = .ok (.aload_n 0, 1) := by decide +kernel
theorem dX2_goesThatWay_22 : decode cX2_goesThatWay 22 = .ok (.getfield 12, 3) := by decide +kernel
theorem dX2_goesThatWay_25 : decode cX2_goesThatWay 25 = .ok (.iconst 1, 1) := by decide +kernel
theorem dX2_goesThatWay_26 : decode cX2_goesThatWay 26 = .ok (.invokevirtual 33, 3) := by decide +kernel
theorem dX2_goesThatWay_29 : decode cX2_goesThatWay 29 = .ok (.aload_n 0, 1) := by decide +kernel
theorem dX2_goesThatWay_30 : decode cX2_goesThatWay 30 = .ok (.getfield 12, 3) := by decide +kernel
theorem dX2_goesThatWay_33 : decode cX2_goesThatWay 33 = .ok (.getfield 37, 3) := by decide +kernel
theorem dX2_goesThatWay_36 : decode cX2_goesThatWay 36 = .ok (.iload_n 1, 1) := by decide +kernel
theorem dX2_goesThatWay_37 : decode cX2_goesThatWay 37 = .ok (.aaload, 1) := by decide +kernel
theorem dX2_goesThatWay_38 : decode cX2_goesThatWay 38 = .ok (.getfield 41, 3) := by decide +kernel
theorem dX2_goesThatWay_41 : decode cX2_goesThatWay 41 = .ok (.aload_n 2, 1) := by decide +kernel
theorem dX2_goesThatWay_42 : decode cX2_goesThatWay 42 = .ok (.iload 4, 2) := by decide +kernel
theorem dX2_goesThatWay_44 : decode cX2_goesThatWay 44 = .ok (.iaload, 1) := by decide +kernel
theorem dX2_goesThatWay_45 : decode cX2_goesThatWay 45 = .ok (.if_icmp .eq 5, 3) := by decide +kernel
theorem dX2_goesThatWay_48 : decode cX2_goesThatWay 48 = .ok (.iconst 0, 1) := by decide +kernel
theorem dX2_goesThatWay_49 : decode cX2_goesThatWay 49 = .ok (.ireturn, 1) := by decide +kernel
theorem dX2_goesThatWay_50 : decode cX2_goesThatWay 50 = .ok (.iinc 4 1, 3) := by decide +kernel
theorem dX2_goesThatWay_53 : decode cX2_goesThatWay 53 = .ok (.goto (-50), 3) := by decide +kernel
theorem dX2_goesThatWay_56 : decode cX2_goesThatWay 56 = .ok (.iconst 1, 1) := by decide +kernel
theorem dX2_goesThatWay_57 : decode cX2_goesThatWay 57 = .ok (.ireturn, 1) := by decide +kernel
theorem dX2_choicesOfWay_0 : decode cX2_choicesOfWay 0 = .ok (.iload_n 3, 1) := by decide +kernel
theorem dX2_choicesOfWay_1 : decode cX2_choicesOfWay 1 = .ok (.invokestatic 73, 3) := by decide +kernel
theorem dX2_choicesOfWay_4 : decode cX2_choicesOfWay 4 = .ok (.istore 6, 2) := by decide +kernel
theorem dX2_choicesOfWay_6 : decode cX2_choicesOfWay 6 = .ok (.iconst 0, 1) := by decide +kernel
theorem dX2_choicesOfWay_7 : decode cX2_choicesOfWay 7 = .ok (.istore 7, 2) := by decide +kernel
theorem dX2_choicesOfWay_9 : decode cX2_choicesOfWay 9 = .ok (.iconst 0, 1) := by decide +kernel
theorem dX2_choicesOfWay_10 : decode cX2_choicesOfWay 10 = .ok (.istore 8, 2) := by decide +kernel
theorem dX2_choicesOfWay_12 : decode cX2_choicesOfWay 12 = .ok (.iload 8, 2) := by decide +kernel
theorem dX2_choicesOfWay_14 : decode cX2_choicesOfWay 14 = .ok (.iload 6, 2) := by decide +kernel
theorem dX2_choicesOfWay_16 : decode cX2_choicesOfWay 16 = .ok (.if_icmp .ge 44, 3) := by decide +kernel
theorem dX2_choicesOfWay_19 : decode cX2_choicesOfWay 19 = .ok (.aload_n 0, 1) := by decide +kernel
theorem dX2_choicesOfWay_20 : decode cX2_choicesOfWay 20 = .ok (.aload_n 1, 1) := by decide +kernel
theorem dX2_choicesOfWay_21 : decode cX2_choicesOfWay 21 = .ok (.invokevirtual 29, 3) := by decide +kernel
theorem dX2_choicesOfWay_24 : decode cX2_choicesOfWay 24 = .ok (.pop, 1) := by decide +kernel
theorem dX2_choicesOfWay_25 : decode cX2_choicesOfWay 25 = .ok (.aload_n 0, 1) := by decide +kernel
theorem dX2_choicesOfWay_26 : decode cX2_choicesOfWay 26 = .ok (.iload_n 2, 1) := by decide +kernel
theorem dX2_choicesOfWay_27 : decode cX2_choicesOfWay 27 = .ok (.iload_n 3, 1) := by decide +kernel
theorem dX2_choicesOfWay_28 : decode cX2_choicesOfWay 28 = .ok (.iload 8, 2) := by decide +kernel
theorem dX2_choicesOfWay_30 : decode cX2_choicesOfWay 30 = .ok (.invokevirtual 76, 3) := by decide +kernel
theorem dX2_choicesOfWay_33 : decode cX2_choicesOfWay 33 = .ok (.aload_n 0, 1) := by decide +kernel
theorem dX2_choicesOfWay_34 : decode cX2_choicesOfWay 34 = .ok (.iload_n 2, 1) := by decide +kernel
theorem dX2_choicesOfWay_35 : decode cX2_choicesOfWay 35 = .ok (.aload 4, 2) := by decide +kernel
theorem dX2_choicesOfWay_37 : decode cX2_choicesOfWay 37 = .ok (.iload 5, 2) := by decide +kernel
theorem dX2_choicesOfWay_39 : decode cX2_choicesOfWay 39 = .ok (.invokevirtual 100, 3) := by decide +kernel
theorem dX2_choicesOfWay_42 : decode cX2_choicesOfWay 42 = .ok (.ifCond .eq 12, 3) := by decide +kernel
theorem dX2_choicesOfWay_45 : decode cX2_choicesOfWay 45 = .ok (.iload 7, 2) := by decide +kernel
theorem dX2_choicesOfWay_47 : decode cX2_choicesOfWay 47 = .ok (.iconst 1, 1) := by decide +kernel
theorem dX2_choicesOfWay_48 : decode cX2_choicesOfWay 48 = .ok (.iload 8, 2) := by decide +kernel
theorem dX2_choicesOfWay_50 : decode cX2_choicesOfWay 50 = .ok (.ishl, 1) := by decide +kernel
theorem dX2_choicesOfWay_51 : decode cX2_choicesOfWay 51 = .ok (.ior, 1) := by decide +kernel
theorem dX2_choicesOfWay_52 : decode cX2_choicesOfWay 52 = .ok (.istore 7, 2) := by decide +kernel
theorem dX2_choicesOfWay_54 : decode cX2_choicesOfWay 54 = .ok (.iinc 8 1, 3) := by decide +kernel
theorem dX2_choicesOfWay_57 : decode cX2_choicesOfWay 57 = .ok (.goto (-45), 3) := by decide +kernel
theorem dX2_choicesOfWay_60 : decode cX2_choicesOfWay 60 = .ok (.iload 7, 2) := by decide +kernel
theorem dX2_choicesOfWay_62 : decode cX2_choicesOfWay 62 = .ok (.ireturn, 1) := by decide +kernel
theorem dX2_restIf_0 : decode cX2_restIf 0 = .ok (.iload_n 2, 1) := by decide +kernel
theorem dX2_restIf_1 : decode cX2_restIf 1 = .ok (.iconst 1, 1) := by decide +kernel
theorem dX2_restIf_2 : decode cX2_restIf 2 = .ok (.if_icmp .ne 10, 3) := by decide +kernel
theorem dX2_restIf_5 : decode cX2_restIf 5 = .ok (.aload_n 0, 1) := by decide +kernel
theorem dX2_restIf_6 : decode cX2_restIf 6 = .ok (.iload_n 1, 1) := by decide +kernel
theorem dX2_restIf_7 : decode cX2_restIf 7 = .ok (.iconst 2, 1) := by decide +kernel
theorem dX2_restIf_8 : decode cX2_restIf 8 = .ok (.iconst 4, 1) := by decide +kernel
theorem dX2_restIf_9 : decode cX2_restIf 9 = .ok (.invokevirtual 76, 3) := by decide +kernel
theorem dX2_restIf_12 : decode cX2_restIf 12 = .ok (.return_, 1) := by decide +kernel
theorem dX2_steadyPair_0 : decode cX2_steadyPair 0 = .ok (.iconst 0, 1) := by decide +kernel
theorem dX2_steadyPair_1 : decode cX2_steadyPair 1 = .ok (.istore 5, 2) := by decide +kernel
theorem dX2_steadyPair_3 : decode cX2_steadyPair 3 = .ok (.iload 5, 2) := by decide +kernel
theorem dX2_steadyPair_5 : decode cX2_steadyPair 5 = .ok (.iconst 4, 1) := by decide +kernel
theorem dX2_steadyPair_6 : decode cX2_steadyPair 6 = .ok (.if_icmp .ge 94, 3) := by decide +kernel
theorem dX2_steadyPair_9 : decode cX2_steadyPair 9 = .ok (.aload_n 0, 1) := by decide +kernel
theorem dX2_steadyPair_10 : decode cX2_steadyPair 10 = .ok (.aload_n 1, 1) := by decide +kernel
theorem dX2_steadyPair_11 : decode cX2_steadyPair 11 = .ok (.invokevirtual 29, 3) := by decide +kernel
theorem dX2_steadyPair_14 : decode cX2_steadyPair 14 = .ok (.pop, 1) := by decide +kernel
theorem dX2_steadyPair_15 : decode cX2_steadyPair 15 = .ok (.aload_n 0, 1) := by decide +kernel
theorem dX2_steadyPair_16 : decode cX2_steadyPair 16 = .ok (.iload_n 2, 1) := by decide +kernel
theorem dX2_steadyPair_17 : decode cX2_steadyPair 17 = .ok (.iload 5, 2) := by decide +kernel
theorem dX2_steadyPair_19 : decode cX2_steadyPair 19 = .ok (.iconst 1, 1) := by decide +kernel
theorem dX2_steadyPair_20 : decode cX2_steadyPair 20 = .ok (.ishr, 1) := by decide +kernel
theorem dX2_steadyPair_21 : decode cX2_steadyPair 21 = .ok (.invokevirtual 104, 3) := by decide +kernel
theorem dX2_steadyPair_24 : decode cX2_steadyPair 24 = .ok (.aload_n 0, 1) := by decide +kernel
theorem dX2_steadyPair_25 : decode cX2_steadyPair 25 = .ok (.iload_n 3, 1) := by decide +kernel
theorem dX2_steadyPair_26 : decode cX2_steadyPair 26 = .ok (.iload 5, 2) := by decide +kernel
theorem dX2_steadyPair_28 : decode cX2_steadyPair 28 = .ok (.iconst 1, 1) := by decide +kernel
theorem dX2_steadyPair_29 : decode cX2_steadyPair 29 = .ok (.iand, 1) := by decide +kernel
theorem dX2_steadyPair_30 : decode cX2_steadyPair 30 = .ok (.invokevirtual 104, 3) := by decide +kernel
theorem dX2_steadyPair_33 : decode cX2_steadyPair 33 = .ok (.aload_n 0, 1) := by decide +kernel
theorem dX2_steadyPair_34 : decode cX2_steadyPair 34 = .ok (.getfield 12, 3) := by decide +kernel
theorem dX2_steadyPair_37 : decode cX2_steadyPair 37 = .ok (.iload 4, 2) := by decide +kernel
theorem dX2_steadyPair_39 : decode cX2_steadyPair 39 = .ok (.invokevirtual 33, 3) := by decide +kernel
theorem dX2_steadyPair_42 : decode cX2_steadyPair 42 = .ok (.aload_n 0, 1) := by decide +kernel
theorem dX2_steadyPair_43 : decode cX2_steadyPair 43 = .ok (.getfield 18, 3) := by decide +kernel
theorem dX2_steadyPair_46 : decode cX2_steadyPair 46 = .ok (.iload 5, 2) := by decide +kernel
theorem dX2_steadyPair_48 : decode cX2_steadyPair 48 = .ok (.aload_n 0, 1) := by decide +kernel
theorem dX2_steadyPair_49 : decode cX2_steadyPair 49 = .ok (.getfield 12, 3) := by decide +kernel
theorem dX2_steadyPair_52 : decode cX2_steadyPair 52 = .ok (.getfield 37, 3) := by decide +kernel
theorem dX2_steadyPair_55 : decode cX2_steadyPair 55 = .ok (.iload_n 2, 1) := by decide +kernel
theorem dX2_steadyPair_56 : decode cX2_steadyPair 56 = .ok (.aaload, 1) := by decide +kernel
theorem dX2_steadyPair_57 : decode cX2_steadyPair 57 = .ok (.getfield 80, 3) := by decide +kernel
theorem dX2_steadyPair_60 : decode cX2_steadyPair 60 = .ok (.iconst 5, 1) := by decide +kernel
theorem dX2_steadyPair_61 : decode cX2_steadyPair 61 = .ok (.iload 5, 2) := by decide +kernel
theorem dX2_steadyPair_63 : decode cX2_steadyPair 63 = .ok (.iconst 1, 1) := by decide +kernel
theorem dX2_steadyPair_64 : decode cX2_steadyPair 64 = .ok (.ishr, 1) := by decide +kernel
theorem dX2_steadyPair_65 : decode cX2_steadyPair 65 = .ok (.imul, 1) := by decide +kernel
theorem dX2_steadyPair_66 : decode cX2_steadyPair 66 = .ok (.iadd, 1) := by decide +kernel
theorem dX2_steadyPair_67 : decode cX2_steadyPair 67 = .ok (.iastore, 1) := by decide +kernel
theorem dX2_steadyPair_68 : decode cX2_steadyPair 68 = .ok (.aload_n 0, 1) := by decide +kernel
theorem dX2_steadyPair_69 : decode cX2_steadyPair 69 = .ok (.getfield 22, 3) := by decide +kernel
theorem dX2_steadyPair_72 : decode cX2_steadyPair 72 = .ok (.iload 5, 2) := by decide +kernel
theorem dX2_steadyPair_74 : decode cX2_steadyPair 74 = .ok (.aload_n 0, 1) := by decide +kernel
theorem dX2_steadyPair_75 : decode cX2_steadyPair 75 = .ok (.getfield 12, 3) := by decide +kernel
theorem dX2_steadyPair_78 : decode cX2_steadyPair 78 = .ok (.getfield 37, 3) := by decide +kernel
theorem dX2_steadyPair_81 : decode cX2_steadyPair 81 = .ok (.iload_n 3, 1) := by decide +kernel
theorem dX2_steadyPair_82 : decode cX2_steadyPair 82 = .ok (.aaload, 1) := by decide +kernel
theorem dX2_steadyPair_83 : decode cX2_steadyPair 83 = .ok (.getfield 80, 3) := by decide +kernel
theorem dX2_steadyPair_86 : decode cX2_steadyPair 86 = .ok (.iconst 5, 1) := by decide +kernel
theorem dX2_steadyPair_87 : decode cX2_steadyPair 87 = .ok (.iload 5, 2) := by decide +kernel
theorem dX2_steadyPair_89 : decode cX2_steadyPair 89 = .ok (.iconst 1, 1) := by decide +kernel
theorem dX2_steadyPair_90 : decode cX2_steadyPair 90 = .ok (.iand, 1) := by decide +kernel
theorem dX2_steadyPair_91 : decode cX2_steadyPair 91 = .ok (.imul, 1) := by decide +kernel
theorem dX2_steadyPair_92 : decode cX2_steadyPair 92 = .ok (.iadd, 1) := by decide +kernel
theorem dX2_steadyPair_93 : decode cX2_steadyPair 93 = .ok (.iastore, 1) := by decide +kernel
theorem dX2_steadyPair_94 : decode cX2_steadyPair 94 = .ok (.iinc 5 1, 3) := by decide +kernel
theorem dX2_steadyPair_97 : decode cX2_steadyPair 97 = .ok (.goto (-94), 3) := by decide +kernel
theorem dX2_steadyPair_100 : decode cX2_steadyPair 100 = .ok (.iconst 0, 1) := by decide +kernel
theorem dX2_steadyPair_101 : decode cX2_steadyPair 101 = .ok (.istore 5, 2) := by decide +kernel
theorem dX2_steadyPair_103 : decode cX2_steadyPair 103 = .ok (.iload 5, 2) := by decide +kernel
theorem dX2_steadyPair_105 : decode cX2_steadyPair 105 = .ok (.iconst 4, 1) := by decide +kernel
theorem dX2_steadyPair_106 : decode cX2_steadyPair 106 = .ok (.if_icmp .ge 60, 3) := by decide +kernel
theorem dX2_steadyPair_109 : decode cX2_steadyPair 109 = .ok (.aload_n 0, 1) := by decide +kernel
theorem dX2_steadyPair_110 : decode cX2_steadyPair 110 = .ok (.getfield 18, 3) := by decide +kernel
theorem dX2_steadyPair_113 : decode cX2_steadyPair 113 = .ok (.iload 5, 2) := by decide +kernel
theorem dX2_steadyPair_115 : decode cX2_steadyPair 115 = .ok (.iconst 2, 1) := by decide +kernel
theorem dX2_steadyPair_116 : decode cX2_steadyPair 116 = .ok (.ixor, 1) := by decide +kernel
theorem dX2_steadyPair_117 : decode cX2_steadyPair 117 = .ok (.iaload, 1) := by decide +kernel
theorem dX2_steadyPair_118 : decode cX2_steadyPair 118 = .ok (.aload_n 0, 1) := by decide +kernel
theorem dX2_steadyPair_119 : decode cX2_steadyPair 119 = .ok (.getfield 18, 3) := by decide +kernel
theorem dX2_steadyPair_122 : decode cX2_steadyPair 122 = .ok (.iload 5, 2) := by decide +kernel
theorem dX2_steadyPair_124 : decode cX2_steadyPair 124 = .ok (.iaload, 1) := by decide +kernel
theorem dX2_steadyPair_125 : decode cX2_steadyPair 125 = .ok (.if_icmp .gt 35, 3) := by decide +kernel
theorem dX2_steadyPair_128 : decode cX2_steadyPair 128 = .ok (.aload_n 0, 1) := by decide +kernel
theorem dX2_steadyPair_129 : decode cX2_steadyPair 129 = .ok (.getfield 22, 3) := by decide +kernel
theorem dX2_steadyPair_132 : decode cX2_steadyPair 132 = .ok (.iload 5, 2) := by decide +kernel
theorem dX2_steadyPair_134 : decode cX2_steadyPair 134 = .ok (.iconst 1, 1) := by decide +kernel
theorem dX2_steadyPair_135 : decode cX2_steadyPair 135 = .ok (.ixor, 1) := by decide +kernel
theorem dX2_steadyPair_136 : decode cX2_steadyPair 136 = .ok (.iaload, 1) := by decide +kernel
theorem dX2_steadyPair_137 : decode cX2_steadyPair 137 = .ok (.aload_n 0, 1) := by decide +kernel
theorem dX2_steadyPair_138 : decode cX2_steadyPair 138 = .ok (.getfield 22, 3) := by decide +kernel
theorem dX2_steadyPair_141 : decode cX2_steadyPair 141 = .ok (.iload 5, 2) := by decide +kernel
theorem dX2_steadyPair_143 : decode cX2_steadyPair 143 = .ok (.iaload, 1) := by decide +kernel
theorem dX2_steadyPair_144 : decode cX2_steadyPair 144 = .ok (.if_icmp .gt 16, 3) := by decide +kernel
theorem dX2_steadyPair_147 : decode cX2_steadyPair 147 = .ok (.bipush 10, 2) := by decide +kernel
theorem dX2_steadyPair_149 : decode cX2_steadyPair 149 = .ok (.iload 5, 2) := by decide +kernel
theorem dX2_steadyPair_151 : decode cX2_steadyPair 151 = .ok (.iconst 1, 1) := by decide +kernel
theorem dX2_steadyPair_152 : decode cX2_steadyPair 152 = .ok (.ishr, 1) := by decide +kernel
theorem dX2_steadyPair_153 : decode cX2_steadyPair 153 = .ok (.imul, 1) := by decide +kernel
theorem dX2_steadyPair_154 : decode cX2_steadyPair 154 = .ok (.iload 5, 2) := by decide +kernel
theorem dX2_steadyPair_156 : decode cX2_steadyPair 156 = .ok (.iconst 1, 1) := by decide +kernel
theorem dX2_steadyPair_157 : decode cX2_steadyPair 157 = .ok (.iand, 1) := by decide +kernel
theorem dX2_steadyPair_158 : decode cX2_steadyPair 158 = .ok (.iadd, 1) := by decide +kernel
theorem dX2_steadyPair_159 : decode cX2_steadyPair 159 = .ok (.ireturn, 1) := by decide +kernel
theorem dX2_steadyPair_160 : decode cX2_steadyPair 160 = .ok (.iinc 5 1, 3) := by decide +kernel
theorem dX2_steadyPair_163 : decode cX2_steadyPair 163 = .ok (.goto (-60), 3) := by decide +kernel
theorem dX2_steadyPair_166 : decode cX2_steadyPair 166 = .ok (.bipush (-9), 2) := by decide +kernel
theorem dX2_steadyPair_168 : decode cX2_steadyPair 168 = .ok (.ireturn, 1) := by decide +kernel
theorem dX2_waysOnto_0 : decode cX2_waysOnto 0 = .ok (.lconst 0, 1) := by decide +kernel
theorem dX2_waysOnto_1 : decode cX2_waysOnto 1 = .ok (.lstore 6, 2) := by decide +kernel
theorem dX2_waysOnto_3 : decode cX2_waysOnto 3 = .ok (.iconst 0, 1) := by decide +kernel
theorem dX2_waysOnto_4 : decode cX2_waysOnto 4 = .ok (.istore 8, 2) := by decide +kernel
theorem dX2_waysOnto_6 : decode cX2_waysOnto 6 = .ok (.iload 8, 2) := by decide +kernel
theorem dX2_waysOnto_8 : decode cX2_waysOnto 8 = .ok (.iconst 1, 1) := by decide +kernel
theorem dX2_waysOnto_9 : decode cX2_waysOnto 9 = .ok (.iload 4, 2) := by decide +kernel
theorem dX2_waysOnto_11 : decode cX2_waysOnto 11 = .ok (.ishl, 1) := by decide +kernel
theorem dX2_waysOnto_12 : decode cX2_waysOnto 12 = .ok (.if_icmp .ge 96, 3) := by decide +kernel
theorem dX2_waysOnto_15 : decode cX2_waysOnto 15 = .ok (.aload_n 0, 1) := by decide +kernel
theorem dX2_waysOnto_16 : decode cX2_waysOnto 16 = .ok (.aload_n 1, 1) := by decide +kernel
theorem dX2_waysOnto_17 : decode cX2_waysOnto 17 = .ok (.invokevirtual 29, 3) := by decide +kernel
theorem dX2_waysOnto_20 : decode cX2_waysOnto 20 = .ok (.pop, 1) := by decide +kernel
theorem dX2_waysOnto_21 : decode cX2_waysOnto 21 = .ok (.lconst 1, 1) := by decide +kernel
theorem dX2_waysOnto_22 : decode cX2_waysOnto 22 = .ok (.lstore 9, 2) := by decide +kernel
theorem dX2_waysOnto_24 : decode cX2_waysOnto 24 = .ok (.iconst 0, 1) := by decide +kernel
theorem dX2_waysOnto_25 : decode cX2_waysOnto 25 = .ok (.istore 11, 2) := by decide +kernel
theorem dX2_waysOnto_27 : decode cX2_waysOnto 27 = .ok (.iload 11, 2) := by decide +kernel
theorem dX2_waysOnto_29 : decode cX2_waysOnto 29 = .ok (.iload 4, 2) := by decide +kernel
theorem dX2_waysOnto_31 : decode cX2_waysOnto 31 = .ok (.if_icmp .ge 48, 3) := by decide +kernel
theorem dX2_waysOnto_34 : decode cX2_waysOnto 34 = .ok (.iload 8, 2) := by decide +kernel
theorem dX2_waysOnto_36 : decode cX2_waysOnto 36 = .ok (.iload 11, 2) := by decide +kernel
theorem dX2_waysOnto_38 : decode cX2_waysOnto 38 = .ok (.ishr, 1) := by decide +kernel
theorem dX2_waysOnto_39 : decode cX2_waysOnto 39 = .ok (.iconst 1, 1) := by decide +kernel
theorem dX2_waysOnto_40 : decode cX2_waysOnto 40 = .ok (.iand, 1) := by decide +kernel
theorem dX2_waysOnto_41 : decode cX2_waysOnto 41 = .ok (.iconst 1, 1) := by decide +kernel
theorem dX2_waysOnto_42 : decode cX2_waysOnto 42 = .ok (.if_icmp .ne 13, 3) := by decide +kernel
theorem dX2_waysOnto_45 : decode cX2_waysOnto 45 = .ok (.aload_n 0, 1) := by decide +kernel
theorem dX2_waysOnto_46 : decode cX2_waysOnto 46 = .ok (.getfield 12, 3) := by decide +kernel
theorem dX2_waysOnto_49 : decode cX2_waysOnto 49 = .ok (.invokevirtual 108, 3) := by decide +kernel
theorem dX2_waysOnto_52 : decode cX2_waysOnto 52 = .ok (.goto 21, 3) := by decide +kernel
theorem dX2_waysOnto_55 : decode cX2_waysOnto 55 = .ok (.aload_n 0, 1) := by decide +kernel
theorem dX2_waysOnto_56 : decode cX2_waysOnto 56 = .ok (.getfield 12, 3) := by decide +kernel
theorem dX2_waysOnto_59 : decode cX2_waysOnto 59 = .ok (.iconst 1, 1) := by decide +kernel
theorem dX2_waysOnto_60 : decode cX2_waysOnto 60 = .ok (.invokevirtual 33, 3) := by decide +kernel
theorem dX2_waysOnto_63 : decode cX2_waysOnto 63 = .ok (.lload 9, 2) := by decide +kernel
theorem dX2_waysOnto_65 : decode cX2_waysOnto 65 = .ok (.iload 5, 2) := by decide +kernel
theorem dX2_waysOnto_67 : decode cX2_waysOnto 67 = .ok (.iconst 1, 1) := by decide +kernel
theorem dX2_waysOnto_68 : decode cX2_waysOnto 68 = .ok (.isub, 1) := by decide +kernel
theorem dX2_waysOnto_69 : decode cX2_waysOnto 69 = .ok (.i2l, 1) := by decide +kernel
theorem dX2_waysOnto_70 : decode cX2_waysOnto 70 = .ok (.lmul, 1) := by decide +kernel
theorem dX2_waysOnto_71 : decode cX2_waysOnto 71 = .ok (.lstore 9, 2) := by decide +kernel
theorem dX2_waysOnto_73 : decode cX2_waysOnto 73 = .ok (.iinc 11 1, 3) := by decide +kernel
theorem dX2_waysOnto_76 : decode cX2_waysOnto 76 = .ok (.goto (-49), 3) := by decide +kernel
theorem dX2_waysOnto_79 : decode cX2_waysOnto 79 = .ok (.aload_n 0, 1) := by decide +kernel
theorem dX2_waysOnto_80 : decode cX2_waysOnto 80 = .ok (.getfield 12, 3) := by decide +kernel
theorem dX2_waysOnto_83 : decode cX2_waysOnto 83 = .ok (.getfield 37, 3) := by decide +kernel
theorem dX2_waysOnto_86 : decode cX2_waysOnto 86 = .ok (.iload_n 2, 1) := by decide +kernel
theorem dX2_waysOnto_87 : decode cX2_waysOnto 87 = .ok (.aaload, 1) := by decide +kernel
theorem dX2_waysOnto_88 : decode cX2_waysOnto 88 = .ok (.getfield 41, 3) := by decide +kernel
theorem dX2_waysOnto_91 : decode cX2_waysOnto 91 = .ok (.iload_n 3, 1) := by decide +kernel
theorem dX2_waysOnto_92 : decode cX2_waysOnto 92 = .ok (.if_icmp .ne 10, 3) := by decide +kernel
theorem dX2_waysOnto_95 : decode cX2_waysOnto 95 = .ok (.lload 6, 2) := by decide +kernel
theorem dX2_waysOnto_97 : decode cX2_waysOnto 97 = .ok (.lload 9, 2) := by decide +kernel
theorem dX2_waysOnto_99 : decode cX2_waysOnto 99 = .ok (.ladd, 1) := by decide +kernel
theorem dX2_waysOnto_100 : decode cX2_waysOnto 100 = .ok (.lstore 6, 2) := by decide +kernel
theorem dX2_waysOnto_102 : decode cX2_waysOnto 102 = .ok (.iinc 8 1, 3) := by decide +kernel
theorem dX2_waysOnto_105 : decode cX2_waysOnto 105 = .ok (.goto (-99), 3) := by decide +kernel
theorem dX2_waysOnto_108 : decode cX2_waysOnto 108 = .ok (.lload 6, 2) := by decide +kernel
theorem dX2_waysOnto_110 : decode cX2_waysOnto 110 = .ok (.lreturn, 1) := by decide +kernel
theorem dX2_drawBelow_0 : decode cX2_drawBelow 0 = .ok (.aload_n 0, 1) := by decide +kernel
theorem dX2_drawBelow_1 : decode cX2_drawBelow 1 = .ok (.aload_n 0, 1) := by decide +kernel
theorem dX2_drawBelow_2 : decode cX2_drawBelow 2 = .ok (.getfield 111, 3) := by decide +kernel
theorem dX2_drawBelow_5 : decode cX2_drawBelow 5 = .ok (.ldc 129, 2) := by decide +kernel
theorem dX2_drawBelow_7 : decode cX2_drawBelow 7 = .ok (.imul, 1) := by decide +kernel
theorem dX2_drawBelow_8 : decode cX2_drawBelow 8 = .ok (.sipush 12345, 3) := by decide +kernel
theorem dX2_drawBelow_11 : decode cX2_drawBelow 11 = .ok (.iadd, 1) := by decide +kernel
theorem dX2_drawBelow_12 : decode cX2_drawBelow 12 = .ok (.putfield 111, 3) := by decide +kernel
theorem dX2_drawBelow_15 : decode cX2_drawBelow 15 = .ok (.aload_n 0, 1) := by decide +kernel
theorem dX2_drawBelow_16 : decode cX2_drawBelow 16 = .ok (.getfield 111, 3) := by decide +kernel
theorem dX2_drawBelow_19 : decode cX2_drawBelow 19 = .ok (.ldc 130, 2) := by decide +kernel
theorem dX2_drawBelow_21 : decode cX2_drawBelow 21 = .ok (.iand, 1) := by decide +kernel
theorem dX2_drawBelow_22 : decode cX2_drawBelow 22 = .ok (.ldc 131, 2) := by decide +kernel
theorem dX2_drawBelow_24 : decode cX2_drawBelow 24 = .ok (.idiv, 1) := by decide +kernel
theorem dX2_drawBelow_25 : decode cX2_drawBelow 25 = .ok (.istore_n 2, 1) := by decide +kernel
theorem dX2_drawBelow_26 : decode cX2_drawBelow 26 = .ok (.iload_n 1, 1) := by decide +kernel
theorem dX2_drawBelow_27 : decode cX2_drawBelow 27 = .ok (.ifCond .le 9, 3) := by decide +kernel
theorem dX2_drawBelow_30 : decode cX2_drawBelow 30 = .ok (.iload_n 2, 1) := by decide +kernel
theorem dX2_drawBelow_31 : decode cX2_drawBelow 31 = .ok (.iload_n 1, 1) := by decide +kernel
theorem dX2_drawBelow_32 : decode cX2_drawBelow 32 = .ok (.irem, 1) := by decide +kernel
theorem dX2_drawBelow_33 : decode cX2_drawBelow 33 = .ok (.goto 4, 3) := by decide +kernel
theorem dX2_drawBelow_36 : decode cX2_drawBelow 36 = .ok (.iconst 0, 1) := by decide +kernel
theorem dX2_drawBelow_37 : decode cX2_drawBelow 37 = .ok (.ireturn, 1) := by decide +kernel
theorem dX2_scatterHeads_0 : decode cX2_scatterHeads 0 = .ok (.iconst 0, 1) := by decide +kernel
theorem dX2_scatterHeads_1 : decode cX2_scatterHeads 1 = .ok (.istore_n 1, 1) := by decide +kernel
theorem dX2_scatterHeads_2 : decode cX2_scatterHeads 2 = .ok (.iload_n 1, 1) := by decide +kernel
theorem dX2_scatterHeads_3 : decode cX2_scatterHeads 3 = .ok (.aload_n 0, 1) := by decide +kernel
theorem dX2_scatterHeads_4 : decode cX2_scatterHeads 4 = .ok (.getfield 12, 3) := by decide +kernel
theorem dX2_scatterHeads_7 : decode cX2_scatterHeads 7 = .ok (.getfield 93, 3) := by decide +kernel
theorem dX2_scatterHeads_10 : decode cX2_scatterHeads 10 = .ok (.if_icmp .ge 44, 3) := by decide +kernel
theorem dX2_scatterHeads_13 : decode cX2_scatterHeads 13 = .ok (.aload_n 0, 1) := by decide +kernel
theorem dX2_scatterHeads_14 : decode cX2_scatterHeads 14 = .ok (.getfield 12, 3) := by decide +kernel
theorem dX2_scatterHeads_17 : decode cX2_scatterHeads 17 = .ok (.getfield 37, 3) := by decide +kernel
theorem dX2_scatterHeads_20 : decode cX2_scatterHeads 20 = .ok (.iload_n 1, 1) := by decide +kernel
theorem dX2_scatterHeads_21 : decode cX2_scatterHeads 21 = .ok (.aaload, 1) := by decide +kernel
theorem dX2_scatterHeads_22 : decode cX2_scatterHeads 22 = .ok (.aload_n 0, 1) := by decide +kernel
theorem dX2_scatterHeads_23 : decode cX2_scatterHeads 23 = .ok (.bipush 48, 2) := by decide +kernel
theorem dX2_scatterHeads_25 : decode cX2_scatterHeads 25 = .ok (.invokevirtual 123, 3) := by decide +kernel
theorem dX2_scatterHeads_28 : decode cX2_scatterHeads 28 = .ok (.putfield 41, 3) := by decide +kernel
theorem dX2_scatterHeads_31 : decode cX2_scatterHeads 31 = .ok (.aload_n 0, 1) := by decide +kernel
theorem dX2_scatterHeads_32 : decode cX2_scatterHeads 32 = .ok (.getfield 12, 3) := by decide +kernel
theorem dX2_scatterHeads_35 : decode cX2_scatterHeads 35 = .ok (.getfield 37, 3) := by decide +kernel
theorem dX2_scatterHeads_38 : decode cX2_scatterHeads 38 = .ok (.iload_n 1, 1) := by decide +kernel
theorem dX2_scatterHeads_39 : decode cX2_scatterHeads 39 = .ok (.aaload, 1) := by decide +kernel
theorem dX2_scatterHeads_40 : decode cX2_scatterHeads 40 = .ok (.aload_n 0, 1) := by decide +kernel
theorem dX2_scatterHeads_41 : decode cX2_scatterHeads 41 = .ok (.iconst 4, 1) := by decide +kernel
theorem dX2_scatterHeads_42 : decode cX2_scatterHeads 42 = .ok (.invokevirtual 123, 3) := by decide +kernel
theorem dX2_scatterHeads_45 : decode cX2_scatterHeads 45 = .ok (.putfield 126, 3) := by decide +kernel
theorem dX2_scatterHeads_48 : decode cX2_scatterHeads 48 = .ok (.iinc 1 1, 3) := by decide +kernel
theorem dX2_scatterHeads_51 : decode cX2_scatterHeads 51 = .ok (.goto (-49), 3) := by decide +kernel
theorem dX2_scatterHeads_54 : decode cX2_scatterHeads 54 = .ok (.return_, 1) := by decide +kernel
theorem dX2_playGames_0 : decode cX2_playGames 0 = .ok (.iconst 0, 1) := by decide +kernel
theorem dX2_playGames_1 : decode cX2_playGames 1 = .ok (.istore 5, 2) := by decide +kernel
theorem dX2_playGames_3 : decode cX2_playGames 3 = .ok (.iconst 0, 1) := by decide +kernel
theorem dX2_playGames_4 : decode cX2_playGames 4 = .ok (.istore 6, 2) := by decide +kernel
theorem dX2_playGames_6 : decode cX2_playGames 6 = .ok (.aload_n 0, 1) := by decide +kernel
theorem dX2_playGames_7 : decode cX2_playGames 7 = .ok (.iload_n 3, 1) := by decide +kernel
theorem dX2_playGames_8 : decode cX2_playGames 8 = .ok (.putfield 111, 3) := by decide +kernel
theorem dX2_playGames_11 : decode cX2_playGames 11 = .ok (.iconst 0, 1) := by decide +kernel
theorem dX2_playGames_12 : decode cX2_playGames 12 = .ok (.istore 7, 2) := by decide +kernel
theorem dX2_playGames_14 : decode cX2_playGames 14 = .ok (.iload 7, 2) := by decide +kernel
theorem dX2_playGames_16 : decode cX2_playGames 16 = .ok (.iload_n 2, 1) := by decide +kernel
theorem dX2_playGames_17 : decode cX2_playGames 17 = .ok (.if_icmp .ge 68, 3) := by decide +kernel
theorem dX2_playGames_20 : decode cX2_playGames 20 = .ok (.aload_n 0, 1) := by decide +kernel
theorem dX2_playGames_21 : decode cX2_playGames 21 = .ok (.aload_n 1, 1) := by decide +kernel
theorem dX2_playGames_22 : decode cX2_playGames 22 = .ok (.invokevirtual 29, 3) := by decide +kernel
theorem dX2_playGames_25 : decode cX2_playGames 25 = .ok (.pop, 1) := by decide +kernel
theorem dX2_playGames_26 : decode cX2_playGames 26 = .ok (.aload_n 0, 1) := by decide +kernel
theorem dX2_playGames_27 : decode cX2_playGames 27 = .ok (.invokevirtual 114, 3) := by decide +kernel
theorem dX2_playGames_30 : decode cX2_playGames 30 = .ok (.aload_n 0, 1) := by decide +kernel
theorem dX2_playGames_31 : decode cX2_playGames 31 = .ok (.getfield 12, 3) := by decide +kernel
theorem dX2_playGames_34 : decode cX2_playGames 34 = .ok (.bipush 12, 2) := by decide +kernel
theorem dX2_playGames_36 : decode cX2_playGames 36 = .ok (.invokevirtual 33, 3) := by decide +kernel
theorem dX2_playGames_39 : decode cX2_playGames 39 = .ok (.iload 5, 2) := by decide +kernel
theorem dX2_playGames_41 : decode cX2_playGames 41 = .ok (.aload_n 0, 1) := by decide +kernel
theorem dX2_playGames_42 : decode cX2_playGames 42 = .ok (.getfield 12, 3) := by decide +kernel
theorem dX2_playGames_45 : decode cX2_playGames 45 = .ok (.getfield 117, 3) := by decide +kernel
theorem dX2_playGames_48 : decode cX2_playGames 48 = .ok (.aload_n 1, 1) := by decide +kernel
theorem dX2_playGames_49 : decode cX2_playGames 49 = .ok (.getfield 117, 3) := by decide +kernel
theorem dX2_playGames_52 : decode cX2_playGames 52 = .ok (.isub, 1) := by decide +kernel
theorem dX2_playGames_53 : decode cX2_playGames 53 = .ok (.iadd, 1) := by decide +kernel
theorem dX2_playGames_54 : decode cX2_playGames 54 = .ok (.istore 5, 2) := by decide +kernel
theorem dX2_playGames_56 : decode cX2_playGames 56 = .ok (.iload 6, 2) := by decide +kernel
theorem dX2_playGames_58 : decode cX2_playGames 58 = .ok (.aload_n 0, 1) := by decide +kernel
theorem dX2_playGames_59 : decode cX2_playGames 59 = .ok (.getfield 12, 3) := by decide +kernel
theorem dX2_playGames_62 : decode cX2_playGames 62 = .ok (.invokevirtual 51, 3) := by decide +kernel
theorem dX2_playGames_65 : decode cX2_playGames 65 = .ok (.invokestatic 120, 3) := by decide +kernel
theorem dX2_playGames_68 : decode cX2_playGames 68 = .ok (.aload_n 1, 1) := by decide +kernel
theorem dX2_playGames_69 : decode cX2_playGames 69 = .ok (.invokevirtual 51, 3) := by decide +kernel
theorem dX2_playGames_72 : decode cX2_playGames 72 = .ok (.invokestatic 120, 3) := by decide +kernel
theorem dX2_playGames_75 : decode cX2_playGames 75 = .ok (.isub, 1) := by decide +kernel
theorem dX2_playGames_76 : decode cX2_playGames 76 = .ok (.iadd, 1) := by decide +kernel
theorem dX2_playGames_77 : decode cX2_playGames 77 = .ok (.istore 6, 2) := by decide +kernel
theorem dX2_playGames_79 : decode cX2_playGames 79 = .ok (.iinc 7 1, 3) := by decide +kernel
theorem dX2_playGames_82 : decode cX2_playGames 82 = .ok (.goto (-68), 3) := by decide +kernel
theorem dX2_playGames_85 : decode cX2_playGames 85 = .ok (.iload 4, 2) := by decide +kernel
theorem dX2_playGames_87 : decode cX2_playGames 87 = .ok (.ifCond .eq 8, 3) := by decide +kernel
theorem dX2_playGames_90 : decode cX2_playGames 90 = .ok (.iload 6, 2) := by decide +kernel
theorem dX2_playGames_92 : decode cX2_playGames 92 = .ok (.goto 5, 3) := by decide +kernel
theorem dX2_playGames_95 : decode cX2_playGames 95 = .ok (.iload 5, 2) := by decide +kernel
theorem dX2_playGames_97 : decode cX2_playGames 97 = .ok (.ireturn, 1) := by decide +kernel
theorem dX3_keep_0 : decode cX3_keep 0 = .ok (.aload_n 0, 1) := by decide +kernel
theorem dX3_keep_1 : decode cX3_keep 1 = .ok (.getfield 11, 3) := by decide +kernel
theorem dX3_keep_4 : decode cX3_keep 4 = .ok (.aload_n 0, 1) := by decide +kernel
theorem dX3_keep_5 : decode cX3_keep 5 = .ok (.getfield 16, 3) := by decide +kernel
theorem dX3_keep_8 : decode cX3_keep 8 = .ok (.aaload, 1) := by decide +kernel
theorem dX3_keep_9 : decode cX3_keep 9 = .ok (.aload_n 1, 1) := by decide +kernel
theorem dX3_keep_10 : decode cX3_keep 10 = .ok (.invokevirtual 20, 3) := by decide +kernel
theorem dX3_keep_13 : decode cX3_keep 13 = .ok (.aload_n 0, 1) := by decide +kernel
theorem dX3_keep_14 : decode cX3_keep 14 = .ok (.aload_n 0, 1) := by decide +kernel
theorem dX3_keep_15 : decode cX3_keep 15 = .ok (.getfield 16, 3) := by decide +kernel
theorem dX3_keep_18 : decode cX3_keep 18 = .ok (.iconst 1, 1) := by decide +kernel
theorem dX3_keep_19 : decode cX3_keep 19 = .ok (.iadd, 1) := by decide +kernel
theorem dX3_keep_20 : decode cX3_keep 20 = .ok (.bipush 8, 2) := by decide +kernel
theorem dX3_keep_22 : decode cX3_keep 22 = .ok (.irem, 1) := by decide +kernel
theorem dX3_keep_23 : decode cX3_keep 23 = .ok (.putfield 16, 3) := by decide +kernel
theorem dX3_keep_26 : decode cX3_keep 26 = .ok (.aload_n 0, 1) := by decide +kernel
theorem dX3_keep_27 : decode cX3_keep 27 = .ok (.aload_n 0, 1) := by decide +kernel
theorem dX3_keep_28 : decode cX3_keep 28 = .ok (.getfield 24, 3) := by decide +kernel
theorem dX3_keep_31 : decode cX3_keep 31 = .ok (.iconst 1, 1) := by decide +kernel
theorem dX3_keep_32 : decode cX3_keep 32 = .ok (.iadd, 1) := by decide +kernel
theorem dX3_keep_33 : decode cX3_keep 33 = .ok (.bipush 8, 2) := by decide +kernel
theorem dX3_keep_35 : decode cX3_keep 35 = .ok (.invokestatic 27, 3) := by decide +kernel
theorem dX3_keep_38 : decode cX3_keep 38 = .ok (.putfield 24, 3) := by decide +kernel
theorem dX3_keep_41 : decode cX3_keep 41 = .ok (.return_, 1) := by decide +kernel
theorem dX3_takeBack_0 : decode cX3_takeBack 0 = .ok (.aload_n 0, 1) := by decide +kernel
theorem dX3_takeBack_1 : decode cX3_takeBack 1 = .ok (.getfield 24, 3) := by decide +kernel
theorem dX3_takeBack_4 : decode cX3_takeBack 4 = .ok (.ifCond .le 42, 3) := by decide +kernel
theorem dX3_takeBack_7 : decode cX3_takeBack 7 = .ok (.aload_n 0, 1) := by decide +kernel
theorem dX3_takeBack_8 : decode cX3_takeBack 8 = .ok (.aload_n 0, 1) := by decide +kernel
theorem dX3_takeBack_9 : decode cX3_takeBack 9 = .ok (.getfield 16, 3) := by decide +kernel
theorem dX3_takeBack_12 : decode cX3_takeBack 12 = .ok (.bipush 8, 2) := by decide +kernel
theorem dX3_takeBack_14 : decode cX3_takeBack 14 = .ok (.iadd, 1) := by decide +kernel
theorem dX3_takeBack_15 : decode cX3_takeBack 15 = .ok (.iconst 1, 1) := by decide +kernel
theorem dX3_takeBack_16 : decode cX3_takeBack 16 = .ok (.isub, 1) := by decide +kernel
theorem dX3_takeBack_17 : decode cX3_takeBack 17 = .ok (.bipush 8, 2) := by decide +kernel
theorem dX3_takeBack_19 : decode cX3_takeBack 19 = .ok (.irem, 1) := by decide +kernel
theorem dX3_takeBack_20 : decode cX3_takeBack 20 = .ok (.putfield 16, 3) := by decide +kernel
theorem dX3_takeBack_23 : decode cX3_takeBack 23 = .ok (.aload_n 1, 1) := by decide +kernel
theorem dX3_takeBack_24 : decode cX3_takeBack 24 = .ok (.aload_n 0, 1) := by decide +kernel
theorem dX3_takeBack_25 : decode cX3_takeBack 25 = .ok (.getfield 11, 3) := by decide +kernel
theorem dX3_takeBack_28 : decode cX3_takeBack 28 = .ok (.aload_n 0, 1) := by decide +kernel
theorem dX3_takeBack_29 : decode cX3_takeBack 29 = .ok (.getfield 16, 3) := by decide +kernel
theorem dX3_takeBack_32 : decode cX3_takeBack 32 = .ok (.aaload, 1) := by decide +kernel
theorem dX3_takeBack_33 : decode cX3_takeBack 33 = .ok (.invokevirtual 20, 3) := by decide +kernel
theorem dX3_takeBack_36 : decode cX3_takeBack 36 = .ok (.aload_n 0, 1) := by decide +kernel
theorem dX3_takeBack_37 : decode cX3_takeBack 37 = .ok (.dup, 1) := by decide +kernel
theorem dX3_takeBack_38 : decode cX3_takeBack 38 = .ok (.getfield 24, 3) := by decide +kernel
theorem dX3_takeBack_41 : decode cX3_takeBack 41 = .ok (.iconst 1, 1) := by decide +kernel
theorem dX3_takeBack_42 : decode cX3_takeBack 42 = .ok (.isub, 1) := by decide +kernel
theorem dX3_takeBack_43 : decode cX3_takeBack 43 = .ok (.putfield 24, 3) := by decide +kernel
theorem dX3_takeBack_46 : decode cX3_takeBack 46 = .ok (.return_, 1) := by decide +kernel
theorem dX3_forget_0 : decode cX3_forget 0 = .ok (.aload_n 0, 1) := by decide +kernel
theorem dX3_forget_1 : decode cX3_forget 1 = .ok (.iconst 0, 1) := by decide +kernel
theorem dX3_forget_2 : decode cX3_forget 2 = .ok (.putfield 24, 3) := by decide +kernel
theorem dX3_forget_5 : decode cX3_forget 5 = .ok (.return_, 1) := by decide +kernel
theorem dX4_isFull_0 : decode cX4_isFull 0 = .ok (.aload_n 0, 1) := by decide +kernel
theorem dX4_isFull_1 : decode cX4_isFull 1 = .ok (.getfield 21, 3) := by decide +kernel
theorem dX4_isFull_4 : decode cX4_isFull 4 = .ok (.bipush 96, 2) := by decide +kernel
theorem dX4_isFull_6 : decode cX4_isFull 6 = .ok (.if_icmp .lt 7, 3) := by decide +kernel
theorem dX4_isFull_9 : decode cX4_isFull 9 = .ok (.iconst 1, 1) := by decide +kernel
theorem dX4_isFull_10 : decode cX4_isFull 10 = .ok (.goto 4, 3) := by decide +kernel
theorem dX4_isFull_13 : decode cX4_isFull 13 = .ok (.iconst 0, 1) := by decide +kernel
theorem dX4_isFull_14 : decode cX4_isFull 14 = .ok (.ireturn, 1) := by decide +kernel
theorem dX4_addLetter_0 : decode cX4_addLetter 0 = .ok (.aload_n 0, 1) := by decide +kernel
theorem dX4_addLetter_1 : decode cX4_addLetter 1 = .ok (.invokevirtual 25, 3) := by decide +kernel
theorem dX4_addLetter_4 : decode cX4_addLetter 4 = .ok (.ifCond .ne 23, 3) := by decide +kernel
theorem dX4_addLetter_7 : decode cX4_addLetter 7 = .ok (.aload_n 0, 1) := by decide +kernel
theorem dX4_addLetter_8 : decode cX4_addLetter 8 = .ok (.getfield 11, 3) := by decide +kernel
theorem dX4_addLetter_11 : decode cX4_addLetter 11 = .ok (.aload_n 0, 1) := by decide +kernel
theorem dX4_addLetter_12 : decode cX4_addLetter 12 = .ok (.getfield 21, 3) := by decide +kernel
theorem dX4_addLetter_15 : decode cX4_addLetter 15 = .ok (.iload_n 1, 1) := by decide +kernel
theorem dX4_addLetter_16 : decode cX4_addLetter 16 = .ok (.iastore, 1) := by decide +kernel
theorem dX4_addLetter_17 : decode cX4_addLetter 17 = .ok (.aload_n 0, 1) := by decide +kernel
theorem dX4_addLetter_18 : decode cX4_addLetter 18 = .ok (.dup, 1) := by decide +kernel
theorem dX4_addLetter_19 : decode cX4_addLetter 19 = .ok (.getfield 21, 3) := by decide +kernel
theorem dX4_addLetter_22 : decode cX4_addLetter 22 = .ok (.iconst 1, 1) := by decide +kernel
theorem dX4_addLetter_23 : decode cX4_addLetter 23 = .ok (.iadd, 1) := by decide +kernel
theorem dX4_addLetter_24 : decode cX4_addLetter 24 = .ok (.putfield 21, 3) := by decide +kernel
theorem dX4_addLetter_27 : decode cX4_addLetter 27 = .ok (.aload_n 0, 1) := by decide +kernel
theorem dX4_addLetter_28 : decode cX4_addLetter 28 = .ok (.getfield 21, 3) := by decide +kernel
theorem dX4_addLetter_31 : decode cX4_addLetter 31 = .ok (.ireturn, 1) := by decide +kernel
theorem dX4_forget_0 : decode cX4_forget 0 = .ok (.aload_n 0, 1) := by decide +kernel
theorem dX4_forget_1 : decode cX4_forget 1 = .ok (.iconst 0, 1) := by decide +kernel
theorem dX4_forget_2 : decode cX4_forget 2 = .ok (.putfield 21, 3) := by decide +kernel
theorem dX4_forget_5 : decode cX4_forget 5 = .ok (.return_, 1) := by decide +kernel
theorem dX4_isLetter_0 : decode cX4_isLetter 0 = .ok (.iload_n 0, 1) := by decide +kernel
theorem dX4_isLetter_1 : decode cX4_isLetter 1 = .ok (.bipush 97, 2) := by decide +kernel
theorem dX4_isLetter_3 : decode cX4_isLetter 3 = .ok (.if_icmp .lt 13, 3) := by decide +kernel
theorem dX4_isLetter_6 : decode cX4_isLetter 6 = .ok (.iload_n 0, 1) := by decide +kernel
theorem dX4_isLetter_7 : decode cX4_isLetter 7 = .ok (.bipush 122, 2) := by decide +kernel
theorem dX4_isLetter_9 : decode cX4_isLetter 9 = .ok (.if_icmp .gt 7, 3) := by decide +kernel
theorem dX4_isLetter_12 : decode cX4_isLetter 12 = .ok (.iconst 1, 1) := by decide +kernel
theorem dX4_isLetter_13 : decode cX4_isLetter 13 = .ok (.goto 4, 3) := by decide +kernel
theorem dX4_isLetter_16 : decode cX4_isLetter 16 = .ok (.iconst 0, 1) := by decide +kernel
theorem dX4_isLetter_17 : decode cX4_isLetter 17 = .ok (.ireturn, 1) := by decide +kernel
theorem dX4_isDigit_0 : decode cX4_isDigit 0 = .ok (.iload_n 0, 1) := by decide +kernel
theorem dX4_isDigit_1 : decode cX4_isDigit 1 = .ok (.bipush 48, 2) := by decide +kernel
theorem dX4_isDigit_3 : decode cX4_isDigit 3 = .ok (.if_icmp .lt 13, 3) := by decide +kernel
theorem dX4_isDigit_6 : decode cX4_isDigit 6 = .ok (.iload_n 0, 1) := by decide +kernel
theorem dX4_isDigit_7 : decode cX4_isDigit 7 = .ok (.bipush 57, 2) := by decide +kernel
theorem dX4_isDigit_9 : decode cX4_isDigit 9 = .ok (.if_icmp .gt 7, 3) := by decide +kernel
theorem dX4_isDigit_12 : decode cX4_isDigit 12 = .ok (.iconst 1, 1) := by decide +kernel
theorem dX4_isDigit_13 : decode cX4_isDigit 13 = .ok (.goto 4, 3) := by decide +kernel
theorem dX4_isDigit_16 : decode cX4_isDigit 16 = .ok (.iconst 0, 1) := by decide +kernel
theorem dX4_isDigit_17 : decode cX4_isDigit 17 = .ok (.ireturn, 1) := by decide +kernel
theorem dX4_placeOfBadForm_0 : decode cX4_placeOfBadForm 0 = .ok (.iconst 0, 1) := by decide +kernel
theorem dX4_placeOfBadForm_1 : decode cX4_placeOfBadForm 1 = .ok (.istore_n 1, 1) := by decide +kernel
theorem dX4_placeOfBadForm_2 : decode cX4_placeOfBadForm 2 = .ok (.iconst 0, 1) := by decide +kernel
theorem dX4_placeOfBadForm_3 : decode cX4_placeOfBadForm 3 = .ok (.istore_n 2, 1) := by decide +kernel
theorem dX4_placeOfBadForm_4 : decode cX4_placeOfBadForm 4 = .ok (.iconst 0, 1) := by decide +kernel
theorem dX4_placeOfBadForm_5 : decode cX4_placeOfBadForm 5 = .ok (.istore_n 3, 1) := by decide +kernel
theorem dX4_placeOfBadForm_6 : decode cX4_placeOfBadForm 6 = .ok (.iconst 0, 1) := by decide +kernel
theorem dX4_placeOfBadForm_7 : decode cX4_placeOfBadForm 7 = .ok (.istore 4, 2) := by decide +kernel
theorem dX4_placeOfBadForm_9 : decode cX4_placeOfBadForm 9 = .ok (.iload 4, 2) := by decide +kernel
theorem dX4_placeOfBadForm_11 : decode cX4_placeOfBadForm 11 = .ok (.aload_n 0, 1) := by decide +kernel
theorem dX4_placeOfBadForm_12 : decode cX4_placeOfBadForm 12 = .ok (.getfield 21, 3) := by decide +kernel
theorem dX4_placeOfBadForm_15 : decode cX4_placeOfBadForm 15 = .ok (.if_icmp .ge 130, 3) := by decide +kernel
theorem dX4_placeOfBadForm_18 : decode cX4_placeOfBadForm 18 = .ok (.aload_n 0, 1) := by decide +kernel
theorem dX4_placeOfBadForm_19 : decode cX4_placeOfBadForm 19 = .ok (.getfield 11, 3) := by decide +kernel
theorem dX4_placeOfBadForm_22 : decode cX4_placeOfBadForm 22 = .ok (.iload 4, 2) := by decide +kernel
theorem dX4_placeOfBadForm_24 : decode cX4_placeOfBadForm 24 = .ok (.iaload, 1) := by decide +kernel
theorem dX4_placeOfBadForm_25 : decode cX4_placeOfBadForm 25 = .ok (.istore 5, 2) := by decide +kernel
theorem dX4_placeOfBadForm_27 : decode cX4_placeOfBadForm 27 = .ok (.iload 5, 2) := by decide +kernel
theorem dX4_placeOfBadForm_29 : decode cX4_placeOfBadForm 29 = .ok (.invokestatic 29, 3) := by decide +kernel
theorem dX4_placeOfBadForm_32 : decode cX4_placeOfBadForm 32 = .ok (.ifCond .eq 25, 3) := by decide +kernel
theorem dX4_placeOfBadForm_35 : decode cX4_placeOfBadForm 35 = .ok (.iload_n 2, 1) := by decide +kernel
theorem dX4_placeOfBadForm_36 : decode cX4_placeOfBadForm 36 = .ok (.bipush 7, 2) := by decide +kernel
theorem dX4_placeOfBadForm_38 : decode cX4_placeOfBadForm 38 = .ok (.if_icmp .ge 19, 3) := by decide +kernel
theorem dX4_placeOfBadForm_41 : decode cX4_placeOfBadForm 41 = .ok (.iload_n 2, 1) := by decide +kernel
theorem dX4_placeOfBadForm_42 : decode cX4_placeOfBadForm 42 = .ok (.ifCond .eq 7, 3) := by decide +kernel
theorem dX4_placeOfBadForm_45 : decode cX4_placeOfBadForm 45 = .ok (.iload_n 3, 1) := by decide +kernel
theorem dX4_placeOfBadForm_46 : decode cX4_placeOfBadForm 46 = .ok (.ifCond .ne 11, 3) := by decide +kernel
theorem dX4_placeOfBadForm_49 : decode cX4_placeOfBadForm 49 = .ok (.iconst 0, 1) := by decide +kernel
theorem dX4_placeOfBadForm_50 : decode cX4_placeOfBadForm 50 = .ok (.istore_n 3, 1) := by decide +kernel
theorem dX4_placeOfBadForm_51 : decode cX4_placeOfBadForm 51 = .ok (.iinc 2 1, 3) := by decide +kernel
theorem dX4_placeOfBadForm_54 : decode cX4_placeOfBadForm 54 = .ok (.goto 85, 3) := by decide +kernel
theorem dX4_placeOfBadForm_57 : decode cX4_placeOfBadForm 57 = .ok (.iload 5, 2) := by decide +kernel
theorem dX4_placeOfBadForm_59 : decode cX4_placeOfBadForm 59 = .ok (.invokestatic 33, 3) := by decide +kernel
theorem dX4_placeOfBadForm_62 : decode cX4_placeOfBadForm 62 = .ok (.ifCond .eq 28, 3) := by decide +kernel
theorem dX4_placeOfBadForm_65 : decode cX4_placeOfBadForm 65 = .ok (.iload_n 1, 1) := by decide +kernel
theorem dX4_placeOfBadForm_66 : decode cX4_placeOfBadForm 66 = .ok (.ifCond .le 24, 3) := by decide +kernel
theorem dX4_placeOfBadForm_69 : decode cX4_placeOfBadForm 69 = .ok (.iload_n 2, 1) := by decide +kernel
theorem dX4_placeOfBadForm_70 : decode cX4_placeOfBadForm 70 = .ok (.iconst 2, 1) := by decide +kernel
theorem dX4_placeOfBadForm_71 : decode cX4_placeOfBadForm 71 = .ok (.if_icmp .ge 19, 3) := by decide +kernel
theorem dX4_placeOfBadForm_74 : decode cX4_placeOfBadForm 74 = .ok (.iload_n 2, 1) := by decide +kernel
theorem dX4_placeOfBadForm_75 : decode cX4_placeOfBadForm 75 = .ok (.ifCond .eq 7, 3) := by decide +kernel
theorem dX4_placeOfBadForm_78 : decode cX4_placeOfBadForm 78 = .ok (.iload_n 3, 1) := by decide +kernel
theorem dX4_placeOfBadForm_79 : decode cX4_placeOfBadForm 79 = .ok (.ifCond .eq 11, 3) := by decide +kernel
theorem dX4_placeOfBadForm_82 : decode cX4_placeOfBadForm 82 = .ok (.iconst 1, 1) := by decide +kernel
theorem dX4_placeOfBadForm_83 : decode cX4_placeOfBadForm 83 = .ok (.istore_n 3, 1) := by decide +kernel
theorem dX4_placeOfBadForm_84 : decode cX4_placeOfBadForm 84 = .ok (.iinc 2 1, 3) := by decide +kernel
theorem dX4_placeOfBadForm_87 : decode cX4_placeOfBadForm 87 = .ok (.goto 52, 3) := by decide +kernel
theorem dX4_placeOfBadForm_90 : decode cX4_placeOfBadForm 90 = .ok (.iload 5, 2) := by decide +kernel
theorem dX4_placeOfBadForm_92 : decode cX4_placeOfBadForm 92 = .ok (.bipush 32, 2) := by decide +kernel
theorem dX4_placeOfBadForm_94 : decode cX4_placeOfBadForm 94 = .ok (.if_icmp .ne 20, 3) := by decide +kernel
theorem dX4_placeOfBadForm_97 : decode cX4_placeOfBadForm 97 = .ok (.iload_n 2, 1) := by decide +kernel
theorem dX4_placeOfBadForm_98 : decode cX4_placeOfBadForm 98 = .ok (.ifCond .le 16, 3) := by decide +kernel
theorem dX4_placeOfBadForm_101 : decode cX4_placeOfBadForm 101 = .ok (.iload_n 1, 1) := by decide +kernel
theorem dX4_placeOfBadForm_102 : decode cX4_placeOfBadForm 102 = .ok (.iconst 3, 1) := by decide +kernel
theorem dX4_placeOfBadForm_103 : decode cX4_placeOfBadForm 103 = .ok (.if_icmp .ge 11, 3) := by decide +kernel
theorem dX4_placeOfBadForm_106 : decode cX4_placeOfBadForm 106 = .ok (.iinc 1 1, 3) := by decide +kernel
theorem dX4_placeOfBadForm_109 : decode cX4_placeOfBadForm 109 = .ok (.iconst 0, 1) := by decide +kernel
theorem dX4_placeOfBadForm_110 : decode cX4_placeOfBadForm 110 = .ok (.istore_n 2, 1) := by decide +kernel
theorem dX4_placeOfBadForm_111 : decode cX4_placeOfBadForm 111 = .ok (.goto 28, 3) := by decide +kernel
theorem dX4_placeOfBadForm_114 : decode cX4_placeOfBadForm 114 = .ok (.iload 5, 2) := by decide +kernel
theorem dX4_placeOfBadForm_116 : decode cX4_placeOfBadForm 116 = .ok (.bipush 59, 2) := by decide +kernel
theorem dX4_placeOfBadForm_118 : decode cX4_placeOfBadForm 118 = .ok (.if_icmp .ne 18, 3) := by decide +kernel
theorem dX4_placeOfBadForm_121 : decode cX4_placeOfBadForm 121 = .ok (.iload_n 2, 1) := by decide +kernel
theorem dX4_placeOfBadForm_122 : decode cX4_placeOfBadForm 122 = .ok (.ifCond .le 14, 3) := by decide +kernel
theorem dX4_placeOfBadForm_125 : decode cX4_placeOfBadForm 125 = .ok (.iload_n 1, 1) := by decide +kernel
theorem dX4_placeOfBadForm_126 : decode cX4_placeOfBadForm 126 = .ok (.ifCond .le 10, 3) := by decide +kernel
theorem dX4_placeOfBadForm_129 : decode cX4_placeOfBadForm 129 = .ok (.iconst 0, 1) := by decide +kernel
theorem dX4_placeOfBadForm_130 : decode cX4_placeOfBadForm 130 = .ok (.istore_n 1, 1) := by decide +kernel
theorem dX4_placeOfBadForm_131 : decode cX4_placeOfBadForm 131 = .ok (.iconst 0, 1) := by decide +kernel
theorem dX4_placeOfBadForm_132 : decode cX4_placeOfBadForm 132 = .ok (.istore_n 2, 1) := by decide +kernel
theorem dX4_placeOfBadForm_133 : decode cX4_placeOfBadForm 133 = .ok (.goto 6, 3) := by decide +kernel
theorem dX4_placeOfBadForm_136 : decode cX4_placeOfBadForm 136 = .ok (.iload 4, 2) := by decide +kernel
theorem dX4_placeOfBadForm_138 : decode cX4_placeOfBadForm 138 = .ok (.ireturn, 1) := by decide +kernel
theorem dX4_placeOfBadForm_139 : decode cX4_placeOfBadForm 139 = .ok (.iinc 4 1, 3) := by decide +kernel
theorem dX4_placeOfBadForm_142 : decode cX4_placeOfBadForm 142 = .ok (.goto (-133), 3) := by decide +kernel
theorem dX4_placeOfBadForm_145 : decode cX4_placeOfBadForm 145 = .ok (.aload_n 0, 1) := by decide +kernel
theorem dX4_placeOfBadForm_146 : decode cX4_placeOfBadForm 146 = .ok (.getfield 21, 3) := by decide +kernel
theorem dX4_placeOfBadForm_149 : decode cX4_placeOfBadForm 149 = .ok (.ifCond .le 15, 3) := by decide +kernel
theorem dX4_placeOfBadForm_152 : decode cX4_placeOfBadForm 152 = .ok (.iload_n 1, 1) := by decide +kernel
theorem dX4_placeOfBadForm_153 : decode cX4_placeOfBadForm 153 = .ok (.ifCond .ne 11, 3) := by decide +kernel
theorem dX4_placeOfBadForm_156 : decode cX4_placeOfBadForm 156 = .ok (.iload_n 2, 1) := by decide +kernel
theorem dX4_placeOfBadForm_157 : decode cX4_placeOfBadForm 157 = .ok (.ifCond .ne 7, 3) := by decide +kernel
theorem dX4_placeOfBadForm_160 : decode cX4_placeOfBadForm 160 = .ok (.iconst 1, 1) := by decide +kernel
theorem dX4_placeOfBadForm_161 : decode cX4_placeOfBadForm 161 = .ok (.goto 4, 3) := by decide +kernel
theorem dX4_placeOfBadForm_164 : decode cX4_placeOfBadForm 164 = .ok (.iconst 0, 1) := by decide +kernel
theorem dX4_placeOfBadForm_165 : decode cX4_placeOfBadForm 165 = .ok (.istore 4, 2) := by decide +kernel
theorem dX4_placeOfBadForm_167 : decode cX4_placeOfBadForm 167 = .ok (.iload 4, 2) := by decide +kernel
theorem dX4_placeOfBadForm_169 : decode cX4_placeOfBadForm 169 = .ok (.ifCond .eq 7, 3) := by decide +kernel
theorem dX4_placeOfBadForm_172 : decode cX4_placeOfBadForm 172 = .ok (.iconst (-1), 1) := by decide +kernel
theorem dX4_placeOfBadForm_173 : decode cX4_placeOfBadForm 173 = .ok (.goto 7, 3) := by decide +kernel
theorem dX4_placeOfBadForm_176 : decode cX4_placeOfBadForm 176 = .ok (.aload_n 0, 1) := by decide +kernel
theorem dX4_placeOfBadForm_177 : decode cX4_placeOfBadForm 177 = .ok (.getfield 21, 3) := by decide +kernel
theorem dX4_placeOfBadForm_180 : decode cX4_placeOfBadForm 180 = .ok (.ireturn, 1) := by decide +kernel
theorem dX4_readStatement_0 : decode cX4_readStatement 0 = .ok (.aload_n 0, 1) := by decide +kernel
theorem dX4_readStatement_1 : decode cX4_readStatement 1 = .ok (.iconst 0, 1) := by decide +kernel
theorem dX4_readStatement_2 : decode cX4_readStatement 2 = .ok (.putfield 36, 3) := by decide +kernel
theorem dX4_readStatement_5 : decode cX4_readStatement 5 = .ok (.aload_n 0, 1) := by decide +kernel
theorem dX4_readStatement_6 : decode cX4_readStatement 6 = .ok (.getfield 15, 3) := by decide +kernel
theorem dX4_readStatement_9 : decode cX4_readStatement 9 = .ok (.iconst 0, 1) := by decide +kernel
theorem dX4_readStatement_10 : decode cX4_readStatement 10 = .ok (.iload_n 1, 1) := by decide +kernel
theorem dX4_readStatement_11 : decode cX4_readStatement 11 = .ok (.iastore, 1) := by decide +kernel
theorem dX4_readStatement_12 : decode cX4_readStatement 12 = .ok (.aload_n 0, 1) := by decide +kernel
theorem dX4_readStatement_13 : decode cX4_readStatement 13 = .ok (.getfield 18, 3) := by decide +kernel
theorem dX4_readStatement_16 : decode cX4_readStatement 16 = .ok (.iconst 0, 1) := by decide +kernel
theorem dX4_readStatement_17 : decode cX4_readStatement 17 = .ok (.iconst 0, 1) := by decide +kernel
theorem dX4_readStatement_18 : decode cX4_readStatement 18 = .ok (.iastore, 1) := by decide +kernel
theorem dX4_readStatement_19 : decode cX4_readStatement 19 = .ok (.iload_n 1, 1) := by decide +kernel
theorem dX4_readStatement_20 : decode cX4_readStatement 20 = .ok (.istore_n 2, 1) := by decide +kernel
theorem dX4_readStatement_21 : decode cX4_readStatement 21 = .ok (.iload_n 2, 1) := by decide +kernel
theorem dX4_readStatement_22 : decode cX4_readStatement 22 = .ok (.aload_n 0, 1) := by decide +kernel
theorem dX4_readStatement_23 : decode cX4_readStatement 23 = .ok (.getfield 21, 3) := by decide +kernel
theorem dX4_readStatement_26 : decode cX4_readStatement 26 = .ok (.if_icmp .ge 91, 3) := by decide +kernel
theorem dX4_readStatement_29 : decode cX4_readStatement 29 = .ok (.aload_n 0, 1) := by decide +kernel
theorem dX4_readStatement_30 : decode cX4_readStatement 30 = .ok (.getfield 11, 3) := by decide +kernel
theorem dX4_readStatement_33 : decode cX4_readStatement 33 = .ok (.iload_n 2, 1) := by decide +kernel
theorem dX4_readStatement_34 : decode cX4_readStatement 34 = .ok (.iaload, 1) := by decide +kernel
theorem dX4_readStatement_35 : decode cX4_readStatement 35 = .ok (.bipush 59, 2) := by decide +kernel
theorem dX4_readStatement_37 : decode cX4_readStatement 37 = .ok (.if_icmp .ne 7, 3) := by decide +kernel
theorem dX4_readStatement_40 : decode cX4_readStatement 40 = .ok (.iload_n 2, 1) := by decide +kernel
theorem dX4_readStatement_41 : decode cX4_readStatement 41 = .ok (.iconst 1, 1) := by decide +kernel
theorem dX4_readStatement_42 : decode cX4_readStatement 42 = .ok (.iadd, 1) := by decide +kernel
theorem dX4_readStatement_43 : decode cX4_readStatement 43 = .ok (.ireturn, 1) := by decide +kernel
theorem dX4_readStatement_44 : decode cX4_readStatement 44 = .ok (.aload_n 0, 1) := by decide +kernel
theorem dX4_readStatement_45 : decode cX4_readStatement 45 = .ok (.getfield 11, 3) := by decide +kernel
theorem dX4_readStatement_48 : decode cX4_readStatement 48 = .ok (.iload_n 2, 1) := by decide +kernel
theorem dX4_readStatement_49 : decode cX4_readStatement 49 = .ok (.iaload, 1) := by decide +kernel
theorem dX4_readStatement_50 : decode cX4_readStatement 50 = .ok (.bipush 32, 2) := by decide +kernel
theorem dX4_readStatement_52 : decode cX4_readStatement 52 = .ok (.if_icmp .eq 19, 3) := by decide +kernel
theorem dX4_readStatement_55 : decode cX4_readStatement 55 = .ok (.aload_n 0, 1) := by decide +kernel
theorem dX4_readStatement_56 : decode cX4_readStatement 56 = .ok (.getfield 18, 3) := by decide +kernel
theorem dX4_readStatement_59 : decode cX4_readStatement 59 = .ok (.aload_n 0, 1) := by decide +kernel
theorem dX4_readStatement_60 : decode cX4_readStatement 60 = .ok (.getfield 36, 3) := by decide +kernel
theorem dX4_readStatement_63 : decode cX4_readStatement 63 = .ok (.dup2, 1) := by decide +kernel
theorem dX4_readStatement_64 : decode cX4_readStatement 64 = .ok (.iaload, 1) := by decide +kernel
theorem dX4_readStatement_65 : decode cX4_readStatement 65 = .ok (.iconst 1, 1) := by decide +kernel
theorem dX4_readStatement_66 : decode cX4_readStatement 66 = .ok (.iadd, 1) := by decide +kernel
theorem dX4_readStatement_67 : decode cX4_readStatement 67 = .ok (.iastore, 1) := by decide +kernel
theorem dX4_readStatement_68 : decode cX4_readStatement 68 = .ok (.goto 43, 3) := by decide +kernel
theorem dX4_readStatement_71 : decode cX4_readStatement 71 = .ok (.aload_n 0, 1) := by decide +kernel
theorem dX4_readStatement_72 : decode cX4_readStatement 72 = .ok (.getfield 36, 3) := by decide +kernel
theorem dX4_readStatement_75 : decode cX4_readStatement 75 = .ok (.iconst 3, 1) := by decide +kernel
theorem dX4_readStatement_76 : decode cX4_readStatement 76 = .ok (.if_icmp .ge 35, 3) := by decide +kernel
theorem dX4_readStatement_79 : decode cX4_readStatement 79 = .ok (.aload_n 0, 1) := by decide +kernel
theorem dX4_readStatement_80 : decode cX4_readStatement 80 = .ok (.dup, 1) := by decide +kernel
theorem dX4_readStatement_81 : decode cX4_readStatement 81 = .ok (.getfield 36, 3) := by decide +kernel
theorem dX4_readStatement_84 : decode cX4_readStatement 84 = .ok (.iconst 1, 1) := by decide +kernel
theorem dX4_readStatement_85 : decode cX4_readStatement 85 = .ok (.iadd, 1) := by decide +kernel
theorem dX4_readStatement_86 : decode cX4_readStatement 86 = .ok (.putfield 36, 3) := by decide +kernel
theorem dX4_readStatement_89 : decode cX4_readStatement 89 = .ok (.aload_n 0, 1) := by decide +kernel
theorem dX4_readStatement_90 : decode cX4_readStatement 90 = .ok (.getfield 15, 3) := by decide +kernel
theorem dX4_readStatement_93 : decode cX4_readStatement 93 = .ok (.aload_n 0, 1) := by decide +kernel
theorem dX4_readStatement_94 : decode cX4_readStatement 94 = .ok (.getfield 36, 3) := by decide +kernel
theorem dX4_readStatement_97 : decode cX4_readStatement 97 = .ok (.iload_n 2, 1) := by decide +kernel
theorem dX4_readStatement_98 : decode cX4_readStatement 98 = .ok (.iconst 1, 1) := by decide +kernel
theorem dX4_readStatement_99 : decode cX4_readStatement 99 = .ok (.iadd, 1) := by decide +kernel
theorem dX4_readStatement_100 : decode cX4_readStatement 100 = .ok (.iastore, 1) := by decide +kernel
theorem dX4_readStatement_101 : decode cX4_readStatement 101 = .ok (.aload_n 0, 1) := by decide +kernel
theorem dX4_readStatement_102 : decode cX4_readStatement 102 = .ok (.getfield 18, 3) := by decide +kernel
theorem dX4_readStatement_105 : decode cX4_readStatement 105 = .ok (.aload_n 0, 1) := by decide +kernel
theorem dX4_readStatement_106 : decode cX4_readStatement 106 = .ok (.getfield 36, 3) := by decide +kernel
theorem dX4_readStatement_109 : decode cX4_readStatement 109 = .ok (.iconst 0, 1) := by decide +kernel
theorem dX4_readStatement_110 : decode cX4_readStatement 110 = .ok (.iastore, 1) := by decide +kernel
theorem dX4_readStatement_111 : decode cX4_readStatement 111 = .ok (.iinc 2 1, 3) := by decide +kernel
theorem dX4_readStatement_114 : decode cX4_readStatement 114 = .ok (.goto (-93), 3) := by decide +kernel
theorem dX4_readStatement_117 : decode cX4_readStatement 117 = .ok (.aload_n 0, 1) := by decide +kernel
theorem dX4_readStatement_118 : decode cX4_readStatement 118 = .ok (.getfield 21, 3) := by decide +kernel
theorem dX4_readStatement_121 : decode cX4_readStatement 121 = .ok (.ireturn, 1) := by decide +kernel
theorem dX4_signAt_0 : decode cX4_signAt 0 = .ok (.aload_n 0, 1) := by decide +kernel
theorem dX4_signAt_1 : decode cX4_signAt 1 = .ok (.getfield 15, 3) := by decide +kernel
theorem dX4_signAt_4 : decode cX4_signAt 4 = .ok (.iload_n 1, 1) := by decide +kernel
theorem dX4_signAt_5 : decode cX4_signAt 5 = .ok (.iaload, 1) := by decide +kernel
theorem dX4_signAt_6 : decode cX4_signAt 6 = .ok (.iload_n 2, 1) := by decide +kernel
theorem dX4_signAt_7 : decode cX4_signAt 7 = .ok (.iadd, 1) := by decide +kernel
theorem dX4_signAt_8 : decode cX4_signAt 8 = .ok (.istore_n 3, 1) := by decide +kernel
theorem dX4_signAt_9 : decode cX4_signAt 9 = .ok (.iload_n 3, 1) := by decide +kernel
theorem dX4_signAt_10 : decode cX4_signAt 10 = .ok (.aload_n 0, 1) := by decide +kernel
theorem dX4_signAt_11 : decode cX4_signAt 11 = .ok (.getfield 21, 3) := by decide +kernel
theorem dX4_signAt_14 : decode cX4_signAt 14 = .ok (.if_icmp .ge 12, 3) := by decide +kernel
theorem dX4_signAt_17 : decode cX4_signAt 17 = .ok (.aload_n 0, 1) := by decide +kernel
theorem dX4_signAt_18 : decode cX4_signAt 18 = .ok (.getfield 11, 3) := by decide +kernel
theorem dX4_signAt_21 : decode cX4_signAt 21 = .ok (.iload_n 3, 1) := by decide +kernel
theorem dX4_signAt_22 : decode cX4_signAt 22 = .ok (.iaload, 1) := by decide +kernel
theorem dX4_signAt_23 : decode cX4_signAt 23 = .ok (.goto 4, 3) := by decide +kernel
theorem dX4_signAt_26 : decode cX4_signAt 26 = .ok (.iconst 0, 1) := by decide +kernel
theorem dX4_signAt_27 : decode cX4_signAt 27 = .ok (.ireturn, 1) := by decide +kernel
theorem dX4_number_0 : decode cX4_number 0 = .ok (.iload_n 1, 1) := by decide +kernel
theorem dX4_number_1 : decode cX4_number 1 = .ok (.aload_n 0, 1) := by decide +kernel
theorem dX4_number_2 : decode cX4_number 2 = .ok (.getfield 36, 3) := by decide +kernel
theorem dX4_number_5 : decode cX4_number 5 = .ok (.if_icmp .gt 13, 3) := by decide +kernel
theorem dX4_number_8 : decode cX4_number 8 = .ok (.aload_n 0, 1) := by decide +kernel
theorem dX4_number_9 : decode cX4_number 9 = .ok (.getfield 18, 3) := by decide +kernel
theorem dX4_number_12 : decode cX4_number 12 = .ok (.iload_n 1, 1) := by decide +kernel
theorem dX4_number_13 : decode cX4_number 13 = .ok (.iaload, 1) := by decide +kernel
theorem dX4_number_14 : decode cX4_number 14 = .ok (.iconst 1, 1) := by decide +kernel
theorem dX4_number_15 : decode cX4_number 15 = .ok (.if_icmp .ge 5, 3) := by decide +kernel
theorem dX4_number_18 : decode cX4_number 18 = .ok (.iconst (-1), 1) := by decide +kernel
theorem dX4_number_19 : decode cX4_number 19 = .ok (.ireturn, 1) := by decide +kernel
theorem dX4_number_20 : decode cX4_number 20 = .ok (.iconst 0, 1) := by decide +kernel
theorem dX4_number_21 : decode cX4_number 21 = .ok (.istore_n 3, 1) := by decide +kernel
theorem dX4_number_22 : decode cX4_number 22 = .ok (.iconst 0, 1) := by decide +kernel
theorem dX4_number_23 : decode cX4_number 23 = .ok (.istore 4, 2) := by decide +kernel
theorem dX4_number_25 : decode cX4_number 25 = .ok (.iload 4, 2) := by decide +kernel
theorem dX4_number_27 : decode cX4_number 27 = .ok (.aload_n 0, 1) := by decide +kernel
theorem dX4_number_28 : decode cX4_number 28 = .ok (.getfield 18, 3) := by decide +kernel
theorem dX4_number_31 : decode cX4_number 31 = .ok (.iload_n 1, 1) := by decide +kernel
theorem dX4_number_32 : decode cX4_number 32 = .ok (.iaload, 1) := by decide +kernel
theorem dX4_number_33 : decode cX4_number 33 = .ok (.if_icmp .ge 39, 3) := by decide +kernel
theorem dX4_number_36 : decode cX4_number 36 = .ok (.aload_n 0, 1) := by decide +kernel
theorem dX4_number_37 : decode cX4_number 37 = .ok (.iload_n 1, 1) := by decide +kernel
theorem dX4_number_38 : decode cX4_number 38 = .ok (.iload 4, 2) := by decide +kernel
theorem dX4_number_40 : decode cX4_number 40 = .ok (.invokevirtual 128, 3) := by decide +kernel
theorem dX4_number_43 : decode cX4_number 43 = .ok (.istore 5, 2) := by decide +kernel
theorem dX4_number_45 : decode cX4_number 45 = .ok (.iload 5, 2) := by decide +kernel
theorem dX4_number_47 : decode cX4_number 47 = .ok (.invokestatic 33, 3) := by decide +kernel
theorem dX4_number_50 : decode cX4_number 50 = .ok (.ifCond .ne 5, 3) := by decide +kernel
theorem dX4_number_53 : decode cX4_number 53 = .ok (.iconst (-1), 1) := by decide +kernel
theorem dX4_number_54 : decode cX4_number 54 = .ok (.ireturn, 1) := by decide +kernel
theorem dX4_number_55 : decode cX4_number 55 = .ok (.bipush 10, 2) := by decide +kernel
theorem dX4_number_57 : decode cX4_number 57 = .ok (.iload_n 3, 1) := by decide +kernel
theorem dX4_number_58 : decode cX4_number 58 = .ok (.imul, 1) := by decide +kernel
theorem dX4_number_59 : decode cX4_number 59 = .ok (.iload 5, 2) := by decide +kernel
theorem dX4_number_61 : decode cX4_number 61 = .ok (.iadd, 1) := by decide +kernel
theorem dX4_number_62 : decode cX4_number 62 = .ok (.bipush 48, 2) := by decide +kernel
theorem dX4_number_64 : decode cX4_number 64 = .ok (.isub, 1) := by decide +kernel
theorem dX4_number_65 : decode cX4_number 65 = .ok (.istore_n 3, 1) := by decide +kernel
theorem dX4_number_66 : decode cX4_number 66 = .ok (.iinc 4 1, 3) := by decide +kernel
theorem dX4_number_69 : decode cX4_number 69 = .ok (.goto (-44), 3) := by decide +kernel
theorem dX4_number_72 : decode cX4_number 72 = .ok (.iload_n 3, 1) := by decide +kernel
theorem dX4_number_73 : decode cX4_number 73 = .ok (.iload_n 2, 1) := by decide +kernel
theorem dX4_number_74 : decode cX4_number 74 = .ok (.if_icmp .gt 7, 3) := by decide +kernel
theorem dX4_number_77 : decode cX4_number 77 = .ok (.iload_n 3, 1) := by decide +kernel
theorem dX4_number_78 : decode cX4_number 78 = .ok (.goto 4, 3) := by decide +kernel
theorem dX4_number_81 : decode cX4_number 81 = .ok (.iconst (-1), 1) := by decide +kernel
theorem dX4_number_82 : decode cX4_number 82 = .ok (.ireturn, 1) := by decide +kernel
theorem dX4_isName_0 : decode cX4_isName 0 = .ok (.iload_n 1, 1) := by decide +kernel
theorem dX4_isName_1 : decode cX4_isName 1 = .ok (.aload_n 0, 1) := by decide +kernel
theorem dX4_isName_2 : decode cX4_isName 2 = .ok (.getfield 36, 3) := by decide +kernel
theorem dX4_isName_5 : decode cX4_isName 5 = .ok (.if_icmp .gt 30, 3) := by decide +kernel
theorem dX4_isName_8 : decode cX4_isName 8 = .ok (.aload_n 0, 1) := by decide +kernel
theorem dX4_isName_9 : decode cX4_isName 9 = .ok (.getfield 18, 3) := by decide +kernel
theorem dX4_isName_12 : decode cX4_isName 12 = .ok (.iload_n 1, 1) := by decide +kernel
theorem dX4_isName_13 : decode cX4_isName 13 = .ok (.iaload, 1) := by decide +kernel
theorem dX4_isName_14 : decode cX4_isName 14 = .ok (.bipush 6, 2) := by decide +kernel
theorem dX4_isName_16 : decode cX4_isName 16 = .ok (.if_icmp .gt 19, 3) := by decide +kernel
theorem dX4_isName_19 : decode cX4_isName 19 = .ok (.aload_n 0, 1) := by decide +kernel
theorem dX4_isName_20 : decode cX4_isName 20 = .ok (.iload_n 1, 1) := by decide +kernel
theorem dX4_isName_21 : decode cX4_isName 21 = .ok (.iconst 0, 1) := by decide +kernel
theorem dX4_isName_22 : decode cX4_isName 22 = .ok (.invokevirtual 128, 3) := by decide +kernel
theorem dX4_isName_25 : decode cX4_isName 25 = .ok (.invokestatic 29, 3) := by decide +kernel
theorem dX4_isName_28 : decode cX4_isName 28 = .ok (.ifCond .eq 7, 3) := by decide +kernel
theorem dX4_isName_31 : decode cX4_isName 31 = .ok (.iconst 1, 1) := by decide +kernel
theorem dX4_isName_32 : decode cX4_isName 32 = .ok (.goto 4, 3) := by decide +kernel
theorem dX4_isName_35 : decode cX4_isName 35 = .ok (.iconst 0, 1) := by decide +kernel
theorem dX4_isName_36 : decode cX4_isName 36 = .ok (.ireturn, 1) := by decide +kernel
theorem dX4_letterAt_0 : decode cX4_letterAt 0 = .ok (.aload_n 0, 1) := by decide +kernel
theorem dX4_letterAt_1 : decode cX4_letterAt 1 = .ok (.iload_n 1, 1) := by decide +kernel
theorem dX4_letterAt_2 : decode cX4_letterAt 2 = .ok (.iload_n 2, 1) := by decide +kernel
theorem dX4_letterAt_3 : decode cX4_letterAt 3 = .ok (.invokevirtual 128, 3) := by decide +kernel
theorem dX4_letterAt_6 : decode cX4_letterAt 6 = .ok (.bipush 97, 2) := by decide +kernel
theorem dX4_letterAt_8 : decode cX4_letterAt 8 = .ok (.isub, 1) := by decide +kernel
theorem dX4_letterAt_9 : decode cX4_letterAt 9 = .ok (.ireturn, 1) := by decide +kernel
theorem dX4_headComes_0 : decode cX4_headComes 0 = .ok (.aload_n 0, 1) := by decide +kernel
theorem dX4_headComes_1 : decode cX4_headComes 1 = .ok (.iconst 1, 1) := by decide +kernel
theorem dX4_headComes_2 : decode cX4_headComes 2 = .ok (.bipush 9, 2) := by decide +kernel
theorem dX4_headComes_4 : decode cX4_headComes 4 = .ok (.invokevirtual 70, 3) := by decide +kernel
theorem dX4_headComes_7 : decode cX4_headComes 7 = .ok (.istore_n 3, 1) := by decide +kernel
theorem dX4_headComes_8 : decode cX4_headComes 8 = .ok (.aload_n 0, 1) := by decide +kernel
theorem dX4_headComes_9 : decode cX4_headComes 9 = .ok (.iconst 3, 1) := by decide +kernel
theorem dX4_headComes_10 : decode cX4_headComes 10 = .ok (.bipush 47, 2) := by decide +kernel
theorem dX4_headComes_12 : decode cX4_headComes 12 = .ok (.invokevirtual 70, 3) := by decide +kernel
theorem dX4_headComes_15 : decode cX4_headComes 15 = .ok (.istore 4, 2) := by decide +kernel
theorem dX4_headComes_17 : decode cX4_headComes 17 = .ok (.aload_n 0, 1) := by decide +kernel
theorem dX4_headComes_18 : decode cX4_headComes 18 = .ok (.getfield 36, 3) := by decide +kernel
theorem dX4_headComes_21 : decode cX4_headComes 21 = .ok (.iconst 3, 1) := by decide +kernel
theorem dX4_headComes_22 : decode cX4_headComes 22 = .ok (.if_icmp .ne 27, 3) := by decide +kernel
theorem dX4_headComes_25 : decode cX4_headComes 25 = .ok (.iload_n 3, 1) := by decide +kernel
theorem dX4_headComes_26 : decode cX4_headComes 26 = .ok (.ifCond .lt 23, 3) := by decide +kernel
theorem dX4_headComes_29 : decode cX4_headComes 29 = .ok (.aload_n 0, 1) := by decide +kernel
theorem dX4_headComes_30 : decode cX4_headComes 30 = .ok (.iconst 2, 1) := by decide +kernel
theorem dX4_headComes_31 : decode cX4_headComes 31 = .ok (.invokevirtual 74, 3) := by decide +kernel
theorem dX4_headComes_34 : decode cX4_headComes 34 = .ok (.ifCond .eq 15, 3) := by decide +kernel
theorem dX4_headComes_37 : decode cX4_headComes 37 = .ok (.iload 4, 2) := by decide +kernel
theorem dX4_headComes_39 : decode cX4_headComes 39 = .ok (.ifCond .lt 10, 3) := by decide +kernel
theorem dX4_headComes_42 : decode cX4_headComes 42 = .ok (.aload_n 1, 1) := by decide +kernel
theorem dX4_headComes_43 : decode cX4_headComes 43 = .ok (.invokevirtual 77, 3) := by decide +kernel
theorem dX4_headComes_46 : decode cX4_headComes 46 = .ok (.ifCond .eq 5, 3) := by decide +kernel
theorem dX4_headComes_49 : decode cX4_headComes 49 = .ok (.iconst 0, 1) := by decide +kernel
theorem dX4_headComes_50 : decode cX4_headComes 50 = .ok (.ireturn, 1) := by decide +kernel
theorem dX4_headComes_51 : decode cX4_headComes 51 = .ok (.aload_n 1, 1) := by decide +kernel
theorem dX4_headComes_52 : decode cX4_headComes 52 = .ok (.iload_n 2, 1) := by decide +kernel
theorem dX4_headComes_53 : decode cX4_headComes 53 = .ok (.iload_n 3, 1) := by decide +kernel
theorem dX4_headComes_54 : decode cX4_headComes 54 = .ok (.iload 4, 2) := by decide +kernel
theorem dX4_headComes_56 : decode cX4_headComes 56 = .ok (.invokevirtual 80, 3) := by decide +kernel
theorem dX4_headComes_59 : decode cX4_headComes 59 = .ok (.iconst 0, 1) := by decide +kernel
theorem dX4_headComes_60 : decode cX4_headComes 60 = .ok (.istore 5, 2) := by decide +kernel
theorem dX4_headComes_62 : decode cX4_headComes 62 = .ok (.iload 5, 2) := by decide +kernel
theorem dX4_headComes_64 : decode cX4_headComes 64 = .ok (.aload_n 0, 1) := by decide +kernel
theorem dX4_headComes_65 : decode cX4_headComes 65 = .ok (.getfield 18, 3) := by decide +kernel
theorem dX4_headComes_68 : decode cX4_headComes 68 = .ok (.iconst 2, 1) := by decide +kernel
theorem dX4_headComes_69 : decode cX4_headComes 69 = .ok (.iaload, 1) := by decide +kernel
theorem dX4_headComes_70 : decode cX4_headComes 70 = .ok (.if_icmp .ge 20, 3) := by decide +kernel
theorem dX4_headComes_73 : decode cX4_headComes 73 = .ok (.aload_n 1, 1) := by decide +kernel
theorem dX4_headComes_74 : decode cX4_headComes 74 = .ok (.aload_n 0, 1) := by decide +kernel
theorem dX4_headComes_75 : decode cX4_headComes 75 = .ok (.iconst 2, 1) := by decide +kernel
theorem dX4_headComes_76 : decode cX4_headComes 76 = .ok (.iload 5, 2) := by decide +kernel
theorem dX4_headComes_78 : decode cX4_headComes 78 = .ok (.invokevirtual 84, 3) := by decide +kernel
theorem dX4_headComes_81 : decode cX4_headComes 81 = .ok (.invokevirtual 87, 3) := by decide +kernel
theorem dX4_headComes_84 : decode cX4_headComes 84 = .ok (.iinc 5 1, 3) := by decide +kernel
theorem dX4_headComes_87 : decode cX4_headComes 87 = .ok (.goto (-25), 3) := by decide +kernel
theorem dX4_headComes_90 : decode cX4_headComes 90 = .ok (.iconst 1, 1) := by decide +kernel
theorem dX4_headComes_91 : decode cX4_headComes 91 = .ok (.ireturn, 1) := by decide +kernel
theorem dX4_wallComes_0 : decode cX4_wallComes 0 = .ok (.aload_n 0, 1) := by decide +kernel
theorem dX4_wallComes_1 : decode cX4_wallComes 1 = .ok (.iconst 1, 1) := by decide +kernel
theorem dX4_wallComes_2 : decode cX4_wallComes 2 = .ok (.bipush 47, 2) := by decide +kernel
theorem dX4_wallComes_4 : decode cX4_wallComes 4 = .ok (.invokevirtual 70, 3) := by decide +kernel
theorem dX4_wallComes_7 : decode cX4_wallComes 7 = .ok (.istore_n 2, 1) := by decide +kernel
theorem dX4_wallComes_8 : decode cX4_wallComes 8 = .ok (.aload_n 0, 1) := by decide +kernel
theorem dX4_wallComes_9 : decode cX4_wallComes 9 = .ok (.iconst 2, 1) := by decide +kernel
theorem dX4_wallComes_10 : decode cX4_wallComes 10 = .ok (.bipush 9, 2) := by decide +kernel
theorem dX4_wallComes_12 : decode cX4_wallComes 12 = .ok (.invokevirtual 70, 3) := by decide +kernel
theorem dX4_wallComes_15 : decode cX4_wallComes 15 = .ok (.istore_n 3, 1) := by decide +kernel
theorem dX4_wallComes_16 : decode cX4_wallComes 16 = .ok (.aload_n 0, 1) := by decide +kernel
theorem dX4_wallComes_17 : decode cX4_wallComes 17 = .ok (.getfield 36, 3) := by decide +kernel
theorem dX4_wallComes_20 : decode cX4_wallComes 20 = .ok (.iconst 2, 1) := by decide +kernel
theorem dX4_wallComes_21 : decode cX4_wallComes 21 = .ok (.if_icmp .ne 11, 3) := by decide +kernel
theorem dX4_wallComes_24 : decode cX4_wallComes 24 = .ok (.iload_n 2, 1) := by decide +kernel
theorem dX4_wallComes_25 : decode cX4_wallComes 25 = .ok (.ifCond .lt 7, 3) := by decide +kernel
theorem dX4_wallComes_28 : decode cX4_wallComes 28 = .ok (.iload_n 3, 1) := by decide +kernel
theorem dX4_wallComes_29 : decode cX4_wallComes 29 = .ok (.ifCond .ge 5, 3) := by decide +kernel
theorem dX4_wallComes_32 : decode cX4_wallComes 32 = .ok (.iconst 0, 1) := by decide +kernel
theorem dX4_wallComes_33 : decode cX4_wallComes 33 = .ok (.ireturn, 1) := by decide +kernel
theorem dX4_wallComes_34 : decode cX4_wallComes 34 = .ok (.aload_n 1, 1) := by decide +kernel
theorem dX4_wallComes_35 : decode cX4_wallComes 35 = .ok (.getfield 91, 3) := by decide +kernel
theorem dX4_wallComes_38 : decode cX4_wallComes 38 = .ok (.iload_n 2, 1) := by decide +kernel
theorem dX4_wallComes_39 : decode cX4_wallComes 39 = .ok (.iload_n 3, 1) := by decide +kernel
theorem dX4_wallComes_40 : decode cX4_wallComes 40 = .ok (.iastore, 1) := by decide +kernel
theorem dX4_wallComes_41 : decode cX4_wallComes 41 = .ok (.iconst 1, 1) := by decide +kernel
theorem dX4_wallComes_42 : decode cX4_wallComes 42 = .ok (.ireturn, 1) := by decide +kernel
theorem dX4_folkCome_0 : decode cX4_folkCome 0 = .ok (.aload_n 0, 1) := by decide +kernel
theorem dX4_folkCome_1 : decode cX4_folkCome 1 = .ok (.iconst 1, 1) := by decide +kernel
theorem dX4_folkCome_2 : decode cX4_folkCome 2 = .ok (.bipush 47, 2) := by decide +kernel
theorem dX4_folkCome_4 : decode cX4_folkCome 4 = .ok (.invokevirtual 70, 3) := by decide +kernel
theorem dX4_folkCome_7 : decode cX4_folkCome 7 = .ok (.istore_n 2, 1) := by decide +kernel
theorem dX4_folkCome_8 : decode cX4_folkCome 8 = .ok (.aload_n 0, 1) := by decide +kernel
theorem dX4_folkCome_9 : decode cX4_folkCome 9 = .ok (.iconst 2, 1) := by decide +kernel
theorem dX4_folkCome_10 : decode cX4_folkCome 10 = .ok (.bipush 9, 2) := by decide +kernel
theorem dX4_folkCome_12 : decode cX4_folkCome 12 = .ok (.invokevirtual 70, 3) := by decide +kernel
theorem dX4_folkCome_15 : decode cX4_folkCome 15 = .ok (.istore_n 3, 1) := by decide +kernel
theorem dX4_folkCome_16 : decode cX4_folkCome 16 = .ok (.aload_n 0, 1) := by decide +kernel
theorem dX4_folkCome_17 : decode cX4_folkCome 17 = .ok (.getfield 36, 3) := by decide +kernel
theorem dX4_folkCome_20 : decode cX4_folkCome 20 = .ok (.iconst 3, 1) := by decide +kernel
theorem dX4_folkCome_21 : decode cX4_folkCome 21 = .ok (.if_icmp .ne 29, 3) := by decide +kernel
theorem dX4_folkCome_24 : decode cX4_folkCome 24 = .ok (.iload_n 2, 1) := by decide +kernel
theorem dX4_folkCome_25 : decode cX4_folkCome 25 = .ok (.ifCond .lt 25, 3) := by decide +kernel
theorem dX4_folkCome_28 : decode cX4_folkCome 28 = .ok (.iload_n 3, 1) := by decide +kernel
theorem dX4_folkCome_29 : decode cX4_folkCome 29 = .ok (.ifCond .lt 21, 3) := by decide +kernel
theorem dX4_folkCome_32 : decode cX4_folkCome 32 = .ok (.aload_n 0, 1) := by decide +kernel
theorem dX4_folkCome_33 : decode cX4_folkCome 33 = .ok (.iconst 3, 1) := by decide +kernel
theorem dX4_folkCome_34 : decode cX4_folkCome 34 = .ok (.invokevirtual 74, 3) := by decide +kernel
theorem dX4_folkCome_37 : decode cX4_folkCome 37 = .ok (.ifCond .eq 13, 3) := by decide +kernel
theorem dX4_folkCome_40 : decode cX4_folkCome 40 = .ok (.aload_n 0, 1) := by decide +kernel
theorem dX4_folkCome_41 : decode cX4_folkCome 41 = .ok (.getfield 18, 3) := by decide +kernel
theorem dX4_folkCome_44 : decode cX4_folkCome 44 = .ok (.iconst 3, 1) := by decide +kernel
theorem dX4_folkCome_45 : decode cX4_folkCome 45 = .ok (.iaload, 1) := by decide +kernel
theorem dX4_folkCome_46 : decode cX4_folkCome 46 = .ok (.iconst 1, 1) := by decide +kernel
theorem dX4_folkCome_47 : decode cX4_folkCome 47 = .ok (.if_icmp .eq 5, 3) := by decide +kernel
theorem dX4_folkCome_50 : decode cX4_folkCome 50 = .ok (.iconst 0, 1) := by decide +kernel
theorem dX4_folkCome_51 : decode cX4_folkCome 51 = .ok (.ireturn, 1) := by decide +kernel
theorem dX4_folkCome_52 : decode cX4_folkCome 52 = .ok (.aload_n 1, 1) := by decide +kernel
theorem dX4_folkCome_53 : decode cX4_folkCome 53 = .ok (.getfield 94, 3) := by decide +kernel
theorem dX4_folkCome_56 : decode cX4_folkCome 56 = .ok (.iload_n 2, 1) := by decide +kernel
theorem dX4_folkCome_57 : decode cX4_folkCome 57 = .ok (.iload_n 3, 1) := by decide +kernel
theorem dX4_folkCome_58 : decode cX4_folkCome 58 = .ok (.iastore, 1) := by decide +kernel
theorem dX4_folkCome_59 : decode cX4_folkCome 59 = .ok (.aload_n 1, 1) := by decide +kernel
theorem dX4_folkCome_60 : decode cX4_folkCome 60 = .ok (.getfield 97, 3) := by decide +kernel
theorem dX4_folkCome_63 : decode cX4_folkCome 63 = .ok (.iload_n 2, 1) := by decide +kernel
theorem dX4_folkCome_64 : decode cX4_folkCome 64 = .ok (.aload_n 0, 1) := by decide +kernel
theorem dX4_folkCome_65 : decode cX4_folkCome 65 = .ok (.iconst 3, 1) := by decide +kernel
theorem dX4_folkCome_66 : decode cX4_folkCome 66 = .ok (.iconst 0, 1) := by decide +kernel
theorem dX4_folkCome_67 : decode cX4_folkCome 67 = .ok (.invokevirtual 84, 3) := by decide +kernel
theorem dX4_folkCome_70 : decode cX4_folkCome 70 = .ok (.iastore, 1) := by decide +kernel
theorem dX4_folkCome_71 : decode cX4_folkCome 71 = .ok (.iconst 1, 1) := by decide +kernel
theorem dX4_folkCome_72 : decode cX4_folkCome 72 = .ok (.ireturn, 1) := by decide +kernel
theorem dX4_followersCome_0 : decode cX4_followersCome 0 = .ok (.aload_n 0, 1) := by decide +kernel
theorem dX4_followersCome_1 : decode cX4_followersCome 1 = .ok (.iconst 1, 1) := by decide +kernel
theorem dX4_followersCome_2 : decode cX4_followersCome 2 = .ok (.aload_n 1, 1) := by decide +kernel
theorem dX4_followersCome_3 : decode cX4_followersCome 3 = .ok (.getfield 100, 3) := by decide +kernel
theorem dX4_followersCome_6 : decode cX4_followersCome 6 = .ok (.iconst 1, 1) := by decide +kernel
theorem dX4_followersCome_7 : decode cX4_followersCome 7 = .ok (.isub, 1) := by decide +kernel
theorem dX4_followersCome_8 : decode cX4_followersCome 8 = .ok (.invokevirtual 70, 3) := by decide +kernel
theorem dX4_followersCome_11 : decode cX4_followersCome 11 = .ok (.istore_n 2, 1) := by decide +kernel
theorem dX4_followersCome_12 : decode cX4_followersCome 12 = .ok (.aload_n 0, 1) := by decide +kernel
theorem dX4_followersCome_13 : decode cX4_followersCome 13 = .ok (.iconst 2, 1) := by decide +kernel
theorem dX4_followersCome_14 : decode cX4_followersCome 14 = .ok (.bipush 99, 2) := by decide +kernel
theorem dX4_followersCome_16 : decode cX4_followersCome 16 = .ok (.invokevirtual 70, 3) := by decide +kernel
theorem dX4_followersCome_19 : decode cX4_followersCome 19 = .ok (.istore_n 3, 1) := by decide +kernel
theorem dX4_followersCome_20 : decode cX4_followersCome 20 = .ok (.aload_n 0, 1) := by decide +kernel
theorem dX4_followersCome_21 : decode cX4_followersCome 21 = .ok (.getfield 36, 3) := by decide +kernel
theorem dX4_followersCome_24 : decode cX4_followersCome 24 = .ok (.iconst 2, 1) := by decide +kernel
theorem dX4_followersCome_25 : decode cX4_followersCome 25 = .ok (.if_icmp .ne 11, 3) := by decide +kernel
theorem dX4_followersCome_28 : decode cX4_followersCome 28 = .ok (.iload_n 2, 1) := by decide +kernel
theorem dX4_followersCome_29 : decode cX4_followersCome 29 = .ok (.ifCond .lt 7, 3) := by decide +kernel
theorem dX4_followersCome_32 : decode cX4_followersCome 32 = .ok (.iload_n 3, 1) := by decide +kernel
theorem dX4_followersCome_33 : decode cX4_followersCome 33 = .ok (.ifCond .ge 5, 3) := by decide +kernel
theorem dX4_followersCome_36 : decode cX4_followersCome 36 = .ok (.iconst 0, 1) := by decide +kernel
theorem dX4_followersCome_37 : decode cX4_followersCome 37 = .ok (.ireturn, 1) := by decide +kernel
theorem dX4_followersCome_38 : decode cX4_followersCome 38 = .ok (.aload_n 1, 1) := by decide +kernel
theorem dX4_followersCome_39 : decode cX4_followersCome 39 = .ok (.getfield 105, 3) := by decide +kernel
theorem dX4_followersCome_42 : decode cX4_followersCome 42 = .ok (.iload_n 2, 1) := by decide +kernel
theorem dX4_followersCome_43 : decode cX4_followersCome 43 = .ok (.aaload, 1) := by decide +kernel
theorem dX4_followersCome_44 : decode cX4_followersCome 44 = .ok (.iload_n 3, 1) := by decide +kernel
theorem dX4_followersCome_45 : decode cX4_followersCome 45 = .ok (.putfield 119, 3) := by decide +kernel
theorem dX4_followersCome_48 : decode cX4_followersCome 48 = .ok (.iconst 1, 1) := by decide +kernel
theorem dX4_followersCome_49 : decode cX4_followersCome 49 = .ok (.ireturn, 1) := by decide +kernel
theorem dX4_nightsGoBy_0 : decode cX4_nightsGoBy 0 = .ok (.aload_n 0, 1) := by decide +kernel
theorem dX4_nightsGoBy_1 : decode cX4_nightsGoBy 1 = .ok (.iconst 1, 1) := by decide +kernel
theorem dX4_nightsGoBy_2 : decode cX4_nightsGoBy 2 = .ok (.bipush 60, 2) := by decide +kernel
theorem dX4_nightsGoBy_4 : decode cX4_nightsGoBy 4 = .ok (.invokevirtual 70, 3) := by decide +kernel
theorem dX4_nightsGoBy_7 : decode cX4_nightsGoBy 7 = .ok (.istore_n 2, 1) := by decide +kernel
theorem dX4_nightsGoBy_8 : decode cX4_nightsGoBy 8 = .ok (.aload_n 0, 1) := by decide +kernel
theorem dX4_nightsGoBy_9 : decode cX4_nightsGoBy 9 = .ok (.getfield 36, 3) := by decide +kernel
theorem dX4_nightsGoBy_12 : decode cX4_nightsGoBy 12 = .ok (.iconst 1, 1) := by decide +kernel
theorem dX4_nightsGoBy_13 : decode cX4_nightsGoBy 13 = .ok (.if_icmp .ne 20, 3) := by decide +kernel
theorem dX4_nightsGoBy_16 : decode cX4_nightsGoBy 16 = .ok (.iload_n 2, 1) := by decide +kernel
theorem dX4_nightsGoBy_17 : decode cX4_nightsGoBy 17 = .ok (.iconst 1, 1) := by decide +kernel
theorem dX4_nightsGoBy_18 : decode cX4_nightsGoBy 18 = .ok (.if_icmp .lt 15, 3) := by decide +kernel
theorem dX4_nightsGoBy_21 : decode cX4_nightsGoBy 21 = .ok (.aload_n 1, 1) := by decide +kernel
theorem dX4_nightsGoBy_22 : decode cX4_nightsGoBy 22 = .ok (.getfield 122, 3) := by decide +kernel
theorem dX4_nightsGoBy_25 : decode cX4_nightsGoBy 25 = .ok (.iload_n 2, 1) := by decide +kernel
theorem dX4_nightsGoBy_26 : decode cX4_nightsGoBy 26 = .ok (.iadd, 1) := by decide +kernel
theorem dX4_nightsGoBy_27 : decode cX4_nightsGoBy 27 = .ok (.sipush 999, 3) := by decide +kernel
theorem dX4_nightsGoBy_30 : decode cX4_nightsGoBy 30 = .ok (.if_icmp .le 5, 3) := by decide +kernel
theorem dX4_nightsGoBy_33 : decode cX4_nightsGoBy 33 = .ok (.iconst 0, 1) := by decide +kernel
theorem dX4_nightsGoBy_34 : decode cX4_nightsGoBy 34 = .ok (.ireturn, 1) := by decide +kernel
theorem dX4_nightsGoBy_35 : decode cX4_nightsGoBy 35 = .ok (.aload_n 1, 1) := by decide +kernel
theorem dX4_nightsGoBy_36 : decode cX4_nightsGoBy 36 = .ok (.iload_n 2, 1) := by decide +kernel
theorem dX4_nightsGoBy_37 : decode cX4_nightsGoBy 37 = .ok (.invokevirtual 125, 3) := by decide +kernel
theorem dX4_nightsGoBy_40 : decode cX4_nightsGoBy 40 = .ok (.iconst 1, 1) := by decide +kernel
theorem dX4_nightsGoBy_41 : decode cX4_nightsGoBy 41 = .ok (.ireturn, 1) := by decide +kernel
theorem dX5_stepsOff_0 : decode cX5_stepsOff 0 = .ok (.iload_n 0, 1) := by decide +kernel
theorem dX5_stepsOff_1 : decode cX5_stepsOff 1 = .ok (.bipush 8, 2) := by decide +kernel
theorem dX5_stepsOff_3 : decode cX5_stepsOff 3 = .ok (.idiv, 1) := by decide +kernel
theorem dX5_stepsOff_4 : decode cX5_stepsOff 4 = .ok (.iload_n 1, 1) := by decide +kernel
theorem dX5_stepsOff_5 : decode cX5_stepsOff 5 = .ok (.bipush 8, 2) := by decide +kernel
theorem dX5_stepsOff_7 : decode cX5_stepsOff 7 = .ok (.idiv, 1) := by decide +kernel
theorem dX5_stepsOff_8 : decode cX5_stepsOff 8 = .ok (.isub, 1) := by decide +kernel
theorem dX5_stepsOff_9 : decode cX5_stepsOff 9 = .ok (.invokestatic 18, 3) := by decide +kernel
theorem dX5_stepsOff_12 : decode cX5_stepsOff 12 = .ok (.istore_n 2, 1) := by decide +kernel
theorem dX5_stepsOff_13 : decode cX5_stepsOff 13 = .ok (.iload_n 0, 1) := by decide +kernel
theorem dX5_stepsOff_14 : decode cX5_stepsOff 14 = .ok (.bipush 8, 2) := by decide +kernel
theorem dX5_stepsOff_16 : decode cX5_stepsOff 16 = .ok (.irem, 1) := by decide +kernel
theorem dX5_stepsOff_17 : decode cX5_stepsOff 17 = .ok (.iload_n 1, 1) := by decide +kernel
theorem dX5_stepsOff_18 : decode cX5_stepsOff 18 = .ok (.bipush 8, 2) := by decide +kernel
theorem dX5_stepsOff_20 : decode cX5_stepsOff 20 = .ok (.irem, 1) := by decide +kernel
theorem dX5_stepsOff_21 : decode cX5_stepsOff 21 = .ok (.isub, 1) := by decide +kernel
theorem dX5_stepsOff_22 : decode cX5_stepsOff 22 = .ok (.invokestatic 18, 3) := by decide +kernel
theorem dX5_stepsOff_25 : decode cX5_stepsOff 25 = .ok (.istore_n 3, 1) := by decide +kernel
theorem dX5_stepsOff_26 : decode cX5_stepsOff 26 = .ok (.iload_n 2, 1) := by decide +kernel
theorem dX5_stepsOff_27 : decode cX5_stepsOff 27 = .ok (.iload_n 3, 1) := by decide +kernel
theorem dX5_stepsOff_28 : decode cX5_stepsOff 28 = .ok (.iadd, 1) := by decide +kernel
theorem dX5_stepsOff_29 : decode cX5_stepsOff 29 = .ok (.ireturn, 1) := by decide +kernel
theorem dX5_stepOn_0 : decode cX5_stepOn 0 = .ok (.iload_n 3, 1) := by decide +kernel
theorem dX5_stepOn_1 : decode cX5_stepOn 1 = .ok (.istore 4, 2) := by decide +kernel
theorem dX5_stepOn_3 : decode cX5_stepOn 3 = .ok (.iconst 0, 1) := by decide +kernel
theorem dX5_stepOn_4 : decode cX5_stepOn 4 = .ok (.istore 5, 2) := by decide +kernel
theorem dX5_stepOn_6 : decode cX5_stepOn 6 = .ok (.iload 5, 2) := by decide +kernel
theorem dX5_stepOn_8 : decode cX5_stepOn 8 = .ok (.iconst 4, 1) := by decide +kernel
theorem dX5_stepOn_9 : decode cX5_stepOn 9 = .ok (.if_icmp .ge 78, 3) := by decide +kernel
theorem dX5_stepOn_12 : decode cX5_stepOn 12 = .ok (.iload_n 2, 1) := by decide +kernel
theorem dX5_stepOn_13 : decode cX5_stepOn 13 = .ok (.iload 5, 2) := by decide +kernel
theorem dX5_stepOn_15 : decode cX5_stepOn 15 = .ok (.invokestatic 28, 3) := by decide +kernel
theorem dX5_stepOn_18 : decode cX5_stepOn 18 = .ok (.istore 6, 2) := by decide +kernel
theorem dX5_stepOn_20 : decode cX5_stepOn 20 = .ok (.iload 6, 2) := by decide +kernel
theorem dX5_stepOn_22 : decode cX5_stepOn 22 = .ok (.iconst (-1), 1) := by decide +kernel
theorem dX5_stepOn_23 : decode cX5_stepOn 23 = .ok (.if_icmp .eq 58, 3) := by decide +kernel
theorem dX5_stepOn_26 : decode cX5_stepOn 26 = .ok (.aload_n 0, 1) := by decide +kernel
theorem dX5_stepOn_27 : decode cX5_stepOn 27 = .ok (.getfield 9, 3) := by decide +kernel
theorem dX5_stepOn_30 : decode cX5_stepOn 30 = .ok (.iload 6, 2) := by decide +kernel
theorem dX5_stepOn_32 : decode cX5_stepOn 32 = .ok (.iaload, 1) := by decide +kernel
theorem dX5_stepOn_33 : decode cX5_stepOn 33 = .ok (.iconst (-1), 1) := by decide +kernel
theorem dX5_stepOn_34 : decode cX5_stepOn 34 = .ok (.if_icmp .ne 47, 3) := by decide +kernel
theorem dX5_stepOn_37 : decode cX5_stepOn 37 = .ok (.aload_n 1, 1) := by decide +kernel
theorem dX5_stepOn_38 : decode cX5_stepOn 38 = .ok (.getfield 34, 3) := by decide +kernel
theorem dX5_stepOn_41 : decode cX5_stepOn 41 = .ok (.iload 6, 2) := by decide +kernel
theorem dX5_stepOn_43 : decode cX5_stepOn 43 = .ok (.iaload, 1) := by decide +kernel
theorem dX5_stepOn_44 : decode cX5_stepOn 44 = .ok (.ifCond .ne 37, 3) := by decide +kernel
theorem dX5_stepOn_47 : decode cX5_stepOn 47 = .ok (.iload 4, 2) := by decide +kernel
theorem dX5_stepOn_49 : decode cX5_stepOn 49 = .ok (.bipush 48, 2) := by decide +kernel
theorem dX5_stepOn_51 : decode cX5_stepOn 51 = .ok (.if_icmp .ge 30, 3) := by decide +kernel
theorem dX5_stepOn_54 : decode cX5_stepOn 54 = .ok (.aload_n 0, 1) := by decide +kernel
theorem dX5_stepOn_55 : decode cX5_stepOn 55 = .ok (.getfield 9, 3) := by decide +kernel
theorem dX5_stepOn_58 : decode cX5_stepOn 58 = .ok (.iload 6, 2) := by decide +kernel
theorem dX5_stepOn_60 : decode cX5_stepOn 60 = .ok (.aload_n 0, 1) := by decide +kernel
theorem dX5_stepOn_61 : decode cX5_stepOn 61 = .ok (.getfield 9, 3) := by decide +kernel
theorem dX5_stepOn_64 : decode cX5_stepOn 64 = .ok (.iload_n 2, 1) := by decide +kernel
theorem dX5_stepOn_65 : decode cX5_stepOn 65 = .ok (.iaload, 1) := by decide +kernel
theorem dX5_stepOn_66 : decode cX5_stepOn 66 = .ok (.iconst 1, 1) := by decide +kernel
theorem dX5_stepOn_67 : decode cX5_stepOn 67 = .ok (.iadd, 1) := by decide +kernel
theorem dX5_stepOn_68 : decode cX5_stepOn 68 = .ok (.iastore, 1) := by decide +kernel
theorem dX5_stepOn_69 : decode cX5_stepOn 69 = .ok (.aload_n 0, 1) := by decide +kernel
theorem dX5_stepOn_70 : decode cX5_stepOn 70 = .ok (.getfield 15, 3) := by decide +kernel
theorem dX5_stepOn_73 : decode cX5_stepOn 73 = .ok (.iload 4, 2) := by decide +kernel
theorem dX5_stepOn_75 : decode cX5_stepOn 75 = .ok (.iload 6, 2) := by decide +kernel
theorem dX5_stepOn_77 : decode cX5_stepOn 77 = .ok (.iastore, 1) := by decide +kernel
theorem dX5_stepOn_78 : decode cX5_stepOn 78 = .ok (.iinc 4 1, 3) := by decide +kernel
theorem dX5_stepOn_81 : decode cX5_stepOn 81 = .ok (.iinc 5 1, 3) := by decide +kernel
theorem dX5_stepOn_84 : decode cX5_stepOn 84 = .ok (.goto (-78), 3) := by decide +kernel
theorem dX5_stepOn_87 : decode cX5_stepOn 87 = .ok (.iload 4, 2) := by decide +kernel
theorem dX5_stepOn_89 : decode cX5_stepOn 89 = .ok (.ireturn, 1) := by decide +kernel
theorem dX5_fewestSteps_0 : decode cX5_fewestSteps 0 = .ok (.iconst 0, 1) := by decide +kernel
theorem dX5_fewestSteps_1 : decode cX5_fewestSteps 1 = .ok (.istore 4, 2) := by decide +kernel
theorem dX5_fewestSteps_3 : decode cX5_fewestSteps 3 = .ok (.iload 4, 2) := by decide +kernel
theorem dX5_fewestSteps_5 : decode cX5_fewestSteps 5 = .ok (.bipush 48, 2) := by decide +kernel
theorem dX5_fewestSteps_7 : decode cX5_fewestSteps 7 = .ok (.if_icmp .ge 17, 3) := by decide +kernel
theorem dX5_fewestSteps_10 : decode cX5_fewestSteps 10 = .ok (.aload_n 0, 1) := by decide +kernel
theorem dX5_fewestSteps_11 : decode cX5_fewestSteps 11 = .ok (.getfield 9, 3) := by decide +kernel
theorem dX5_fewestSteps_14 : decode cX5_fewestSteps 14 = .ok (.iload 4, 2) := by decide +kernel
theorem dX5_fewestSteps_16 : decode cX5_fewestSteps 16 = .ok (.iconst (-1), 1) := by decide +kernel
theorem dX5_fewestSteps_17 : decode cX5_fewestSteps 17 = .ok (.iastore, 1) := by decide +kernel
theorem dX5_fewestSteps_18 : decode cX5_fewestSteps 18 = .ok (.iinc 4 1, 3) := by decide +kernel
theorem dX5_fewestSteps_21 : decode cX5_fewestSteps 21 = .ok (.goto (-18), 3) := by decide +kernel
theorem dX5_fewestSteps_24 : decode cX5_fewestSteps 24 = .ok (.aload_n 0, 1) := by decide +kernel
theorem dX5_fewestSteps_25 : decode cX5_fewestSteps 25 = .ok (.getfield 9, 3) := by decide +kernel
theorem dX5_fewestSteps_28 : decode cX5_fewestSteps 28 = .ok (.iload_n 2, 1) := by decide +kernel
theorem dX5_fewestSteps_29 : decode cX5_fewestSteps 29 = .ok (.iconst 0, 1) := by decide +kernel
theorem dX5_fewestSteps_30 : decode cX5_fewestSteps 30 = .ok (.iastore, 1) := by decide +kernel
theorem dX5_fewestSteps_31 : decode cX5_fewestSteps 31 = .ok (.aload_n 0, 1) := by decide +kernel
theorem dX5_fewestSteps_32 : decode cX5_fewestSteps 32 = .ok (.getfield 15, 3) := by decide +kernel
theorem dX5_fewestSteps_35 : decode cX5_fewestSteps 35 = .ok (.iconst 0, 1) := by decide +kernel
theorem dX5_fewestSteps_36 : decode cX5_fewestSteps 36 = .ok (.iload_n 2, 1) := by decide +kernel
theorem dX5_fewestSteps_37 : decode cX5_fewestSteps 37 = .ok (.iastore, 1) := by decide +kernel
theorem dX5_fewestSteps_38 : decode cX5_fewestSteps 38 = .ok (.iconst 1, 1) := by decide +kernel
theorem dX5_fewestSteps_39 : decode cX5_fewestSteps 39 = .ok (.istore 4, 2) := by decide +kernel
theorem dX5_fewestSteps_41 : decode cX5_fewestSteps 41 = .ok (.iconst 0, 1) := by decide +kernel
theorem dX5_fewestSteps_42 : decode cX5_fewestSteps 42 = .ok (.istore 5, 2) := by decide +kernel
theorem dX5_fewestSteps_44 : decode cX5_fewestSteps 44 = .ok (.iload 5, 2) := by decide +kernel
theorem dX5_fewestSteps_46 : decode cX5_fewestSteps 46 = .ok (.iload 4, 2) := by decide +kernel
theorem dX5_fewestSteps_48 : decode cX5_fewestSteps 48 = .ok (.if_icmp .ge 32, 3) := by decide +kernel
theorem dX5_fewestSteps_51 : decode cX5_fewestSteps 51 = .ok (.iload 5, 2) := by decide +kernel
theorem dX5_fewestSteps_53 : decode cX5_fewestSteps 53 = .ok (.bipush 48, 2) := by decide +kernel
theorem dX5_fewestSteps_55 : decode cX5_fewestSteps 55 = .ok (.if_icmp .ge 25, 3) := by decide +kernel
theorem dX5_fewestSteps_58 : decode cX5_fewestSteps 58 = .ok (.aload_n 0, 1) := by decide +kernel
theorem dX5_fewestSteps_59 : decode cX5_fewestSteps 59 = .ok (.aload_n 1, 1) := by decide +kernel
theorem dX5_fewestSteps_60 : decode cX5_fewestSteps 60 = .ok (.aload_n 0, 1) := by decide +kernel
theorem dX5_fewestSteps_61 : decode cX5_fewestSteps 61 = .ok (.getfield 15, 3) := by decide +kernel
theorem dX5_fewestSteps_64 : decode cX5_fewestSteps 64 = .ok (.iload 5, 2) := by decide +kernel
theorem dX5_fewestSteps_66 : decode cX5_fewestSteps 66 = .ok (.iaload, 1) := by decide +kernel
theorem dX5_fewestSteps_67 : decode cX5_fewestSteps 67 = .ok (.iload 4, 2) := by decide +kernel
theorem dX5_fewestSteps_69 : decode cX5_fewestSteps 69 = .ok (.invokevirtual 24, 3) := by decide +kernel
theorem dX5_fewestSteps_72 : decode cX5_fewestSteps 72 = .ok (.istore 4, 2) := by decide +kernel
theorem dX5_fewestSteps_74 : decode cX5_fewestSteps 74 = .ok (.iinc 5 1, 3) := by decide +kernel
theorem dX5_fewestSteps_77 : decode cX5_fewestSteps 77 = .ok (.goto (-33), 3) := by decide +kernel
theorem dX5_fewestSteps_80 : decode cX5_fewestSteps 80 = .ok (.aload_n 0, 1) := by decide +kernel
theorem dX5_fewestSteps_81 : decode cX5_fewestSteps 81 = .ok (.getfield 9, 3) := by decide +kernel
theorem dX5_fewestSteps_84 : decode cX5_fewestSteps 84 = .ok (.iload_n 3, 1) := by decide +kernel
theorem dX5_fewestSteps_85 : decode cX5_fewestSteps 85 = .ok (.iaload, 1) := by decide +kernel
theorem dX5_fewestSteps_86 : decode cX5_fewestSteps 86 = .ok (.iconst (-1), 1) := by decide +kernel
theorem dX5_fewestSteps_87 : decode cX5_fewestSteps 87 = .ok (.if_icmp .ne 8, 3) := by decide +kernel
theorem dX5_fewestSteps_90 : decode cX5_fewestSteps 90 = .ok (.bipush (-9), 2) := by decide +kernel
theorem dX5_fewestSteps_92 : decode cX5_fewestSteps 92 = .ok (.goto 9, 3) := by decide +kernel
theorem dX5_fewestSteps_95 : decode cX5_fewestSteps 95 = .ok (.aload_n 0, 1) := by decide +kernel
theorem dX5_fewestSteps_96 : decode cX5_fewestSteps 96 = .ok (.getfield 9, 3) := by decide +kernel
theorem dX5_fewestSteps_99 : decode cX5_fewestSteps 99 = .ok (.iload_n 3, 1) := by decide +kernel
theorem dX5_fewestSteps_100 : decode cX5_fewestSteps 100 = .ok (.iaload, 1) := by decide +kernel
theorem dX5_fewestSteps_101 : decode cX5_fewestSteps 101 = .ok (.ireturn, 1) := by decide +kernel
theorem dX6_refuse_0 : decode cX6_refuse 0 = .ok (.iload_n 1, 1) := by decide +kernel
theorem dX6_refuse_1 : decode cX6_refuse 1 = .ok (.iconst (-1), 1) := by decide +kernel
theorem dX6_refuse_2 : decode cX6_refuse 2 = .ok (.if_icmp .gt 20, 3) := by decide +kernel
theorem dX6_refuse_5 : decode cX6_refuse 5 = .ok (.iload_n 1, 1) := by decide +kernel
theorem dX6_refuse_6 : decode cX6_refuse 6 = .ok (.bipush (-6), 2) := by decide +kernel
theorem dX6_refuse_8 : decode cX6_refuse 8 = .ok (.if_icmp .lt 14, 3) := by decide +kernel
theorem dX6_refuse_11 : decode cX6_refuse 11 = .ok (.aload_n 0, 1) := by decide +kernel
theorem dX6_refuse_12 : decode cX6_refuse 12 = .ok (.getfield 51, 3) := by decide +kernel
theorem dX6_refuse_15 : decode cX6_refuse 15 = .ok (.iload_n 1, 1) := by decide +kernel
theorem dX6_refuse_16 : decode cX6_refuse 16 = .ok (.ineg, 1) := by decide +kernel
theorem dX6_refuse_17 : decode cX6_refuse 17 = .ok (.dup2, 1) := by decide +kernel
theorem dX6_refuse_18 : decode cX6_refuse 18 = .ok (.iaload, 1) := by decide +kernel
theorem dX6_refuse_19 : decode cX6_refuse 19 = .ok (.iconst 1, 1) := by decide +kernel
theorem dX6_refuse_20 : decode cX6_refuse 20 = .ok (.iadd, 1) := by decide +kernel
theorem dX6_refuse_21 : decode cX6_refuse 21 = .ok (.iastore, 1) := by decide +kernel
theorem dX6_refuse_22 : decode cX6_refuse 22 = .ok (.iload_n 1, 1) := by decide +kernel
theorem dX6_refuse_23 : decode cX6_refuse 23 = .ok (.ireturn, 1) := by decide +kernel
theorem dX6_refuseLong_0 : decode cX6_refuseLong 0 = .ok (.ldc2_w 54, 3) := by decide +kernel
theorem dX6_refuseLong_3 : decode cX6_refuseLong 3 = .ok (.aload_n 0, 1) := by decide +kernel
theorem dX6_refuseLong_4 : decode cX6_refuseLong 4 = .ok (.iload_n 1, 1) := by decide +kernel
theorem dX6_refuseLong_5 : decode cX6_refuseLong 5 = .ok (.invokevirtual 56, 3) := by decide +kernel
theorem dX6_refuseLong_8 : decode cX6_refuseLong 8 = .ok (.i2l, 1) := by decide +kernel
theorem dX6_refuseLong_9 : decode cX6_refuseLong 9 = .ok (.lsub, 1) := by decide +kernel
theorem dX6_refuseLong_10 : decode cX6_refuseLong 10 = .ok (.lreturn, 1) := by decide +kernel
theorem dX6_noHead_0 : decode cX6_noHead 0 = .ok (.iload_n 1, 1) := by decide +kernel
theorem dX6_noHead_1 : decode cX6_noHead 1 = .ok (.ifCond .lt 14, 3) := by decide +kernel
theorem dX6_noHead_4 : decode cX6_noHead 4 = .ok (.iload_n 1, 1) := by decide +kernel
theorem dX6_noHead_5 : decode cX6_noHead 5 = .ok (.aload_n 0, 1) := by decide +kernel
theorem dX6_noHead_6 : decode cX6_noHead 6 = .ok (.getfield 10, 3) := by decide +kernel
theorem dX6_noHead_9 : decode cX6_noHead 9 = .ok (.getfield 60, 3) := by decide +kernel
theorem dX6_noHead_12 : decode cX6_noHead 12 = .ok (.if_icmp .lt 7, 3) := by decide +kernel
theorem dX6_noHead_15 : decode cX6_noHead 15 = .ok (.iconst 1, 1) := by decide +kernel
theorem dX6_noHead_16 : decode cX6_noHead 16 = .ok (.goto 4, 3) := by decide +kernel
theorem dX6_noHead_19 : decode cX6_noHead 19 = .ok (.iconst 0, 1) := by decide +kernel
theorem dX6_noHead_20 : decode cX6_noHead 20 = .ok (.ireturn, 1) := by decide +kernel
theorem dX6_noField_0 : decode cX6_noField 0 = .ok (.iload_n 0, 1) := by decide +kernel
theorem dX6_noField_1 : decode cX6_noField 1 = .ok (.ifCond .lt 9, 3) := by decide +kernel
theorem dX6_noField_4 : decode cX6_noField 4 = .ok (.iload_n 0, 1) := by decide +kernel
theorem dX6_noField_5 : decode cX6_noField 5 = .ok (.bipush 48, 2) := by decide +kernel
theorem dX6_noField_7 : decode cX6_noField 7 = .ok (.if_icmp .lt 7, 3) := by decide +kernel
theorem dX6_noField_10 : decode cX6_noField 10 = .ok (.iconst 1, 1) := by decide +kernel
theorem dX6_noField_11 : decode cX6_noField 11 = .ok (.goto 4, 3) := by decide +kernel
theorem dX6_noField_14 : decode cX6_noField 14 = .ok (.iconst 0, 1) := by decide +kernel
theorem dX6_noField_15 : decode cX6_noField 15 = .ok (.ireturn, 1) := by decide +kernel
theorem dX6_noPair_0 : decode cX6_noPair 0 = .ok (.aload_n 0, 1) := by decide +kernel
theorem dX6_noPair_1 : decode cX6_noPair 1 = .ok (.iload_n 1, 1) := by decide +kernel
theorem dX6_noPair_2 : decode cX6_noPair 2 = .ok (.invokevirtual 64, 3) := by decide +kernel
theorem dX6_noPair_5 : decode cX6_noPair 5 = .ok (.ifCond .ne 16, 3) := by decide +kernel
theorem dX6_noPair_8 : decode cX6_noPair 8 = .ok (.aload_n 0, 1) := by decide +kernel
theorem dX6_noPair_9 : decode cX6_noPair 9 = .ok (.iload_n 2, 1) := by decide +kernel
theorem dX6_noPair_10 : decode cX6_noPair 10 = .ok (.invokevirtual 64, 3) := by decide +kernel
theorem dX6_noPair_13 : decode cX6_noPair 13 = .ok (.ifCond .ne 8, 3) := by decide +kernel
theorem dX6_noPair_16 : decode cX6_noPair 16 = .ok (.iload_n 1, 1) := by decide +kernel
theorem dX6_noPair_17 : decode cX6_noPair 17 = .ok (.iload_n 2, 1) := by decide +kernel
theorem dX6_noPair_18 : decode cX6_noPair 18 = .ok (.if_icmp .ne 7, 3) := by decide +kernel
theorem dX6_noPair_21 : decode cX6_noPair 21 = .ok (.iconst 1, 1) := by decide +kernel
theorem dX6_noPair_22 : decode cX6_noPair 22 = .ok (.goto 4, 3) := by decide +kernel
theorem dX6_noPair_25 : decode cX6_noPair 25 = .ok (.iconst 0, 1) := by decide +kernel
theorem dX6_noPair_26 : decode cX6_noPair 26 = .ok (.ireturn, 1) := by decide +kernel
theorem dX6_faultOfNumber_0 : decode cX6_faultOfNumber 0 = .ok (.iload_n 0, 1) := by decide +kernel
theorem dX6_faultOfNumber_1 : decode cX6_faultOfNumber 1 = .ok (.ifCond .eq 5, 3) := by decide +kernel
theorem dX6_faultOfNumber_4 : decode cX6_faultOfNumber 4 = .ok (.iconst (-1), 1) := by decide +kernel
theorem dX6_faultOfNumber_5 : decode cX6_faultOfNumber 5 = .ok (.ireturn, 1) := by decide +kernel
theorem dX6_faultOfNumber_6 : decode cX6_faultOfNumber 6 = .ok (.iload_n 1, 1) := by decide +kernel
theorem dX6_faultOfNumber_7 : decode cX6_faultOfNumber 7 = .ok (.iload_n 2, 1) := by decide +kernel
theorem dX6_faultOfNumber_8 : decode cX6_faultOfNumber 8 = .ok (.if_icmp .ge 6, 3) := by decide +kernel
theorem dX6_faultOfNumber_11 : decode cX6_faultOfNumber 11 = .ok (.bipush (-4), 2) := by decide +kernel
theorem dX6_faultOfNumber_13 : decode cX6_faultOfNumber 13 = .ok (.ireturn, 1) := by decide +kernel
theorem dX6_faultOfNumber_14 : decode cX6_faultOfNumber 14 = .ok (.iload_n 1, 1) := by decide +kernel
theorem dX6_faultOfNumber_15 : decode cX6_faultOfNumber 15 = .ok (.iload_n 3, 1) := by decide +kernel
theorem dX6_faultOfNumber_16 : decode cX6_faultOfNumber 16 = .ok (.if_icmp .le 8, 3) := by decide +kernel
theorem dX6_faultOfNumber_19 : decode cX6_faultOfNumber 19 = .ok (.bipush (-6), 2) := by decide +kernel
theorem dX6_faultOfNumber_21 : decode cX6_faultOfNumber 21 = .ok (.goto 4, 3) := by decide +kernel
theorem dX6_faultOfNumber_24 : decode cX6_faultOfNumber 24 = .ok (.iconst 0, 1) := by decide +kernel
theorem dX6_faultOfNumber_25 : decode cX6_faultOfNumber 25 = .ok (.ireturn, 1) := by decide +kernel
theorem dX6_faultOfAsked_0 : decode cX6_faultOfAsked 0 = .ok (.iload_n 0, 1) := by decide +kernel
theorem dX6_faultOfAsked_1 : decode cX6_faultOfAsked 1 = .ok (.iload_n 1, 1) := by decide +kernel
theorem dX6_faultOfAsked_2 : decode cX6_faultOfAsked 2 = .ok (.iload_n 2, 1) := by decide +kernel
theorem dX6_faultOfAsked_3 : decode cX6_faultOfAsked 3 = .ok (.iload_n 3, 1) := by decide +kernel
theorem dX6_faultOfAsked_4 : decode cX6_faultOfAsked 4 = .ok (.invokestatic 68, 3) := by decide +kernel
theorem dX6_faultOfAsked_7 : decode cX6_faultOfAsked 7 = .ok (.istore 6, 2) := by decide +kernel
theorem dX6_faultOfAsked_9 : decode cX6_faultOfAsked 9 = .ok (.iload 4, 2) := by decide +kernel
theorem dX6_faultOfAsked_11 : decode cX6_faultOfAsked 11 = .ok (.ifCond .lt 10, 3) := by decide +kernel
theorem dX6_faultOfAsked_14 : decode cX6_faultOfAsked 14 = .ok (.iload 4, 2) := by decide +kernel
theorem dX6_faultOfAsked_16 : decode cX6_faultOfAsked 16 = .ok (.iload 5, 2) := by decide +kernel
theorem dX6_faultOfAsked_18 : decode cX6_faultOfAsked 18 = .ok (.if_icmp .le 7, 3) := by decide +kernel
theorem dX6_faultOfAsked_21 : decode cX6_faultOfAsked 21 = .ok (.iconst 1, 1) := by decide +kernel
theorem dX6_faultOfAsked_22 : decode cX6_faultOfAsked 22 = .ok (.goto 4, 3) := by decide +kernel
theorem dX6_faultOfAsked_25 : decode cX6_faultOfAsked 25 = .ok (.iconst 0, 1) := by decide +kernel
theorem dX6_faultOfAsked_26 : decode cX6_faultOfAsked 26 = .ok (.istore 7, 2) := by decide +kernel
theorem dX6_faultOfAsked_28 : decode cX6_faultOfAsked 28 = .ok (.iload 6, 2) := by decide +kernel
theorem dX6_faultOfAsked_30 : decode cX6_faultOfAsked 30 = .ok (.ifCond .ne 13, 3) := by decide +kernel
theorem dX6_faultOfAsked_33 : decode cX6_faultOfAsked 33 = .ok (.iload 7, 2) := by decide +kernel
theorem dX6_faultOfAsked_35 : decode cX6_faultOfAsked 35 = .ok (.ifCond .eq 8, 3) := by decide +kernel
theorem dX6_faultOfAsked_38 : decode cX6_faultOfAsked 38 = .ok (.bipush (-2), 2) := by decide +kernel
theorem dX6_faultOfAsked_40 : decode cX6_faultOfAsked 40 = .ok (.goto 5, 3) := by decide +kernel
theorem dX6_faultOfAsked_43 : decode cX6_faultOfAsked 43 = .ok (.iload 6, 2) := by decide +kernel
theorem dX6_faultOfAsked_45 : decode cX6_faultOfAsked 45 = .ok (.ireturn, 1) := by decide +kernel
theorem dX6_feed_0 : decode cX6_feed 0 = .ok (.iload_n 1, 1) := by decide +kernel
theorem dX6_feed_1 : decode cX6_feed 1 = .ok (.ifCond .ge 10, 3) := by decide +kernel
theorem dX6_feed_4 : decode cX6_feed 4 = .ok (.aload_n 0, 1) := by decide +kernel
theorem dX6_feed_5 : decode cX6_feed 5 = .ok (.bipush (-4), 2) := by decide +kernel
theorem dX6_feed_7 : decode cX6_feed 7 = .ok (.invokevirtual 56, 3) := by decide +kernel
theorem dX6_feed_10 : decode cX6_feed 10 = .ok (.ireturn, 1) := by decide +kernel
theorem dX6_feed_11 : decode cX6_feed 11 = .ok (.iload_n 1, 1) := by decide +kernel
theorem dX6_feed_12 : decode cX6_feed 12 = .ok (.sipush 255, 3) := by decide +kernel
theorem dX6_feed_15 : decode cX6_feed 15 = .ok (.if_icmp .gt 13, 3) := by decide +kernel
theorem dX6_feed_18 : decode cX6_feed 18 = .ok (.aload_n 0, 1) := by decide +kernel
theorem dX6_feed_19 : decode cX6_feed 19 = .ok (.getfield 29, 3) := by decide +kernel
theorem dX6_feed_22 : decode cX6_feed 22 = .ok (.invokevirtual 72, 3) := by decide +kernel
theorem dX6_feed_25 : decode cX6_feed 25 = .ok (.ifCond .eq 10, 3) := by decide +kernel
theorem dX6_feed_28 : decode cX6_feed 28 = .ok (.aload_n 0, 1) := by decide +kernel
theorem dX6_feed_29 : decode cX6_feed 29 = .ok (.bipush (-6), 2) := by decide +kernel
theorem dX6_feed_31 : decode cX6_feed 31 = .ok (.invokevirtual 56, 3) := by decide +kernel
theorem dX6_feed_34 : decode cX6_feed 34 = .ok (.ireturn, 1) := by decide +kernel
theorem dX6_feed_35 : decode cX6_feed 35 = .ok (.aload_n 0, 1) := by decide +kernel
theorem dX6_feed_36 : decode cX6_feed 36 = .ok (.getfield 29, 3) := by decide +kernel
theorem dX6_feed_39 : decode cX6_feed 39 = .ok (.iload_n 1, 1) := by decide +kernel
theorem dX6_feed_40 : decode cX6_feed 40 = .ok (.invokevirtual 76, 3) := by decide +kernel
theorem dX6_feed_43 : decode cX6_feed 43 = .ok (.ireturn, 1) := by decide +kernel
theorem dX6_head_0 : decode cX6_head 0 = .ok (.aload_n 0, 1) := by decide +kernel
theorem dX6_head_1 : decode cX6_head 1 = .ok (.iload_n 1, 1) := by decide +kernel
theorem dX6_head_2 : decode cX6_head 2 = .ok (.invokevirtual 64, 3) := by decide +kernel
theorem dX6_head_5 : decode cX6_head 5 = .ok (.ifCond .eq 9, 3) := by decide +kernel
theorem dX6_head_8 : decode cX6_head 8 = .ok (.aload_n 0, 1) := by decide +kernel
theorem dX6_head_9 : decode cX6_head 9 = .ok (.iconst (-1), 1) := by decide +kernel
theorem dX6_head_10 : decode cX6_head 10 = .ok (.invokevirtual 56, 3) := by decide +kernel
theorem dX6_head_13 : decode cX6_head 13 = .ok (.ireturn, 1) := by decide +kernel
theorem dX6_head_14 : decode cX6_head 14 = .ok (.aload_n 0, 1) := by decide +kernel
theorem dX6_head_15 : decode cX6_head 15 = .ok (.getfield 10, 3) := by decide +kernel
theorem dX6_head_18 : decode cX6_head 18 = .ok (.getfield 105, 3) := by decide +kernel
theorem dX6_head_21 : decode cX6_head 21 = .ok (.iload_n 1, 1) := by decide +kernel
theorem dX6_head_22 : decode cX6_head 22 = .ok (.aaload, 1) := by decide +kernel
theorem dX6_head_23 : decode cX6_head 23 = .ok (.astore_n 3, 1) := by decide +kernel
theorem dX6_head_24 : decode cX6_head 24 = .ok (.iload_n 2, 1) := by decide +kernel
theorem dX6_head_25 : decode cX6_head 25 = .ok (.tableswitch 140 0 11 #[63, 68, 73, 78, 83, 88, 93, 106, 111, 116, 121, 135], 63) := by decide +kernel
theorem dX6_head_88 : decode cX6_head 88 = .ok (.aload_n 3, 1) := by decide +kernel
theorem dX6_head_89 : decode cX6_head 89 = .ok (.getfield 109, 3) := by decide +kernel
theorem dX6_head_92 : decode cX6_head 92 = .ok (.ireturn, 1) := by decide +kernel
theorem dX6_head_93 : decode cX6_head 93 = .ok (.aload_n 3, 1) := by decide +kernel
theorem dX6_head_94 : decode cX6_head 94 = .ok (.getfield 114, 3) := by decide +kernel
theorem dX6_head_97 : decode cX6_head 97 = .ok (.ireturn, 1) := by decide +kernel
theorem dX6_head_98 : decode cX6_head 98 = .ok (.aload_n 3, 1) := by decide +kernel
theorem dX6_head_99 : decode cX6_head 99 = .ok (.getfield 117, 3) := by decide +kernel
theorem dX6_head_102 : decode cX6_head 102 = .ok (.ireturn, 1) := by decide +kernel
theorem dX6_head_103 : decode cX6_head 103 = .ok (.aload_n 3, 1) := by decide +kernel
theorem dX6_head_104 : decode cX6_head 104 = .ok (.getfield 120, 3) := by decide +kernel
theorem dX6_head_107 : decode cX6_head 107 = .ok (.ireturn, 1) := by decide +kernel
theorem dX6_head_108 : decode cX6_head 108 = .ok (.aload_n 3, 1) := by decide +kernel
theorem dX6_head_109 : decode cX6_head 109 = .ok (.getfield 123, 3) := by decide +kernel
theorem dX6_head_112 : decode cX6_head 112 = .ok (.ireturn, 1) := by decide +kernel
theorem dX6_head_113 : decode cX6_head 113 = .ok (.aload_n 3, 1) := by decide +kernel
theorem dX6_head_114 : decode cX6_head 114 = .ok (.getfield 126, 3) := by decide +kernel
theorem dX6_head_117 : decode cX6_head 117 = .ok (.ireturn, 1) := by decide +kernel
theorem dX6_head_118 : decode cX6_head 118 = .ok (.aload_n 3, 1) := by decide +kernel
theorem dX6_head_119 : decode cX6_head 119 = .ok (.getfield 129, 3) := by decide +kernel
theorem dX6_head_122 : decode cX6_head 122 = .ok (.ifCond .eq 7, 3) := by decide +kernel
theorem dX6_head_125 : decode cX6_head 125 = .ok (.iconst 1, 1) := by decide +kernel
theorem dX6_head_126 : decode cX6_head 126 = .ok (.goto 4, 3) := by decide +kernel
theorem dX6_head_129 : decode cX6_head 129 = .ok (.iconst 0, 1) := by decide +kernel
theorem dX6_head_130 : decode cX6_head 130 = .ok (.ireturn, 1) := by decide +kernel
theorem dX6_head_131 : decode cX6_head 131 = .ok (.aload_n 3, 1) := by decide +kernel
theorem dX6_head_132 : decode cX6_head 132 = .ok (.getfield 133, 3) := by decide +kernel
theorem dX6_head_135 : decode cX6_head 135 = .ok (.ireturn, 1) := by decide +kernel
theorem dX6_head_136 : decode cX6_head 136 = .ok (.aload_n 3, 1) := by decide +kernel
theorem dX6_head_137 : decode cX6_head 137 = .ok (.invokevirtual 136, 3) := by decide +kernel
theorem dX6_head_140 : decode cX6_head 140 = .ok (.ireturn, 1) := by decide +kernel
theorem dX6_head_141 : decode cX6_head 141 = .ok (.aload_n 3, 1) := by decide +kernel
theorem dX6_head_142 : decode cX6_head 142 = .ok (.invokevirtual 139, 3) := by decide +kernel
theorem dX6_head_145 : decode cX6_head 145 = .ok (.ireturn, 1) := by decide +kernel
theorem dX6_head_146 : decode cX6_head 146 = .ok (.aload_n 3, 1) := by decide +kernel
theorem dX6_head_147 : decode cX6_head 147 = .ok (.aload_n 0, 1) := by decide +kernel
theorem dX6_head_148 : decode cX6_head 148 = .ok (.getfield 10, 3) := by decide +kernel
theorem dX6_head_151 : decode cX6_head 151 = .ok (.getfield 142, 3) := by decide +kernel
theorem dX6_head_154 : decode cX6_head 154 = .ok (.iconst 1, 1) := by decide +kernel
theorem dX6_head_155 : decode cX6_head 155 = .ok (.iadd, 1) := by decide +kernel
theorem dX6_head_156 : decode cX6_head 156 = .ok (.invokevirtual 145, 3) := by decide +kernel
theorem dX6_head_159 : decode cX6_head 159 = .ok (.ireturn, 1) := by decide +kernel
theorem dX6_head_160 : decode cX6_head 160 = .ok (.aload_n 3, 1) := by decide +kernel
theorem dX6_head_161 : decode cX6_head 161 = .ok (.invokevirtual 148, 3) := by decide +kernel
theorem dX6_head_164 : decode cX6_head 164 = .ok (.ireturn, 1) := by decide +kernel
theorem dX6_head_165 : decode cX6_head 165 = .ok (.aload_n 0, 1) := by decide +kernel
theorem dX6_head_166 : decode cX6_head 166 = .ok (.bipush (-2), 2) := by decide +kernel
theorem dX6_head_168 : decode cX6_head 168 = .ok (.invokevirtual 56, 3) := by decide +kernel
theorem dX6_head_171 : decode cX6_head 171 = .ok (.ireturn, 1) := by decide +kernel
theorem dX6_field_0 : decode cX6_field 0 = .ok (.iload_n 1, 1) := by decide +kernel
theorem dX6_field_1 : decode cX6_field 1 = .ok (.invokestatic 151, 3) := by decide +kernel
theorem dX6_field_4 : decode cX6_field 4 = .ok (.ifCond .eq 9, 3) := by decide +kernel
theorem dX6_field_7 : decode cX6_field 7 = .ok (.aload_n 0, 1) := by decide +kernel
theorem dX6_field_8 : decode cX6_field 8 = .ok (.iconst (-1), 1) := by decide +kernel
theorem dX6_field_9 : decode cX6_field 9 = .ok (.invokevirtual 56, 3) := by decide +kernel
theorem dX6_field_12 : decode cX6_field 12 = .ok (.ireturn, 1) := by decide +kernel
theorem dX6_field_13 : decode cX6_field 13 = .ok (.iload_n 2, 1) := by decide +kernel
theorem dX6_field_14 : decode cX6_field 14 = .ok (.tableswitch 69 0 3 #[30, 40, 50, 60], 30) := by decide +kernel
theorem dX6_field_44 : decode cX6_field 44 = .ok (.aload_n 0, 1) := by decide +kernel
theorem dX6_field_45 : decode cX6_field 45 = .ok (.getfield 10, 3) := by decide +kernel
theorem dX6_field_48 : decode cX6_field 48 = .ok (.getfield 154, 3) := by decide +kernel
theorem dX6_field_51 : decode cX6_field 51 = .ok (.iload_n 1, 1) := by decide +kernel
theorem dX6_field_52 : decode cX6_field 52 = .ok (.iaload, 1) := by decide +kernel
theorem dX6_field_53 : decode cX6_field 53 = .ok (.ireturn, 1) := by decide +kernel
theorem dX6_field_54 : decode cX6_field 54 = .ok (.aload_n 0, 1) := by decide +kernel
theorem dX6_field_55 : decode cX6_field 55 = .ok (.getfield 10, 3) := by decide +kernel
theorem dX6_field_58 : decode cX6_field 58 = .ok (.getfield 157, 3) := by decide +kernel
theorem dX6_field_61 : decode cX6_field 61 = .ok (.iload_n 1, 1) := by decide +kernel
theorem dX6_field_62 : decode cX6_field 62 = .ok (.iaload, 1) := by decide +kernel
theorem dX6_field_63 : decode cX6_field 63 = .ok (.ireturn, 1) := by decide +kernel
theorem dX6_field_64 : decode cX6_field 64 = .ok (.aload_n 0, 1) := by decide +kernel
theorem dX6_field_65 : decode cX6_field 65 = .ok (.getfield 10, 3) := by decide +kernel
theorem dX6_field_68 : decode cX6_field 68 = .ok (.getfield 160, 3) := by decide +kernel
theorem dX6_field_71 : decode cX6_field 71 = .ok (.iload_n 1, 1) := by decide +kernel
theorem dX6_field_72 : decode cX6_field 72 = .ok (.iaload, 1) := by decide +kernel
theorem dX6_field_73 : decode cX6_field 73 = .ok (.ireturn, 1) := by decide +kernel
theorem dX6_field_74 : decode cX6_field 74 = .ok (.aload_n 0, 1) := by decide +kernel
theorem dX6_field_75 : decode cX6_field 75 = .ok (.getfield 10, 3) := by decide +kernel
theorem dX6_field_78 : decode cX6_field 78 = .ok (.iload_n 1, 1) := by decide +kernel
theorem dX6_field_79 : decode cX6_field 79 = .ok (.invokevirtual 163, 3) := by decide +kernel
theorem dX6_field_82 : decode cX6_field 82 = .ok (.ireturn, 1) := by decide +kernel
theorem dX6_field_83 : decode cX6_field 83 = .ok (.aload_n 0, 1) := by decide +kernel
theorem dX6_field_84 : decode cX6_field 84 = .ok (.bipush (-2), 2) := by decide +kernel
theorem dX6_field_86 : decode cX6_field 86 = .ok (.invokevirtual 56, 3) := by decide +kernel
theorem dX6_field_89 : decode cX6_field 89 = .ok (.ireturn, 1) := by decide +kernel
theorem dX6_comes_0 : decode cX6_comes 0 = .ok (.iload_n 1, 1) := by decide +kernel
theorem dX6_comes_1 : decode cX6_comes 1 = .ok (.ifCond .lt 9, 3) := by decide +kernel
theorem dX6_comes_4 : decode cX6_comes 4 = .ok (.iload_n 1, 1) := by decide +kernel
theorem dX6_comes_5 : decode cX6_comes 5 = .ok (.bipush 8, 2) := by decide +kernel
theorem dX6_comes_7 : decode cX6_comes 7 = .ok (.if_icmp .lt 10, 3) := by decide +kernel
theorem dX6_comes_10 : decode cX6_comes 10 = .ok (.aload_n 0, 1) := by decide +kernel
theorem dX6_comes_11 : decode cX6_comes 11 = .ok (.bipush (-2), 2) := by decide +kernel
theorem dX6_comes_13 : decode cX6_comes 13 = .ok (.invokevirtual 56, 3) := by decide +kernel
theorem dX6_comes_16 : decode cX6_comes 16 = .ok (.ireturn, 1) := by decide +kernel
theorem dX6_comes_17 : decode cX6_comes 17 = .ok (.iload_n 2, 1) := by decide +kernel
theorem dX6_comes_18 : decode cX6_comes 18 = .ok (.ifCond .lt 8, 3) := by decide +kernel
theorem dX6_comes_21 : decode cX6_comes 21 = .ok (.iload 4, 2) := by decide +kernel
theorem dX6_comes_23 : decode cX6_comes 23 = .ok (.ifCond .ge 10, 3) := by decide +kernel
theorem dX6_comes_26 : decode cX6_comes 26 = .ok (.aload_n 0, 1) := by decide +kernel
theorem dX6_comes_27 : decode cX6_comes 27 = .ok (.bipush (-4), 2) := by decide +kernel
theorem dX6_comes_29 : decode cX6_comes 29 = .ok (.invokevirtual 56, 3) := by decide +kernel
theorem dX6_comes_32 : decode cX6_comes 32 = .ok (.ireturn, 1) := by decide +kernel
theorem dX6_comes_33 : decode cX6_comes 33 = .ok (.iload_n 2, 1) := by decide +kernel
theorem dX6_comes_34 : decode cX6_comes 34 = .ok (.bipush 9, 2) := by decide +kernel
theorem dX6_comes_36 : decode cX6_comes 36 = .ok (.if_icmp .gt 20, 3) := by decide +kernel
theorem dX6_comes_39 : decode cX6_comes 39 = .ok (.iload 4, 2) := by decide +kernel
theorem dX6_comes_41 : decode cX6_comes 41 = .ok (.bipush 26, 2) := by decide +kernel
theorem dX6_comes_43 : decode cX6_comes 43 = .ok (.if_icmp .ge 13, 3) := by decide +kernel
theorem dX6_comes_46 : decode cX6_comes 46 = .ok (.aload_n 0, 1) := by decide +kernel
theorem dX6_comes_47 : decode cX6_comes 47 = .ok (.getfield 10, 3) := by decide +kernel
theorem dX6_comes_50 : decode cX6_comes 50 = .ok (.invokevirtual 166, 3) := by decide +kernel
theorem dX6_comes_53 : decode cX6_comes 53 = .ok (.ifCond .eq 10, 3) := by decide +kernel
theorem dX6_comes_56 : decode cX6_comes 56 = .ok (.aload_n 0, 1) := by decide +kernel
theorem dX6_comes_57 : decode cX6_comes 57 = .ok (.bipush (-6), 2) := by decide +kernel
theorem dX6_comes_59 : decode cX6_comes 59 = .ok (.invokevirtual 56, 3) := by decide +kernel
theorem dX6_comes_62 : decode cX6_comes 62 = .ok (.ireturn, 1) := by decide +kernel
theorem dX6_comes_63 : decode cX6_comes 63 = .ok (.iload_n 3, 1) := by decide +kernel
theorem dX6_comes_64 : decode cX6_comes 64 = .ok (.invokestatic 151, 3) := by decide +kernel
theorem dX6_comes_67 : decode cX6_comes 67 = .ok (.ifCond .eq 9, 3) := by decide +kernel
theorem dX6_comes_70 : decode cX6_comes 70 = .ok (.aload_n 0, 1) := by decide +kernel
theorem dX6_comes_71 : decode cX6_comes 71 = .ok (.iconst (-1), 1) := by decide +kernel
theorem dX6_comes_72 : decode cX6_comes 72 = .ok (.invokevirtual 56, 3) := by decide +kernel
theorem dX6_comes_75 : decode cX6_comes 75 = .ok (.ireturn, 1) := by decide +kernel
theorem dX6_comes_76 : decode cX6_comes 76 = .ok (.aload_n 0, 1) := by decide +kernel
theorem dX6_comes_77 : decode cX6_comes 77 = .ok (.getfield 22, 3) := by decide +kernel
theorem dX6_comes_80 : decode cX6_comes 80 = .ok (.invokevirtual 104, 3) := by decide +kernel
theorem dX6_comes_83 : decode cX6_comes 83 = .ok (.aload_n 0, 1) := by decide +kernel
theorem dX6_comes_84 : decode cX6_comes 84 = .ok (.getfield 10, 3) := by decide +kernel
theorem dX6_comes_87 : decode cX6_comes 87 = .ok (.iload_n 1, 1) := by decide +kernel
theorem dX6_comes_88 : decode cX6_comes 88 = .ok (.iload_n 2, 1) := by decide +kernel
theorem dX6_comes_89 : decode cX6_comes 89 = .ok (.iload_n 3, 1) := by decide +kernel
theorem dX6_comes_90 : decode cX6_comes 90 = .ok (.invokevirtual 167, 3) := by decide +kernel
theorem dX6_comes_93 : decode cX6_comes 93 = .ok (.aload_n 0, 1) := by decide +kernel
theorem dX6_comes_94 : decode cX6_comes 94 = .ok (.getfield 10, 3) := by decide +kernel
theorem dX6_comes_97 : decode cX6_comes 97 = .ok (.iload 4, 2) := by decide +kernel
theorem dX6_comes_99 : decode cX6_comes 99 = .ok (.invokevirtual 171, 3) := by decide +kernel
theorem dX6_comes_102 : decode cX6_comes 102 = .ok (.aload_n 0, 1) := by decide +kernel
theorem dX6_comes_103 : decode cX6_comes 103 = .ok (.getfield 10, 3) := by decide +kernel
theorem dX6_comes_106 : decode cX6_comes 106 = .ok (.getfield 60, 3) := by decide +kernel
theorem dX6_comes_109 : decode cX6_comes 109 = .ok (.iconst 1, 1) := by decide +kernel
theorem dX6_comes_110 : decode cX6_comes 110 = .ok (.isub, 1) := by decide +kernel
theorem dX6_comes_111 : decode cX6_comes 111 = .ok (.ireturn, 1) := by decide +kernel
theorem dX6_named_0 : decode cX6_named 0 = .ok (.aload_n 0, 1) := by decide +kernel
theorem dX6_named_1 : decode cX6_named 1 = .ok (.iload_n 1, 1) := by decide +kernel
theorem dX6_named_2 : decode cX6_named 2 = .ok (.invokevirtual 64, 3) := by decide +kernel
theorem dX6_named_5 : decode cX6_named 5 = .ok (.ifCond .eq 9, 3) := by decide +kernel
theorem dX6_named_8 : decode cX6_named 8 = .ok (.aload_n 0, 1) := by decide +kernel
theorem dX6_named_9 : decode cX6_named 9 = .ok (.iconst (-1), 1) := by decide +kernel
theorem dX6_named_10 : decode cX6_named 10 = .ok (.invokevirtual 56, 3) := by decide +kernel
theorem dX6_named_13 : decode cX6_named 13 = .ok (.ireturn, 1) := by decide +kernel
theorem dX6_named_14 : decode cX6_named 14 = .ok (.iload_n 2, 1) := by decide +kernel
theorem dX6_named_15 : decode cX6_named 15 = .ok (.ifCond .ge 10, 3) := by decide +kernel
theorem dX6_named_18 : decode cX6_named 18 = .ok (.aload_n 0, 1) := by decide +kernel
theorem dX6_named_19 : decode cX6_named 19 = .ok (.bipush (-4), 2) := by decide +kernel
theorem dX6_named_21 : decode cX6_named 21 = .ok (.invokevirtual 56, 3) := by decide +kernel
theorem dX6_named_24 : decode cX6_named 24 = .ok (.ireturn, 1) := by decide +kernel
theorem dX6_named_25 : decode cX6_named 25 = .ok (.aload_n 0, 1) := by decide +kernel
theorem dX6_named_26 : decode cX6_named 26 = .ok (.getfield 10, 3) := by decide +kernel
theorem dX6_named_29 : decode cX6_named 29 = .ok (.getfield 105, 3) := by decide +kernel
theorem dX6_named_32 : decode cX6_named 32 = .ok (.iload_n 1, 1) := by decide +kernel
theorem dX6_named_33 : decode cX6_named 33 = .ok (.aaload, 1) := by decide +kernel
theorem dX6_named_34 : decode cX6_named 34 = .ok (.astore_n 3, 1) := by decide +kernel
theorem dX6_named_35 : decode cX6_named 35 = .ok (.iload_n 2, 1) := by decide +kernel
theorem dX6_named_36 : decode cX6_named 36 = .ok (.bipush 26, 2) := by decide +kernel
theorem dX6_named_38 : decode cX6_named 38 = .ok (.if_icmp .ge 10, 3) := by decide +kernel
theorem dX6_named_41 : decode cX6_named 41 = .ok (.aload_n 3, 1) := by decide +kernel
theorem dX6_named_42 : decode cX6_named 42 = .ok (.invokevirtual 175, 3) := by decide +kernel
theorem dX6_named_45 : decode cX6_named 45 = .ok (.ifCond .eq 10, 3) := by decide +kernel
theorem dX6_named_48 : decode cX6_named 48 = .ok (.aload_n 0, 1) := by decide +kernel
theorem dX6_named_49 : decode cX6_named 49 = .ok (.bipush (-6), 2) := by decide +kernel
theorem dX6_named_51 : decode cX6_named 51 = .ok (.invokevirtual 56, 3) := by decide +kernel
theorem dX6_named_54 : decode cX6_named 54 = .ok (.ireturn, 1) := by decide +kernel
theorem dX6_named_55 : decode cX6_named 55 = .ok (.aload_n 0, 1) := by decide +kernel
theorem dX6_named_56 : decode cX6_named 56 = .ok (.getfield 22, 3) := by decide +kernel
theorem dX6_named_59 : decode cX6_named 59 = .ok (.aload_n 0, 1) := by decide +kernel
theorem dX6_named_60 : decode cX6_named 60 = .ok (.getfield 10, 3) := by decide +kernel
theorem dX6_named_63 : decode cX6_named 63 = .ok (.invokevirtual 178, 3) := by decide +kernel
theorem dX6_named_66 : decode cX6_named 66 = .ok (.aload_n 3, 1) := by decide +kernel
theorem dX6_named_67 : decode cX6_named 67 = .ok (.iload_n 2, 1) := by decide +kernel
theorem dX6_named_68 : decode cX6_named 68 = .ok (.invokevirtual 181, 3) := by decide +kernel
theorem dX6_named_71 : decode cX6_named 71 = .ok (.aload_n 3, 1) := by decide +kernel
theorem dX6_named_72 : decode cX6_named 72 = .ok (.getfield 133, 3) := by decide +kernel
theorem dX6_named_75 : decode cX6_named 75 = .ok (.ireturn, 1) := by decide +kernel
theorem dX6_faces_0 : decode cX6_faces 0 = .ok (.aload_n 0, 1) := by decide +kernel
theorem dX6_faces_1 : decode cX6_faces 1 = .ok (.iload_n 1, 1) := by decide +kernel
theorem dX6_faces_2 : decode cX6_faces 2 = .ok (.invokevirtual 64, 3) := by decide +kernel
theorem dX6_faces_5 : decode cX6_faces 5 = .ok (.iload_n 2, 1) := by decide +kernel
theorem dX6_faces_6 : decode cX6_faces 6 = .ok (.iconst 0, 1) := by decide +kernel
theorem dX6_faces_7 : decode cX6_faces 7 = .ok (.iconst 3, 1) := by decide +kernel
theorem dX6_faces_8 : decode cX6_faces 8 = .ok (.invokestatic 68, 3) := by decide +kernel
theorem dX6_faces_11 : decode cX6_faces 11 = .ok (.istore_n 3, 1) := by decide +kernel
theorem dX6_faces_12 : decode cX6_faces 12 = .ok (.iload_n 3, 1) := by decide +kernel
theorem dX6_faces_13 : decode cX6_faces 13 = .ok (.ifCond .eq 9, 3) := by decide +kernel
theorem dX6_faces_16 : decode cX6_faces 16 = .ok (.aload_n 0, 1) := by decide +kernel
theorem dX6_faces_17 : decode cX6_faces 17 = .ok (.iload_n 3, 1) := by decide +kernel
theorem dX6_faces_18 : decode cX6_faces 18 = .ok (.invokevirtual 56, 3) := by decide +kernel
theorem dX6_faces_21 : decode cX6_faces 21 = .ok (.ireturn, 1) := by decide +kernel
theorem dX6_faces_22 : decode cX6_faces 22 = .ok (.aload_n 0, 1) := by decide +kernel
theorem dX6_faces_23 : decode cX6_faces 23 = .ok (.getfield 22, 3) := by decide +kernel
theorem dX6_faces_26 : decode cX6_faces 26 = .ok (.aload_n 0, 1) := by decide +kernel
theorem dX6_faces_27 : decode cX6_faces 27 = .ok (.getfield 10, 3) := by decide +kernel
theorem dX6_faces_30 : decode cX6_faces 30 = .ok (.invokevirtual 178, 3) := by decide +kernel
theorem dX6_faces_33 : decode cX6_faces 33 = .ok (.aload_n 0, 1) := by decide +kernel
theorem dX6_faces_34 : decode cX6_faces 34 = .ok (.getfield 10, 3) := by decide +kernel
theorem dX6_faces_37 : decode cX6_faces 37 = .ok (.getfield 105, 3) := by decide +kernel
theorem dX6_faces_40 : decode cX6_faces 40 = .ok (.iload_n 1, 1) := by decide +kernel
theorem dX6_faces_41 : decode cX6_faces 41 = .ok (.aaload, 1) := by decide +kernel
theorem dX6_faces_42 : decode cX6_faces 42 = .ok (.getfield 120, 3) := by decide +kernel
theorem dX6_faces_45 : decode cX6_faces 45 = .ok (.istore 4, 2) := by decide +kernel
theorem dX6_faces_47 : decode cX6_faces 47 = .ok (.aload_n 0, 1) := by decide +kernel
theorem dX6_faces_48 : decode cX6_faces 48 = .ok (.getfield 10, 3) := by decide +kernel
theorem dX6_faces_51 : decode cX6_faces 51 = .ok (.getfield 105, 3) := by decide +kernel
theorem dX6_faces_54 : decode cX6_faces 54 = .ok (.iload_n 1, 1) := by decide +kernel
theorem dX6_faces_55 : decode cX6_faces 55 = .ok (.aaload, 1) := by decide +kernel
theorem dX6_faces_56 : decode cX6_faces 56 = .ok (.iload_n 2, 1) := by decide +kernel
theorem dX6_faces_57 : decode cX6_faces 57 = .ok (.putfield 120, 3) := by decide +kernel
theorem dX6_faces_60 : decode cX6_faces 60 = .ok (.iload 4, 2) := by decide +kernel
theorem dX6_faces_62 : decode cX6_faces 62 = .ok (.ireturn, 1) := by decide +kernel
theorem dX6_does_0 : decode cX6_does 0 = .ok (.aload_n 0, 1) := by decide +kernel
theorem dX6_does_1 : decode cX6_does 1 = .ok (.iload_n 1, 1) := by decide +kernel
theorem dX6_does_2 : decode cX6_does 2 = .ok (.invokevirtual 64, 3) := by decide +kernel
theorem dX6_does_5 : decode cX6_does 5 = .ok (.ifCond .eq 9, 3) := by decide +kernel
theorem dX6_does_8 : decode cX6_does 8 = .ok (.aload_n 0, 1) := by decide +kernel
theorem dX6_does_9 : decode cX6_does 9 = .ok (.iconst (-1), 1) := by decide +kernel
theorem dX6_does_10 : decode cX6_does 10 = .ok (.invokevirtual 56, 3) := by decide +kernel
theorem dX6_does_13 : decode cX6_does 13 = .ok (.ireturn, 1) := by decide +kernel
theorem dX6_does_14 : decode cX6_does 14 = .ok (.iload_n 2, 1) := by decide +kernel
theorem dX6_does_15 : decode cX6_does 15 = .ok (.ifCond .lt 8, 3) := by decide +kernel
theorem dX6_does_18 : decode cX6_does 18 = .ok (.iload_n 2, 1) := by decide +kernel
theorem dX6_does_19 : decode cX6_does 19 = .ok (.iconst 5, 1) := by decide +kernel
theorem dX6_does_20 : decode cX6_does 20 = .ok (.if_icmp .lt 10, 3) := by decide +kernel
theorem dX6_does_23 : decode cX6_does 23 = .ok (.aload_n 0, 1) := by decide +kernel
theorem dX6_does_24 : decode cX6_does 24 = .ok (.bipush (-2), 2) := by decide +kernel
theorem dX6_does_26 : decode cX6_does 26 = .ok (.invokevirtual 56, 3) := by decide +kernel
theorem dX6_does_29 : decode cX6_does 29 = .ok (.ireturn, 1) := by decide +kernel
theorem dX6_does_30 : decode cX6_does 30 = .ok (.aload_n 0, 1) := by decide +kernel
theorem dX6_does_31 : decode cX6_does 31 = .ok (.getfield 22, 3) := by decide +kernel
theorem dX6_does_34 : decode cX6_does 34 = .ok (.aload_n 0, 1) := by decide +kernel
theorem dX6_does_35 : decode cX6_does 35 = .ok (.getfield 10, 3) := by decide +kernel
theorem dX6_does_38 : decode cX6_does 38 = .ok (.invokevirtual 178, 3) := by decide +kernel
theorem dX6_does_41 : decode cX6_does 41 = .ok (.aload_n 0, 1) := by decide +kernel
theorem dX6_does_42 : decode cX6_does 42 = .ok (.getfield 10, 3) := by decide +kernel
theorem dX6_does_45 : decode cX6_does 45 = .ok (.getfield 105, 3) := by decide +kernel
theorem dX6_does_48 : decode cX6_does 48 = .ok (.iload_n 1, 1) := by decide +kernel
theorem dX6_does_49 : decode cX6_does 49 = .ok (.aaload, 1) := by decide +kernel
theorem dX6_does_50 : decode cX6_does 50 = .ok (.getfield 123, 3) := by decide +kernel
theorem dX6_does_53 : decode cX6_does 53 = .ok (.istore_n 3, 1) := by decide +kernel
theorem dX6_does_54 : decode cX6_does 54 = .ok (.aload_n 0, 1) := by decide +kernel
theorem dX6_does_55 : decode cX6_does 55 = .ok (.getfield 10, 3) := by decide +kernel
theorem dX6_does_58 : decode cX6_does 58 = .ok (.getfield 105, 3) := by decide +kernel
theorem dX6_does_61 : decode cX6_does 61 = .ok (.iload_n 1, 1) := by decide +kernel
theorem dX6_does_62 : decode cX6_does 62 = .ok (.aaload, 1) := by decide +kernel
theorem dX6_does_63 : decode cX6_does 63 = .ok (.iload_n 2, 1) := by decide +kernel
theorem dX6_does_64 : decode cX6_does 64 = .ok (.putfield 123, 3) := by decide +kernel
theorem dX6_does_67 : decode cX6_does 67 = .ok (.iload_n 3, 1) := by decide +kernel
theorem dX6_does_68 : decode cX6_does 68 = .ok (.ireturn, 1) := by decide +kernel
theorem dX6_joins_0 : decode cX6_joins 0 = .ok (.aload_n 0, 1) := by decide +kernel
theorem dX6_joins_1 : decode cX6_joins 1 = .ok (.iload_n 1, 1) := by decide +kernel
theorem dX6_joins_2 : decode cX6_joins 2 = .ok (.invokevirtual 64, 3) := by decide +kernel
theorem dX6_joins_5 : decode cX6_joins 5 = .ok (.iload_n 2, 1) := by decide +kernel
theorem dX6_joins_6 : decode cX6_joins 6 = .ok (.iconst 0, 1) := by decide +kernel
theorem dX6_joins_7 : decode cX6_joins 7 = .ok (.bipush 99, 2) := by decide +kernel
theorem dX6_joins_9 : decode cX6_joins 9 = .ok (.invokestatic 68, 3) := by decide +kernel
theorem dX6_joins_12 : decode cX6_joins 12 = .ok (.istore_n 3, 1) := by decide +kernel
theorem dX6_joins_13 : decode cX6_joins 13 = .ok (.iload_n 3, 1) := by decide +kernel
theorem dX6_joins_14 : decode cX6_joins 14 = .ok (.ifCond .eq 9, 3) := by decide +kernel
theorem dX6_joins_17 : decode cX6_joins 17 = .ok (.aload_n 0, 1) := by decide +kernel
theorem dX6_joins_18 : decode cX6_joins 18 = .ok (.iload_n 3, 1) := by decide +kernel
theorem dX6_joins_19 : decode cX6_joins 19 = .ok (.invokevirtual 56, 3) := by decide +kernel
theorem dX6_joins_22 : decode cX6_joins 22 = .ok (.ireturn, 1) := by decide +kernel
theorem dX6_joins_23 : decode cX6_joins 23 = .ok (.aload_n 0, 1) := by decide +kernel
theorem dX6_joins_24 : decode cX6_joins 24 = .ok (.getfield 22, 3) := by decide +kernel
theorem dX6_joins_27 : decode cX6_joins 27 = .ok (.aload_n 0, 1) := by decide +kernel
theorem dX6_joins_28 : decode cX6_joins 28 = .ok (.getfield 10, 3) := by decide +kernel
theorem dX6_joins_31 : decode cX6_joins 31 = .ok (.invokevirtual 178, 3) := by decide +kernel
theorem dX6_joins_34 : decode cX6_joins 34 = .ok (.aload_n 0, 1) := by decide +kernel
theorem dX6_joins_35 : decode cX6_joins 35 = .ok (.getfield 10, 3) := by decide +kernel
theorem dX6_joins_38 : decode cX6_joins 38 = .ok (.getfield 105, 3) := by decide +kernel
theorem dX6_joins_41 : decode cX6_joins 41 = .ok (.iload_n 1, 1) := by decide +kernel
theorem dX6_joins_42 : decode cX6_joins 42 = .ok (.aaload, 1) := by decide +kernel
theorem dX6_joins_43 : decode cX6_joins 43 = .ok (.getfield 126, 3) := by decide +kernel
theorem dX6_joins_46 : decode cX6_joins 46 = .ok (.istore 4, 2) := by decide +kernel
theorem dX6_joins_48 : decode cX6_joins 48 = .ok (.aload_n 0, 1) := by decide +kernel
theorem dX6_joins_49 : decode cX6_joins 49 = .ok (.getfield 10, 3) := by decide +kernel
theorem dX6_joins_52 : decode cX6_joins 52 = .ok (.getfield 105, 3) := by decide +kernel
theorem dX6_joins_55 : decode cX6_joins 55 = .ok (.iload_n 1, 1) := by decide +kernel
theorem dX6_joins_56 : decode cX6_joins 56 = .ok (.aaload, 1) := by decide +kernel
theorem dX6_joins_57 : decode cX6_joins 57 = .ok (.iload_n 2, 1) := by decide +kernel
theorem dX6_joins_58 : decode cX6_joins 58 = .ok (.putfield 126, 3) := by decide +kernel
theorem dX6_joins_61 : decode cX6_joins 61 = .ok (.iload 4, 2) := by decide +kernel
theorem dX6_joins_63 : decode cX6_joins 63 = .ok (.ireturn, 1) := by decide +kernel
theorem dX6_walls_0 : decode cX6_walls 0 = .ok (.iload_n 1, 1) := by decide +kernel
theorem dX6_walls_1 : decode cX6_walls 1 = .ok (.invokestatic 151, 3) := by decide +kernel
theorem dX6_walls_4 : decode cX6_walls 4 = .ok (.iload_n 2, 1) := by decide +kernel
theorem dX6_walls_5 : decode cX6_walls 5 = .ok (.iconst 0, 1) := by decide +kernel
theorem dX6_walls_6 : decode cX6_walls 6 = .ok (.bipush 9, 2) := by decide +kernel
theorem dX6_walls_8 : decode cX6_walls 8 = .ok (.invokestatic 68, 3) := by decide +kernel
theorem dX6_walls_11 : decode cX6_walls 11 = .ok (.istore_n 3, 1) := by decide +kernel
theorem dX6_walls_12 : decode cX6_walls 12 = .ok (.iload_n 3, 1) := by decide +kernel
theorem dX6_walls_13 : decode cX6_walls 13 = .ok (.ifCond .eq 9, 3) := by decide +kernel
theorem dX6_walls_16 : decode cX6_walls 16 = .ok (.aload_n 0, 1) := by decide +kernel
theorem dX6_walls_17 : decode cX6_walls 17 = .ok (.iload_n 3, 1) := by decide +kernel
theorem dX6_walls_18 : decode cX6_walls 18 = .ok (.invokevirtual 56, 3) := by decide +kernel
theorem dX6_walls_21 : decode cX6_walls 21 = .ok (.ireturn, 1) := by decide +kernel
theorem dX6_walls_22 : decode cX6_walls 22 = .ok (.aload_n 0, 1) := by decide +kernel
theorem dX6_walls_23 : decode cX6_walls 23 = .ok (.getfield 22, 3) := by decide +kernel
theorem dX6_walls_26 : decode cX6_walls 26 = .ok (.aload_n 0, 1) := by decide +kernel
theorem dX6_walls_27 : decode cX6_walls 27 = .ok (.getfield 10, 3) := by decide +kernel
theorem dX6_walls_30 : decode cX6_walls 30 = .ok (.invokevirtual 178, 3) := by decide +kernel
theorem dX6_walls_33 : decode cX6_walls 33 = .ok (.aload_n 0, 1) := by decide +kernel
theorem dX6_walls_34 : decode cX6_walls 34 = .ok (.getfield 10, 3) := by decide +kernel
theorem dX6_walls_37 : decode cX6_walls 37 = .ok (.getfield 154, 3) := by decide +kernel
theorem dX6_walls_40 : decode cX6_walls 40 = .ok (.iload_n 1, 1) := by decide +kernel
theorem dX6_walls_41 : decode cX6_walls 41 = .ok (.iaload, 1) := by decide +kernel
theorem dX6_walls_42 : decode cX6_walls 42 = .ok (.istore 4, 2) := by decide +kernel
theorem dX6_walls_44 : decode cX6_walls 44 = .ok (.aload_n 0, 1) := by decide +kernel
theorem dX6_walls_45 : decode cX6_walls 45 = .ok (.getfield 10, 3) := by decide +kernel
theorem dX6_walls_48 : decode cX6_walls 48 = .ok (.getfield 154, 3) := by decide +kernel
theorem dX6_walls_51 : decode cX6_walls 51 = .ok (.iload_n 1, 1) := by decide +kernel
theorem dX6_walls_52 : decode cX6_walls 52 = .ok (.iload_n 2, 1) := by decide +kernel
theorem dX6_walls_53 : decode cX6_walls 53 = .ok (.iastore, 1) := by decide +kernel
theorem dX6_walls_54 : decode cX6_walls 54 = .ok (.iload 4, 2) := by decide +kernel
theorem dX6_walls_56 : decode cX6_walls 56 = .ok (.ireturn, 1) := by decide +kernel
theorem dX6_folk_0 : decode cX6_folk 0 = .ok (.iload_n 1, 1) := by decide +kernel
theorem dX6_folk_1 : decode cX6_folk 1 = .ok (.invokestatic 151, 3) := by decide +kernel
theorem dX6_folk_4 : decode cX6_folk 4 = .ok (.ifCond .eq 9, 3) := by decide +kernel
theorem dX6_folk_7 : decode cX6_folk 7 = .ok (.aload_n 0, 1) := by decide +kernel
theorem dX6_folk_8 : decode cX6_folk 8 = .ok (.iconst (-1), 1) := by decide +kernel
theorem dX6_folk_9 : decode cX6_folk 9 = .ok (.invokevirtual 56, 3) := by decide +kernel
theorem dX6_folk_12 : decode cX6_folk 12 = .ok (.ireturn, 1) := by decide +kernel
theorem dX6_folk_13 : decode cX6_folk 13 = .ok (.iload_n 2, 1) := by decide +kernel
theorem dX6_folk_14 : decode cX6_folk 14 = .ok (.ifCond .lt 7, 3) := by decide +kernel
theorem dX6_folk_17 : decode cX6_folk 17 = .ok (.iload_n 3, 1) := by decide +kernel
theorem dX6_folk_18 : decode cX6_folk 18 = .ok (.ifCond .ge 10, 3) := by decide +kernel
theorem dX6_folk_21 : decode cX6_folk 21 = .ok (.aload_n 0, 1) := by decide +kernel
theorem dX6_folk_22 : decode cX6_folk 22 = .ok (.bipush (-4), 2) := by decide +kernel
theorem dX6_folk_24 : decode cX6_folk 24 = .ok (.invokevirtual 56, 3) := by decide +kernel
theorem dX6_folk_27 : decode cX6_folk 27 = .ok (.ireturn, 1) := by decide +kernel
theorem dX6_folk_28 : decode cX6_folk 28 = .ok (.iload_n 2, 1) := by decide +kernel
theorem dX6_folk_29 : decode cX6_folk 29 = .ok (.bipush 9, 2) := by decide +kernel
theorem dX6_folk_31 : decode cX6_folk 31 = .ok (.if_icmp .gt 9, 3) := by decide +kernel
theorem dX6_folk_34 : decode cX6_folk 34 = .ok (.iload_n 3, 1) := by decide +kernel
theorem dX6_folk_35 : decode cX6_folk 35 = .ok (.bipush 26, 2) := by decide +kernel
theorem dX6_folk_37 : decode cX6_folk 37 = .ok (.if_icmp .lt 10, 3) := by decide +kernel
theorem dX6_folk_40 : decode cX6_folk 40 = .ok (.aload_n 0, 1) := by decide +kernel
theorem dX6_folk_41 : decode cX6_folk 41 = .ok (.bipush (-6), 2) := by decide +kernel
theorem dX6_folk_43 : decode cX6_folk 43 = .ok (.invokevirtual 56, 3) := by decide +kernel
theorem dX6_folk_46 : decode cX6_folk 46 = .ok (.ireturn, 1) := by decide +kernel
theorem dX6_folk_47 : decode cX6_folk 47 = .ok (.aload_n 0, 1) := by decide +kernel
theorem dX6_folk_48 : decode cX6_folk 48 = .ok (.getfield 22, 3) := by decide +kernel
theorem dX6_folk_51 : decode cX6_folk 51 = .ok (.aload_n 0, 1) := by decide +kernel
theorem dX6_folk_52 : decode cX6_folk 52 = .ok (.getfield 10, 3) := by decide +kernel
theorem dX6_folk_55 : decode cX6_folk 55 = .ok (.invokevirtual 178, 3) := by decide +kernel
theorem dX6_folk_58 : decode cX6_folk 58 = .ok (.bipush 10, 2) := by decide +kernel
theorem dX6_folk_60 : decode cX6_folk 60 = .ok (.aload_n 0, 1) := by decide +kernel
theorem dX6_folk_61 : decode cX6_folk 61 = .ok (.getfield 10, 3) := by decide +kernel
theorem dX6_folk_64 : decode cX6_folk 64 = .ok (.getfield 160, 3) := by decide +kernel
theorem dX6_folk_67 : decode cX6_folk 67 = .ok (.iload_n 1, 1) := by decide +kernel
theorem dX6_folk_68 : decode cX6_folk 68 = .ok (.iaload, 1) := by decide +kernel
theorem dX6_folk_69 : decode cX6_folk 69 = .ok (.imul, 1) := by decide +kernel
theorem dX6_folk_70 : decode cX6_folk 70 = .ok (.aload_n 0, 1) := by decide +kernel
theorem dX6_folk_71 : decode cX6_folk 71 = .ok (.getfield 10, 3) := by decide +kernel
theorem dX6_folk_74 : decode cX6_folk 74 = .ok (.getfield 157, 3) := by decide +kernel
theorem dX6_folk_77 : decode cX6_folk 77 = .ok (.iload_n 1, 1) := by decide +kernel
theorem dX6_folk_78 : decode cX6_folk 78 = .ok (.iaload, 1) := by decide +kernel
theorem dX6_folk_79 : decode cX6_folk 79 = .ok (.iadd, 1) := by decide +kernel
theorem dX6_folk_80 : decode cX6_folk 80 = .ok (.istore 4, 2) := by decide +kernel
theorem dX6_folk_82 : decode cX6_folk 82 = .ok (.aload_n 0, 1) := by decide +kernel
theorem dX6_folk_83 : decode cX6_folk 83 = .ok (.getfield 10, 3) := by decide +kernel
theorem dX6_folk_86 : decode cX6_folk 86 = .ok (.getfield 157, 3) := by decide +kernel
theorem dX6_folk_89 : decode cX6_folk 89 = .ok (.iload_n 1, 1) := by decide +kernel
theorem dX6_folk_90 : decode cX6_folk 90 = .ok (.iload_n 2, 1) := by decide +kernel
theorem dX6_folk_91 : decode cX6_folk 91 = .ok (.iastore, 1) := by decide +kernel
theorem dX6_folk_92 : decode cX6_folk 92 = .ok (.aload_n 0, 1) := by decide +kernel
theorem dX6_folk_93 : decode cX6_folk 93 = .ok (.getfield 10, 3) := by decide +kernel
theorem dX6_folk_96 : decode cX6_folk 96 = .ok (.getfield 160, 3) := by decide +kernel
theorem dX6_folk_99 : decode cX6_folk 99 = .ok (.iload_n 1, 1) := by decide +kernel
theorem dX6_folk_100 : decode cX6_folk 100 = .ok (.iload_n 3, 1) := by decide +kernel
theorem dX6_folk_101 : decode cX6_folk 101 = .ok (.iastore, 1) := by decide +kernel
theorem dX6_folk_102 : decode cX6_folk 102 = .ok (.iload 4, 2) := by decide +kernel
theorem dX6_folk_104 : decode cX6_folk 104 = .ok (.ireturn, 1) := by decide +kernel
theorem dX6_nights_0 : decode cX6_nights 0 = .ok (.iload_n 1, 1) := by decide +kernel
theorem dX6_nights_1 : decode cX6_nights 1 = .ok (.iconst 1, 1) := by decide +kernel
theorem dX6_nights_2 : decode cX6_nights 2 = .ok (.if_icmp .ge 10, 3) := by decide +kernel
theorem dX6_nights_5 : decode cX6_nights 5 = .ok (.aload_n 0, 1) := by decide +kernel
theorem dX6_nights_6 : decode cX6_nights 6 = .ok (.bipush (-4), 2) := by decide +kernel
theorem dX6_nights_8 : decode cX6_nights 8 = .ok (.invokevirtual 56, 3) := by decide +kernel
theorem dX6_nights_11 : decode cX6_nights 11 = .ok (.ireturn, 1) := by decide +kernel
theorem dX6_nights_12 : decode cX6_nights 12 = .ok (.iload_n 1, 1) := by decide +kernel
theorem dX6_nights_13 : decode cX6_nights 13 = .ok (.bipush 60, 2) := by decide +kernel
theorem dX6_nights_15 : decode cX6_nights 15 = .ok (.if_icmp .gt 18, 3) := by decide +kernel
theorem dX6_nights_18 : decode cX6_nights 18 = .ok (.aload_n 0, 1) := by decide +kernel
theorem dX6_nights_19 : decode cX6_nights 19 = .ok (.getfield 10, 3) := by decide +kernel
theorem dX6_nights_22 : decode cX6_nights 22 = .ok (.getfield 142, 3) := by decide +kernel
theorem dX6_nights_25 : decode cX6_nights 25 = .ok (.iload_n 1, 1) := by decide +kernel
theorem dX6_nights_26 : decode cX6_nights 26 = .ok (.iadd, 1) := by decide +kernel
theorem dX6_nights_27 : decode cX6_nights 27 = .ok (.sipush 999, 3) := by decide +kernel
theorem dX6_nights_30 : decode cX6_nights 30 = .ok (.if_icmp .le 10, 3) := by decide +kernel
theorem dX6_nights_33 : decode cX6_nights 33 = .ok (.aload_n 0, 1) := by decide +kernel
theorem dX6_nights_34 : decode cX6_nights 34 = .ok (.bipush (-6), 2) := by decide +kernel
theorem dX6_nights_36 : decode cX6_nights 36 = .ok (.invokevirtual 56, 3) := by decide +kernel
theorem dX6_nights_39 : decode cX6_nights 39 = .ok (.ireturn, 1) := by decide +kernel
theorem dX6_nights_40 : decode cX6_nights 40 = .ok (.aload_n 0, 1) := by decide +kernel
theorem dX6_nights_41 : decode cX6_nights 41 = .ok (.getfield 22, 3) := by decide +kernel
theorem dX6_nights_44 : decode cX6_nights 44 = .ok (.aload_n 0, 1) := by decide +kernel
theorem dX6_nights_45 : decode cX6_nights 45 = .ok (.getfield 10, 3) := by decide +kernel
theorem dX6_nights_48 : decode cX6_nights 48 = .ok (.invokevirtual 178, 3) := by decide +kernel
theorem dX6_nights_51 : decode cX6_nights 51 = .ok (.aload_n 0, 1) := by decide +kernel
theorem dX6_nights_52 : decode cX6_nights 52 = .ok (.getfield 10, 3) := by decide +kernel
theorem dX6_nights_55 : decode cX6_nights 55 = .ok (.iload_n 1, 1) := by decide +kernel
theorem dX6_nights_56 : decode cX6_nights 56 = .ok (.invokevirtual 184, 3) := by decide +kernel
theorem dX6_nights_59 : decode cX6_nights 59 = .ok (.aload_n 0, 1) := by decide +kernel
theorem dX6_nights_60 : decode cX6_nights 60 = .ok (.getfield 10, 3) := by decide +kernel
theorem dX6_nights_63 : decode cX6_nights 63 = .ok (.getfield 187, 3) := by decide +kernel
theorem dX6_nights_66 : decode cX6_nights 66 = .ok (.ireturn, 1) := by decide +kernel
theorem dX6_back_0 : decode cX6_back 0 = .ok (.aload_n 0, 1) := by decide +kernel
theorem dX6_back_1 : decode cX6_back 1 = .ok (.getfield 22, 3) := by decide +kernel
theorem dX6_back_4 : decode cX6_back 4 = .ok (.getfield 190, 3) := by decide +kernel
theorem dX6_back_7 : decode cX6_back 7 = .ok (.ifCond .ne 10, 3) := by decide +kernel
theorem dX6_back_10 : decode cX6_back 10 = .ok (.aload_n 0, 1) := by decide +kernel
theorem dX6_back_11 : decode cX6_back 11 = .ok (.bipush (-3), 2) := by decide +kernel
theorem dX6_back_13 : decode cX6_back 13 = .ok (.invokevirtual 56, 3) := by decide +kernel
theorem dX6_back_16 : decode cX6_back 16 = .ok (.ireturn, 1) := by decide +kernel
theorem dX6_back_17 : decode cX6_back 17 = .ok (.aload_n 0, 1) := by decide +kernel
theorem dX6_back_18 : decode cX6_back 18 = .ok (.getfield 22, 3) := by decide +kernel
theorem dX6_back_21 : decode cX6_back 21 = .ok (.aload_n 0, 1) := by decide +kernel
theorem dX6_back_22 : decode cX6_back 22 = .ok (.getfield 10, 3) := by decide +kernel
theorem dX6_back_25 : decode cX6_back 25 = .ok (.invokevirtual 191, 3) := by decide +kernel
theorem dX6_back_28 : decode cX6_back 28 = .ok (.aload_n 0, 1) := by decide +kernel
theorem dX6_back_29 : decode cX6_back 29 = .ok (.getfield 22, 3) := by decide +kernel
theorem dX6_back_32 : decode cX6_back 32 = .ok (.getfield 190, 3) := by decide +kernel
theorem dX6_back_35 : decode cX6_back 35 = .ok (.ireturn, 1) := by decide +kernel
theorem dX6_headThen_0 : decode cX6_headThen 0 = .ok (.aload_n 0, 1) := by decide +kernel
theorem dX6_headThen_1 : decode cX6_headThen 1 = .ok (.iload_n 1, 1) := by decide +kernel
theorem dX6_headThen_2 : decode cX6_headThen 2 = .ok (.invokevirtual 64, 3) := by decide +kernel
theorem dX6_headThen_5 : decode cX6_headThen 5 = .ok (.iload_n 2, 1) := by decide +kernel
theorem dX6_headThen_6 : decode cX6_headThen 6 = .ok (.iconst 0, 1) := by decide +kernel
theorem dX6_headThen_7 : decode cX6_headThen 7 = .ok (.bipush 60, 2) := by decide +kernel
theorem dX6_headThen_9 : decode cX6_headThen 9 = .ok (.iload_n 3, 1) := by decide +kernel
theorem dX6_headThen_10 : decode cX6_headThen 10 = .ok (.iconst 3, 1) := by decide +kernel
theorem dX6_headThen_11 : decode cX6_headThen 11 = .ok (.invokestatic 194, 3) := by decide +kernel
theorem dX6_headThen_14 : decode cX6_headThen 14 = .ok (.istore 4, 2) := by decide +kernel
theorem dX6_headThen_16 : decode cX6_headThen 16 = .ok (.iload 4, 2) := by decide +kernel
theorem dX6_headThen_18 : decode cX6_headThen 18 = .ok (.ifCond .eq 10, 3) := by decide +kernel
theorem dX6_headThen_21 : decode cX6_headThen 21 = .ok (.aload_n 0, 1) := by decide +kernel
theorem dX6_headThen_22 : decode cX6_headThen 22 = .ok (.iload 4, 2) := by decide +kernel
theorem dX6_headThen_24 : decode cX6_headThen 24 = .ok (.invokevirtual 56, 3) := by decide +kernel
theorem dX6_headThen_27 : decode cX6_headThen 27 = .ok (.ireturn, 1) := by decide +kernel
theorem dX6_headThen_28 : decode cX6_headThen 28 = .ok (.aload_n 0, 1) := by decide +kernel
theorem dX6_headThen_29 : decode cX6_headThen 29 = .ok (.getfield 36, 3) := by decide +kernel
theorem dX6_headThen_32 : decode cX6_headThen 32 = .ok (.aload_n 0, 1) := by decide +kernel
theorem dX6_headThen_33 : decode cX6_headThen 33 = .ok (.getfield 10, 3) := by decide +kernel
theorem dX6_headThen_36 : decode cX6_headThen 36 = .ok (.iload_n 2, 1) := by decide +kernel
theorem dX6_headThen_37 : decode cX6_headThen 37 = .ok (.invokevirtual 198, 3) := by decide +kernel
theorem dX6_headThen_40 : decode cX6_headThen 40 = .ok (.getfield 105, 3) := by decide +kernel
theorem dX6_headThen_43 : decode cX6_headThen 43 = .ok (.iload_n 1, 1) := by decide +kernel
theorem dX6_headThen_44 : decode cX6_headThen 44 = .ok (.aaload, 1) := by decide +kernel
theorem dX6_headThen_45 : decode cX6_headThen 45 = .ok (.astore 5, 2) := by decide +kernel
theorem dX6_headThen_47 : decode cX6_headThen 47 = .ok (.iload_n 3, 1) := by decide +kernel
theorem dX6_headThen_48 : decode cX6_headThen 48 = .ok (.tableswitch 46 0 2 #[28, 34, 40], 28) := by decide +kernel
theorem dX6_headThen_76 : decode cX6_headThen 76 = .ok (.aload 5, 2) := by decide +kernel
theorem dX6_headThen_78 : decode cX6_headThen 78 = .ok (.getfield 117, 3) := by decide +kernel
theorem dX6_headThen_81 : decode cX6_headThen 81 = .ok (.ireturn, 1) := by decide +kernel
theorem dX6_headThen_82 : decode cX6_headThen 82 = .ok (.aload 5, 2) := by decide +kernel
theorem dX6_headThen_84 : decode cX6_headThen 84 = .ok (.getfield 120, 3) := by decide +kernel
theorem dX6_headThen_87 : decode cX6_headThen 87 = .ok (.ireturn, 1) := by decide +kernel
theorem dX6_headThen_88 : decode cX6_headThen 88 = .ok (.aload 5, 2) := by decide +kernel
theorem dX6_headThen_90 : decode cX6_headThen 90 = .ok (.getfield 126, 3) := by decide +kernel
theorem dX6_headThen_93 : decode cX6_headThen 93 = .ok (.ireturn, 1) := by decide +kernel
theorem dX6_headThen_94 : decode cX6_headThen 94 = .ok (.aload 5, 2) := by decide +kernel
theorem dX6_headThen_96 : decode cX6_headThen 96 = .ok (.getfield 129, 3) := by decide +kernel
theorem dX6_headThen_99 : decode cX6_headThen 99 = .ok (.ifCond .eq 7, 3) := by decide +kernel
theorem dX6_headThen_102 : decode cX6_headThen 102 = .ok (.iconst 1, 1) := by decide +kernel
theorem dX6_headThen_103 : decode cX6_headThen 103 = .ok (.goto 4, 3) := by decide +kernel
theorem dX6_headThen_106 : decode cX6_headThen 106 = .ok (.iconst 0, 1) := by decide +kernel
theorem dX6_headThen_107 : decode cX6_headThen 107 = .ok (.ireturn, 1) := by decide +kernel
theorem dX6_then_0 : decode cX6_then 0 = .ok (.iconst 0, 1) := by decide +kernel
theorem dX6_then_1 : decode cX6_then 1 = .ok (.iload_n 1, 1) := by decide +kernel
theorem dX6_then_2 : decode cX6_then 2 = .ok (.iconst 0, 1) := by decide +kernel
theorem dX6_then_3 : decode cX6_then 3 = .ok (.bipush 60, 2) := by decide +kernel
theorem dX6_then_5 : decode cX6_then 5 = .ok (.iload_n 2, 1) := by decide +kernel
theorem dX6_then_6 : decode cX6_then 6 = .ok (.iconst 3, 1) := by decide +kernel
theorem dX6_then_7 : decode cX6_then 7 = .ok (.invokestatic 194, 3) := by decide +kernel
theorem dX6_then_10 : decode cX6_then 10 = .ok (.istore_n 3, 1) := by decide +kernel
theorem dX6_then_11 : decode cX6_then 11 = .ok (.iload_n 3, 1) := by decide +kernel
theorem dX6_then_12 : decode cX6_then 12 = .ok (.ifCond .eq 9, 3) := by decide +kernel
theorem dX6_then_15 : decode cX6_then 15 = .ok (.aload_n 0, 1) := by decide +kernel
theorem dX6_then_16 : decode cX6_then 16 = .ok (.iload_n 3, 1) := by decide +kernel
theorem dX6_then_17 : decode cX6_then 17 = .ok (.invokevirtual 56, 3) := by decide +kernel
theorem dX6_then_20 : decode cX6_then 20 = .ok (.ireturn, 1) := by decide +kernel
theorem dX6_then_21 : decode cX6_then 21 = .ok (.aload_n 0, 1) := by decide +kernel
theorem dX6_then_22 : decode cX6_then 22 = .ok (.getfield 36, 3) := by decide +kernel
theorem dX6_then_25 : decode cX6_then 25 = .ok (.aload_n 0, 1) := by decide +kernel
theorem dX6_then_26 : decode cX6_then 26 = .ok (.getfield 10, 3) := by decide +kernel
theorem dX6_then_29 : decode cX6_then 29 = .ok (.iload_n 1, 1) := by decide +kernel
theorem dX6_then_30 : decode cX6_then 30 = .ok (.invokevirtual 198, 3) := by decide +kernel
theorem dX6_then_33 : decode cX6_then 33 = .ok (.astore 4, 2) := by decide +kernel
theorem dX6_then_35 : decode cX6_then 35 = .ok (.iload_n 2, 1) := by decide +kernel
theorem dX6_then_36 : decode cX6_then 36 = .ok (.tableswitch 46 0 2 #[28, 34, 40], 28) := by decide +kernel
theorem dX6_then_64 : decode cX6_then 64 = .ok (.aload 4, 2) := by decide +kernel
theorem dX6_then_66 : decode cX6_then 66 = .ok (.getfield 187, 3) := by decide +kernel
theorem dX6_then_69 : decode cX6_then 69 = .ok (.ireturn, 1) := by decide +kernel
theorem dX6_then_70 : decode cX6_then 70 = .ok (.aload 4, 2) := by decide +kernel
theorem dX6_then_72 : decode cX6_then 72 = .ok (.invokevirtual 202, 3) := by decide +kernel
theorem dX6_then_75 : decode cX6_then 75 = .ok (.ireturn, 1) := by decide +kernel
theorem dX6_then_76 : decode cX6_then 76 = .ok (.aload 4, 2) := by decide +kernel
theorem dX6_then_78 : decode cX6_then 78 = .ok (.invokevirtual 205, 3) := by decide +kernel
theorem dX6_then_81 : decode cX6_then 81 = .ok (.ireturn, 1) := by decide +kernel
theorem dX6_then_82 : decode cX6_then 82 = .ok (.aload 4, 2) := by decide +kernel
theorem dX6_then_84 : decode cX6_then 84 = .ok (.invokevirtual 208, 3) := by decide +kernel
theorem dX6_then_87 : decode cX6_then 87 = .ok (.ireturn, 1) := by decide +kernel
theorem dX6_when_0 : decode cX6_when 0 = .ok (.aload_n 0, 1) := by decide +kernel
theorem dX6_when_1 : decode cX6_when 1 = .ok (.iload_n 1, 1) := by decide +kernel
theorem dX6_when_2 : decode cX6_when 2 = .ok (.invokevirtual 64, 3) := by decide +kernel
theorem dX6_when_5 : decode cX6_when 5 = .ok (.ifCond .ne 10, 3) := by decide +kernel
theorem dX6_when_8 : decode cX6_when 8 = .ok (.iload_n 2, 1) := by decide +kernel
theorem dX6_when_9 : decode cX6_when 9 = .ok (.invokestatic 151, 3) := by decide +kernel
theorem dX6_when_12 : decode cX6_when 12 = .ok (.ifCond .eq 9, 3) := by decide +kernel
theorem dX6_when_15 : decode cX6_when 15 = .ok (.aload_n 0, 1) := by decide +kernel
theorem dX6_when_16 : decode cX6_when 16 = .ok (.iconst (-1), 1) := by decide +kernel
theorem dX6_when_17 : decode cX6_when 17 = .ok (.invokevirtual 56, 3) := by decide +kernel
theorem dX6_when_20 : decode cX6_when 20 = .ok (.ireturn, 1) := by decide +kernel
theorem dX6_when_21 : decode cX6_when 21 = .ok (.aload_n 0, 1) := by decide +kernel
theorem dX6_when_22 : decode cX6_when 22 = .ok (.getfield 36, 3) := by decide +kernel
theorem dX6_when_25 : decode cX6_when 25 = .ok (.aload_n 0, 1) := by decide +kernel
theorem dX6_when_26 : decode cX6_when 26 = .ok (.getfield 10, 3) := by decide +kernel
theorem dX6_when_29 : decode cX6_when 29 = .ok (.iload_n 1, 1) := by decide +kernel
theorem dX6_when_30 : decode cX6_when 30 = .ok (.iload_n 2, 1) := by decide +kernel
theorem dX6_when_31 : decode cX6_when 31 = .ok (.invokevirtual 211, 3) := by decide +kernel
theorem dX6_when_34 : decode cX6_when 34 = .ok (.ireturn, 1) := by decide +kernel
theorem dX6_settles_0 : decode cX6_settles 0 = .ok (.iload_n 1, 1) := by decide +kernel
theorem dX6_settles_1 : decode cX6_settles 1 = .ok (.iconst (-1), 1) := by decide +kernel
theorem dX6_settles_2 : decode cX6_settles 2 = .ok (.if_icmp .ne 15, 3) := by decide +kernel
theorem dX6_settles_5 : decode cX6_settles 5 = .ok (.aload_n 0, 1) := by decide +kernel
theorem dX6_settles_6 : decode cX6_settles 6 = .ok (.getfield 36, 3) := by decide +kernel
theorem dX6_settles_9 : decode cX6_settles 9 = .ok (.aload_n 0, 1) := by decide +kernel
theorem dX6_settles_10 : decode cX6_settles 10 = .ok (.getfield 10, 3) := by decide +kernel
theorem dX6_settles_13 : decode cX6_settles 13 = .ok (.invokevirtual 215, 3) := by decide +kernel
theorem dX6_settles_16 : decode cX6_settles 16 = .ok (.ireturn, 1) := by decide +kernel
theorem dX6_settles_17 : decode cX6_settles 17 = .ok (.aload_n 0, 1) := by decide +kernel
theorem dX6_settles_18 : decode cX6_settles 18 = .ok (.iload_n 1, 1) := by decide +kernel
theorem dX6_settles_19 : decode cX6_settles 19 = .ok (.invokevirtual 64, 3) := by decide +kernel
theorem dX6_settles_22 : decode cX6_settles 22 = .ok (.ifCond .eq 9, 3) := by decide +kernel
theorem dX6_settles_25 : decode cX6_settles 25 = .ok (.aload_n 0, 1) := by decide +kernel
theorem dX6_settles_26 : decode cX6_settles 26 = .ok (.iconst (-1), 1) := by decide +kernel
theorem dX6_settles_27 : decode cX6_settles 27 = .ok (.invokevirtual 56, 3) := by decide +kernel
theorem dX6_settles_30 : decode cX6_settles 30 = .ok (.ireturn, 1) := by decide +kernel
theorem dX6_settles_31 : decode cX6_settles 31 = .ok (.aload_n 0, 1) := by decide +kernel
theorem dX6_settles_32 : decode cX6_settles 32 = .ok (.getfield 36, 3) := by decide +kernel
theorem dX6_settles_35 : decode cX6_settles 35 = .ok (.aload_n 0, 1) := by decide +kernel
theorem dX6_settles_36 : decode cX6_settles 36 = .ok (.getfield 10, 3) := by decide +kernel
theorem dX6_settles_39 : decode cX6_settles 39 = .ok (.iload_n 1, 1) := by decide +kernel
theorem dX6_settles_40 : decode cX6_settles 40 = .ok (.invokevirtual 219, 3) := by decide +kernel
theorem dX6_settles_43 : decode cX6_settles 43 = .ok (.ireturn, 1) := by decide +kernel
theorem dX6_meeting_0 : decode cX6_meeting 0 = .ok (.aload_n 0, 1) := by decide +kernel
theorem dX6_meeting_1 : decode cX6_meeting 1 = .ok (.iload_n 1, 1) := by decide +kernel
theorem dX6_meeting_2 : decode cX6_meeting 2 = .ok (.iload_n 2, 1) := by decide +kernel
theorem dX6_meeting_3 : decode cX6_meeting 3 = .ok (.invokevirtual 223, 3) := by decide +kernel
theorem dX6_meeting_6 : decode cX6_meeting 6 = .ok (.ifCond .eq 9, 3) := by decide +kernel
theorem dX6_meeting_9 : decode cX6_meeting 9 = .ok (.aload_n 0, 1) := by decide +kernel
theorem dX6_meeting_10 : decode cX6_meeting 10 = .ok (.iconst (-1), 1) := by decide +kernel
theorem dX6_meeting_11 : decode cX6_meeting 11 = .ok (.invokevirtual 56, 3) := by decide +kernel
theorem dX6_meeting_14 : decode cX6_meeting 14 = .ok (.ireturn, 1) := by decide +kernel
theorem dX6_meeting_15 : decode cX6_meeting 15 = .ok (.aload_n 0, 1) := by decide +kernel
theorem dX6_meeting_16 : decode cX6_meeting 16 = .ok (.getfield 36, 3) := by decide +kernel
theorem dX6_meeting_19 : decode cX6_meeting 19 = .ok (.aload_n 0, 1) := by decide +kernel
theorem dX6_meeting_20 : decode cX6_meeting 20 = .ok (.getfield 10, 3) := by decide +kernel
theorem dX6_meeting_23 : decode cX6_meeting 23 = .ok (.iload_n 1, 1) := by decide +kernel
theorem dX6_meeting_24 : decode cX6_meeting 24 = .ok (.iload_n 2, 1) := by decide +kernel
theorem dX6_meeting_25 : decode cX6_meeting 25 = .ok (.invokevirtual 227, 3) := by decide +kernel
theorem dX6_meeting_28 : decode cX6_meeting 28 = .ok (.ireturn, 1) := by decide +kernel
theorem dX6_bestWord_0 : decode cX6_bestWord 0 = .ok (.aload_n 0, 1) := by decide +kernel
theorem dX6_bestWord_1 : decode cX6_bestWord 1 = .ok (.iload_n 1, 1) := by decide +kernel
theorem dX6_bestWord_2 : decode cX6_bestWord 2 = .ok (.invokevirtual 64, 3) := by decide +kernel
theorem dX6_bestWord_5 : decode cX6_bestWord 5 = .ok (.iload_n 2, 1) := by decide +kernel
theorem dX6_bestWord_6 : decode cX6_bestWord 6 = .ok (.iconst 0, 1) := by decide +kernel
theorem dX6_bestWord_7 : decode cX6_bestWord 7 = .ok (.bipush 60, 2) := by decide +kernel
theorem dX6_bestWord_9 : decode cX6_bestWord 9 = .ok (.iload_n 3, 1) := by decide +kernel
theorem dX6_bestWord_10 : decode cX6_bestWord 10 = .ok (.iconst 1, 1) := by decide +kernel
theorem dX6_bestWord_11 : decode cX6_bestWord 11 = .ok (.invokestatic 194, 3) := by decide +kernel
theorem dX6_bestWord_14 : decode cX6_bestWord 14 = .ok (.istore 4, 2) := by decide +kernel
theorem dX6_bestWord_16 : decode cX6_bestWord 16 = .ok (.iload 4, 2) := by decide +kernel
theorem dX6_bestWord_18 : decode cX6_bestWord 18 = .ok (.ifCond .eq 10, 3) := by decide +kernel
theorem dX6_bestWord_21 : decode cX6_bestWord 21 = .ok (.aload_n 0, 1) := by decide +kernel
theorem dX6_bestWord_22 : decode cX6_bestWord 22 = .ok (.iload 4, 2) := by decide +kernel
theorem dX6_bestWord_24 : decode cX6_bestWord 24 = .ok (.invokevirtual 56, 3) := by decide +kernel
theorem dX6_bestWord_27 : decode cX6_bestWord 27 = .ok (.ireturn, 1) := by decide +kernel
theorem dX6_bestWord_28 : decode cX6_bestWord 28 = .ok (.aload_n 0, 1) := by decide +kernel
theorem dX6_bestWord_29 : decode cX6_bestWord 29 = .ok (.getfield 36, 3) := by decide +kernel
theorem dX6_bestWord_32 : decode cX6_bestWord 32 = .ok (.aload_n 0, 1) := by decide +kernel
theorem dX6_bestWord_33 : decode cX6_bestWord 33 = .ok (.getfield 10, 3) := by decide +kernel
theorem dX6_bestWord_36 : decode cX6_bestWord 36 = .ok (.iload_n 1, 1) := by decide +kernel
theorem dX6_bestWord_37 : decode cX6_bestWord 37 = .ok (.iload_n 2, 1) := by decide +kernel
theorem dX6_bestWord_38 : decode cX6_bestWord 38 = .ok (.iconst 2, 1) := by decide +kernel
theorem dX6_bestWord_39 : decode cX6_bestWord 39 = .ok (.iload_n 3, 1) := by decide +kernel
theorem dX6_bestWord_40 : decode cX6_bestWord 40 = .ok (.iconst 1, 1) := by decide +kernel
theorem dX6_bestWord_41 : decode cX6_bestWord 41 = .ok (.if_icmp .ne 7, 3) := by decide +kernel
theorem dX6_bestWord_44 : decode cX6_bestWord 44 = .ok (.iconst 1, 1) := by decide +kernel
theorem dX6_bestWord_45 : decode cX6_bestWord 45 = .ok (.goto 4, 3) := by decide +kernel
theorem dX6_bestWord_48 : decode cX6_bestWord 48 = .ok (.iconst 0, 1) := by decide +kernel
theorem dX6_bestWord_49 : decode cX6_bestWord 49 = .ok (.invokevirtual 230, 3) := by decide +kernel
theorem dX6_bestWord_52 : decode cX6_bestWord 52 = .ok (.ireturn, 1) := by decide +kernel
theorem dX6_bestLetter_0 : decode cX6_bestLetter 0 = .ok (.aload_n 0, 1) := by decide +kernel
theorem dX6_bestLetter_1 : decode cX6_bestLetter 1 = .ok (.iload_n 1, 1) := by decide +kernel
theorem dX6_bestLetter_2 : decode cX6_bestLetter 2 = .ok (.invokevirtual 64, 3) := by decide +kernel
theorem dX6_bestLetter_5 : decode cX6_bestLetter 5 = .ok (.iload_n 2, 1) := by decide +kernel
theorem dX6_bestLetter_6 : decode cX6_bestLetter 6 = .ok (.iconst 0, 1) := by decide +kernel
theorem dX6_bestLetter_7 : decode cX6_bestLetter 7 = .ok (.bipush 30, 2) := by decide +kernel
theorem dX6_bestLetter_9 : decode cX6_bestLetter 9 = .ok (.iload_n 3, 1) := by decide +kernel
theorem dX6_bestLetter_10 : decode cX6_bestLetter 10 = .ok (.iconst 1, 1) := by decide +kernel
theorem dX6_bestLetter_11 : decode cX6_bestLetter 11 = .ok (.invokestatic 194, 3) := by decide +kernel
theorem dX6_bestLetter_14 : decode cX6_bestLetter 14 = .ok (.istore 4, 2) := by decide +kernel
theorem dX6_bestLetter_16 : decode cX6_bestLetter 16 = .ok (.iload 4, 2) := by decide +kernel
theorem dX6_bestLetter_18 : decode cX6_bestLetter 18 = .ok (.ifCond .eq 10, 3) := by decide +kernel
theorem dX6_bestLetter_21 : decode cX6_bestLetter 21 = .ok (.aload_n 0, 1) := by decide +kernel
theorem dX6_bestLetter_22 : decode cX6_bestLetter 22 = .ok (.iload 4, 2) := by decide +kernel
theorem dX6_bestLetter_24 : decode cX6_bestLetter 24 = .ok (.invokevirtual 56, 3) := by decide +kernel
theorem dX6_bestLetter_27 : decode cX6_bestLetter 27 = .ok (.ireturn, 1) := by decide +kernel
theorem dX6_bestLetter_28 : decode cX6_bestLetter 28 = .ok (.aload_n 0, 1) := by decide +kernel
theorem dX6_bestLetter_29 : decode cX6_bestLetter 29 = .ok (.getfield 10, 3) := by decide +kernel
theorem dX6_bestLetter_32 : decode cX6_bestLetter 32 = .ok (.getfield 105, 3) := by decide +kernel
theorem dX6_bestLetter_35 : decode cX6_bestLetter 35 = .ok (.iload_n 1, 1) := by decide +kernel
theorem dX6_bestLetter_36 : decode cX6_bestLetter 36 = .ok (.aaload, 1) := by decide +kernel
theorem dX6_bestLetter_37 : decode cX6_bestLetter 37 = .ok (.invokevirtual 175, 3) := by decide +kernel
theorem dX6_bestLetter_40 : decode cX6_bestLetter 40 = .ok (.ifCond .eq 6, 3) := by decide +kernel
theorem dX6_bestLetter_43 : decode cX6_bestLetter 43 = .ok (.bipush (-9), 2) := by decide +kernel
theorem dX6_bestLetter_45 : decode cX6_bestLetter 45 = .ok (.ireturn, 1) := by decide +kernel
theorem dX6_bestLetter_46 : decode cX6_bestLetter 46 = .ok (.aload_n 0, 1) := by decide +kernel
theorem dX6_bestLetter_47 : decode cX6_bestLetter 47 = .ok (.getfield 36, 3) := by decide +kernel
theorem dX6_bestLetter_50 : decode cX6_bestLetter 50 = .ok (.aload_n 0, 1) := by decide +kernel
theorem dX6_bestLetter_51 : decode cX6_bestLetter 51 = .ok (.getfield 10, 3) := by decide +kernel
theorem dX6_bestLetter_54 : decode cX6_bestLetter 54 = .ok (.iload_n 1, 1) := by decide +kernel
theorem dX6_bestLetter_55 : decode cX6_bestLetter 55 = .ok (.iload_n 2, 1) := by decide +kernel
theorem dX6_bestLetter_56 : decode cX6_bestLetter 56 = .ok (.iconst 3, 1) := by decide +kernel
theorem dX6_bestLetter_57 : decode cX6_bestLetter 57 = .ok (.iload_n 3, 1) := by decide +kernel
theorem dX6_bestLetter_58 : decode cX6_bestLetter 58 = .ok (.iconst 1, 1) := by decide +kernel
theorem dX6_bestLetter_59 : decode cX6_bestLetter 59 = .ok (.if_icmp .ne 7, 3) := by decide +kernel
theorem dX6_bestLetter_62 : decode cX6_bestLetter 62 = .ok (.iconst 1, 1) := by decide +kernel
theorem dX6_bestLetter_63 : decode cX6_bestLetter 63 = .ok (.goto 4, 3) := by decide +kernel
theorem dX6_bestLetter_66 : decode cX6_bestLetter 66 = .ok (.iconst 0, 1) := by decide +kernel
theorem dX6_bestLetter_67 : decode cX6_bestLetter 67 = .ok (.invokevirtual 230, 3) := by decide +kernel
theorem dX6_bestLetter_70 : decode cX6_bestLetter 70 = .ok (.ireturn, 1) := by decide +kernel
theorem dX6_holds_0 : decode cX6_holds 0 = .ok (.aload_n 0, 1) := by decide +kernel
theorem dX6_holds_1 : decode cX6_holds 1 = .ok (.iload_n 1, 1) := by decide +kernel
theorem dX6_holds_2 : decode cX6_holds 2 = .ok (.invokevirtual 64, 3) := by decide +kernel
theorem dX6_holds_5 : decode cX6_holds 5 = .ok (.ifCond .ne 10, 3) := by decide +kernel
theorem dX6_holds_8 : decode cX6_holds 8 = .ok (.iload_n 2, 1) := by decide +kernel
theorem dX6_holds_9 : decode cX6_holds 9 = .ok (.invokestatic 151, 3) := by decide +kernel
theorem dX6_holds_12 : decode cX6_holds 12 = .ok (.ifCond .eq 7, 3) := by decide +kernel
theorem dX6_holds_15 : decode cX6_holds 15 = .ok (.iconst 1, 1) := by decide +kernel
theorem dX6_holds_16 : decode cX6_holds 16 = .ok (.goto 4, 3) := by decide +kernel
theorem dX6_holds_19 : decode cX6_holds 19 = .ok (.iconst 0, 1) := by decide +kernel
theorem dX6_holds_20 : decode cX6_holds 20 = .ok (.iload_n 3, 1) := by decide +kernel
theorem dX6_holds_21 : decode cX6_holds 21 = .ok (.iconst 1, 1) := by decide +kernel
theorem dX6_holds_22 : decode cX6_holds 22 = .ok (.bipush 60, 2) := by decide +kernel
theorem dX6_holds_24 : decode cX6_holds 24 = .ok (.invokestatic 68, 3) := by decide +kernel
theorem dX6_holds_27 : decode cX6_holds 27 = .ok (.istore 4, 2) := by decide +kernel
theorem dX6_holds_29 : decode cX6_holds 29 = .ok (.iload 4, 2) := by decide +kernel
theorem dX6_holds_31 : decode cX6_holds 31 = .ok (.ifCond .eq 10, 3) := by decide +kernel
theorem dX6_holds_34 : decode cX6_holds 34 = .ok (.aload_n 0, 1) := by decide +kernel
theorem dX6_holds_35 : decode cX6_holds 35 = .ok (.iload 4, 2) := by decide +kernel
theorem dX6_holds_37 : decode cX6_holds 37 = .ok (.invokevirtual 56, 3) := by decide +kernel
theorem dX6_holds_40 : decode cX6_holds 40 = .ok (.ireturn, 1) := by decide +kernel
theorem dX6_holds_41 : decode cX6_holds 41 = .ok (.aload_n 0, 1) := by decide +kernel
theorem dX6_holds_42 : decode cX6_holds 42 = .ok (.getfield 36, 3) := by decide +kernel
theorem dX6_holds_45 : decode cX6_holds 45 = .ok (.aload_n 0, 1) := by decide +kernel
theorem dX6_holds_46 : decode cX6_holds 46 = .ok (.getfield 10, 3) := by decide +kernel
theorem dX6_holds_49 : decode cX6_holds 49 = .ok (.iload_n 1, 1) := by decide +kernel
theorem dX6_holds_50 : decode cX6_holds 50 = .ok (.iload_n 2, 1) := by decide +kernel
theorem dX6_holds_51 : decode cX6_holds 51 = .ok (.iload_n 3, 1) := by decide +kernel
theorem dX6_holds_52 : decode cX6_holds 52 = .ok (.invokevirtual 234, 3) := by decide +kernel
theorem dX6_holds_55 : decode cX6_holds 55 = .ok (.ireturn, 1) := by decide +kernel
theorem dX6_wallFor_0 : decode cX6_wallFor 0 = .ok (.aload_n 0, 1) := by decide +kernel
theorem dX6_wallFor_1 : decode cX6_wallFor 1 = .ok (.iload_n 1, 1) := by decide +kernel
theorem dX6_wallFor_2 : decode cX6_wallFor 2 = .ok (.invokevirtual 64, 3) := by decide +kernel
theorem dX6_wallFor_5 : decode cX6_wallFor 5 = .ok (.ifCond .ne 10, 3) := by decide +kernel
theorem dX6_wallFor_8 : decode cX6_wallFor 8 = .ok (.iload_n 2, 1) := by decide +kernel
theorem dX6_wallFor_9 : decode cX6_wallFor 9 = .ok (.invokestatic 151, 3) := by decide +kernel
theorem dX6_wallFor_12 : decode cX6_wallFor 12 = .ok (.ifCond .eq 7, 3) := by decide +kernel
theorem dX6_wallFor_15 : decode cX6_wallFor 15 = .ok (.iconst 1, 1) := by decide +kernel
theorem dX6_wallFor_16 : decode cX6_wallFor 16 = .ok (.goto 4, 3) := by decide +kernel
theorem dX6_wallFor_19 : decode cX6_wallFor 19 = .ok (.iconst 0, 1) := by decide +kernel
theorem dX6_wallFor_20 : decode cX6_wallFor 20 = .ok (.iload_n 3, 1) := by decide +kernel
theorem dX6_wallFor_21 : decode cX6_wallFor 21 = .ok (.iconst 0, 1) := by decide +kernel
theorem dX6_wallFor_22 : decode cX6_wallFor 22 = .ok (.bipush 30, 2) := by decide +kernel
theorem dX6_wallFor_24 : decode cX6_wallFor 24 = .ok (.invokestatic 68, 3) := by decide +kernel
theorem dX6_wallFor_27 : decode cX6_wallFor 27 = .ok (.istore 4, 2) := by decide +kernel
theorem dX6_wallFor_29 : decode cX6_wallFor 29 = .ok (.iload 4, 2) := by decide +kernel
theorem dX6_wallFor_31 : decode cX6_wallFor 31 = .ok (.ifCond .eq 10, 3) := by decide +kernel
theorem dX6_wallFor_34 : decode cX6_wallFor 34 = .ok (.aload_n 0, 1) := by decide +kernel
theorem dX6_wallFor_35 : decode cX6_wallFor 35 = .ok (.iload 4, 2) := by decide +kernel
theorem dX6_wallFor_37 : decode cX6_wallFor 37 = .ok (.invokevirtual 56, 3) := by decide +kernel
theorem dX6_wallFor_40 : decode cX6_wallFor 40 = .ok (.ireturn, 1) := by decide +kernel
theorem dX6_wallFor_41 : decode cX6_wallFor 41 = .ok (.aload_n 0, 1) := by decide +kernel
theorem dX6_wallFor_42 : decode cX6_wallFor 42 = .ok (.getfield 36, 3) := by decide +kernel
theorem dX6_wallFor_45 : decode cX6_wallFor 45 = .ok (.aload_n 0, 1) := by decide +kernel
theorem dX6_wallFor_46 : decode cX6_wallFor 46 = .ok (.getfield 10, 3) := by decide +kernel
theorem dX6_wallFor_49 : decode cX6_wallFor 49 = .ok (.iload_n 1, 1) := by decide +kernel
theorem dX6_wallFor_50 : decode cX6_wallFor 50 = .ok (.iload_n 2, 1) := by decide +kernel
theorem dX6_wallFor_51 : decode cX6_wallFor 51 = .ok (.iload_n 3, 1) := by decide +kernel
theorem dX6_wallFor_52 : decode cX6_wallFor 52 = .ok (.invokevirtual 238, 3) := by decide +kernel
theorem dX6_wallFor_55 : decode cX6_wallFor 55 = .ok (.ireturn, 1) := by decide +kernel
theorem dX6_names_0 : decode cX6_names 0 = .ok (.iconst 0, 1) := by decide +kernel
theorem dX6_names_1 : decode cX6_names 1 = .ok (.iload_n 1, 1) := by decide +kernel
theorem dX6_names_2 : decode cX6_names 2 = .ok (.iconst 0, 1) := by decide +kernel
theorem dX6_names_3 : decode cX6_names 3 = .ok (.bipush 30, 2) := by decide +kernel
theorem dX6_names_5 : decode cX6_names 5 = .ok (.invokestatic 68, 3) := by decide +kernel
theorem dX6_names_8 : decode cX6_names 8 = .ok (.istore_n 2, 1) := by decide +kernel
theorem dX6_names_9 : decode cX6_names 9 = .ok (.iload_n 2, 1) := by decide +kernel
theorem dX6_names_10 : decode cX6_names 10 = .ok (.ifCond .eq 9, 3) := by decide +kernel
theorem dX6_names_13 : decode cX6_names 13 = .ok (.aload_n 0, 1) := by decide +kernel
theorem dX6_names_14 : decode cX6_names 14 = .ok (.iload_n 2, 1) := by decide +kernel
theorem dX6_names_15 : decode cX6_names 15 = .ok (.invokevirtual 56, 3) := by decide +kernel
theorem dX6_names_18 : decode cX6_names 18 = .ok (.ireturn, 1) := by decide +kernel
theorem dX6_names_19 : decode cX6_names 19 = .ok (.aload_n 0, 1) := by decide +kernel
theorem dX6_names_20 : decode cX6_names 20 = .ok (.getfield 36, 3) := by decide +kernel
theorem dX6_names_23 : decode cX6_names 23 = .ok (.aload_n 0, 1) := by decide +kernel
theorem dX6_names_24 : decode cX6_names 24 = .ok (.getfield 10, 3) := by decide +kernel
theorem dX6_names_27 : decode cX6_names 27 = .ok (.iload_n 1, 1) := by decide +kernel
theorem dX6_names_28 : decode cX6_names 28 = .ok (.invokevirtual 241, 3) := by decide +kernel
theorem dX6_names_31 : decode cX6_names 31 = .ok (.ireturn, 1) := by decide +kernel
theorem dX6_whatKind_0 : decode cX6_whatKind 0 = .ok (.aload_n 0, 1) := by decide +kernel
theorem dX6_whatKind_1 : decode cX6_whatKind 1 = .ok (.iload_n 1, 1) := by decide +kernel
theorem dX6_whatKind_2 : decode cX6_whatKind 2 = .ok (.invokevirtual 64, 3) := by decide +kernel
theorem dX6_whatKind_5 : decode cX6_whatKind 5 = .ok (.ifCond .eq 9, 3) := by decide +kernel
theorem dX6_whatKind_8 : decode cX6_whatKind 8 = .ok (.aload_n 0, 1) := by decide +kernel
theorem dX6_whatKind_9 : decode cX6_whatKind 9 = .ok (.iconst (-1), 1) := by decide +kernel
theorem dX6_whatKind_10 : decode cX6_whatKind 10 = .ok (.invokevirtual 56, 3) := by decide +kernel
theorem dX6_whatKind_13 : decode cX6_whatKind 13 = .ok (.ireturn, 1) := by decide +kernel
theorem dX6_whatKind_14 : decode cX6_whatKind 14 = .ok (.iload_n 2, 1) := by decide +kernel
theorem dX6_whatKind_15 : decode cX6_whatKind 15 = .ok (.lookupswitch 69 #[(0, 25), (1, 47)], 25) := by decide +kernel
theorem dX6_whatKind_40 : decode cX6_whatKind 40 = .ok (.aload_n 0, 1) := by decide +kernel
theorem dX6_whatKind_41 : decode cX6_whatKind 41 = .ok (.getfield 36, 3) := by decide +kernel
theorem dX6_whatKind_44 : decode cX6_whatKind 44 = .ok (.aload_n 0, 1) := by decide +kernel
theorem dX6_whatKind_45 : decode cX6_whatKind 45 = .ok (.getfield 10, 3) := by decide +kernel
theorem dX6_whatKind_48 : decode cX6_whatKind 48 = .ok (.iload_n 1, 1) := by decide +kernel
theorem dX6_whatKind_49 : decode cX6_whatKind 49 = .ok (.iconst 0, 1) := by decide +kernel
theorem dX6_whatKind_50 : decode cX6_whatKind 50 = .ok (.aload_n 0, 1) := by decide +kernel
theorem dX6_whatKind_51 : decode cX6_whatKind 51 = .ok (.getfield 47, 3) := by decide +kernel
theorem dX6_whatKind_54 : decode cX6_whatKind 54 = .ok (.aload_n 0, 1) := by decide +kernel
theorem dX6_whatKind_55 : decode cX6_whatKind 55 = .ok (.getfield 244, 3) := by decide +kernel
theorem dX6_whatKind_58 : decode cX6_whatKind 58 = .ok (.invokevirtual 247, 3) := by decide +kernel
theorem dX6_whatKind_61 : decode cX6_whatKind 61 = .ok (.ireturn, 1) := by decide +kernel
theorem dX6_whatKind_62 : decode cX6_whatKind 62 = .ok (.aload_n 0, 1) := by decide +kernel
theorem dX6_whatKind_63 : decode cX6_whatKind 63 = .ok (.getfield 36, 3) := by decide +kernel
theorem dX6_whatKind_66 : decode cX6_whatKind 66 = .ok (.aload_n 0, 1) := by decide +kernel
theorem dX6_whatKind_67 : decode cX6_whatKind 67 = .ok (.getfield 10, 3) := by decide +kernel
theorem dX6_whatKind_70 : decode cX6_whatKind 70 = .ok (.iload_n 1, 1) := by decide +kernel
theorem dX6_whatKind_71 : decode cX6_whatKind 71 = .ok (.iconst 1, 1) := by decide +kernel
theorem dX6_whatKind_72 : decode cX6_whatKind 72 = .ok (.aload_n 0, 1) := by decide +kernel
theorem dX6_whatKind_73 : decode cX6_whatKind 73 = .ok (.getfield 47, 3) := by decide +kernel
theorem dX6_whatKind_76 : decode cX6_whatKind 76 = .ok (.aload_n 0, 1) := by decide +kernel
theorem dX6_whatKind_77 : decode cX6_whatKind 77 = .ok (.getfield 244, 3) := by decide +kernel
theorem dX6_whatKind_80 : decode cX6_whatKind 80 = .ok (.invokevirtual 247, 3) := by decide +kernel
theorem dX6_whatKind_83 : decode cX6_whatKind 83 = .ok (.ireturn, 1) := by decide +kernel
theorem dX6_whatKind_84 : decode cX6_whatKind 84 = .ok (.aload_n 0, 1) := by decide +kernel
theorem dX6_whatKind_85 : decode cX6_whatKind 85 = .ok (.bipush (-2), 2) := by decide +kernel
theorem dX6_whatKind_87 : decode cX6_whatKind 87 = .ok (.invokevirtual 56, 3) := by decide +kernel
theorem dX6_whatKind_90 : decode cX6_whatKind 90 = .ok (.ireturn, 1) := by decide +kernel
theorem dX6_whatWord_0 : decode cX6_whatWord 0 = .ok (.aload_n 0, 1) := by decide +kernel
theorem dX6_whatWord_1 : decode cX6_whatWord 1 = .ok (.iload_n 1, 1) := by decide +kernel
theorem dX6_whatWord_2 : decode cX6_whatWord 2 = .ok (.invokevirtual 64, 3) := by decide +kernel
theorem dX6_whatWord_5 : decode cX6_whatWord 5 = .ok (.ifCond .eq 9, 3) := by decide +kernel
theorem dX6_whatWord_8 : decode cX6_whatWord 8 = .ok (.aload_n 0, 1) := by decide +kernel
theorem dX6_whatWord_9 : decode cX6_whatWord 9 = .ok (.iconst (-1), 1) := by decide +kernel
theorem dX6_whatWord_10 : decode cX6_whatWord 10 = .ok (.invokevirtual 56, 3) := by decide +kernel
theorem dX6_whatWord_13 : decode cX6_whatWord 13 = .ok (.ireturn, 1) := by decide +kernel
theorem dX6_whatWord_14 : decode cX6_whatWord 14 = .ok (.aload_n 0, 1) := by decide +kernel
theorem dX6_whatWord_15 : decode cX6_whatWord 15 = .ok (.getfield 36, 3) := by decide +kernel
theorem dX6_whatWord_18 : decode cX6_whatWord 18 = .ok (.aload_n 0, 1) := by decide +kernel
theorem dX6_whatWord_19 : decode cX6_whatWord 19 = .ok (.getfield 10, 3) := by decide +kernel
theorem dX6_whatWord_22 : decode cX6_whatWord 22 = .ok (.iload_n 1, 1) := by decide +kernel
theorem dX6_whatWord_23 : decode cX6_whatWord 23 = .ok (.iconst 2, 1) := by decide +kernel
theorem dX6_whatWord_24 : decode cX6_whatWord 24 = .ok (.aload_n 0, 1) := by decide +kernel
theorem dX6_whatWord_25 : decode cX6_whatWord 25 = .ok (.getfield 47, 3) := by decide +kernel
theorem dX6_whatWord_28 : decode cX6_whatWord 28 = .ok (.aload_n 0, 1) := by decide +kernel
theorem dX6_whatWord_29 : decode cX6_whatWord 29 = .ok (.getfield 244, 3) := by decide +kernel
theorem dX6_whatWord_32 : decode cX6_whatWord 32 = .ok (.invokevirtual 247, 3) := by decide +kernel
theorem dX6_whatWord_35 : decode cX6_whatWord 35 = .ok (.ireturn, 1) := by decide +kernel
theorem dX6_two_0 : decode cX6_two 0 = .ok (.aload_n 0, 1) := by decide +kernel
theorem dX6_two_1 : decode cX6_two 1 = .ok (.iload_n 1, 1) := by decide +kernel
theorem dX6_two_2 : decode cX6_two 2 = .ok (.iload_n 2, 1) := by decide +kernel
theorem dX6_two_3 : decode cX6_two 3 = .ok (.invokevirtual 223, 3) := by decide +kernel
theorem dX6_two_6 : decode cX6_two 6 = .ok (.iload_n 3, 1) := by decide +kernel
theorem dX6_two_7 : decode cX6_two 7 = .ok (.iconst 1, 1) := by decide +kernel
theorem dX6_two_8 : decode cX6_two 8 = .ok (.bipush 30, 2) := by decide +kernel
theorem dX6_two_10 : decode cX6_two 10 = .ok (.invokestatic 68, 3) := by decide +kernel
theorem dX6_two_13 : decode cX6_two 13 = .ok (.istore 4, 2) := by decide +kernel
theorem dX6_two_15 : decode cX6_two 15 = .ok (.iload 4, 2) := by decide +kernel
theorem dX6_two_17 : decode cX6_two 17 = .ok (.ifCond .eq 10, 3) := by decide +kernel
theorem dX6_two_20 : decode cX6_two 20 = .ok (.aload_n 0, 1) := by decide +kernel
theorem dX6_two_21 : decode cX6_two 21 = .ok (.iload 4, 2) := by decide +kernel
theorem dX6_two_23 : decode cX6_two 23 = .ok (.invokevirtual 56, 3) := by decide +kernel
theorem dX6_two_26 : decode cX6_two 26 = .ok (.ireturn, 1) := by decide +kernel
theorem dX6_two_27 : decode cX6_two 27 = .ok (.aload_n 0, 1) := by decide +kernel
theorem dX6_two_28 : decode cX6_two 28 = .ok (.getfield 36, 3) := by decide +kernel
theorem dX6_two_31 : decode cX6_two 31 = .ok (.aload_n 0, 1) := by decide +kernel
theorem dX6_two_32 : decode cX6_two 32 = .ok (.getfield 10, 3) := by decide +kernel
theorem dX6_two_35 : decode cX6_two 35 = .ok (.iload_n 1, 1) := by decide +kernel
theorem dX6_two_36 : decode cX6_two 36 = .ok (.iload_n 2, 1) := by decide +kernel
theorem dX6_two_37 : decode cX6_two 37 = .ok (.iload_n 3, 1) := by decide +kernel
theorem dX6_two_38 : decode cX6_two 38 = .ok (.invokevirtual 251, 3) := by decide +kernel
theorem dX6_two_41 : decode cX6_two 41 = .ok (.ireturn, 1) := by decide +kernel
theorem dX6_inLowestTerms_0 : decode cX6_inLowestTerms 0 = .ok (.lload_n 0, 1) := by decide +kernel
theorem dX6_inLowestTerms_1 : decode cX6_inLowestTerms 1 = .ok (.lconst 0, 1) := by decide +kernel
theorem dX6_inLowestTerms_2 : decode cX6_inLowestTerms 2 = .ok (.lcmp, 1) := by decide +kernel
theorem dX6_inLowestTerms_3 : decode cX6_inLowestTerms 3 = .ok (.ifCond .eq 9, 3) := by decide +kernel
theorem dX6_inLowestTerms_6 : decode cX6_inLowestTerms 6 = .ok (.lload_n 2, 1) := by decide +kernel
theorem dX6_inLowestTerms_7 : decode cX6_inLowestTerms 7 = .ok (.lconst 0, 1) := by decide +kernel
theorem dX6_inLowestTerms_8 : decode cX6_inLowestTerms 8 = .ok (.lcmp, 1) := by decide +kernel
theorem dX6_inLowestTerms_9 : decode cX6_inLowestTerms 9 = .ok (.ifCond .ne 7, 3) := by decide +kernel
theorem dX6_inLowestTerms_12 : decode cX6_inLowestTerms 12 = .ok (.iload 4, 2) := by decide +kernel
theorem dX6_inLowestTerms_14 : decode cX6_inLowestTerms 14 = .ok (.i2l, 1) := by decide +kernel
theorem dX6_inLowestTerms_15 : decode cX6_inLowestTerms 15 = .ok (.lreturn, 1) := by decide +kernel
theorem dX6_inLowestTerms_16 : decode cX6_inLowestTerms 16 = .ok (.lload_n 0, 1) := by decide +kernel
theorem dX6_inLowestTerms_17 : decode cX6_inLowestTerms 17 = .ok (.lstore 5, 2) := by decide +kernel
theorem dX6_inLowestTerms_19 : decode cX6_inLowestTerms 19 = .ok (.lload_n 2, 1) := by decide +kernel
theorem dX6_inLowestTerms_20 : decode cX6_inLowestTerms 20 = .ok (.lstore 7, 2) := by decide +kernel
theorem dX6_inLowestTerms_22 : decode cX6_inLowestTerms 22 = .ok (.iconst 0, 1) := by decide +kernel
theorem dX6_inLowestTerms_23 : decode cX6_inLowestTerms 23 = .ok (.istore 9, 2) := by decide +kernel
theorem dX6_inLowestTerms_25 : decode cX6_inLowestTerms 25 = .ok (.iload 9, 2) := by decide +kernel
theorem dX6_inLowestTerms_27 : decode cX6_inLowestTerms 27 = .ok (.bipush 100, 2) := by decide +kernel
theorem dX6_inLowestTerms_29 : decode cX6_inLowestTerms 29 = .ok (.if_icmp .ge 31, 3) := by decide +kernel
theorem dX6_inLowestTerms_32 : decode cX6_inLowestTerms 32 = .ok (.lload 7, 2) := by decide +kernel
theorem dX6_inLowestTerms_34 : decode cX6_inLowestTerms 34 = .ok (.lconst 0, 1) := by decide +kernel
theorem dX6_inLowestTerms_35 : decode cX6_inLowestTerms 35 = .ok (.lcmp, 1) := by decide +kernel
theorem dX6_inLowestTerms_36 : decode cX6_inLowestTerms 36 = .ok (.ifCond .eq 24, 3) := by decide +kernel
theorem dX6_inLowestTerms_39 : decode cX6_inLowestTerms 39 = .ok (.lload 5, 2) := by decide +kernel
theorem dX6_inLowestTerms_41 : decode cX6_inLowestTerms 41 = .ok (.lload 7, 2) := by decide +kernel
theorem dX6_inLowestTerms_43 : decode cX6_inLowestTerms 43 = .ok (.lrem, 1) := by decide +kernel
theorem dX6_inLowestTerms_44 : decode cX6_inLowestTerms 44 = .ok (.lstore 10, 2) := by decide +kernel
theorem dX6_inLowestTerms_46 : decode cX6_inLowestTerms 46 = .ok (.lload 7, 2) := by decide +kernel
theorem dX6_inLowestTerms_48 : decode cX6_inLowestTerms 48 = .ok (.lstore 5, 2) := by decide +kernel
theorem dX6_inLowestTerms_50 : decode cX6_inLowestTerms 50 = .ok (.lload 10, 2) := by decide +kernel
theorem dX6_inLowestTerms_52 : decode cX6_inLowestTerms 52 = .ok (.lstore 7, 2) := by decide +kernel
theorem dX6_inLowestTerms_54 : decode cX6_inLowestTerms 54 = .ok (.iinc 9 1, 3) := by decide +kernel
theorem dX6_inLowestTerms_57 : decode cX6_inLowestTerms 57 = .ok (.goto (-32), 3) := by decide +kernel
theorem dX6_inLowestTerms_60 : decode cX6_inLowestTerms 60 = .ok (.iload 4, 2) := by decide +kernel
theorem dX6_inLowestTerms_62 : decode cX6_inLowestTerms 62 = .ok (.ifCond .ne 7, 3) := by decide +kernel
theorem dX6_inLowestTerms_65 : decode cX6_inLowestTerms 65 = .ok (.lload_n 0, 1) := by decide +kernel
theorem dX6_inLowestTerms_66 : decode cX6_inLowestTerms 66 = .ok (.goto 4, 3) := by decide +kernel
theorem dX6_inLowestTerms_69 : decode cX6_inLowestTerms 69 = .ok (.lload_n 2, 1) := by decide +kernel
theorem dX6_inLowestTerms_70 : decode cX6_inLowestTerms 70 = .ok (.lstore 9, 2) := by decide +kernel
theorem dX6_inLowestTerms_72 : decode cX6_inLowestTerms 72 = .ok (.lload 5, 2) := by decide +kernel
theorem dX6_inLowestTerms_74 : decode cX6_inLowestTerms 74 = .ok (.lconst 0, 1) := by decide +kernel
theorem dX6_inLowestTerms_75 : decode cX6_inLowestTerms 75 = .ok (.lcmp, 1) := by decide +kernel
theorem dX6_inLowestTerms_76 : decode cX6_inLowestTerms 76 = .ok (.ifCond .ne 8, 3) := by decide +kernel
theorem dX6_inLowestTerms_79 : decode cX6_inLowestTerms 79 = .ok (.lload 9, 2) := by decide +kernel
theorem dX6_inLowestTerms_81 : decode cX6_inLowestTerms 81 = .ok (.goto 8, 3) := by decide +kernel
theorem dX6_inLowestTerms_84 : decode cX6_inLowestTerms 84 = .ok (.lload 9, 2) := by decide +kernel
theorem dX6_inLowestTerms_86 : decode cX6_inLowestTerms 86 = .ok (.lload 5, 2) := by decide +kernel
theorem dX6_inLowestTerms_88 : decode cX6_inLowestTerms 88 = .ok (.ldiv, 1) := by decide +kernel
theorem dX6_inLowestTerms_89 : decode cX6_inLowestTerms 89 = .ok (.lreturn, 1) := by decide +kernel
theorem dX6_rain_0 : decode cX6_rain 0 = .ok (.aload_n 0, 1) := by decide +kernel
theorem dX6_rain_1 : decode cX6_rain 1 = .ok (.iload_n 1, 1) := by decide +kernel
theorem dX6_rain_2 : decode cX6_rain 2 = .ok (.invokevirtual 64, 3) := by decide +kernel
theorem dX6_rain_5 : decode cX6_rain 5 = .ok (.ifCond .ne 10, 3) := by decide +kernel
theorem dX6_rain_8 : decode cX6_rain 8 = .ok (.iload_n 2, 1) := by decide +kernel
theorem dX6_rain_9 : decode cX6_rain 9 = .ok (.invokestatic 151, 3) := by decide +kernel
theorem dX6_rain_12 : decode cX6_rain 12 = .ok (.ifCond .eq 9, 3) := by decide +kernel
theorem dX6_rain_15 : decode cX6_rain 15 = .ok (.aload_n 0, 1) := by decide +kernel
theorem dX6_rain_16 : decode cX6_rain 16 = .ok (.iconst (-1), 1) := by decide +kernel
theorem dX6_rain_17 : decode cX6_rain 17 = .ok (.invokevirtual 254, 3) := by decide +kernel
theorem dX6_rain_20 : decode cX6_rain 20 = .ok (.lreturn, 1) := by decide +kernel
theorem dX6_rain_21 : decode cX6_rain 21 = .ok (.iload_n 3, 1) := by decide +kernel
theorem dX6_rain_22 : decode cX6_rain 22 = .ok (.ifCond .lt 9, 3) := by decide +kernel
theorem dX6_rain_25 : decode cX6_rain 25 = .ok (.iload 4, 2) := by decide +kernel
theorem dX6_rain_27 : decode cX6_rain 27 = .ok (.iconst 2, 1) := by decide +kernel
theorem dX6_rain_28 : decode cX6_rain 28 = .ok (.if_icmp .ge 10, 3) := by decide +kernel
theorem dX6_rain_31 : decode cX6_rain 31 = .ok (.aload_n 0, 1) := by decide +kernel
theorem dX6_rain_32 : decode cX6_rain 32 = .ok (.bipush (-4), 2) := by decide +kernel
theorem dX6_rain_34 : decode cX6_rain 34 = .ok (.invokevirtual 254, 3) := by decide +kernel
theorem dX6_rain_37 : decode cX6_rain 37 = .ok (.lreturn, 1) := by decide +kernel
theorem dX6_rain_38 : decode cX6_rain 38 = .ok (.iload_n 3, 1) := by decide +kernel
theorem dX6_rain_39 : decode cX6_rain 39 = .ok (.bipush 7, 2) := by decide +kernel
theorem dX6_rain_41 : decode cX6_rain 41 = .ok (.if_icmp .gt 10, 3) := by decide +kernel
theorem dX6_rain_44 : decode cX6_rain 44 = .ok (.iload 4, 2) := by decide +kernel
theorem dX6_rain_46 : decode cX6_rain 46 = .ok (.bipush 20, 2) := by decide +kernel
theorem dX6_rain_48 : decode cX6_rain 48 = .ok (.if_icmp .le 10, 3) := by decide +kernel
theorem dX6_rain_51 : decode cX6_rain 51 = .ok (.aload_n 0, 1) := by decide +kernel
theorem dX6_rain_52 : decode cX6_rain 52 = .ok (.bipush (-6), 2) := by decide +kernel
theorem dX6_rain_54 : decode cX6_rain 54 = .ok (.invokevirtual 254, 3) := by decide +kernel
theorem dX6_rain_57 : decode cX6_rain 57 = .ok (.lreturn, 1) := by decide +kernel
theorem dX6_rain_58 : decode cX6_rain 58 = .ok (.iload 5, 2) := by decide +kernel
theorem dX6_rain_60 : decode cX6_rain 60 = .ok (.ifCond .lt 9, 3) := by decide +kernel
theorem dX6_rain_63 : decode cX6_rain 63 = .ok (.iload 5, 2) := by decide +kernel
theorem dX6_rain_65 : decode cX6_rain 65 = .ok (.iconst 1, 1) := by decide +kernel
theorem dX6_rain_66 : decode cX6_rain 66 = .ok (.if_icmp .le 10, 3) := by decide +kernel
theorem dX6_rain_69 : decode cX6_rain 69 = .ok (.aload_n 0, 1) := by decide +kernel
theorem dX6_rain_70 : decode cX6_rain 70 = .ok (.bipush (-2), 2) := by decide +kernel
theorem dX6_rain_72 : decode cX6_rain 72 = .ok (.invokevirtual 254, 3) := by decide +kernel
theorem dX6_rain_75 : decode cX6_rain 75 = .ok (.lreturn, 1) := by decide +kernel
theorem dX6_rain_76 : decode cX6_rain 76 = .ok (.lconst 1, 1) := by decide +kernel
theorem dX6_rain_77 : decode cX6_rain 77 = .ok (.lstore 6, 2) := by decide +kernel
theorem dX6_rain_79 : decode cX6_rain 79 = .ok (.iconst 0, 1) := by decide +kernel
theorem dX6_rain_80 : decode cX6_rain 80 = .ok (.istore 8, 2) := by decide +kernel
theorem dX6_rain_82 : decode cX6_rain 82 = .ok (.iload 8, 2) := by decide +kernel
theorem dX6_rain_84 : decode cX6_rain 84 = .ok (.iload_n 3, 1) := by decide +kernel
theorem dX6_rain_85 : decode cX6_rain 85 = .ok (.if_icmp .ge 17, 3) := by decide +kernel
theorem dX6_rain_88 : decode cX6_rain 88 = .ok (.lload 6, 2) := by decide +kernel
theorem dX6_rain_90 : decode cX6_rain 90 = .ok (.iload 4, 2) := by decide +kernel
theorem dX6_rain_92 : decode cX6_rain 92 = .ok (.i2l, 1) := by decide +kernel
theorem dX6_rain_93 : decode cX6_rain 93 = .ok (.lmul, 1) := by decide +kernel
theorem dX6_rain_94 : decode cX6_rain 94 = .ok (.lstore 6, 2) := by decide +kernel
theorem dX6_rain_96 : decode cX6_rain 96 = .ok (.iinc 8 1, 3) := by decide +kernel
theorem dX6_rain_99 : decode cX6_rain 99 = .ok (.goto (-17), 3) := by decide +kernel
theorem dX6_rain_102 : decode cX6_rain 102 = .ok (.aload_n 0, 1) := by decide +kernel
theorem dX6_rain_103 : decode cX6_rain 103 = .ok (.getfield 36, 3) := by decide +kernel
theorem dX6_rain_106 : decode cX6_rain 106 = .ok (.aload_n 0, 1) := by decide +kernel
theorem dX6_rain_107 : decode cX6_rain 107 = .ok (.getfield 10, 3) := by decide +kernel
theorem dX6_rain_110 : decode cX6_rain 110 = .ok (.iload_n 1, 1) := by decide +kernel
theorem dX6_rain_111 : decode cX6_rain 111 = .ok (.iload_n 2, 1) := by decide +kernel
theorem dX6_rain_112 : decode cX6_rain 112 = .ok (.iload_n 3, 1) := by decide +kernel
theorem dX6_rain_113 : decode cX6_rain 113 = .ok (.iload 4, 2) := by decide +kernel
theorem dX6_rain_115 : decode cX6_rain 115 = .ok (.invokevirtual 258, 3) := by decide +kernel
theorem dX6_rain_118 : decode cX6_rain 118 = .ok (.lload 6, 2) := by decide +kernel
theorem dX6_rain_120 : decode cX6_rain 120 = .ok (.iload 5, 2) := by decide +kernel
theorem dX6_rain_122 : decode cX6_rain 122 = .ok (.invokestatic 262, 3) := by decide +kernel
theorem dX6_rain_125 : decode cX6_rain 125 = .ok (.lreturn, 1) := by decide +kernel
theorem dX6_like_0 : decode cX6_like 0 = .ok (.aload_n 0, 1) := by decide +kernel
theorem dX6_like_1 : decode cX6_like 1 = .ok (.iload_n 1, 1) := by decide +kernel
theorem dX6_like_2 : decode cX6_like 2 = .ok (.iload_n 2, 1) := by decide +kernel
theorem dX6_like_3 : decode cX6_like 3 = .ok (.invokevirtual 223, 3) := by decide +kernel
theorem dX6_like_6 : decode cX6_like 6 = .ok (.ifCond .eq 9, 3) := by decide +kernel
theorem dX6_like_9 : decode cX6_like 9 = .ok (.aload_n 0, 1) := by decide +kernel
theorem dX6_like_10 : decode cX6_like 10 = .ok (.iconst (-1), 1) := by decide +kernel
theorem dX6_like_11 : decode cX6_like 11 = .ok (.invokevirtual 56, 3) := by decide +kernel
theorem dX6_like_14 : decode cX6_like 14 = .ok (.ireturn, 1) := by decide +kernel
theorem dX6_like_15 : decode cX6_like 15 = .ok (.aload_n 0, 1) := by decide +kernel
theorem dX6_like_16 : decode cX6_like 16 = .ok (.getfield 10, 3) := by decide +kernel
theorem dX6_like_19 : decode cX6_like 19 = .ok (.getfield 105, 3) := by decide +kernel
theorem dX6_like_22 : decode cX6_like 22 = .ok (.iload_n 1, 1) := by decide +kernel
theorem dX6_like_23 : decode cX6_like 23 = .ok (.aaload, 1) := by decide +kernel
theorem dX6_like_24 : decode cX6_like 24 = .ok (.astore 4, 2) := by decide +kernel
theorem dX6_like_26 : decode cX6_like 26 = .ok (.aload_n 0, 1) := by decide +kernel
theorem dX6_like_27 : decode cX6_like 27 = .ok (.getfield 10, 3) := by decide +kernel
theorem dX6_like_30 : decode cX6_like 30 = .ok (.getfield 105, 3) := by decide +kernel
theorem dX6_like_33 : decode cX6_like 33 = .ok (.iload_n 2, 1) := by decide +kernel
theorem dX6_like_34 : decode cX6_like 34 = .ok (.aaload, 1) := by decide +kernel
theorem dX6_like_35 : decode cX6_like 35 = .ok (.astore 5, 2) := by decide +kernel
theorem dX6_like_37 : decode cX6_like 37 = .ok (.iload_n 3, 1) := by decide +kernel
theorem dX6_like_38 : decode cX6_like 38 = .ok (.tableswitch 50 0 2 #[26, 34, 42], 26) := by decide +kernel
theorem dX6_like_64 : decode cX6_like 64 = .ok (.aload 4, 2) := by decide +kernel
theorem dX6_like_66 : decode cX6_like 66 = .ok (.aload 5, 2) := by decide +kernel
theorem dX6_like_68 : decode cX6_like 68 = .ok (.invokevirtual 266, 3) := by decide +kernel
theorem dX6_like_71 : decode cX6_like 71 = .ok (.ireturn, 1) := by decide +kernel
theorem dX6_like_72 : decode cX6_like 72 = .ok (.aload 4, 2) := by decide +kernel
theorem dX6_like_74 : decode cX6_like 74 = .ok (.aload 5, 2) := by decide +kernel
theorem dX6_like_76 : decode cX6_like 76 = .ok (.invokevirtual 270, 3) := by decide +kernel
theorem dX6_like_79 : decode cX6_like 79 = .ok (.ireturn, 1) := by decide +kernel
theorem dX6_like_80 : decode cX6_like 80 = .ok (.aload 4, 2) := by decide +kernel
theorem dX6_like_82 : decode cX6_like 82 = .ok (.aload 5, 2) := by decide +kernel
theorem dX6_like_84 : decode cX6_like 84 = .ok (.invokevirtual 273, 3) := by decide +kernel
theorem dX6_like_87 : decode cX6_like 87 = .ok (.ireturn, 1) := by decide +kernel
theorem dX6_like_88 : decode cX6_like 88 = .ok (.aload_n 0, 1) := by decide +kernel
theorem dX6_like_89 : decode cX6_like 89 = .ok (.bipush (-2), 2) := by decide +kernel
theorem dX6_like_91 : decode cX6_like 91 = .ok (.invokevirtual 56, 3) := by decide +kernel
theorem dX6_like_94 : decode cX6_like 94 = .ok (.ireturn, 1) := by decide +kernel
theorem dX6_rank_0 : decode cX6_rank 0 = .ok (.aload_n 0, 1) := by decide +kernel
theorem dX6_rank_1 : decode cX6_rank 1 = .ok (.iload_n 1, 1) := by decide +kernel
theorem dX6_rank_2 : decode cX6_rank 2 = .ok (.invokevirtual 64, 3) := by decide +kernel
theorem dX6_rank_5 : decode cX6_rank 5 = .ok (.ifCond .eq 9, 3) := by decide +kernel
theorem dX6_rank_8 : decode cX6_rank 8 = .ok (.aload_n 0, 1) := by decide +kernel
theorem dX6_rank_9 : decode cX6_rank 9 = .ok (.iconst (-1), 1) := by decide +kernel
theorem dX6_rank_10 : decode cX6_rank 10 = .ok (.invokevirtual 56, 3) := by decide +kernel
theorem dX6_rank_13 : decode cX6_rank 13 = .ok (.ireturn, 1) := by decide +kernel
theorem dX6_rank_14 : decode cX6_rank 14 = .ok (.iconst 0, 1) := by decide +kernel
theorem dX6_rank_15 : decode cX6_rank 15 = .ok (.istore_n 2, 1) := by decide +kernel
theorem dX6_rank_16 : decode cX6_rank 16 = .ok (.iconst 0, 1) := by decide +kernel
theorem dX6_rank_17 : decode cX6_rank 17 = .ok (.istore_n 3, 1) := by decide +kernel
theorem dX6_rank_18 : decode cX6_rank 18 = .ok (.iload_n 3, 1) := by decide +kernel
theorem dX6_rank_19 : decode cX6_rank 19 = .ok (.aload_n 0, 1) := by decide +kernel
theorem dX6_rank_20 : decode cX6_rank 20 = .ok (.getfield 10, 3) := by decide +kernel
theorem dX6_rank_23 : decode cX6_rank 23 = .ok (.getfield 60, 3) := by decide +kernel
theorem dX6_rank_26 : decode cX6_rank 26 = .ok (.if_icmp .ge 50, 3) := by decide +kernel
theorem dX6_rank_29 : decode cX6_rank 29 = .ok (.aload_n 0, 1) := by decide +kernel
theorem dX6_rank_30 : decode cX6_rank 30 = .ok (.getfield 10, 3) := by decide +kernel
theorem dX6_rank_33 : decode cX6_rank 33 = .ok (.getfield 105, 3) := by decide +kernel
theorem dX6_rank_36 : decode cX6_rank 36 = .ok (.iload_n 3, 1) := by decide +kernel
theorem dX6_rank_37 : decode cX6_rank 37 = .ok (.aaload, 1) := by decide +kernel
theorem dX6_rank_38 : decode cX6_rank 38 = .ok (.aload_n 0, 1) := by decide +kernel
theorem dX6_rank_39 : decode cX6_rank 39 = .ok (.getfield 10, 3) := by decide +kernel
theorem dX6_rank_42 : decode cX6_rank 42 = .ok (.getfield 105, 3) := by decide +kernel
theorem dX6_rank_45 : decode cX6_rank 45 = .ok (.iload_n 1, 1) := by decide +kernel
theorem dX6_rank_46 : decode cX6_rank 46 = .ok (.aaload, 1) := by decide +kernel
theorem dX6_rank_47 : decode cX6_rank 47 = .ok (.invokevirtual 276, 3) := by decide +kernel
theorem dX6_rank_50 : decode cX6_rank 50 = .ok (.istore 4, 2) := by decide +kernel
theorem dX6_rank_52 : decode cX6_rank 52 = .ok (.iload 4, 2) := by decide +kernel
theorem dX6_rank_54 : decode cX6_rank 54 = .ok (.ifCond .lt 13, 3) := by decide +kernel
theorem dX6_rank_57 : decode cX6_rank 57 = .ok (.iload 4, 2) := by decide +kernel
theorem dX6_rank_59 : decode cX6_rank 59 = .ok (.ifCond .ne 11, 3) := by decide +kernel
theorem dX6_rank_62 : decode cX6_rank 62 = .ok (.iload_n 3, 1) := by decide +kernel
theorem dX6_rank_63 : decode cX6_rank 63 = .ok (.iload_n 1, 1) := by decide +kernel
theorem dX6_rank_64 : decode cX6_rank 64 = .ok (.if_icmp .ge 6, 3) := by decide +kernel
theorem dX6_rank_67 : decode cX6_rank 67 = .ok (.iinc 2 1, 3) := by decide +kernel
theorem dX6_rank_70 : decode cX6_rank 70 = .ok (.iinc 3 1, 3) := by decide +kernel
theorem dX6_rank_73 : decode cX6_rank 73 = .ok (.goto (-55), 3) := by decide +kernel
theorem dX6_rank_76 : decode cX6_rank 76 = .ok (.iload_n 2, 1) := by decide +kernel
theorem dX6_rank_77 : decode cX6_rank 77 = .ok (.ireturn, 1) := by decide +kernel
theorem dX6_power_0 : decode cX6_power 0 = .ok (.aload_n 0, 1) := by decide +kernel
theorem dX6_power_1 : decode cX6_power 1 = .ok (.iload_n 1, 1) := by decide +kernel
theorem dX6_power_2 : decode cX6_power 2 = .ok (.invokevirtual 64, 3) := by decide +kernel
theorem dX6_power_5 : decode cX6_power 5 = .ok (.ifCond .eq 9, 3) := by decide +kernel
theorem dX6_power_8 : decode cX6_power 8 = .ok (.aload_n 0, 1) := by decide +kernel
theorem dX6_power_9 : decode cX6_power 9 = .ok (.iconst (-1), 1) := by decide +kernel
theorem dX6_power_10 : decode cX6_power 10 = .ok (.invokevirtual 56, 3) := by decide +kernel
theorem dX6_power_13 : decode cX6_power 13 = .ok (.ireturn, 1) := by decide +kernel
theorem dX6_power_14 : decode cX6_power 14 = .ok (.aload_n 0, 1) := by decide +kernel
theorem dX6_power_15 : decode cX6_power 15 = .ok (.getfield 10, 3) := by decide +kernel
theorem dX6_power_18 : decode cX6_power 18 = .ok (.invokevirtual 292, 3) := by decide +kernel
theorem dX6_power_21 : decode cX6_power 21 = .ok (.istore_n 2, 1) := by decide +kernel
theorem dX6_power_22 : decode cX6_power 22 = .ok (.aload_n 0, 1) := by decide +kernel
theorem dX6_power_23 : decode cX6_power 23 = .ok (.getfield 10, 3) := by decide +kernel
theorem dX6_power_26 : decode cX6_power 26 = .ok (.getfield 105, 3) := by decide +kernel
theorem dX6_power_29 : decode cX6_power 29 = .ok (.iload_n 1, 1) := by decide +kernel
theorem dX6_power_30 : decode cX6_power 30 = .ok (.aaload, 1) := by decide +kernel
theorem dX6_power_31 : decode cX6_power 31 = .ok (.getfield 126, 3) := by decide +kernel
theorem dX6_power_34 : decode cX6_power 34 = .ok (.istore_n 3, 1) := by decide +kernel
theorem dX6_power_35 : decode cX6_power 35 = .ok (.iconst 0, 1) := by decide +kernel
theorem dX6_power_36 : decode cX6_power 36 = .ok (.istore 4, 2) := by decide +kernel
theorem dX6_power_38 : decode cX6_power 38 = .ok (.iconst 0, 1) := by decide +kernel
theorem dX6_power_39 : decode cX6_power 39 = .ok (.istore 5, 2) := by decide +kernel
theorem dX6_power_41 : decode cX6_power 41 = .ok (.iload 5, 2) := by decide +kernel
theorem dX6_power_43 : decode cX6_power 43 = .ok (.iconst 1, 1) := by decide +kernel
theorem dX6_power_44 : decode cX6_power 44 = .ok (.aload_n 0, 1) := by decide +kernel
theorem dX6_power_45 : decode cX6_power 45 = .ok (.getfield 10, 3) := by decide +kernel
theorem dX6_power_48 : decode cX6_power 48 = .ok (.getfield 60, 3) := by decide +kernel
theorem dX6_power_51 : decode cX6_power 51 = .ok (.ishl, 1) := by decide +kernel
theorem dX6_power_52 : decode cX6_power 52 = .ok (.if_icmp .ge 50, 3) := by decide +kernel
theorem dX6_power_55 : decode cX6_power 55 = .ok (.iload 5, 2) := by decide +kernel
theorem dX6_power_57 : decode cX6_power 57 = .ok (.iload_n 1, 1) := by decide +kernel
theorem dX6_power_58 : decode cX6_power 58 = .ok (.ishr, 1) := by decide +kernel
theorem dX6_power_59 : decode cX6_power 59 = .ok (.iconst 1, 1) := by decide +kernel
theorem dX6_power_60 : decode cX6_power 60 = .ok (.iand, 1) := by decide +kernel
theorem dX6_power_61 : decode cX6_power 61 = .ok (.ifCond .ne 35, 3) := by decide +kernel
theorem dX6_power_64 : decode cX6_power 64 = .ok (.aload_n 0, 1) := by decide +kernel
theorem dX6_power_65 : decode cX6_power 65 = .ok (.getfield 10, 3) := by decide +kernel
theorem dX6_power_68 : decode cX6_power 68 = .ok (.iload 5, 2) := by decide +kernel
theorem dX6_power_70 : decode cX6_power 70 = .ok (.invokevirtual 295, 3) := by decide +kernel
theorem dX6_power_73 : decode cX6_power 73 = .ok (.istore 6, 2) := by decide +kernel
theorem dX6_power_75 : decode cX6_power 75 = .ok (.iconst 2, 1) := by decide +kernel
theorem dX6_power_76 : decode cX6_power 76 = .ok (.iload 6, 2) := by decide +kernel
theorem dX6_power_78 : decode cX6_power 78 = .ok (.imul, 1) := by decide +kernel
theorem dX6_power_79 : decode cX6_power 79 = .ok (.iload_n 2, 1) := by decide +kernel
theorem dX6_power_80 : decode cX6_power 80 = .ok (.if_icmp .gt 16, 3) := by decide +kernel
theorem dX6_power_83 : decode cX6_power 83 = .ok (.iconst 2, 1) := by decide +kernel
theorem dX6_power_84 : decode cX6_power 84 = .ok (.iload 6, 2) := by decide +kernel
theorem dX6_power_86 : decode cX6_power 86 = .ok (.iload_n 3, 1) := by decide +kernel
theorem dX6_power_87 : decode cX6_power 87 = .ok (.iadd, 1) := by decide +kernel
theorem dX6_power_88 : decode cX6_power 88 = .ok (.imul, 1) := by decide +kernel
theorem dX6_power_89 : decode cX6_power 89 = .ok (.iload_n 2, 1) := by decide +kernel
theorem dX6_power_90 : decode cX6_power 90 = .ok (.if_icmp .le 6, 3) := by decide +kernel
theorem dX6_power_93 : decode cX6_power 93 = .ok (.iinc 4 1, 3) := by decide +kernel
theorem dX6_power_96 : decode cX6_power 96 = .ok (.iinc 5 1, 3) := by decide +kernel
theorem dX6_power_99 : decode cX6_power 99 = .ok (.goto (-58), 3) := by decide +kernel
theorem dX6_power_102 : decode cX6_power 102 = .ok (.iload 4, 2) := by decide +kernel
theorem dX6_power_104 : decode cX6_power 104 = .ok (.ireturn, 1) := by decide +kernel
theorem dX6_share_0 : decode cX6_share 0 = .ok (.aload_n 0, 1) := by decide +kernel
theorem dX6_share_1 : decode cX6_share 1 = .ok (.iload_n 1, 1) := by decide +kernel
theorem dX6_share_2 : decode cX6_share 2 = .ok (.invokevirtual 64, 3) := by decide +kernel
theorem dX6_share_5 : decode cX6_share 5 = .ok (.ifCond .eq 9, 3) := by decide +kernel
theorem dX6_share_8 : decode cX6_share 8 = .ok (.aload_n 0, 1) := by decide +kernel
theorem dX6_share_9 : decode cX6_share 9 = .ok (.iconst (-1), 1) := by decide +kernel
theorem dX6_share_10 : decode cX6_share 10 = .ok (.invokevirtual 254, 3) := by decide +kernel
theorem dX6_share_13 : decode cX6_share 13 = .ok (.lreturn, 1) := by decide +kernel
theorem dX6_share_14 : decode cX6_share 14 = .ok (.iload_n 2, 1) := by decide +kernel
theorem dX6_share_15 : decode cX6_share 15 = .ok (.ifCond .lt 8, 3) := by decide +kernel
theorem dX6_share_18 : decode cX6_share 18 = .ok (.iload_n 2, 1) := by decide +kernel
theorem dX6_share_19 : decode cX6_share 19 = .ok (.iconst 1, 1) := by decide +kernel
theorem dX6_share_20 : decode cX6_share 20 = .ok (.if_icmp .le 10, 3) := by decide +kernel
theorem dX6_share_23 : decode cX6_share 23 = .ok (.aload_n 0, 1) := by decide +kernel
theorem dX6_share_24 : decode cX6_share 24 = .ok (.bipush (-2), 2) := by decide +kernel
theorem dX6_share_26 : decode cX6_share 26 = .ok (.invokevirtual 254, 3) := by decide +kernel
theorem dX6_share_29 : decode cX6_share 29 = .ok (.lreturn, 1) := by decide +kernel
theorem dX6_share_30 : decode cX6_share 30 = .ok (.aload_n 0, 1) := by decide +kernel
theorem dX6_share_31 : decode cX6_share 31 = .ok (.getfield 10, 3) := by decide +kernel
theorem dX6_share_34 : decode cX6_share 34 = .ok (.getfield 105, 3) := by decide +kernel
theorem dX6_share_37 : decode cX6_share 37 = .ok (.iload_n 1, 1) := by decide +kernel
theorem dX6_share_38 : decode cX6_share 38 = .ok (.aaload, 1) := by decide +kernel
theorem dX6_share_39 : decode cX6_share 39 = .ok (.getfield 126, 3) := by decide +kernel
theorem dX6_share_42 : decode cX6_share 42 = .ok (.i2l, 1) := by decide +kernel
theorem dX6_share_43 : decode cX6_share 43 = .ok (.aload_n 0, 1) := by decide +kernel
theorem dX6_share_44 : decode cX6_share 44 = .ok (.getfield 10, 3) := by decide +kernel
theorem dX6_share_47 : decode cX6_share 47 = .ok (.invokevirtual 292, 3) := by decide +kernel
theorem dX6_share_50 : decode cX6_share 50 = .ok (.i2l, 1) := by decide +kernel
theorem dX6_share_51 : decode cX6_share 51 = .ok (.iload_n 2, 1) := by decide +kernel
theorem dX6_share_52 : decode cX6_share 52 = .ok (.invokestatic 262, 3) := by decide +kernel
theorem dX6_share_55 : decode cX6_share 55 = .ok (.lreturn, 1) := by decide +kernel
theorem dX6_nearest_0 : decode cX6_nearest 0 = .ok (.iload_n 1, 1) := by decide +kernel
theorem dX6_nearest_1 : decode cX6_nearest 1 = .ok (.invokestatic 151, 3) := by decide +kernel
theorem dX6_nearest_4 : decode cX6_nearest 4 = .ok (.ifCond .eq 9, 3) := by decide +kernel
theorem dX6_nearest_7 : decode cX6_nearest 7 = .ok (.aload_n 0, 1) := by decide +kernel
theorem dX6_nearest_8 : decode cX6_nearest 8 = .ok (.iconst (-1), 1) := by decide +kernel
theorem dX6_nearest_9 : decode cX6_nearest 9 = .ok (.invokevirtual 56, 3) := by decide +kernel
theorem dX6_nearest_12 : decode cX6_nearest 12 = .ok (.ireturn, 1) := by decide +kernel
theorem dX6_nearest_13 : decode cX6_nearest 13 = .ok (.iload_n 2, 1) := by decide +kernel
theorem dX6_nearest_14 : decode cX6_nearest 14 = .ok (.ifCond .lt 8, 3) := by decide +kernel
theorem dX6_nearest_17 : decode cX6_nearest 17 = .ok (.iload_n 2, 1) := by decide +kernel
theorem dX6_nearest_18 : decode cX6_nearest 18 = .ok (.iconst 1, 1) := by decide +kernel
theorem dX6_nearest_19 : decode cX6_nearest 19 = .ok (.if_icmp .le 10, 3) := by decide +kernel
theorem dX6_nearest_22 : decode cX6_nearest 22 = .ok (.aload_n 0, 1) := by decide +kernel
theorem dX6_nearest_23 : decode cX6_nearest 23 = .ok (.bipush (-2), 2) := by decide +kernel
theorem dX6_nearest_25 : decode cX6_nearest 25 = .ok (.invokevirtual 56, 3) := by decide +kernel
theorem dX6_nearest_28 : decode cX6_nearest 28 = .ok (.ireturn, 1) := by decide +kernel
theorem dX6_nearest_29 : decode cX6_nearest 29 = .ok (.bipush (-9), 2) := by decide +kernel
theorem dX6_nearest_31 : decode cX6_nearest 31 = .ok (.istore_n 3, 1) := by decide +kernel
theorem dX6_nearest_32 : decode cX6_nearest 32 = .ok (.bipush (-9), 2) := by decide +kernel
theorem dX6_nearest_34 : decode cX6_nearest 34 = .ok (.istore 4, 2) := by decide +kernel
theorem dX6_nearest_36 : decode cX6_nearest 36 = .ok (.iconst 0, 1) := by decide +kernel
theorem dX6_nearest_37 : decode cX6_nearest 37 = .ok (.istore 5, 2) := by decide +kernel
theorem dX6_nearest_39 : decode cX6_nearest 39 = .ok (.iload 5, 2) := by decide +kernel
theorem dX6_nearest_41 : decode cX6_nearest 41 = .ok (.aload_n 0, 1) := by decide +kernel
theorem dX6_nearest_42 : decode cX6_nearest 42 = .ok (.getfield 10, 3) := by decide +kernel
theorem dX6_nearest_45 : decode cX6_nearest 45 = .ok (.getfield 60, 3) := by decide +kernel
theorem dX6_nearest_48 : decode cX6_nearest 48 = .ok (.if_icmp .ge 48, 3) := by decide +kernel
theorem dX6_nearest_51 : decode cX6_nearest 51 = .ok (.aload_n 0, 1) := by decide +kernel
theorem dX6_nearest_52 : decode cX6_nearest 52 = .ok (.getfield 10, 3) := by decide +kernel
theorem dX6_nearest_55 : decode cX6_nearest 55 = .ok (.getfield 105, 3) := by decide +kernel
theorem dX6_nearest_58 : decode cX6_nearest 58 = .ok (.iload 5, 2) := by decide +kernel
theorem dX6_nearest_60 : decode cX6_nearest 60 = .ok (.aaload, 1) := by decide +kernel
theorem dX6_nearest_61 : decode cX6_nearest 61 = .ok (.getfield 117, 3) := by decide +kernel
theorem dX6_nearest_64 : decode cX6_nearest 64 = .ok (.iload_n 1, 1) := by decide +kernel
theorem dX6_nearest_65 : decode cX6_nearest 65 = .ok (.invokestatic 298, 3) := by decide +kernel
theorem dX6_nearest_68 : decode cX6_nearest 68 = .ok (.istore 6, 2) := by decide +kernel
theorem dX6_nearest_70 : decode cX6_nearest 70 = .ok (.iload_n 3, 1) := by decide +kernel
theorem dX6_nearest_71 : decode cX6_nearest 71 = .ok (.bipush (-9), 2) := by decide +kernel
theorem dX6_nearest_73 : decode cX6_nearest 73 = .ok (.if_icmp .eq 10, 3) := by decide +kernel
theorem dX6_nearest_76 : decode cX6_nearest 76 = .ok (.iload 6, 2) := by decide +kernel
theorem dX6_nearest_78 : decode cX6_nearest 78 = .ok (.iload 4, 2) := by decide +kernel
theorem dX6_nearest_80 : decode cX6_nearest 80 = .ok (.if_icmp .ge 10, 3) := by decide +kernel
theorem dX6_nearest_83 : decode cX6_nearest 83 = .ok (.iload 5, 2) := by decide +kernel
theorem dX6_nearest_85 : decode cX6_nearest 85 = .ok (.istore_n 3, 1) := by decide +kernel
theorem dX6_nearest_86 : decode cX6_nearest 86 = .ok (.iload 6, 2) := by decide +kernel
theorem dX6_nearest_88 : decode cX6_nearest 88 = .ok (.istore 4, 2) := by decide +kernel
theorem dX6_nearest_90 : decode cX6_nearest 90 = .ok (.iinc 5 1, 3) := by decide +kernel
theorem dX6_nearest_93 : decode cX6_nearest 93 = .ok (.goto (-54), 3) := by decide +kernel
theorem dX6_nearest_96 : decode cX6_nearest 96 = .ok (.iload_n 2, 1) := by decide +kernel
theorem dX6_nearest_97 : decode cX6_nearest 97 = .ok (.ifCond .ne 7, 3) := by decide +kernel
theorem dX6_nearest_100 : decode cX6_nearest 100 = .ok (.iload_n 3, 1) := by decide +kernel
theorem dX6_nearest_101 : decode cX6_nearest 101 = .ok (.goto 5, 3) := by decide +kernel
theorem dX6_nearest_104 : decode cX6_nearest 104 = .ok (.iload 4, 2) := by decide +kernel
theorem dX6_nearest_106 : decode cX6_nearest 106 = .ok (.ireturn, 1) := by decide +kernel
theorem dX6_way_0 : decode cX6_way 0 = .ok (.iload_n 1, 1) := by decide +kernel
theorem dX6_way_1 : decode cX6_way 1 = .ok (.invokestatic 151, 3) := by decide +kernel
theorem dX6_way_4 : decode cX6_way 4 = .ok (.ifCond .ne 10, 3) := by decide +kernel
theorem dX6_way_7 : decode cX6_way 7 = .ok (.iload_n 2, 1) := by decide +kernel
theorem dX6_way_8 : decode cX6_way 8 = .ok (.invokestatic 151, 3) := by decide +kernel
theorem dX6_way_11 : decode cX6_way 11 = .ok (.ifCond .eq 9, 3) := by decide +kernel
theorem dX6_way_14 : decode cX6_way 14 = .ok (.aload_n 0, 1) := by decide +kernel
theorem dX6_way_15 : decode cX6_way 15 = .ok (.iconst (-1), 1) := by decide +kernel
theorem dX6_way_16 : decode cX6_way 16 = .ok (.invokevirtual 56, 3) := by decide +kernel
theorem dX6_way_19 : decode cX6_way 19 = .ok (.ireturn, 1) := by decide +kernel
theorem dX6_way_20 : decode cX6_way 20 = .ok (.aload_n 0, 1) := by decide +kernel
theorem dX6_way_21 : decode cX6_way 21 = .ok (.getfield 43, 3) := by decide +kernel
theorem dX6_way_24 : decode cX6_way 24 = .ok (.aload_n 0, 1) := by decide +kernel
theorem dX6_way_25 : decode cX6_way 25 = .ok (.getfield 10, 3) := by decide +kernel
theorem dX6_way_28 : decode cX6_way 28 = .ok (.iload_n 1, 1) := by decide +kernel
theorem dX6_way_29 : decode cX6_way 29 = .ok (.iload_n 2, 1) := by decide +kernel
theorem dX6_way_30 : decode cX6_way 30 = .ok (.invokevirtual 302, 3) := by decide +kernel
theorem dX6_way_33 : decode cX6_way 33 = .ok (.ireturn, 1) := by decide +kernel
theorem dX6_sight_0 : decode cX6_sight 0 = .ok (.iload_n 1, 1) := by decide +kernel
theorem dX6_sight_1 : decode cX6_sight 1 = .ok (.tableswitch 51 0 2 #[27, 35, 43], 27) := by decide +kernel
theorem dX6_sight_28 : decode cX6_sight 28 = .ok (.aload_n 0, 1) := by decide +kernel
theorem dX6_sight_29 : decode cX6_sight 29 = .ok (.getfield 10, 3) := by decide +kernel
theorem dX6_sight_32 : decode cX6_sight 32 = .ok (.invokevirtual 305, 3) := by decide +kernel
theorem dX6_sight_35 : decode cX6_sight 35 = .ok (.ireturn, 1) := by decide +kernel
theorem dX6_sight_36 : decode cX6_sight 36 = .ok (.aload_n 0, 1) := by decide +kernel
theorem dX6_sight_37 : decode cX6_sight 37 = .ok (.getfield 10, 3) := by decide +kernel
theorem dX6_sight_40 : decode cX6_sight 40 = .ok (.invokevirtual 308, 3) := by decide +kernel
theorem dX6_sight_43 : decode cX6_sight 43 = .ok (.ireturn, 1) := by decide +kernel
theorem dX6_sight_44 : decode cX6_sight 44 = .ok (.aload_n 0, 1) := by decide +kernel
theorem dX6_sight_45 : decode cX6_sight 45 = .ok (.getfield 10, 3) := by decide +kernel
theorem dX6_sight_48 : decode cX6_sight 48 = .ok (.invokevirtual 311, 3) := by decide +kernel
theorem dX6_sight_51 : decode cX6_sight 51 = .ok (.ireturn, 1) := by decide +kernel
theorem dX6_sight_52 : decode cX6_sight 52 = .ok (.aload_n 0, 1) := by decide +kernel
theorem dX6_sight_53 : decode cX6_sight 53 = .ok (.bipush (-2), 2) := by decide +kernel
theorem dX6_sight_55 : decode cX6_sight 55 = .ok (.invokevirtual 56, 3) := by decide +kernel
theorem dX6_sight_58 : decode cX6_sight 58 = .ok (.ireturn, 1) := by decide +kernel
theorem dX6_kinds_0 : decode cX6_kinds 0 = .ok (.iload_n 1, 1) := by decide +kernel
theorem dX6_kinds_1 : decode cX6_kinds 1 = .ok (.ifCond .lt 9, 3) := by decide +kernel
theorem dX6_kinds_4 : decode cX6_kinds 4 = .ok (.iload_n 1, 1) := by decide +kernel
theorem dX6_kinds_5 : decode cX6_kinds 5 = .ok (.bipush 8, 2) := by decide +kernel
theorem dX6_kinds_7 : decode cX6_kinds 7 = .ok (.if_icmp .lt 10, 3) := by decide +kernel
theorem dX6_kinds_10 : decode cX6_kinds 10 = .ok (.aload_n 0, 1) := by decide +kernel
theorem dX6_kinds_11 : decode cX6_kinds 11 = .ok (.bipush (-2), 2) := by decide +kernel
theorem dX6_kinds_13 : decode cX6_kinds 13 = .ok (.invokevirtual 56, 3) := by decide +kernel
theorem dX6_kinds_16 : decode cX6_kinds 16 = .ok (.ireturn, 1) := by decide +kernel
theorem dX6_kinds_17 : decode cX6_kinds 17 = .ok (.iconst 0, 1) := by decide +kernel
theorem dX6_kinds_18 : decode cX6_kinds 18 = .ok (.istore_n 2, 1) := by decide +kernel
theorem dX6_kinds_19 : decode cX6_kinds 19 = .ok (.iconst 0, 1) := by decide +kernel
theorem dX6_kinds_20 : decode cX6_kinds 20 = .ok (.istore_n 3, 1) := by decide +kernel
theorem dX6_kinds_21 : decode cX6_kinds 21 = .ok (.iload_n 3, 1) := by decide +kernel
theorem dX6_kinds_22 : decode cX6_kinds 22 = .ok (.aload_n 0, 1) := by decide +kernel
theorem dX6_kinds_23 : decode cX6_kinds 23 = .ok (.getfield 10, 3) := by decide +kernel
theorem dX6_kinds_26 : decode cX6_kinds 26 = .ok (.getfield 60, 3) := by decide +kernel
theorem dX6_kinds_29 : decode cX6_kinds 29 = .ok (.if_icmp .ge 28, 3) := by decide +kernel
theorem dX6_kinds_32 : decode cX6_kinds 32 = .ok (.aload_n 0, 1) := by decide +kernel
theorem dX6_kinds_33 : decode cX6_kinds 33 = .ok (.getfield 10, 3) := by decide +kernel
theorem dX6_kinds_36 : decode cX6_kinds 36 = .ok (.getfield 105, 3) := by decide +kernel
theorem dX6_kinds_39 : decode cX6_kinds 39 = .ok (.iload_n 3, 1) := by decide +kernel
theorem dX6_kinds_40 : decode cX6_kinds 40 = .ok (.aaload, 1) := by decide +kernel
theorem dX6_kinds_41 : decode cX6_kinds 41 = .ok (.getfield 109, 3) := by decide +kernel
theorem dX6_kinds_44 : decode cX6_kinds 44 = .ok (.iload_n 1, 1) := by decide +kernel
theorem dX6_kinds_45 : decode cX6_kinds 45 = .ok (.if_icmp .ne 6, 3) := by decide +kernel
theorem dX6_kinds_48 : decode cX6_kinds 48 = .ok (.iinc 2 1, 3) := by decide +kernel
theorem dX6_kinds_51 : decode cX6_kinds 51 = .ok (.iinc 3 1, 3) := by decide +kernel
theorem dX6_kinds_54 : decode cX6_kinds 54 = .ok (.goto (-33), 3) := by decide +kernel
theorem dX6_kinds_57 : decode cX6_kinds 57 = .ok (.iload_n 2, 1) := by decide +kernel
theorem dX6_kinds_58 : decode cX6_kinds 58 = .ok (.ireturn, 1) := by decide +kernel
theorem dX6_row_0 : decode cX6_row 0 = .ok (.iload_n 1, 1) := by decide +kernel
theorem dX6_row_1 : decode cX6_row 1 = .ok (.ifCond .ge 10, 3) := by decide +kernel
theorem dX6_row_4 : decode cX6_row 4 = .ok (.aload_n 0, 1) := by decide +kernel
theorem dX6_row_5 : decode cX6_row 5 = .ok (.bipush (-4), 2) := by decide +kernel
theorem dX6_row_7 : decode cX6_row 7 = .ok (.invokevirtual 56, 3) := by decide +kernel
theorem dX6_row_10 : decode cX6_row 10 = .ok (.ireturn, 1) := by decide +kernel
theorem dX6_row_11 : decode cX6_row 11 = .ok (.iload_n 1, 1) := by decide +kernel
theorem dX6_row_12 : decode cX6_row 12 = .ok (.bipush 99, 2) := by decide +kernel
theorem dX6_row_14 : decode cX6_row 14 = .ok (.if_icmp .gt 12, 3) := by decide +kernel
theorem dX6_row_17 : decode cX6_row 17 = .ok (.aload_n 0, 1) := by decide +kernel
theorem dX6_row_18 : decode cX6_row 18 = .ok (.getfield 244, 3) := by decide +kernel
theorem dX6_row_21 : decode cX6_row 21 = .ok (.bipush 12, 2) := by decide +kernel
theorem dX6_row_23 : decode cX6_row 23 = .ok (.if_icmp .lt 10, 3) := by decide +kernel
theorem dX6_row_26 : decode cX6_row 26 = .ok (.aload_n 0, 1) := by decide +kernel
theorem dX6_row_27 : decode cX6_row 27 = .ok (.bipush (-6), 2) := by decide +kernel
theorem dX6_row_29 : decode cX6_row 29 = .ok (.invokevirtual 56, 3) := by decide +kernel
theorem dX6_row_32 : decode cX6_row 32 = .ok (.ireturn, 1) := by decide +kernel
theorem dX6_row_33 : decode cX6_row 33 = .ok (.aload_n 0, 1) := by decide +kernel
theorem dX6_row_34 : decode cX6_row 34 = .ok (.getfield 47, 3) := by decide +kernel
theorem dX6_row_37 : decode cX6_row 37 = .ok (.aload_n 0, 1) := by decide +kernel
theorem dX6_row_38 : decode cX6_row 38 = .ok (.getfield 244, 3) := by decide +kernel
theorem dX6_row_41 : decode cX6_row 41 = .ok (.iload_n 1, 1) := by decide +kernel
theorem dX6_row_42 : decode cX6_row 42 = .ok (.iastore, 1) := by decide +kernel
theorem dX6_row_43 : decode cX6_row 43 = .ok (.aload_n 0, 1) := by decide +kernel
theorem dX6_row_44 : decode cX6_row 44 = .ok (.dup, 1) := by decide +kernel
theorem dX6_row_45 : decode cX6_row 45 = .ok (.getfield 244, 3) := by decide +kernel
theorem dX6_row_48 : decode cX6_row 48 = .ok (.iconst 1, 1) := by decide +kernel
theorem dX6_row_49 : decode cX6_row 49 = .ok (.iadd, 1) := by decide +kernel
theorem dX6_row_50 : decode cX6_row 50 = .ok (.putfield 244, 3) := by decide +kernel
theorem dX6_row_53 : decode cX6_row 53 = .ok (.aload_n 0, 1) := by decide +kernel
theorem dX6_row_54 : decode cX6_row 54 = .ok (.getfield 244, 3) := by decide +kernel
theorem dX6_row_57 : decode cX6_row 57 = .ok (.ireturn, 1) := by decide +kernel
theorem dX6_judge_0 : decode cX6_judge 0 = .ok (.bipush (-9), 2) := by decide +kernel
theorem dX6_judge_2 : decode cX6_judge 2 = .ok (.istore_n 1, 1) := by decide +kernel
theorem dX6_judge_3 : decode cX6_judge 3 = .ok (.iconst 0, 1) := by decide +kernel
theorem dX6_judge_4 : decode cX6_judge 4 = .ok (.istore_n 2, 1) := by decide +kernel
theorem dX6_judge_5 : decode cX6_judge 5 = .ok (.iload_n 2, 1) := by decide +kernel
theorem dX6_judge_6 : decode cX6_judge 6 = .ok (.aload_n 0, 1) := by decide +kernel
theorem dX6_judge_7 : decode cX6_judge 7 = .ok (.getfield 244, 3) := by decide +kernel
theorem dX6_judge_10 : decode cX6_judge 10 = .ok (.if_icmp .ge 49, 3) := by decide +kernel
theorem dX6_judge_13 : decode cX6_judge 13 = .ok (.iload_n 1, 1) := by decide +kernel
theorem dX6_judge_14 : decode cX6_judge 14 = .ok (.bipush (-9), 2) := by decide +kernel
theorem dX6_judge_16 : decode cX6_judge 16 = .ok (.if_icmp .ne 43, 3) := by decide +kernel
theorem dX6_judge_19 : decode cX6_judge 19 = .ok (.iload_n 2, 1) := by decide +kernel
theorem dX6_judge_20 : decode cX6_judge 20 = .ok (.aload_n 0, 1) := by decide +kernel
theorem dX6_judge_21 : decode cX6_judge 21 = .ok (.getfield 10, 3) := by decide +kernel
theorem dX6_judge_24 : decode cX6_judge 24 = .ok (.getfield 60, 3) := by decide +kernel
theorem dX6_judge_27 : decode cX6_judge 27 = .ok (.if_icmp .ge 24, 3) := by decide +kernel
theorem dX6_judge_30 : decode cX6_judge 30 = .ok (.aload_n 0, 1) := by decide +kernel
theorem dX6_judge_31 : decode cX6_judge 31 = .ok (.getfield 10, 3) := by decide +kernel
theorem dX6_judge_34 : decode cX6_judge 34 = .ok (.getfield 105, 3) := by decide +kernel
theorem dX6_judge_37 : decode cX6_judge 37 = .ok (.iload_n 2, 1) := by decide +kernel
theorem dX6_judge_38 : decode cX6_judge 38 = .ok (.aaload, 1) := by decide +kernel
theorem dX6_judge_39 : decode cX6_judge 39 = .ok (.getfield 117, 3) := by decide +kernel
theorem dX6_judge_42 : decode cX6_judge 42 = .ok (.aload_n 0, 1) := by decide +kernel
theorem dX6_judge_43 : decode cX6_judge 43 = .ok (.getfield 47, 3) := by decide +kernel
theorem dX6_judge_46 : decode cX6_judge 46 = .ok (.iload_n 2, 1) := by decide +kernel
theorem dX6_judge_47 : decode cX6_judge 47 = .ok (.iaload, 1) := by decide +kernel
theorem dX6_judge_48 : decode cX6_judge 48 = .ok (.if_icmp .eq 5, 3) := by decide +kernel
theorem dX6_judge_51 : decode cX6_judge 51 = .ok (.iload_n 2, 1) := by decide +kernel
theorem dX6_judge_52 : decode cX6_judge 52 = .ok (.istore_n 1, 1) := by decide +kernel
theorem dX6_judge_53 : decode cX6_judge 53 = .ok (.iinc 2 1, 3) := by decide +kernel
theorem dX6_judge_56 : decode cX6_judge 56 = .ok (.goto (-51), 3) := by decide +kernel
theorem dX6_judge_59 : decode cX6_judge 59 = .ok (.aload_n 0, 1) := by decide +kernel
theorem dX6_judge_60 : decode cX6_judge 60 = .ok (.iconst 0, 1) := by decide +kernel
theorem dX6_judge_61 : decode cX6_judge 61 = .ok (.putfield 244, 3) := by decide +kernel
theorem dX6_judge_64 : decode cX6_judge 64 = .ok (.iload_n 1, 1) := by decide +kernel
theorem dX6_judge_65 : decode cX6_judge 65 = .ok (.ireturn, 1) := by decide +kernel
theorem dX6_clear_0 : decode cX6_clear 0 = .ok (.aload_n 0, 1) := by decide +kernel
theorem dX6_clear_1 : decode cX6_clear 1 = .ok (.getfield 244, 3) := by decide +kernel
theorem dX6_clear_4 : decode cX6_clear 4 = .ok (.istore_n 1, 1) := by decide +kernel
theorem dX6_clear_5 : decode cX6_clear 5 = .ok (.aload_n 0, 1) := by decide +kernel
theorem dX6_clear_6 : decode cX6_clear 6 = .ok (.iconst 0, 1) := by decide +kernel
theorem dX6_clear_7 : decode cX6_clear 7 = .ok (.putfield 244, 3) := by decide +kernel
theorem dX6_clear_10 : decode cX6_clear 10 = .ok (.iload_n 1, 1) := by decide +kernel
theorem dX6_clear_11 : decode cX6_clear 11 = .ok (.ireturn, 1) := by decide +kernel
theorem dX6_lots_0 : decode cX6_lots 0 = .ok (.iconst 0, 1) := by decide +kernel
theorem dX6_lots_1 : decode cX6_lots 1 = .ok (.iload_n 1, 1) := by decide +kernel
theorem dX6_lots_2 : decode cX6_lots 2 = .ok (.iconst 1, 1) := by decide +kernel
theorem dX6_lots_3 : decode cX6_lots 3 = .ok (.bipush 20, 2) := by decide +kernel
theorem dX6_lots_5 : decode cX6_lots 5 = .ok (.iload_n 3, 1) := by decide +kernel
theorem dX6_lots_6 : decode cX6_lots 6 = .ok (.iconst 1, 1) := by decide +kernel
theorem dX6_lots_7 : decode cX6_lots 7 = .ok (.invokestatic 194, 3) := by decide +kernel
theorem dX6_lots_10 : decode cX6_lots 10 = .ok (.istore 4, 2) := by decide +kernel
theorem dX6_lots_12 : decode cX6_lots 12 = .ok (.iload 4, 2) := by decide +kernel
theorem dX6_lots_14 : decode cX6_lots 14 = .ok (.ifCond .eq 10, 3) := by decide +kernel
theorem dX6_lots_17 : decode cX6_lots 17 = .ok (.aload_n 0, 1) := by decide +kernel
theorem dX6_lots_18 : decode cX6_lots 18 = .ok (.iload 4, 2) := by decide +kernel
theorem dX6_lots_20 : decode cX6_lots 20 = .ok (.invokevirtual 56, 3) := by decide +kernel
theorem dX6_lots_23 : decode cX6_lots 23 = .ok (.ireturn, 1) := by decide +kernel
theorem dX6_lots_24 : decode cX6_lots 24 = .ok (.aload_n 0, 1) := by decide +kernel
theorem dX6_lots_25 : decode cX6_lots 25 = .ok (.getfield 36, 3) := by decide +kernel
theorem dX6_lots_28 : decode cX6_lots 28 = .ok (.aload_n 0, 1) := by decide +kernel
theorem dX6_lots_29 : decode cX6_lots 29 = .ok (.getfield 10, 3) := by decide +kernel
theorem dX6_lots_32 : decode cX6_lots 32 = .ok (.iload_n 1, 1) := by decide +kernel
theorem dX6_lots_33 : decode cX6_lots 33 = .ok (.iload_n 2, 1) := by decide +kernel
theorem dX6_lots_34 : decode cX6_lots 34 = .ok (.iload_n 3, 1) := by decide +kernel
theorem dX6_lots_35 : decode cX6_lots 35 = .ok (.iconst 1, 1) := by decide +kernel
theorem dX6_lots_36 : decode cX6_lots 36 = .ok (.if_icmp .ne 7, 3) := by decide +kernel
theorem dX6_lots_39 : decode cX6_lots 39 = .ok (.iconst 1, 1) := by decide +kernel
theorem dX6_lots_40 : decode cX6_lots 40 = .ok (.goto 4, 3) := by decide +kernel
theorem dX6_lots_43 : decode cX6_lots 43 = .ok (.iconst 0, 1) := by decide +kernel
theorem dX6_lots_44 : decode cX6_lots 44 = .ok (.invokevirtual 314, 3) := by decide +kernel
theorem dX6_lots_47 : decode cX6_lots 47 = .ok (.ireturn, 1) := by decide +kernel
theorem dX6_image_0 : decode cX6_image 0 = .ok (.aload_n 0, 1) := by decide +kernel
theorem dX6_image_1 : decode cX6_image 1 = .ok (.getfield 16, 3) := by decide +kernel
theorem dX6_image_4 : decode cX6_image 4 = .ok (.aload_n 0, 1) := by decide +kernel
theorem dX6_image_5 : decode cX6_image 5 = .ok (.getfield 10, 3) := by decide +kernel
theorem dX6_image_8 : decode cX6_image 8 = .ok (.invokevirtual 100, 3) := by decide +kernel
theorem dX6_image_11 : decode cX6_image 11 = .ok (.aload_n 0, 1) := by decide +kernel
theorem dX6_image_12 : decode cX6_image 12 = .ok (.iconst 1, 1) := by decide +kernel
theorem dX6_image_13 : decode cX6_image 13 = .ok (.putfield 318, 3) := by decide +kernel
theorem dX6_image_16 : decode cX6_image 16 = .ok (.aload_n 0, 1) := by decide +kernel
theorem dX6_image_17 : decode cX6_image 17 = .ok (.getfield 10, 3) := by decide +kernel
theorem dX6_image_20 : decode cX6_image 20 = .ok (.getfield 142, 3) := by decide +kernel
theorem dX6_image_23 : decode cX6_image 23 = .ok (.ireturn, 1) := by decide +kernel
theorem dX6_restore_0 : decode cX6_restore 0 = .ok (.aload_n 0, 1) := by decide +kernel
theorem dX6_restore_1 : decode cX6_restore 1 = .ok (.getfield 318, 3) := by decide +kernel
theorem dX6_restore_4 : decode cX6_restore 4 = .ok (.ifCond .ne 10, 3) := by decide +kernel
theorem dX6_restore_7 : decode cX6_restore 7 = .ok (.aload_n 0, 1) := by decide +kernel
theorem dX6_restore_8 : decode cX6_restore 8 = .ok (.bipush (-3), 2) := by decide +kernel
theorem dX6_restore_10 : decode cX6_restore 10 = .ok (.invokevirtual 56, 3) := by decide +kernel
theorem dX6_restore_13 : decode cX6_restore 13 = .ok (.ireturn, 1) := by decide +kernel
theorem dX6_restore_14 : decode cX6_restore 14 = .ok (.aload_n 0, 1) := by decide +kernel
theorem dX6_restore_15 : decode cX6_restore 15 = .ok (.getfield 10, 3) := by decide +kernel
theorem dX6_restore_18 : decode cX6_restore 18 = .ok (.aload_n 0, 1) := by decide +kernel
theorem dX6_restore_19 : decode cX6_restore 19 = .ok (.getfield 16, 3) := by decide +kernel
theorem dX6_restore_22 : decode cX6_restore 22 = .ok (.invokevirtual 100, 3) := by decide +kernel
theorem dX6_restore_25 : decode cX6_restore 25 = .ok (.aload_n 0, 1) := by decide +kernel
theorem dX6_restore_26 : decode cX6_restore 26 = .ok (.getfield 22, 3) := by decide +kernel
theorem dX6_restore_29 : decode cX6_restore 29 = .ok (.invokevirtual 104, 3) := by decide +kernel
theorem dX6_restore_32 : decode cX6_restore 32 = .ok (.aload_n 0, 1) := by decide +kernel
theorem dX6_restore_33 : decode cX6_restore 33 = .ok (.getfield 10, 3) := by decide +kernel
theorem dX6_restore_36 : decode cX6_restore 36 = .ok (.getfield 142, 3) := by decide +kernel
theorem dX6_restore_39 : decode cX6_restore 39 = .ok (.ireturn, 1) := by decide +kernel
theorem dX6_count_0 : decode cX6_count 0 = .ok (.iload_n 1, 1) := by decide +kernel
theorem dX6_count_1 : decode cX6_count 1 = .ok (.tableswitch 132 0 9 #[55, 63, 71, 79, 87, 95, 103, 111, 119, 124], 55) := by decide +kernel
theorem dX6_count_56 : decode cX6_count 56 = .ok (.aload_n 0, 1) := by decide +kernel
theorem dX6_count_57 : decode cX6_count 57 = .ok (.getfield 10, 3) := by decide +kernel
theorem dX6_count_60 : decode cX6_count 60 = .ok (.getfield 60, 3) := by decide +kernel
theorem dX6_count_63 : decode cX6_count 63 = .ok (.ireturn, 1) := by decide +kernel
theorem dX6_count_64 : decode cX6_count 64 = .ok (.aload_n 0, 1) := by decide +kernel
theorem dX6_count_65 : decode cX6_count 65 = .ok (.getfield 10, 3) := by decide +kernel
theorem dX6_count_68 : decode cX6_count 68 = .ok (.getfield 142, 3) := by decide +kernel
theorem dX6_count_71 : decode cX6_count 71 = .ok (.ireturn, 1) := by decide +kernel
theorem dX6_count_72 : decode cX6_count 72 = .ok (.aload_n 0, 1) := by decide +kernel
theorem dX6_count_73 : decode cX6_count 73 = .ok (.getfield 10, 3) := by decide +kernel
theorem dX6_count_76 : decode cX6_count 76 = .ok (.getfield 187, 3) := by decide +kernel
theorem dX6_count_79 : decode cX6_count 79 = .ok (.ireturn, 1) := by decide +kernel
theorem dX6_count_80 : decode cX6_count 80 = .ok (.aload_n 0, 1) := by decide +kernel
theorem dX6_count_81 : decode cX6_count 81 = .ok (.getfield 10, 3) := by decide +kernel
theorem dX6_count_84 : decode cX6_count 84 = .ok (.invokevirtual 202, 3) := by decide +kernel
theorem dX6_count_87 : decode cX6_count 87 = .ok (.ireturn, 1) := by decide +kernel
theorem dX6_count_88 : decode cX6_count 88 = .ok (.aload_n 0, 1) := by decide +kernel
theorem dX6_count_89 : decode cX6_count 89 = .ok (.getfield 10, 3) := by decide +kernel
theorem dX6_count_92 : decode cX6_count 92 = .ok (.invokevirtual 292, 3) := by decide +kernel
theorem dX6_count_95 : decode cX6_count 95 = .ok (.ireturn, 1) := by decide +kernel
theorem dX6_count_96 : decode cX6_count 96 = .ok (.aload_n 0, 1) := by decide +kernel
theorem dX6_count_97 : decode cX6_count 97 = .ok (.getfield 10, 3) := by decide +kernel
theorem dX6_count_100 : decode cX6_count 100 = .ok (.invokevirtual 205, 3) := by decide +kernel
theorem dX6_count_103 : decode cX6_count 103 = .ok (.ireturn, 1) := by decide +kernel
theorem dX6_count_104 : decode cX6_count 104 = .ok (.aload_n 0, 1) := by decide +kernel
theorem dX6_count_105 : decode cX6_count 105 = .ok (.getfield 10, 3) := by decide +kernel
theorem dX6_count_108 : decode cX6_count 108 = .ok (.invokevirtual 208, 3) := by decide +kernel
theorem dX6_count_111 : decode cX6_count 111 = .ok (.ireturn, 1) := by decide +kernel
theorem dX6_count_112 : decode cX6_count 112 = .ok (.aload_n 0, 1) := by decide +kernel
theorem dX6_count_113 : decode cX6_count 113 = .ok (.getfield 29, 3) := by decide +kernel
theorem dX6_count_116 : decode cX6_count 116 = .ok (.getfield 87, 3) := by decide +kernel
theorem dX6_count_119 : decode cX6_count 119 = .ok (.ireturn, 1) := by decide +kernel
theorem dX6_count_120 : decode cX6_count 120 = .ok (.aload_n 0, 1) := by decide +kernel
theorem dX6_count_121 : decode cX6_count 121 = .ok (.getfield 244, 3) := by decide +kernel
theorem dX6_count_124 : decode cX6_count 124 = .ok (.ireturn, 1) := by decide +kernel
theorem dX6_count_125 : decode cX6_count 125 = .ok (.aload_n 0, 1) := by decide +kernel
theorem dX6_count_126 : decode cX6_count 126 = .ok (.getfield 22, 3) := by decide +kernel
theorem dX6_count_129 : decode cX6_count 129 = .ok (.getfield 190, 3) := by decide +kernel
theorem dX6_count_132 : decode cX6_count 132 = .ok (.ireturn, 1) := by decide +kernel
theorem dX6_count_133 : decode cX6_count 133 = .ok (.iload_n 1, 1) := by decide +kernel
theorem dX6_count_134 : decode cX6_count 134 = .ok (.bipush 11, 2) := by decide +kernel
theorem dX6_count_136 : decode cX6_count 136 = .ok (.if_icmp .lt 21, 3) := by decide +kernel
theorem dX6_count_139 : decode cX6_count 139 = .ok (.iload_n 1, 1) := by decide +kernel
theorem dX6_count_140 : decode cX6_count 140 = .ok (.bipush 16, 2) := by decide +kernel
theorem dX6_count_142 : decode cX6_count 142 = .ok (.if_icmp .gt 15, 3) := by decide +kernel
theorem dX6_count_145 : decode cX6_count 145 = .ok (.aload_n 0, 1) := by decide +kernel
theorem dX6_count_146 : decode cX6_count 146 = .ok (.getfield 51, 3) := by decide +kernel
theorem dX6_count_149 : decode cX6_count 149 = .ok (.iload_n 1, 1) := by decide +kernel
theorem dX6_count_150 : decode cX6_count 150 = .ok (.bipush 10, 2) := by decide +kernel
theorem dX6_count_152 : decode cX6_count 152 = .ok (.isub, 1) := by decide +kernel
theorem dX6_count_153 : decode cX6_count 153 = .ok (.iaload, 1) := by decide +kernel
theorem dX6_count_154 : decode cX6_count 154 = .ok (.goto 5, 3) := by decide +kernel
theorem dX6_count_157 : decode cX6_count 157 = .ok (.bipush (-9), 2) := by decide +kernel
theorem dX6_count_159 : decode cX6_count 159 = .ok (.ireturn, 1) := by decide +kernel
theorem dX7_no_0 : decode cX7_no 0 = .ok (.aload_n 0, 1) := by decide +kernel
theorem dX7_no_1 : decode cX7_no 1 = .ok (.getfield 7, 3) := by decide +kernel
theorem dX7_no_4 : decode cX7_no 4 = .ok (.iload_n 1, 1) := by decide +kernel
theorem dX7_no_5 : decode cX7_no 5 = .ok (.ineg, 1) := by decide +kernel
theorem dX7_no_6 : decode cX7_no 6 = .ok (.dup2, 1) := by decide +kernel
theorem dX7_no_7 : decode cX7_no 7 = .ok (.iaload, 1) := by decide +kernel
theorem dX7_no_8 : decode cX7_no 8 = .ok (.iconst 1, 1) := by decide +kernel
theorem dX7_no_9 : decode cX7_no 9 = .ok (.iadd, 1) := by decide +kernel
theorem dX7_no_10 : decode cX7_no 10 = .ok (.iastore, 1) := by decide +kernel
theorem dX7_no_11 : decode cX7_no 11 = .ok (.iload_n 1, 1) := by decide +kernel
theorem dX7_no_12 : decode cX7_no 12 = .ok (.ireturn, 1) := by decide +kernel
theorem dX7_lowestOf_0 : decode cX7_lowestOf 0 = .ok (.aload_n 0, 1) := by decide +kernel
theorem dX7_lowestOf_1 : decode cX7_lowestOf 1 = .ok (.getfield 7, 3) := by decide +kernel
theorem dX7_lowestOf_4 : decode cX7_lowestOf 4 = .ok (.iload_n 1, 1) := by decide +kernel
theorem dX7_lowestOf_5 : decode cX7_lowestOf 5 = .ok (.ineg, 1) := by decide +kernel
theorem dX7_lowestOf_6 : decode cX7_lowestOf 6 = .ok (.dup2, 1) := by decide +kernel
theorem dX7_lowestOf_7 : decode cX7_lowestOf 7 = .ok (.iaload, 1) := by decide +kernel
theorem dX7_lowestOf_8 : decode cX7_lowestOf 8 = .ok (.iconst 1, 1) := by decide +kernel
theorem dX7_lowestOf_9 : decode cX7_lowestOf 9 = .ok (.iadd, 1) := by decide +kernel
theorem dX7_lowestOf_10 : decode cX7_lowestOf 10 = .ok (.iastore, 1) := by decide +kernel
theorem dX7_lowestOf_11 : decode cX7_lowestOf 11 = .ok (.ldc2_w 83, 3) := by decide +kernel
theorem dX7_lowestOf_14 : decode cX7_lowestOf 14 = .ok (.iload_n 1, 1) := by decide +kernel
theorem dX7_lowestOf_15 : decode cX7_lowestOf 15 = .ok (.i2l, 1) := by decide +kernel
theorem dX7_lowestOf_16 : decode cX7_lowestOf 16 = .ok (.lsub, 1) := by decide +kernel
theorem dX7_lowestOf_17 : decode cX7_lowestOf 17 = .ok (.lreturn, 1) := by decide +kernel
theorem dX7_isIn_0 : decode cX7_isIn 0 = .ok (.iload_n 0, 1) := by decide +kernel
theorem dX7_isIn_1 : decode cX7_isIn 1 = .ok (.iload_n 1, 1) := by decide +kernel
theorem dX7_isIn_2 : decode cX7_isIn 2 = .ok (.if_icmp .lt 12, 3) := by decide +kernel
theorem dX7_isIn_5 : decode cX7_isIn 5 = .ok (.iload_n 0, 1) := by decide +kernel
theorem dX7_isIn_6 : decode cX7_isIn 6 = .ok (.iload_n 2, 1) := by decide +kernel
theorem dX7_isIn_7 : decode cX7_isIn 7 = .ok (.if_icmp .gt 7, 3) := by decide +kernel
theorem dX7_isIn_10 : decode cX7_isIn 10 = .ok (.iconst 1, 1) := by decide +kernel
theorem dX7_isIn_11 : decode cX7_isIn 11 = .ok (.goto 4, 3) := by decide +kernel
theorem dX7_isIn_14 : decode cX7_isIn 14 = .ok (.iconst 0, 1) := by decide +kernel
theorem dX7_isIn_15 : decode cX7_isIn 15 = .ok (.ireturn, 1) := by decide +kernel
theorem dX7_bound_0 : decode cX7_bound 0 = .ok (.iload_n 0, 1) := by decide +kernel
theorem dX7_bound_1 : decode cX7_bound 1 = .ok (.iload_n 1, 1) := by decide +kernel
theorem dX7_bound_2 : decode cX7_bound 2 = .ok (.if_icmp .ge 8, 3) := by decide +kernel
theorem dX7_bound_5 : decode cX7_bound 5 = .ok (.bipush (-4), 2) := by decide +kernel
theorem dX7_bound_7 : decode cX7_bound 7 = .ok (.goto 14, 3) := by decide +kernel
theorem dX7_bound_10 : decode cX7_bound 10 = .ok (.iload_n 0, 1) := by decide +kernel
theorem dX7_bound_11 : decode cX7_bound 11 = .ok (.iload_n 2, 1) := by decide +kernel
theorem dX7_bound_12 : decode cX7_bound 12 = .ok (.if_icmp .le 8, 3) := by decide +kernel
theorem dX7_bound_15 : decode cX7_bound 15 = .ok (.bipush (-6), 2) := by decide +kernel
theorem dX7_bound_17 : decode cX7_bound 17 = .ok (.goto 4, 3) := by decide +kernel
theorem dX7_bound_20 : decode cX7_bound 20 = .ok (.iconst 0, 1) := by decide +kernel
theorem dX7_bound_21 : decode cX7_bound 21 = .ok (.ireturn, 1) := by decide +kernel
theorem dX7_held_0 : decode cX7_held 0 = .ok (.iload_n 0, 1) := by decide +kernel
theorem dX7_held_1 : decode cX7_held 1 = .ok (.iload_n 1, 1) := by decide +kernel
theorem dX7_held_2 : decode cX7_held 2 = .ok (.if_icmp .le 7, 3) := by decide +kernel
theorem dX7_held_5 : decode cX7_held 5 = .ok (.iload_n 1, 1) := by decide +kernel
theorem dX7_held_6 : decode cX7_held 6 = .ok (.goto 4, 3) := by decide +kernel
theorem dX7_held_9 : decode cX7_held 9 = .ok (.iload_n 0, 1) := by decide +kernel
theorem dX7_held_10 : decode cX7_held 10 = .ok (.ireturn, 1) := by decide +kernel
theorem dX7_has_0 : decode cX7_has 0 = .ok (.iload_n 0, 1) := by decide +kernel
theorem dX7_has_1 : decode cX7_has 1 = .ok (.iload_n 1, 1) := by decide +kernel
theorem dX7_has_2 : decode cX7_has 2 = .ok (.ishr, 1) := by decide +kernel
theorem dX7_has_3 : decode cX7_has 3 = .ok (.iconst 1, 1) := by decide +kernel
theorem dX7_has_4 : decode cX7_has 4 = .ok (.iand, 1) := by decide +kernel
theorem dX7_has_5 : decode cX7_has 5 = .ok (.iconst 1, 1) := by decide +kernel
theorem dX7_has_6 : decode cX7_has 6 = .ok (.if_icmp .ne 7, 3) := by decide +kernel
theorem dX7_has_9 : decode cX7_has 9 = .ok (.iconst 1, 1) := by decide +kernel
theorem dX7_has_10 : decode cX7_has 10 = .ok (.goto 4, 3) := by decide +kernel
theorem dX7_has_13 : decode cX7_has 13 = .ok (.iconst 0, 1) := by decide +kernel
theorem dX7_has_14 : decode cX7_has 14 = .ok (.ireturn, 1) := by decide +kernel
theorem dX7_apart_0 : decode cX7_apart 0 = .ok (.iload_n 0, 1) := by decide +kernel
theorem dX7_apart_1 : decode cX7_apart 1 = .ok (.iload_n 1, 1) := by decide +kernel
theorem dX7_apart_2 : decode cX7_apart 2 = .ok (.if_icmp .ge 9, 3) := by decide +kernel
theorem dX7_apart_5 : decode cX7_apart 5 = .ok (.iload_n 1, 1) := by decide +kernel
theorem dX7_apart_6 : decode cX7_apart 6 = .ok (.iload_n 0, 1) := by decide +kernel
theorem dX7_apart_7 : decode cX7_apart 7 = .ok (.isub, 1) := by decide +kernel
theorem dX7_apart_8 : decode cX7_apart 8 = .ok (.goto 6, 3) := by decide +kernel
theorem dX7_apart_11 : decode cX7_apart 11 = .ok (.iload_n 0, 1) := by decide +kernel
theorem dX7_apart_12 : decode cX7_apart 12 = .ok (.iload_n 1, 1) := by decide +kernel
theorem dX7_apart_13 : decode cX7_apart 13 = .ok (.isub, 1) := by decide +kernel
theorem dX7_apart_14 : decode cX7_apart 14 = .ok (.ireturn, 1) := by decide +kernel
theorem dX7_bits_0 : decode cX7_bits 0 = .ok (.iconst 0, 1) := by decide +kernel
theorem dX7_bits_1 : decode cX7_bits 1 = .ok (.istore_n 1, 1) := by decide +kernel
theorem dX7_bits_2 : decode cX7_bits 2 = .ok (.iconst 0, 1) := by decide +kernel
theorem dX7_bits_3 : decode cX7_bits 3 = .ok (.istore_n 2, 1) := by decide +kernel
theorem dX7_bits_4 : decode cX7_bits 4 = .ok (.iload_n 2, 1) := by decide +kernel
theorem dX7_bits_5 : decode cX7_bits 5 = .ok (.bipush 31, 2) := by decide +kernel
theorem dX7_bits_7 : decode cX7_bits 7 = .ok (.if_icmp .ge 17, 3) := by decide +kernel
theorem dX7_bits_10 : decode cX7_bits 10 = .ok (.iload_n 1, 1) := by decide +kernel
theorem dX7_bits_11 : decode cX7_bits 11 = .ok (.iload_n 0, 1) := by decide +kernel
theorem dX7_bits_12 : decode cX7_bits 12 = .ok (.iload_n 2, 1) := by decide +kernel
theorem dX7_bits_13 : decode cX7_bits 13 = .ok (.ishr, 1) := by decide +kernel
theorem dX7_bits_14 : decode cX7_bits 14 = .ok (.iconst 1, 1) := by decide +kernel
theorem dX7_bits_15 : decode cX7_bits 15 = .ok (.iand, 1) := by decide +kernel
theorem dX7_bits_16 : decode cX7_bits 16 = .ok (.iadd, 1) := by decide +kernel
theorem dX7_bits_17 : decode cX7_bits 17 = .ok (.istore_n 1, 1) := by decide +kernel
theorem dX7_bits_18 : decode cX7_bits 18 = .ok (.iinc 2 1, 3) := by decide +kernel
theorem dX7_bits_21 : decode cX7_bits 21 = .ok (.goto (-17), 3) := by decide +kernel
theorem dX7_bits_24 : decode cX7_bits 24 = .ok (.iload_n 1, 1) := by decide +kernel
theorem dX7_bits_25 : decode cX7_bits 25 = .ok (.ireturn, 1) := by decide +kernel
theorem dX7_isHead_0 : decode cX7_isHead 0 = .ok (.iload_n 1, 1) := by decide +kernel
theorem dX7_isHead_1 : decode cX7_isHead 1 = .ok (.iconst 0, 1) := by decide +kernel
theorem dX7_isHead_2 : decode cX7_isHead 2 = .ok (.aload_n 0, 1) := by decide +kernel
theorem dX7_isHead_3 : decode cX7_isHead 3 = .ok (.getfield 79, 3) := by decide +kernel
theorem dX7_isHead_6 : decode cX7_isHead 6 = .ok (.iconst 1, 1) := by decide +kernel
theorem dX7_isHead_7 : decode cX7_isHead 7 = .ok (.isub, 1) := by decide +kernel
theorem dX7_isHead_8 : decode cX7_isHead 8 = .ok (.invokestatic 85, 3) := by decide +kernel
theorem dX7_isHead_11 : decode cX7_isHead 11 = .ok (.ireturn, 1) := by decide +kernel
theorem dX7_isField_0 : decode cX7_isField 0 = .ok (.iload_n 0, 1) := by decide +kernel
theorem dX7_isField_1 : decode cX7_isField 1 = .ok (.iconst 0, 1) := by decide +kernel
theorem dX7_isField_2 : decode cX7_isField 2 = .ok (.bipush 47, 2) := by decide +kernel
theorem dX7_isField_4 : decode cX7_isField 4 = .ok (.invokestatic 85, 3) := by decide +kernel
theorem dX7_isField_7 : decode cX7_isField 7 = .ok (.ireturn, 1) := by decide +kernel
theorem dX7_areTwo_0 : decode cX7_areTwo 0 = .ok (.aload_n 0, 1) := by decide +kernel
theorem dX7_areTwo_1 : decode cX7_areTwo 1 = .ok (.iload_n 1, 1) := by decide +kernel
theorem dX7_areTwo_2 : decode cX7_areTwo 2 = .ok (.invokevirtual 89, 3) := by decide +kernel
theorem dX7_areTwo_5 : decode cX7_areTwo 5 = .ok (.ifCond .eq 20, 3) := by decide +kernel
theorem dX7_areTwo_8 : decode cX7_areTwo 8 = .ok (.aload_n 0, 1) := by decide +kernel
theorem dX7_areTwo_9 : decode cX7_areTwo 9 = .ok (.iload_n 2, 1) := by decide +kernel
theorem dX7_areTwo_10 : decode cX7_areTwo 10 = .ok (.invokevirtual 89, 3) := by decide +kernel
theorem dX7_areTwo_13 : decode cX7_areTwo 13 = .ok (.ifCond .eq 12, 3) := by decide +kernel
theorem dX7_areTwo_16 : decode cX7_areTwo 16 = .ok (.iload_n 1, 1) := by decide +kernel
theorem dX7_areTwo_17 : decode cX7_areTwo 17 = .ok (.iload_n 2, 1) := by decide +kernel
theorem dX7_areTwo_18 : decode cX7_areTwo 18 = .ok (.if_icmp .eq 7, 3) := by decide +kernel
theorem dX7_areTwo_21 : decode cX7_areTwo 21 = .ok (.iconst 1, 1) := by decide +kernel
theorem dX7_areTwo_22 : decode cX7_areTwo 22 = .ok (.goto 4, 3) := by decide +kernel
theorem dX7_areTwo_25 : decode cX7_areTwo 25 = .ok (.iconst 0, 1) := by decide +kernel
theorem dX7_areTwo_26 : decode cX7_areTwo 26 = .ok (.ireturn, 1) := by decide +kernel
theorem dX7_isVowel_0 : decode cX7_isVowel 0 = .ok (.iload_n 0, 1) := by decide +kernel
theorem dX7_isVowel_1 : decode cX7_isVowel 1 = .ok (.ifCond .eq 26, 3) := by decide +kernel
theorem dX7_isVowel_4 : decode cX7_isVowel 4 = .ok (.iload_n 0, 1) := by decide +kernel
theorem dX7_isVowel_5 : decode cX7_isVowel 5 = .ok (.iconst 4, 1) := by decide +kernel
theorem dX7_isVowel_6 : decode cX7_isVowel 6 = .ok (.if_icmp .eq 21, 3) := by decide +kernel
theorem dX7_isVowel_9 : decode cX7_isVowel 9 = .ok (.iload_n 0, 1) := by decide +kernel
theorem dX7_isVowel_10 : decode cX7_isVowel 10 = .ok (.bipush 8, 2) := by decide +kernel
theorem dX7_isVowel_12 : decode cX7_isVowel 12 = .ok (.if_icmp .eq 15, 3) := by decide +kernel
theorem dX7_isVowel_15 : decode cX7_isVowel 15 = .ok (.iload_n 0, 1) := by decide +kernel
theorem dX7_isVowel_16 : decode cX7_isVowel 16 = .ok (.bipush 14, 2) := by decide +kernel
theorem dX7_isVowel_18 : decode cX7_isVowel 18 = .ok (.if_icmp .eq 9, 3) := by decide +kernel
theorem dX7_isVowel_21 : decode cX7_isVowel 21 = .ok (.iload_n 0, 1) := by decide +kernel
theorem dX7_isVowel_22 : decode cX7_isVowel 22 = .ok (.bipush 20, 2) := by decide +kernel
theorem dX7_isVowel_24 : decode cX7_isVowel 24 = .ok (.if_icmp .ne 7, 3) := by decide +kernel
theorem dX7_isVowel_27 : decode cX7_isVowel 27 = .ok (.iconst 1, 1) := by decide +kernel
theorem dX7_isVowel_28 : decode cX7_isVowel 28 = .ok (.goto 4, 3) := by decide +kernel
theorem dX7_isVowel_31 : decode cX7_isVowel 31 = .ok (.iconst 0, 1) := by decide +kernel
theorem dX7_isVowel_32 : decode cX7_isVowel 32 = .ok (.ireturn, 1) := by decide +kernel
theorem dX7_steps_0 : decode cX7_steps 0 = .ok (.aload_n 0, 1) := by decide +kernel
theorem dX7_steps_1 : decode cX7_steps 1 = .ok (.getfield 25, 3) := by decide +kernel
theorem dX7_steps_4 : decode cX7_steps 4 = .ok (.iload_n 1, 1) := by decide +kernel
theorem dX7_steps_5 : decode cX7_steps 5 = .ok (.iaload, 1) := by decide +kernel
theorem dX7_steps_6 : decode cX7_steps 6 = .ok (.istore_n 2, 1) := by decide +kernel
theorem dX7_steps_7 : decode cX7_steps 7 = .ok (.aload_n 0, 1) := by decide +kernel
theorem dX7_steps_8 : decode cX7_steps 8 = .ok (.getfield 22, 3) := by decide +kernel
theorem dX7_steps_11 : decode cX7_steps 11 = .ok (.iload_n 1, 1) := by decide +kernel
theorem dX7_steps_12 : decode cX7_steps 12 = .ok (.iaload, 1) := by decide +kernel
theorem dX7_steps_13 : decode cX7_steps 13 = .ok (.tableswitch 66 1 7 #[43, 45, 66, 66, 51, 60, 43], 43) := by decide +kernel
theorem dX7_steps_56 : decode cX7_steps 56 = .ok (.iconst 2, 1) := by decide +kernel
theorem dX7_steps_57 : decode cX7_steps 57 = .ok (.ireturn, 1) := by decide +kernel
theorem dX7_steps_58 : decode cX7_steps 58 = .ok (.iload_n 2, 1) := by decide +kernel
theorem dX7_steps_59 : decode cX7_steps 59 = .ok (.iconst 3, 1) := by decide +kernel
theorem dX7_steps_60 : decode cX7_steps 60 = .ok (.idiv, 1) := by decide +kernel
theorem dX7_steps_61 : decode cX7_steps 61 = .ok (.iconst 1, 1) := by decide +kernel
theorem dX7_steps_62 : decode cX7_steps 62 = .ok (.iadd, 1) := by decide +kernel
theorem dX7_steps_63 : decode cX7_steps 63 = .ok (.ireturn, 1) := by decide +kernel
theorem dX7_steps_64 : decode cX7_steps 64 = .ok (.aload_n 0, 1) := by decide +kernel
theorem dX7_steps_65 : decode cX7_steps 65 = .ok (.getfield 43, 3) := by decide +kernel
theorem dX7_steps_68 : decode cX7_steps 68 = .ok (.iload_n 1, 1) := by decide +kernel
theorem dX7_steps_69 : decode cX7_steps 69 = .ok (.iaload, 1) := by decide +kernel
theorem dX7_steps_70 : decode cX7_steps 70 = .ok (.iconst 2, 1) := by decide +kernel
theorem dX7_steps_71 : decode cX7_steps 71 = .ok (.idiv, 1) := by decide +kernel
theorem dX7_steps_72 : decode cX7_steps 72 = .ok (.ireturn, 1) := by decide +kernel
theorem dX7_steps_73 : decode cX7_steps 73 = .ok (.iload_n 2, 1) := by decide +kernel
theorem dX7_steps_74 : decode cX7_steps 74 = .ok (.iconst 3, 1) := by decide +kernel
theorem dX7_steps_75 : decode cX7_steps 75 = .ok (.idiv, 1) := by decide +kernel
theorem dX7_steps_76 : decode cX7_steps 76 = .ok (.iconst 2, 1) := by decide +kernel
theorem dX7_steps_77 : decode cX7_steps 77 = .ok (.iadd, 1) := by decide +kernel
theorem dX7_steps_78 : decode cX7_steps 78 = .ok (.ireturn, 1) := by decide +kernel
theorem dX7_steps_79 : decode cX7_steps 79 = .ok (.iconst 1, 1) := by decide +kernel
theorem dX7_steps_80 : decode cX7_steps 80 = .ok (.ireturn, 1) := by decide +kernel
theorem dX7_weight_0 : decode cX7_weight 0 = .ok (.aload_n 0, 1) := by decide +kernel
theorem dX7_weight_1 : decode cX7_weight 1 = .ok (.getfield 25, 3) := by decide +kernel
theorem dX7_weight_4 : decode cX7_weight 4 = .ok (.iload_n 1, 1) := by decide +kernel
theorem dX7_weight_5 : decode cX7_weight 5 = .ok (.iaload, 1) := by decide +kernel
theorem dX7_weight_6 : decode cX7_weight 6 = .ok (.istore_n 2, 1) := by decide +kernel
theorem dX7_weight_7 : decode cX7_weight 7 = .ok (.aload_n 0, 1) := by decide +kernel
theorem dX7_weight_8 : decode cX7_weight 8 = .ok (.getfield 22, 3) := by decide +kernel
theorem dX7_weight_11 : decode cX7_weight 11 = .ok (.iload_n 1, 1) := by decide +kernel
theorem dX7_weight_12 : decode cX7_weight 12 = .ok (.iaload, 1) := by decide +kernel
theorem dX7_weight_13 : decode cX7_weight 13 = .ok (.tableswitch 77 1 7 #[43, 49, 52, 58, 64, 72, 58], 43) := by decide +kernel
theorem dX7_weight_56 : decode cX7_weight 56 = .ok (.iconst 2, 1) := by decide +kernel
theorem dX7_weight_57 : decode cX7_weight 57 = .ok (.iload_n 2, 1) := by decide +kernel
theorem dX7_weight_58 : decode cX7_weight 58 = .ok (.imul, 1) := by decide +kernel
theorem dX7_weight_59 : decode cX7_weight 59 = .ok (.iconst 2, 1) := by decide +kernel
theorem dX7_weight_60 : decode cX7_weight 60 = .ok (.iadd, 1) := by decide +kernel
theorem dX7_weight_61 : decode cX7_weight 61 = .ok (.ireturn, 1) := by decide +kernel
theorem dX7_weight_62 : decode cX7_weight 62 = .ok (.bipush 9, 2) := by decide +kernel
theorem dX7_weight_64 : decode cX7_weight 64 = .ok (.ireturn, 1) := by decide +kernel
theorem dX7_weight_65 : decode cX7_weight 65 = .ok (.iload_n 2, 1) := by decide +kernel
theorem dX7_weight_66 : decode cX7_weight 66 = .ok (.iconst 1, 1) := by decide +kernel
theorem dX7_weight_67 : decode cX7_weight 67 = .ok (.iadd, 1) := by decide +kernel
theorem dX7_weight_68 : decode cX7_weight 68 = .ok (.iconst 2, 1) := by decide +kernel
theorem dX7_weight_69 : decode cX7_weight 69 = .ok (.idiv, 1) := by decide +kernel
theorem dX7_weight_70 : decode cX7_weight 70 = .ok (.ireturn, 1) := by decide +kernel
theorem dX7_weight_71 : decode cX7_weight 71 = .ok (.iconst 2, 1) := by decide +kernel
theorem dX7_weight_72 : decode cX7_weight 72 = .ok (.iload_n 2, 1) := by decide +kernel
theorem dX7_weight_73 : decode cX7_weight 73 = .ok (.imul, 1) := by decide +kernel
theorem dX7_weight_74 : decode cX7_weight 74 = .ok (.iconst 5, 1) := by decide +kernel
theorem dX7_weight_75 : decode cX7_weight 75 = .ok (.iadd, 1) := by decide +kernel
theorem dX7_weight_76 : decode cX7_weight 76 = .ok (.ireturn, 1) := by decide +kernel
theorem dX7_weight_77 : decode cX7_weight 77 = .ok (.iload_n 2, 1) := by decide +kernel
theorem dX7_weight_78 : decode cX7_weight 78 = .ok (.iconst 1, 1) := by decide +kernel
theorem dX7_weight_79 : decode cX7_weight 79 = .ok (.iadd, 1) := by decide +kernel
theorem dX7_weight_80 : decode cX7_weight 80 = .ok (.iconst 2, 1) := by decide +kernel
theorem dX7_weight_81 : decode cX7_weight 81 = .ok (.idiv, 1) := by decide +kernel
theorem dX7_weight_82 : decode cX7_weight 82 = .ok (.iconst 2, 1) := by decide +kernel
theorem dX7_weight_83 : decode cX7_weight 83 = .ok (.iadd, 1) := by decide +kernel
theorem dX7_weight_84 : decode cX7_weight 84 = .ok (.ireturn, 1) := by decide +kernel
theorem dX7_weight_85 : decode cX7_weight 85 = .ok (.bipush 9, 2) := by decide +kernel
theorem dX7_weight_87 : decode cX7_weight 87 = .ok (.iload_n 2, 1) := by decide +kernel
theorem dX7_weight_88 : decode cX7_weight 88 = .ok (.isub, 1) := by decide +kernel
theorem dX7_weight_89 : decode cX7_weight 89 = .ok (.ireturn, 1) := by decide +kernel
theorem dX7_weight_90 : decode cX7_weight 90 = .ok (.iload_n 2, 1) := by decide +kernel
theorem dX7_weight_91 : decode cX7_weight 91 = .ok (.iconst 1, 1) := by decide +kernel
theorem dX7_weight_92 : decode cX7_weight 92 = .ok (.iadd, 1) := by decide +kernel
theorem dX7_weight_93 : decode cX7_weight 93 = .ok (.ireturn, 1) := by decide +kernel
theorem dX7_veersAsSaint_0 : decode cX7_veersAsSaint 0 = .ok (.aload_n 0, 1) := by decide +kernel
theorem dX7_veersAsSaint_1 : decode cX7_veersAsSaint 1 = .ok (.getfield 37, 3) := by decide +kernel
theorem dX7_veersAsSaint_4 : decode cX7_veersAsSaint 4 = .ok (.iload_n 1, 1) := by decide +kernel
theorem dX7_veersAsSaint_5 : decode cX7_veersAsSaint 5 = .ok (.iaload, 1) := by decide +kernel
theorem dX7_veersAsSaint_6 : decode cX7_veersAsSaint 6 = .ok (.ifCond .ne 7, 3) := by decide +kernel
theorem dX7_veersAsSaint_9 : decode cX7_veersAsSaint 9 = .ok (.iconst 2, 1) := by decide +kernel
theorem dX7_veersAsSaint_10 : decode cX7_veersAsSaint 10 = .ok (.goto 14, 3) := by decide +kernel
theorem dX7_veersAsSaint_13 : decode cX7_veersAsSaint 13 = .ok (.iload_n 2, 1) := by decide +kernel
theorem dX7_veersAsSaint_14 : decode cX7_veersAsSaint 14 = .ok (.iconst 4, 1) := by decide +kernel
theorem dX7_veersAsSaint_15 : decode cX7_veersAsSaint 15 = .ok (.irem, 1) := by decide +kernel
theorem dX7_veersAsSaint_16 : decode cX7_veersAsSaint 16 = .ok (.ifCond .ne 7, 3) := by decide +kernel
theorem dX7_veersAsSaint_19 : decode cX7_veersAsSaint 19 = .ok (.iconst 1, 1) := by decide +kernel
theorem dX7_veersAsSaint_20 : decode cX7_veersAsSaint 20 = .ok (.goto 4, 3) := by decide +kernel
theorem dX7_veersAsSaint_23 : decode cX7_veersAsSaint 23 = .ok (.iconst 0, 1) := by decide +kernel
theorem dX7_veersAsSaint_24 : decode cX7_veersAsSaint 24 = .ok (.ireturn, 1) := by decide +kernel
theorem dX7_veers_0 : decode cX7_veers 0 = .ok (.aload_n 0, 1) := by decide +kernel
theorem dX7_veers_1 : decode cX7_veers 1 = .ok (.getfield 25, 3) := by decide +kernel
theorem dX7_veers_4 : decode cX7_veers 4 = .ok (.iload_n 1, 1) := by decide +kernel
theorem dX7_veers_5 : decode cX7_veers 5 = .ok (.iaload, 1) := by decide +kernel
theorem dX7_veers_6 : decode cX7_veers 6 = .ok (.istore_n 3, 1) := by decide +kernel
theorem dX7_veers_7 : decode cX7_veers 7 = .ok (.aload_n 0, 1) := by decide +kernel
theorem dX7_veers_8 : decode cX7_veers 8 = .ok (.getfield 22, 3) := by decide +kernel
theorem dX7_veers_11 : decode cX7_veers 11 = .ok (.iload_n 1, 1) := by decide +kernel
theorem dX7_veers_12 : decode cX7_veers 12 = .ok (.iaload, 1) := by decide +kernel
theorem dX7_veers_13 : decode cX7_veers 13 = .ok (.tableswitch 120 1 7 #[43, 120, 55, 69, 76, 90, 94], 43) := by decide +kernel
theorem dX7_veers_56 : decode cX7_veers 56 = .ok (.iload_n 2, 1) := by decide +kernel
theorem dX7_veers_57 : decode cX7_veers 57 = .ok (.iconst 4, 1) := by decide +kernel
theorem dX7_veers_58 : decode cX7_veers 58 = .ok (.irem, 1) := by decide +kernel
theorem dX7_veers_59 : decode cX7_veers 59 = .ok (.ifCond .ne 7, 3) := by decide +kernel
theorem dX7_veers_62 : decode cX7_veers 62 = .ok (.iconst 1, 1) := by decide +kernel
theorem dX7_veers_63 : decode cX7_veers 63 = .ok (.goto 4, 3) := by decide +kernel
theorem dX7_veers_66 : decode cX7_veers 66 = .ok (.iconst 0, 1) := by decide +kernel
theorem dX7_veers_67 : decode cX7_veers 67 = .ok (.ireturn, 1) := by decide +kernel
theorem dX7_veers_68 : decode cX7_veers 68 = .ok (.iload_n 2, 1) := by decide +kernel
theorem dX7_veers_69 : decode cX7_veers 69 = .ok (.iload_n 3, 1) := by decide +kernel
theorem dX7_veers_70 : decode cX7_veers 70 = .ok (.iconst 2, 1) := by decide +kernel
theorem dX7_veers_71 : decode cX7_veers 71 = .ok (.iadd, 1) := by decide +kernel
theorem dX7_veers_72 : decode cX7_veers 72 = .ok (.irem, 1) := by decide +kernel
theorem dX7_veers_73 : decode cX7_veers 73 = .ok (.ifCond .ne 7, 3) := by decide +kernel
theorem dX7_veers_76 : decode cX7_veers 76 = .ok (.iconst 3, 1) := by decide +kernel
theorem dX7_veers_77 : decode cX7_veers 77 = .ok (.goto 4, 3) := by decide +kernel
theorem dX7_veers_80 : decode cX7_veers 80 = .ok (.iconst 0, 1) := by decide +kernel
theorem dX7_veers_81 : decode cX7_veers 81 = .ok (.ireturn, 1) := by decide +kernel
theorem dX7_veers_82 : decode cX7_veers 82 = .ok (.aload_n 0, 1) := by decide +kernel
theorem dX7_veers_83 : decode cX7_veers 83 = .ok (.iload_n 1, 1) := by decide +kernel
theorem dX7_veers_84 : decode cX7_veers 84 = .ok (.iload_n 2, 1) := by decide +kernel
theorem dX7_veers_85 : decode cX7_veers 85 = .ok (.invokevirtual 93, 3) := by decide +kernel
theorem dX7_veers_88 : decode cX7_veers 88 = .ok (.ireturn, 1) := by decide +kernel
theorem dX7_veers_89 : decode cX7_veers 89 = .ok (.iload_n 2, 1) := by decide +kernel
theorem dX7_veers_90 : decode cX7_veers 90 = .ok (.iload_n 3, 1) := by decide +kernel
theorem dX7_veers_91 : decode cX7_veers 91 = .ok (.iconst 2, 1) := by decide +kernel
theorem dX7_veers_92 : decode cX7_veers 92 = .ok (.iadd, 1) := by decide +kernel
theorem dX7_veers_93 : decode cX7_veers 93 = .ok (.irem, 1) := by decide +kernel
theorem dX7_veers_94 : decode cX7_veers 94 = .ok (.ifCond .ne 7, 3) := by decide +kernel
theorem dX7_veers_97 : decode cX7_veers 97 = .ok (.iconst 4, 1) := by decide +kernel
theorem dX7_veers_98 : decode cX7_veers 98 = .ok (.goto 4, 3) := by decide +kernel
theorem dX7_veers_101 : decode cX7_veers 101 = .ok (.iconst 1, 1) := by decide +kernel
theorem dX7_veers_102 : decode cX7_veers 102 = .ok (.ireturn, 1) := by decide +kernel
theorem dX7_veers_103 : decode cX7_veers 103 = .ok (.iload_n 2, 1) := by decide +kernel
theorem dX7_veers_104 : decode cX7_veers 104 = .ok (.iconst 2, 1) := by decide +kernel
theorem dX7_veers_105 : decode cX7_veers 105 = .ok (.irem, 1) := by decide +kernel
theorem dX7_veers_106 : decode cX7_veers 106 = .ok (.ireturn, 1) := by decide +kernel
theorem dX7_veers_107 : decode cX7_veers 107 = .ok (.aload_n 0, 1) := by decide +kernel
theorem dX7_veers_108 : decode cX7_veers 108 = .ok (.getfield 46, 3) := by decide +kernel
theorem dX7_veers_111 : decode cX7_veers 111 = .ok (.bipush 6, 2) := by decide +kernel
theorem dX7_veers_113 : decode cX7_veers 113 = .ok (.iload_n 1, 1) := by decide +kernel
theorem dX7_veers_114 : decode cX7_veers 114 = .ok (.imul, 1) := by decide +kernel
theorem dX7_veers_115 : decode cX7_veers 115 = .ok (.iaload, 1) := by decide +kernel
theorem dX7_veers_116 : decode cX7_veers 116 = .ok (.invokestatic 97, 3) := by decide +kernel
theorem dX7_veers_119 : decode cX7_veers 119 = .ok (.ifCond .eq 7, 3) := by decide +kernel
theorem dX7_veers_122 : decode cX7_veers 122 = .ok (.iconst 3, 1) := by decide +kernel
theorem dX7_veers_123 : decode cX7_veers 123 = .ok (.goto 9, 3) := by decide +kernel
theorem dX7_veers_126 : decode cX7_veers 126 = .ok (.aload_n 0, 1) := by decide +kernel
theorem dX7_veers_127 : decode cX7_veers 127 = .ok (.iload_n 1, 1) := by decide +kernel
theorem dX7_veers_128 : decode cX7_veers 128 = .ok (.iload_n 2, 1) := by decide +kernel
theorem dX7_veers_129 : decode cX7_veers 129 = .ok (.invokevirtual 93, 3) := by decide +kernel
theorem dX7_veers_132 : decode cX7_veers 132 = .ok (.ireturn, 1) := by decide +kernel
theorem dX7_veers_133 : decode cX7_veers 133 = .ok (.iconst 0, 1) := by decide +kernel
theorem dX7_veers_134 : decode cX7_veers 134 = .ok (.ireturn, 1) := by decide +kernel
theorem dX7_enough_0 : decode cX7_enough 0 = .ok (.aload_n 0, 1) := by decide +kernel
theorem dX7_enough_1 : decode cX7_enough 1 = .ok (.getfield 25, 3) := by decide +kernel
theorem dX7_enough_4 : decode cX7_enough 4 = .ok (.iload_n 1, 1) := by decide +kernel
theorem dX7_enough_5 : decode cX7_enough 5 = .ok (.iaload, 1) := by decide +kernel
theorem dX7_enough_6 : decode cX7_enough 6 = .ok (.istore_n 2, 1) := by decide +kernel
theorem dX7_enough_7 : decode cX7_enough 7 = .ok (.aload_n 0, 1) := by decide +kernel
theorem dX7_enough_8 : decode cX7_enough 8 = .ok (.getfield 22, 3) := by decide +kernel
theorem dX7_enough_11 : decode cX7_enough 11 = .ok (.iload_n 1, 1) := by decide +kernel
theorem dX7_enough_12 : decode cX7_enough 12 = .ok (.iaload, 1) := by decide +kernel
theorem dX7_enough_13 : decode cX7_enough 13 = .ok (.tableswitch 66 1 7 #[43, 46, 49, 53, 49, 56, 59], 43) := by decide +kernel
theorem dX7_enough_56 : decode cX7_enough 56 = .ok (.bipush 40, 2) := by decide +kernel
theorem dX7_enough_58 : decode cX7_enough 58 = .ok (.ireturn, 1) := by decide +kernel
theorem dX7_enough_59 : decode cX7_enough 59 = .ok (.bipush 99, 2) := by decide +kernel
theorem dX7_enough_61 : decode cX7_enough 61 = .ok (.ireturn, 1) := by decide +kernel
theorem dX7_enough_62 : decode cX7_enough 62 = .ok (.iload_n 2, 1) := by decide +kernel
theorem dX7_enough_63 : decode cX7_enough 63 = .ok (.iconst 5, 1) := by decide +kernel
theorem dX7_enough_64 : decode cX7_enough 64 = .ok (.iadd, 1) := by decide +kernel
theorem dX7_enough_65 : decode cX7_enough 65 = .ok (.ireturn, 1) := by decide +kernel
theorem dX7_enough_66 : decode cX7_enough 66 = .ok (.bipush 35, 2) := by decide +kernel
theorem dX7_enough_68 : decode cX7_enough 68 = .ok (.ireturn, 1) := by decide +kernel
theorem dX7_enough_69 : decode cX7_enough 69 = .ok (.bipush 49, 2) := by decide +kernel
theorem dX7_enough_71 : decode cX7_enough 71 = .ok (.ireturn, 1) := by decide +kernel
theorem dX7_enough_72 : decode cX7_enough 72 = .ok (.bipush 35, 2) := by decide +kernel
theorem dX7_enough_74 : decode cX7_enough 74 = .ok (.iload_n 2, 1) := by decide +kernel
theorem dX7_enough_75 : decode cX7_enough 75 = .ok (.iconst 2, 1) := by decide +kernel
theorem dX7_enough_76 : decode cX7_enough 76 = .ok (.idiv, 1) := by decide +kernel
theorem dX7_enough_77 : decode cX7_enough 77 = .ok (.isub, 1) := by decide +kernel
theorem dX7_enough_78 : decode cX7_enough 78 = .ok (.ireturn, 1) := by decide +kernel
theorem dX7_enough_79 : decode cX7_enough 79 = .ok (.bipush 20, 2) := by decide +kernel
theorem dX7_enough_81 : decode cX7_enough 81 = .ok (.ireturn, 1) := by decide +kernel
theorem dX7_beside_0 : decode cX7_beside 0 = .ok (.iload_n 1, 1) := by decide +kernel
theorem dX7_beside_1 : decode cX7_beside 1 = .ok (.tableswitch 77 0 2 #[27, 43, 61], 27) := by decide +kernel
theorem dX7_beside_28 : decode cX7_beside 28 = .ok (.iload_n 0, 1) := by decide +kernel
theorem dX7_beside_29 : decode cX7_beside 29 = .ok (.bipush 8, 2) := by decide +kernel
theorem dX7_beside_31 : decode cX7_beside 31 = .ok (.if_icmp .ge 8, 3) := by decide +kernel
theorem dX7_beside_34 : decode cX7_beside 34 = .ok (.bipush (-9), 2) := by decide +kernel
theorem dX7_beside_36 : decode cX7_beside 36 = .ok (.goto 7, 3) := by decide +kernel
theorem dX7_beside_39 : decode cX7_beside 39 = .ok (.iload_n 0, 1) := by decide +kernel
theorem dX7_beside_40 : decode cX7_beside 40 = .ok (.bipush 8, 2) := by decide +kernel
theorem dX7_beside_42 : decode cX7_beside 42 = .ok (.isub, 1) := by decide +kernel
theorem dX7_beside_43 : decode cX7_beside 43 = .ok (.ireturn, 1) := by decide +kernel
theorem dX7_beside_44 : decode cX7_beside 44 = .ok (.iload_n 0, 1) := by decide +kernel
theorem dX7_beside_45 : decode cX7_beside 45 = .ok (.bipush 8, 2) := by decide +kernel
theorem dX7_beside_47 : decode cX7_beside 47 = .ok (.irem, 1) := by decide +kernel
theorem dX7_beside_48 : decode cX7_beside 48 = .ok (.bipush 7, 2) := by decide +kernel
theorem dX7_beside_50 : decode cX7_beside 50 = .ok (.if_icmp .ne 8, 3) := by decide +kernel
theorem dX7_beside_53 : decode cX7_beside 53 = .ok (.bipush (-9), 2) := by decide +kernel
theorem dX7_beside_55 : decode cX7_beside 55 = .ok (.goto 6, 3) := by decide +kernel
theorem dX7_beside_58 : decode cX7_beside 58 = .ok (.iload_n 0, 1) := by decide +kernel
theorem dX7_beside_59 : decode cX7_beside 59 = .ok (.iconst 1, 1) := by decide +kernel
theorem dX7_beside_60 : decode cX7_beside 60 = .ok (.iadd, 1) := by decide +kernel
theorem dX7_beside_61 : decode cX7_beside 61 = .ok (.ireturn, 1) := by decide +kernel
theorem dX7_beside_62 : decode cX7_beside 62 = .ok (.iload_n 0, 1) := by decide +kernel
theorem dX7_beside_63 : decode cX7_beside 63 = .ok (.bipush 40, 2) := by decide +kernel
theorem dX7_beside_65 : decode cX7_beside 65 = .ok (.if_icmp .lt 8, 3) := by decide +kernel
theorem dX7_beside_68 : decode cX7_beside 68 = .ok (.bipush (-9), 2) := by decide +kernel
theorem dX7_beside_70 : decode cX7_beside 70 = .ok (.goto 7, 3) := by decide +kernel
theorem dX7_beside_73 : decode cX7_beside 73 = .ok (.iload_n 0, 1) := by decide +kernel
theorem dX7_beside_74 : decode cX7_beside 74 = .ok (.bipush 8, 2) := by decide +kernel
theorem dX7_beside_76 : decode cX7_beside 76 = .ok (.iadd, 1) := by decide +kernel
theorem dX7_beside_77 : decode cX7_beside 77 = .ok (.ireturn, 1) := by decide +kernel
theorem dX7_beside_78 : decode cX7_beside 78 = .ok (.iload_n 0, 1) := by decide +kernel
theorem dX7_beside_79 : decode cX7_beside 79 = .ok (.bipush 8, 2) := by decide +kernel
theorem dX7_beside_81 : decode cX7_beside 81 = .ok (.irem, 1) := by decide +kernel
theorem dX7_beside_82 : decode cX7_beside 82 = .ok (.ifCond .ne 8, 3) := by decide +kernel
theorem dX7_beside_85 : decode cX7_beside 85 = .ok (.bipush (-9), 2) := by decide +kernel
theorem dX7_beside_87 : decode cX7_beside 87 = .ok (.goto 6, 3) := by decide +kernel
theorem dX7_beside_90 : decode cX7_beside 90 = .ok (.iload_n 0, 1) := by decide +kernel
theorem dX7_beside_91 : decode cX7_beside 91 = .ok (.iconst 1, 1) := by decide +kernel
theorem dX7_beside_92 : decode cX7_beside 92 = .ok (.isub, 1) := by decide +kernel
theorem dX7_beside_93 : decode cX7_beside 93 = .ok (.ireturn, 1) := by decide +kernel
theorem dX7_quarters_0 : decode cX7_quarters 0 = .ok (.iload_n 0, 1) := by decide +kernel
theorem dX7_quarters_1 : decode cX7_quarters 1 = .ok (.iconst 1, 1) := by decide +kernel
theorem dX7_quarters_2 : decode cX7_quarters 2 = .ok (.if_icmp .ne 7, 3) := by decide +kernel
theorem dX7_quarters_5 : decode cX7_quarters 5 = .ok (.iconst 3, 1) := by decide +kernel
theorem dX7_quarters_6 : decode cX7_quarters 6 = .ok (.goto 14, 3) := by decide +kernel
theorem dX7_quarters_9 : decode cX7_quarters 9 = .ok (.iload_n 0, 1) := by decide +kernel
theorem dX7_quarters_10 : decode cX7_quarters 10 = .ok (.ifCond .ne 7, 3) := by decide +kernel
theorem dX7_quarters_13 : decode cX7_quarters 13 = .ok (.iconst 0, 1) := by decide +kernel
theorem dX7_quarters_14 : decode cX7_quarters 14 = .ok (.goto 6, 3) := by decide +kernel
theorem dX7_quarters_17 : decode cX7_quarters 17 = .ok (.iload_n 0, 1) := by decide +kernel
theorem dX7_quarters_18 : decode cX7_quarters 18 = .ok (.iconst 1, 1) := by decide +kernel
theorem dX7_quarters_19 : decode cX7_quarters 19 = .ok (.isub, 1) := by decide +kernel
theorem dX7_quarters_20 : decode cX7_quarters 20 = .ok (.ireturn, 1) := by decide +kernel
theorem dX7_turnsBack_0 : decode cX7_turnsBack 0 = .ok (.aload_n 0, 1) := by decide +kernel
theorem dX7_turnsBack_1 : decode cX7_turnsBack 1 = .ok (.getfield 31, 3) := by decide +kernel
theorem dX7_turnsBack_4 : decode cX7_turnsBack 4 = .ok (.iload_n 1, 1) := by decide +kernel
theorem dX7_turnsBack_5 : decode cX7_turnsBack 5 = .ok (.aload_n 0, 1) := by decide +kernel
theorem dX7_turnsBack_6 : decode cX7_turnsBack 6 = .ok (.getfield 31, 3) := by decide +kernel
theorem dX7_turnsBack_9 : decode cX7_turnsBack 9 = .ok (.iload_n 1, 1) := by decide +kernel
theorem dX7_turnsBack_10 : decode cX7_turnsBack 10 = .ok (.iaload, 1) := by decide +kernel
theorem dX7_turnsBack_11 : decode cX7_turnsBack 11 = .ok (.iconst 2, 1) := by decide +kernel
theorem dX7_turnsBack_12 : decode cX7_turnsBack 12 = .ok (.iadd, 1) := by decide +kernel
theorem dX7_turnsBack_13 : decode cX7_turnsBack 13 = .ok (.iconst 4, 1) := by decide +kernel
theorem dX7_turnsBack_14 : decode cX7_turnsBack 14 = .ok (.irem, 1) := by decide +kernel
theorem dX7_turnsBack_15 : decode cX7_turnsBack 15 = .ok (.iastore, 1) := by decide +kernel
theorem dX7_turnsBack_16 : decode cX7_turnsBack 16 = .ok (.return_, 1) := by decide +kernel
theorem dX7_takesStep_0 : decode cX7_takesStep 0 = .ok (.aload_n 0, 1) := by decide +kernel
theorem dX7_takesStep_1 : decode cX7_takesStep 1 = .ok (.getfield 28, 3) := by decide +kernel
theorem dX7_takesStep_4 : decode cX7_takesStep 4 = .ok (.iload_n 1, 1) := by decide +kernel
theorem dX7_takesStep_5 : decode cX7_takesStep 5 = .ok (.iaload, 1) := by decide +kernel
theorem dX7_takesStep_6 : decode cX7_takesStep 6 = .ok (.aload_n 0, 1) := by decide +kernel
theorem dX7_takesStep_7 : decode cX7_takesStep 7 = .ok (.getfield 31, 3) := by decide +kernel
theorem dX7_takesStep_10 : decode cX7_takesStep 10 = .ok (.iload_n 1, 1) := by decide +kernel
theorem dX7_takesStep_11 : decode cX7_takesStep 11 = .ok (.iaload, 1) := by decide +kernel
theorem dX7_takesStep_12 : decode cX7_takesStep 12 = .ok (.invokestatic 100, 3) := by decide +kernel
theorem dX7_takesStep_15 : decode cX7_takesStep 15 = .ok (.istore_n 2, 1) := by decide +kernel
theorem dX7_takesStep_16 : decode cX7_takesStep 16 = .ok (.iload_n 2, 1) := by decide +kernel
theorem dX7_takesStep_17 : decode cX7_takesStep 17 = .ok (.ifCond .ge 10, 3) := by decide +kernel
theorem dX7_takesStep_20 : decode cX7_takesStep 20 = .ok (.aload_n 0, 1) := by decide +kernel
theorem dX7_takesStep_21 : decode cX7_takesStep 21 = .ok (.iload_n 1, 1) := by decide +kernel
theorem dX7_takesStep_22 : decode cX7_takesStep 22 = .ok (.invokevirtual 103, 3) := by decide +kernel
theorem dX7_takesStep_25 : decode cX7_takesStep 25 = .ok (.iconst 0, 1) := by decide +kernel
theorem dX7_takesStep_26 : decode cX7_takesStep 26 = .ok (.ireturn, 1) := by decide +kernel
theorem dX7_takesStep_27 : decode cX7_takesStep 27 = .ok (.aload_n 0, 1) := by decide +kernel
theorem dX7_takesStep_28 : decode cX7_takesStep 28 = .ok (.getfield 13, 3) := by decide +kernel
theorem dX7_takesStep_31 : decode cX7_takesStep 31 = .ok (.iload_n 2, 1) := by decide +kernel
theorem dX7_takesStep_32 : decode cX7_takesStep 32 = .ok (.iaload, 1) := by decide +kernel
theorem dX7_takesStep_33 : decode cX7_takesStep 33 = .ok (.ifCond .le 41, 3) := by decide +kernel
theorem dX7_takesStep_36 : decode cX7_takesStep 36 = .ok (.aload_n 0, 1) := by decide +kernel
theorem dX7_takesStep_37 : decode cX7_takesStep 37 = .ok (.getfield 13, 3) := by decide +kernel
theorem dX7_takesStep_40 : decode cX7_takesStep 40 = .ok (.iload_n 2, 1) := by decide +kernel
theorem dX7_takesStep_41 : decode cX7_takesStep 41 = .ok (.aload_n 0, 1) := by decide +kernel
theorem dX7_takesStep_42 : decode cX7_takesStep 42 = .ok (.getfield 13, 3) := by decide +kernel
theorem dX7_takesStep_45 : decode cX7_takesStep 45 = .ok (.iload_n 2, 1) := by decide +kernel
theorem dX7_takesStep_46 : decode cX7_takesStep 46 = .ok (.iaload, 1) := by decide +kernel
theorem dX7_takesStep_47 : decode cX7_takesStep 47 = .ok (.aload_n 0, 1) := by decide +kernel
theorem dX7_takesStep_48 : decode cX7_takesStep 48 = .ok (.iload_n 1, 1) := by decide +kernel
theorem dX7_takesStep_49 : decode cX7_takesStep 49 = .ok (.invokevirtual 107, 3) := by decide +kernel
theorem dX7_takesStep_52 : decode cX7_takesStep 52 = .ok (.if_icmp .le 18, 3) := by decide +kernel
theorem dX7_takesStep_55 : decode cX7_takesStep 55 = .ok (.aload_n 0, 1) := by decide +kernel
theorem dX7_takesStep_56 : decode cX7_takesStep 56 = .ok (.getfield 13, 3) := by decide +kernel
theorem dX7_takesStep_59 : decode cX7_takesStep 59 = .ok (.iload_n 2, 1) := by decide +kernel
theorem dX7_takesStep_60 : decode cX7_takesStep 60 = .ok (.iaload, 1) := by decide +kernel
theorem dX7_takesStep_61 : decode cX7_takesStep 61 = .ok (.aload_n 0, 1) := by decide +kernel
theorem dX7_takesStep_62 : decode cX7_takesStep 62 = .ok (.iload_n 1, 1) := by decide +kernel
theorem dX7_takesStep_63 : decode cX7_takesStep 63 = .ok (.invokevirtual 107, 3) := by decide +kernel
theorem dX7_takesStep_66 : decode cX7_takesStep 66 = .ok (.isub, 1) := by decide +kernel
theorem dX7_takesStep_67 : decode cX7_takesStep 67 = .ok (.goto 4, 3) := by decide +kernel
theorem dX7_takesStep_70 : decode cX7_takesStep 70 = .ok (.iconst 0, 1) := by decide +kernel
theorem dX7_takesStep_71 : decode cX7_takesStep 71 = .ok (.iastore, 1) := by decide +kernel
theorem dX7_takesStep_72 : decode cX7_takesStep 72 = .ok (.iconst 0, 1) := by decide +kernel
theorem dX7_takesStep_73 : decode cX7_takesStep 73 = .ok (.ireturn, 1) := by decide +kernel
theorem dX7_takesStep_74 : decode cX7_takesStep 74 = .ok (.aload_n 0, 1) := by decide +kernel
theorem dX7_takesStep_75 : decode cX7_takesStep 75 = .ok (.getfield 28, 3) := by decide +kernel
theorem dX7_takesStep_78 : decode cX7_takesStep 78 = .ok (.iload_n 1, 1) := by decide +kernel
theorem dX7_takesStep_79 : decode cX7_takesStep 79 = .ok (.iload_n 2, 1) := by decide +kernel
theorem dX7_takesStep_80 : decode cX7_takesStep 80 = .ok (.iastore, 1) := by decide +kernel
theorem dX7_takesStep_81 : decode cX7_takesStep 81 = .ok (.iconst 1, 1) := by decide +kernel
theorem dX7_takesStep_82 : decode cX7_takesStep 82 = .ok (.ireturn, 1) := by decide +kernel
theorem dX7_hasLetter_0 : decode cX7_hasLetter 0 = .ok (.iconst 0, 1) := by decide +kernel
theorem dX7_hasLetter_1 : decode cX7_hasLetter 1 = .ok (.istore_n 3, 1) := by decide +kernel
theorem dX7_hasLetter_2 : decode cX7_hasLetter 2 = .ok (.iload_n 3, 1) := by decide +kernel
theorem dX7_hasLetter_3 : decode cX7_hasLetter 3 = .ok (.aload_n 0, 1) := by decide +kernel
theorem dX7_hasLetter_4 : decode cX7_hasLetter 4 = .ok (.getfield 43, 3) := by decide +kernel
theorem dX7_hasLetter_7 : decode cX7_hasLetter 7 = .ok (.iload_n 1, 1) := by decide +kernel
theorem dX7_hasLetter_8 : decode cX7_hasLetter 8 = .ok (.iaload, 1) := by decide +kernel
theorem dX7_hasLetter_9 : decode cX7_hasLetter 9 = .ok (.if_icmp .ge 26, 3) := by decide +kernel
theorem dX7_hasLetter_12 : decode cX7_hasLetter 12 = .ok (.aload_n 0, 1) := by decide +kernel
theorem dX7_hasLetter_13 : decode cX7_hasLetter 13 = .ok (.getfield 46, 3) := by decide +kernel
theorem dX7_hasLetter_16 : decode cX7_hasLetter 16 = .ok (.bipush 6, 2) := by decide +kernel
theorem dX7_hasLetter_18 : decode cX7_hasLetter 18 = .ok (.iload_n 1, 1) := by decide +kernel
theorem dX7_hasLetter_19 : decode cX7_hasLetter 19 = .ok (.imul, 1) := by decide +kernel
theorem dX7_hasLetter_20 : decode cX7_hasLetter 20 = .ok (.iload_n 3, 1) := by decide +kernel
theorem dX7_hasLetter_21 : decode cX7_hasLetter 21 = .ok (.iadd, 1) := by decide +kernel
theorem dX7_hasLetter_22 : decode cX7_hasLetter 22 = .ok (.iaload, 1) := by decide +kernel
theorem dX7_hasLetter_23 : decode cX7_hasLetter 23 = .ok (.iload_n 2, 1) := by decide +kernel
theorem dX7_hasLetter_24 : decode cX7_hasLetter 24 = .ok (.if_icmp .ne 5, 3) := by decide +kernel
theorem dX7_hasLetter_27 : decode cX7_hasLetter 27 = .ok (.iconst 1, 1) := by decide +kernel
theorem dX7_hasLetter_28 : decode cX7_hasLetter 28 = .ok (.ireturn, 1) := by decide +kernel
theorem dX7_hasLetter_29 : decode cX7_hasLetter 29 = .ok (.iinc 3 1, 3) := by decide +kernel
theorem dX7_hasLetter_32 : decode cX7_hasLetter 32 = .ok (.goto (-30), 3) := by decide +kernel
theorem dX7_hasLetter_35 : decode cX7_hasLetter 35 = .ok (.iconst 0, 1) := by decide +kernel
theorem dX7_hasLetter_36 : decode cX7_hasLetter 36 = .ok (.ireturn, 1) := by decide +kernel
theorem dX7_isFollowed_0 : decode cX7_isFollowed 0 = .ok (.aload_n 0, 1) := by decide +kernel
theorem dX7_isFollowed_1 : decode cX7_isFollowed 1 = .ok (.getfield 28, 3) := by decide +kernel
theorem dX7_isFollowed_4 : decode cX7_isFollowed 4 = .ok (.iload_n 1, 1) := by decide +kernel
theorem dX7_isFollowed_5 : decode cX7_isFollowed 5 = .ok (.iaload, 1) := by decide +kernel
theorem dX7_isFollowed_6 : decode cX7_isFollowed 6 = .ok (.istore_n 2, 1) := by decide +kernel
theorem dX7_isFollowed_7 : decode cX7_isFollowed 7 = .ok (.aload_n 0, 1) := by decide +kernel
theorem dX7_isFollowed_8 : decode cX7_isFollowed 8 = .ok (.iload_n 1, 1) := by decide +kernel
theorem dX7_isFollowed_9 : decode cX7_isFollowed 9 = .ok (.aload_n 0, 1) := by decide +kernel
theorem dX7_isFollowed_10 : decode cX7_isFollowed 10 = .ok (.getfield 19, 3) := by decide +kernel
theorem dX7_isFollowed_13 : decode cX7_isFollowed 13 = .ok (.iload_n 2, 1) := by decide +kernel
theorem dX7_isFollowed_14 : decode cX7_isFollowed 14 = .ok (.iaload, 1) := by decide +kernel
theorem dX7_isFollowed_15 : decode cX7_isFollowed 15 = .ok (.invokevirtual 111, 3) := by decide +kernel
theorem dX7_isFollowed_18 : decode cX7_isFollowed 18 = .ok (.ifCond .ne 4, 3) := by decide +kernel
theorem dX7_isFollowed_21 : decode cX7_isFollowed 21 = .ok (.return_, 1) := by decide +kernel
theorem dX7_isFollowed_22 : decode cX7_isFollowed 22 = .ok (.aload_n 0, 1) := by decide +kernel
theorem dX7_isFollowed_23 : decode cX7_isFollowed 23 = .ok (.getfield 37, 3) := by decide +kernel
theorem dX7_isFollowed_26 : decode cX7_isFollowed 26 = .ok (.iload_n 1, 1) := by decide +kernel
theorem dX7_isFollowed_27 : decode cX7_isFollowed 27 = .ok (.aload_n 0, 1) := by decide +kernel
theorem dX7_isFollowed_28 : decode cX7_isFollowed 28 = .ok (.getfield 37, 3) := by decide +kernel
theorem dX7_isFollowed_31 : decode cX7_isFollowed 31 = .ok (.iload_n 1, 1) := by decide +kernel
theorem dX7_isFollowed_32 : decode cX7_isFollowed 32 = .ok (.iaload, 1) := by decide +kernel
theorem dX7_isFollowed_33 : decode cX7_isFollowed 33 = .ok (.aload_n 0, 1) := by decide +kernel
theorem dX7_isFollowed_34 : decode cX7_isFollowed 34 = .ok (.getfield 16, 3) := by decide +kernel
theorem dX7_isFollowed_37 : decode cX7_isFollowed 37 = .ok (.iload_n 2, 1) := by decide +kernel
theorem dX7_isFollowed_38 : decode cX7_isFollowed 38 = .ok (.iaload, 1) := by decide +kernel
theorem dX7_isFollowed_39 : decode cX7_isFollowed 39 = .ok (.iadd, 1) := by decide +kernel
theorem dX7_isFollowed_40 : decode cX7_isFollowed 40 = .ok (.bipush 99, 2) := by decide +kernel
theorem dX7_isFollowed_42 : decode cX7_isFollowed 42 = .ok (.invokestatic 115, 3) := by decide +kernel
theorem dX7_isFollowed_45 : decode cX7_isFollowed 45 = .ok (.iastore, 1) := by decide +kernel
theorem dX7_isFollowed_46 : decode cX7_isFollowed 46 = .ok (.aload_n 0, 1) := by decide +kernel
theorem dX7_isFollowed_47 : decode cX7_isFollowed 47 = .ok (.getfield 16, 3) := by decide +kernel
theorem dX7_isFollowed_50 : decode cX7_isFollowed 50 = .ok (.iload_n 2, 1) := by decide +kernel
theorem dX7_isFollowed_51 : decode cX7_isFollowed 51 = .ok (.iconst 0, 1) := by decide +kernel
theorem dX7_isFollowed_52 : decode cX7_isFollowed 52 = .ok (.iastore, 1) := by decide +kernel
theorem dX7_isFollowed_53 : decode cX7_isFollowed 53 = .ok (.return_, 1) := by decide +kernel
theorem dX7_sameFrom_0 : decode cX7_sameFrom 0 = .ok (.iconst 0, 1) := by decide +kernel
theorem dX7_sameFrom_1 : decode cX7_sameFrom 1 = .ok (.istore_n 3, 1) := by decide +kernel
theorem dX7_sameFrom_2 : decode cX7_sameFrom 2 = .ok (.iload_n 3, 1) := by decide +kernel
theorem dX7_sameFrom_3 : decode cX7_sameFrom 3 = .ok (.aload_n 0, 1) := by decide +kernel
theorem dX7_sameFrom_4 : decode cX7_sameFrom 4 = .ok (.getfield 43, 3) := by decide +kernel
theorem dX7_sameFrom_7 : decode cX7_sameFrom 7 = .ok (.iload_n 1, 1) := by decide +kernel
theorem dX7_sameFrom_8 : decode cX7_sameFrom 8 = .ok (.iaload, 1) := by decide +kernel
theorem dX7_sameFrom_9 : decode cX7_sameFrom 9 = .ok (.if_icmp .ge 44, 3) := by decide +kernel
theorem dX7_sameFrom_12 : decode cX7_sameFrom 12 = .ok (.iload_n 3, 1) := by decide +kernel
theorem dX7_sameFrom_13 : decode cX7_sameFrom 13 = .ok (.aload_n 0, 1) := by decide +kernel
theorem dX7_sameFrom_14 : decode cX7_sameFrom 14 = .ok (.getfield 43, 3) := by decide +kernel
theorem dX7_sameFrom_17 : decode cX7_sameFrom 17 = .ok (.iload_n 2, 1) := by decide +kernel
theorem dX7_sameFrom_18 : decode cX7_sameFrom 18 = .ok (.iaload, 1) := by decide +kernel
theorem dX7_sameFrom_19 : decode cX7_sameFrom 19 = .ok (.if_icmp .ge 34, 3) := by decide +kernel
theorem dX7_sameFrom_22 : decode cX7_sameFrom 22 = .ok (.aload_n 0, 1) := by decide +kernel
theorem dX7_sameFrom_23 : decode cX7_sameFrom 23 = .ok (.getfield 46, 3) := by decide +kernel
theorem dX7_sameFrom_26 : decode cX7_sameFrom 26 = .ok (.bipush 6, 2) := by decide +kernel
theorem dX7_sameFrom_28 : decode cX7_sameFrom 28 = .ok (.iload_n 1, 1) := by decide +kernel
theorem dX7_sameFrom_29 : decode cX7_sameFrom 29 = .ok (.imul, 1) := by decide +kernel
theorem dX7_sameFrom_30 : decode cX7_sameFrom 30 = .ok (.iload_n 3, 1) := by decide +kernel
theorem dX7_sameFrom_31 : decode cX7_sameFrom 31 = .ok (.iadd, 1) := by decide +kernel
theorem dX7_sameFrom_32 : decode cX7_sameFrom 32 = .ok (.iaload, 1) := by decide +kernel
theorem dX7_sameFrom_33 : decode cX7_sameFrom 33 = .ok (.aload_n 0, 1) := by decide +kernel
theorem dX7_sameFrom_34 : decode cX7_sameFrom 34 = .ok (.getfield 46, 3) := by decide +kernel
theorem dX7_sameFrom_37 : decode cX7_sameFrom 37 = .ok (.bipush 6, 2) := by decide +kernel
theorem dX7_sameFrom_39 : decode cX7_sameFrom 39 = .ok (.iload_n 2, 1) := by decide +kernel
theorem dX7_sameFrom_40 : decode cX7_sameFrom 40 = .ok (.imul, 1) := by decide +kernel
theorem dX7_sameFrom_41 : decode cX7_sameFrom 41 = .ok (.iload_n 3, 1) := by decide +kernel
theorem dX7_sameFrom_42 : decode cX7_sameFrom 42 = .ok (.iadd, 1) := by decide +kernel
theorem dX7_sameFrom_43 : decode cX7_sameFrom 43 = .ok (.iaload, 1) := by decide +kernel
theorem dX7_sameFrom_44 : decode cX7_sameFrom 44 = .ok (.if_icmp .ne 9, 3) := by decide +kernel
theorem dX7_sameFrom_47 : decode cX7_sameFrom 47 = .ok (.iinc 3 1, 3) := by decide +kernel
theorem dX7_sameFrom_50 : decode cX7_sameFrom 50 = .ok (.goto (-48), 3) := by decide +kernel
theorem dX7_sameFrom_53 : decode cX7_sameFrom 53 = .ok (.iload_n 3, 1) := by decide +kernel
theorem dX7_sameFrom_54 : decode cX7_sameFrom 54 = .ok (.ireturn, 1) := by decide +kernel
theorem dX7_compares_0 : decode cX7_compares 0 = .ok (.aload_n 0, 1) := by decide +kernel
theorem dX7_compares_1 : decode cX7_compares 1 = .ok (.iload_n 1, 1) := by decide +kernel
theorem dX7_compares_2 : decode cX7_compares 2 = .ok (.iload_n 2, 1) := by decide +kernel
theorem dX7_compares_3 : decode cX7_compares 3 = .ok (.invokevirtual 118, 3) := by decide +kernel
theorem dX7_compares_6 : decode cX7_compares 6 = .ok (.istore_n 3, 1) := by decide +kernel
theorem dX7_compares_7 : decode cX7_compares 7 = .ok (.iload_n 3, 1) := by decide +kernel
theorem dX7_compares_8 : decode cX7_compares 8 = .ok (.aload_n 0, 1) := by decide +kernel
theorem dX7_compares_9 : decode cX7_compares 9 = .ok (.getfield 43, 3) := by decide +kernel
theorem dX7_compares_12 : decode cX7_compares 12 = .ok (.iload_n 1, 1) := by decide +kernel
theorem dX7_compares_13 : decode cX7_compares 13 = .ok (.iaload, 1) := by decide +kernel
theorem dX7_compares_14 : decode cX7_compares 14 = .ok (.if_icmp .ge 17, 3) := by decide +kernel
theorem dX7_compares_17 : decode cX7_compares 17 = .ok (.aload_n 0, 1) := by decide +kernel
theorem dX7_compares_18 : decode cX7_compares 18 = .ok (.getfield 46, 3) := by decide +kernel
theorem dX7_compares_21 : decode cX7_compares 21 = .ok (.bipush 6, 2) := by decide +kernel
theorem dX7_compares_23 : decode cX7_compares 23 = .ok (.iload_n 1, 1) := by decide +kernel
theorem dX7_compares_24 : decode cX7_compares 24 = .ok (.imul, 1) := by decide +kernel
theorem dX7_compares_25 : decode cX7_compares 25 = .ok (.iload_n 3, 1) := by decide +kernel
theorem dX7_compares_26 : decode cX7_compares 26 = .ok (.iadd, 1) := by decide +kernel
theorem dX7_compares_27 : decode cX7_compares 27 = .ok (.iaload, 1) := by decide +kernel
theorem dX7_compares_28 : decode cX7_compares 28 = .ok (.goto 4, 3) := by decide +kernel
theorem dX7_compares_31 : decode cX7_compares 31 = .ok (.iconst (-1), 1) := by decide +kernel
theorem dX7_compares_32 : decode cX7_compares 32 = .ok (.istore 4, 2) := by decide +kernel
theorem dX7_compares_34 : decode cX7_compares 34 = .ok (.iload_n 3, 1) := by decide +kernel
theorem dX7_compares_35 : decode cX7_compares 35 = .ok (.aload_n 0, 1) := by decide +kernel
theorem dX7_compares_36 : decode cX7_compares 36 = .ok (.getfield 43, 3) := by decide +kernel
theorem dX7_compares_39 : decode cX7_compares 39 = .ok (.iload_n 2, 1) := by decide +kernel
theorem dX7_compares_40 : decode cX7_compares 40 = .ok (.iaload, 1) := by decide +kernel
theorem dX7_compares_41 : decode cX7_compares 41 = .ok (.if_icmp .ge 17, 3) := by decide +kernel
theorem dX7_compares_44 : decode cX7_compares 44 = .ok (.aload_n 0, 1) := by decide +kernel
theorem dX7_compares_45 : decode cX7_compares 45 = .ok (.getfield 46, 3) := by decide +kernel
theorem dX7_compares_48 : decode cX7_compares 48 = .ok (.bipush 6, 2) := by decide +kernel
theorem dX7_compares_50 : decode cX7_compares 50 = .ok (.iload_n 2, 1) := by decide +kernel
theorem dX7_compares_51 : decode cX7_compares 51 = .ok (.imul, 1) := by decide +kernel
theorem dX7_compares_52 : decode cX7_compares 52 = .ok (.iload_n 3, 1) := by decide +kernel
theorem dX7_compares_53 : decode cX7_compares 53 = .ok (.iadd, 1) := by decide +kernel
theorem dX7_compares_54 : decode cX7_compares 54 = .ok (.iaload, 1) := by decide +kernel
theorem dX7_compares_55 : decode cX7_compares 55 = .ok (.goto 4, 3) := by decide +kernel
theorem dX7_compares_58 : decode cX7_compares 58 = .ok (.iconst (-1), 1) := by decide +kernel
theorem dX7_compares_59 : decode cX7_compares 59 = .ok (.istore 5, 2) := by decide +kernel
theorem dX7_compares_61 : decode cX7_compares 61 = .ok (.iload 4, 2) := by decide +kernel
theorem dX7_compares_63 : decode cX7_compares 63 = .ok (.iload 5, 2) := by decide +kernel
theorem dX7_compares_65 : decode cX7_compares 65 = .ok (.isub, 1) := by decide +kernel
theorem dX7_compares_66 : decode cX7_compares 66 = .ok (.ireturn, 1) := by decide +kernel
theorem dX7_lesserOf_0 : decode cX7_lesserOf 0 = .ok (.aload_n 0, 1) := by decide +kernel
theorem dX7_lesserOf_1 : decode cX7_lesserOf 1 = .ok (.iload_n 1, 1) := by decide +kernel
theorem dX7_lesserOf_2 : decode cX7_lesserOf 2 = .ok (.invokevirtual 107, 3) := by decide +kernel
theorem dX7_lesserOf_5 : decode cX7_lesserOf 5 = .ok (.aload_n 0, 1) := by decide +kernel
theorem dX7_lesserOf_6 : decode cX7_lesserOf 6 = .ok (.iload_n 2, 1) := by decide +kernel
theorem dX7_lesserOf_7 : decode cX7_lesserOf 7 = .ok (.invokevirtual 107, 3) := by decide +kernel
theorem dX7_lesserOf_10 : decode cX7_lesserOf 10 = .ok (.if_icmp .eq 22, 3) := by decide +kernel
theorem dX7_lesserOf_13 : decode cX7_lesserOf 13 = .ok (.aload_n 0, 1) := by decide +kernel
theorem dX7_lesserOf_14 : decode cX7_lesserOf 14 = .ok (.iload_n 1, 1) := by decide +kernel
theorem dX7_lesserOf_15 : decode cX7_lesserOf 15 = .ok (.invokevirtual 107, 3) := by decide +kernel
theorem dX7_lesserOf_18 : decode cX7_lesserOf 18 = .ok (.aload_n 0, 1) := by decide +kernel
theorem dX7_lesserOf_19 : decode cX7_lesserOf 19 = .ok (.iload_n 2, 1) := by decide +kernel
theorem dX7_lesserOf_20 : decode cX7_lesserOf 20 = .ok (.invokevirtual 107, 3) := by decide +kernel
theorem dX7_lesserOf_23 : decode cX7_lesserOf 23 = .ok (.if_icmp .ge 7, 3) := by decide +kernel
theorem dX7_lesserOf_26 : decode cX7_lesserOf 26 = .ok (.iload_n 1, 1) := by decide +kernel
theorem dX7_lesserOf_27 : decode cX7_lesserOf 27 = .ok (.goto 4, 3) := by decide +kernel
theorem dX7_lesserOf_30 : decode cX7_lesserOf 30 = .ok (.iload_n 2, 1) := by decide +kernel
theorem dX7_lesserOf_31 : decode cX7_lesserOf 31 = .ok (.ireturn, 1) := by decide +kernel
theorem dX7_lesserOf_32 : decode cX7_lesserOf 32 = .ok (.aload_n 0, 1) := by decide +kernel
theorem dX7_lesserOf_33 : decode cX7_lesserOf 33 = .ok (.iload_n 1, 1) := by decide +kernel
theorem dX7_lesserOf_34 : decode cX7_lesserOf 34 = .ok (.iload_n 2, 1) := by decide +kernel
theorem dX7_lesserOf_35 : decode cX7_lesserOf 35 = .ok (.invokevirtual 121, 3) := by decide +kernel
theorem dX7_lesserOf_38 : decode cX7_lesserOf 38 = .ok (.istore_n 3, 1) := by decide +kernel
theorem dX7_lesserOf_39 : decode cX7_lesserOf 39 = .ok (.iload_n 3, 1) := by decide +kernel
theorem dX7_lesserOf_40 : decode cX7_lesserOf 40 = .ok (.ifCond .eq 13, 3) := by decide +kernel
theorem dX7_lesserOf_43 : decode cX7_lesserOf 43 = .ok (.iload_n 3, 1) := by decide +kernel
theorem dX7_lesserOf_44 : decode cX7_lesserOf 44 = .ok (.ifCond .ge 7, 3) := by decide +kernel
theorem dX7_lesserOf_47 : decode cX7_lesserOf 47 = .ok (.iload_n 1, 1) := by decide +kernel
theorem dX7_lesserOf_48 : decode cX7_lesserOf 48 = .ok (.goto 4, 3) := by decide +kernel
theorem dX7_lesserOf_51 : decode cX7_lesserOf 51 = .ok (.iload_n 2, 1) := by decide +kernel
theorem dX7_lesserOf_52 : decode cX7_lesserOf 52 = .ok (.ireturn, 1) := by decide +kernel
theorem dX7_lesserOf_53 : decode cX7_lesserOf 53 = .ok (.iload_n 1, 1) := by decide +kernel
theorem dX7_lesserOf_54 : decode cX7_lesserOf 54 = .ok (.iload_n 2, 1) := by decide +kernel
theorem dX7_lesserOf_55 : decode cX7_lesserOf 55 = .ok (.if_icmp .le 7, 3) := by decide +kernel
theorem dX7_lesserOf_58 : decode cX7_lesserOf 58 = .ok (.iload_n 1, 1) := by decide +kernel
theorem dX7_lesserOf_59 : decode cX7_lesserOf 59 = .ok (.goto 4, 3) := by decide +kernel
theorem dX7_lesserOf_62 : decode cX7_lesserOf 62 = .ok (.iload_n 2, 1) := by decide +kernel
theorem dX7_lesserOf_63 : decode cX7_lesserOf 63 = .ok (.ireturn, 1) := by decide +kernel
theorem dX7_metBy_0 : decode cX7_metBy 0 = .ok (.iconst 0, 1) := by decide +kernel
theorem dX7_metBy_1 : decode cX7_metBy 1 = .ok (.istore_n 2, 1) := by decide +kernel
theorem dX7_metBy_2 : decode cX7_metBy 2 = .ok (.iload_n 2, 1) := by decide +kernel
theorem dX7_metBy_3 : decode cX7_metBy 3 = .ok (.aload_n 0, 1) := by decide +kernel
theorem dX7_metBy_4 : decode cX7_metBy 4 = .ok (.getfield 79, 3) := by decide +kernel
theorem dX7_metBy_7 : decode cX7_metBy 7 = .ok (.if_icmp .ge 40, 3) := by decide +kernel
theorem dX7_metBy_10 : decode cX7_metBy 10 = .ok (.iload_n 2, 1) := by decide +kernel
theorem dX7_metBy_11 : decode cX7_metBy 11 = .ok (.iload_n 1, 1) := by decide +kernel
theorem dX7_metBy_12 : decode cX7_metBy 12 = .ok (.if_icmp .eq 29, 3) := by decide +kernel
theorem dX7_metBy_15 : decode cX7_metBy 15 = .ok (.aload_n 0, 1) := by decide +kernel
theorem dX7_metBy_16 : decode cX7_metBy 16 = .ok (.getfield 40, 3) := by decide +kernel
theorem dX7_metBy_19 : decode cX7_metBy 19 = .ok (.iload_n 2, 1) := by decide +kernel
theorem dX7_metBy_20 : decode cX7_metBy 20 = .ok (.iaload, 1) := by decide +kernel
theorem dX7_metBy_21 : decode cX7_metBy 21 = .ok (.ifCond .ne 20, 3) := by decide +kernel
theorem dX7_metBy_24 : decode cX7_metBy 24 = .ok (.aload_n 0, 1) := by decide +kernel
theorem dX7_metBy_25 : decode cX7_metBy 25 = .ok (.getfield 28, 3) := by decide +kernel
theorem dX7_metBy_28 : decode cX7_metBy 28 = .ok (.iload_n 2, 1) := by decide +kernel
theorem dX7_metBy_29 : decode cX7_metBy 29 = .ok (.iaload, 1) := by decide +kernel
theorem dX7_metBy_30 : decode cX7_metBy 30 = .ok (.aload_n 0, 1) := by decide +kernel
theorem dX7_metBy_31 : decode cX7_metBy 31 = .ok (.getfield 28, 3) := by decide +kernel
theorem dX7_metBy_34 : decode cX7_metBy 34 = .ok (.iload_n 1, 1) := by decide +kernel
theorem dX7_metBy_35 : decode cX7_metBy 35 = .ok (.iaload, 1) := by decide +kernel
theorem dX7_metBy_36 : decode cX7_metBy 36 = .ok (.if_icmp .ne 5, 3) := by decide +kernel
theorem dX7_metBy_39 : decode cX7_metBy 39 = .ok (.iload_n 2, 1) := by decide +kernel
theorem dX7_metBy_40 : decode cX7_metBy 40 = .ok (.ireturn, 1) := by decide +kernel
theorem dX7_metBy_41 : decode cX7_metBy 41 = .ok (.iinc 2 1, 3) := by decide +kernel
theorem dX7_metBy_44 : decode cX7_metBy 44 = .ok (.goto (-42), 3) := by decide +kernel
theorem dX7_metBy_47 : decode cX7_metBy 47 = .ok (.bipush (-9), 2) := by decide +kernel
theorem dX7_metBy_49 : decode cX7_metBy 49 = .ok (.ireturn, 1) := by decide +kernel
theorem dX7_meets_0 : decode cX7_meets 0 = .ok (.aload_n 0, 1) := by decide +kernel
theorem dX7_meets_1 : decode cX7_meets 1 = .ok (.iload_n 1, 1) := by decide +kernel
theorem dX7_meets_2 : decode cX7_meets 2 = .ok (.invokevirtual 124, 3) := by decide +kernel
theorem dX7_meets_5 : decode cX7_meets 5 = .ok (.istore_n 2, 1) := by decide +kernel
theorem dX7_meets_6 : decode cX7_meets 6 = .ok (.iload_n 2, 1) := by decide +kernel
theorem dX7_meets_7 : decode cX7_meets 7 = .ok (.ifCond .ge 4, 3) := by decide +kernel
theorem dX7_meets_10 : decode cX7_meets 10 = .ok (.return_, 1) := by decide +kernel
theorem dX7_meets_11 : decode cX7_meets 11 = .ok (.aload_n 0, 1) := by decide +kernel
theorem dX7_meets_12 : decode cX7_meets 12 = .ok (.aload_n 0, 1) := by decide +kernel
theorem dX7_meets_13 : decode cX7_meets 13 = .ok (.getfield 127, 3) := by decide +kernel
theorem dX7_meets_16 : decode cX7_meets 16 = .ok (.iconst 1, 1) := by decide +kernel
theorem dX7_meets_17 : decode cX7_meets 17 = .ok (.iadd, 1) := by decide +kernel
theorem dX7_meets_18 : decode cX7_meets 18 = .ok (.sipush 9999, 3) := by decide +kernel
theorem dX7_meets_21 : decode cX7_meets 21 = .ok (.invokestatic 115, 3) := by decide +kernel
theorem dX7_meets_24 : decode cX7_meets 24 = .ok (.putfield 127, 3) := by decide +kernel
theorem dX7_meets_27 : decode cX7_meets 27 = .ok (.aload_n 0, 1) := by decide +kernel
theorem dX7_meets_28 : decode cX7_meets 28 = .ok (.iload_n 1, 1) := by decide +kernel
theorem dX7_meets_29 : decode cX7_meets 29 = .ok (.iload_n 2, 1) := by decide +kernel
theorem dX7_meets_30 : decode cX7_meets 30 = .ok (.invokevirtual 130, 3) := by decide +kernel
theorem dX7_meets_33 : decode cX7_meets 33 = .ok (.istore_n 3, 1) := by decide +kernel
theorem dX7_meets_34 : decode cX7_meets 34 = .ok (.iload_n 1, 1) := by decide +kernel
theorem dX7_meets_35 : decode cX7_meets 35 = .ok (.iload_n 2, 1) := by decide +kernel
theorem dX7_meets_36 : decode cX7_meets 36 = .ok (.iadd, 1) := by decide +kernel
theorem dX7_meets_37 : decode cX7_meets 37 = .ok (.iload_n 3, 1) := by decide +kernel
theorem dX7_meets_38 : decode cX7_meets 38 = .ok (.isub, 1) := by decide +kernel
theorem dX7_meets_39 : decode cX7_meets 39 = .ok (.istore 4, 2) := by decide +kernel
theorem dX7_meets_41 : decode cX7_meets 41 = .ok (.aload_n 0, 1) := by decide +kernel
theorem dX7_meets_42 : decode cX7_meets 42 = .ok (.getfield 37, 3) := by decide +kernel
theorem dX7_meets_45 : decode cX7_meets 45 = .ok (.iload_n 3, 1) := by decide +kernel
theorem dX7_meets_46 : decode cX7_meets 46 = .ok (.iaload, 1) := by decide +kernel
theorem dX7_meets_47 : decode cX7_meets 47 = .ok (.iconst 2, 1) := by decide +kernel
theorem dX7_meets_48 : decode cX7_meets 48 = .ok (.idiv, 1) := by decide +kernel
theorem dX7_meets_49 : decode cX7_meets 49 = .ok (.istore 5, 2) := by decide +kernel
theorem dX7_meets_51 : decode cX7_meets 51 = .ok (.aload_n 0, 1) := by decide +kernel
theorem dX7_meets_52 : decode cX7_meets 52 = .ok (.iload_n 3, 1) := by decide +kernel
theorem dX7_meets_53 : decode cX7_meets 53 = .ok (.invokevirtual 103, 3) := by decide +kernel
theorem dX7_meets_56 : decode cX7_meets 56 = .ok (.aload_n 0, 1) := by decide +kernel
theorem dX7_meets_57 : decode cX7_meets 57 = .ok (.getfield 37, 3) := by decide +kernel
theorem dX7_meets_60 : decode cX7_meets 60 = .ok (.iload_n 3, 1) := by decide +kernel
theorem dX7_meets_61 : decode cX7_meets 61 = .ok (.dup2, 1) := by decide +kernel
theorem dX7_meets_62 : decode cX7_meets 62 = .ok (.iaload, 1) := by decide +kernel
theorem dX7_meets_63 : decode cX7_meets 63 = .ok (.iload 5, 2) := by decide +kernel
theorem dX7_meets_65 : decode cX7_meets 65 = .ok (.isub, 1) := by decide +kernel
theorem dX7_meets_66 : decode cX7_meets 66 = .ok (.iastore, 1) := by decide +kernel
theorem dX7_meets_67 : decode cX7_meets 67 = .ok (.aload_n 0, 1) := by decide +kernel
theorem dX7_meets_68 : decode cX7_meets 68 = .ok (.getfield 37, 3) := by decide +kernel
theorem dX7_meets_71 : decode cX7_meets 71 = .ok (.iload 4, 2) := by decide +kernel
theorem dX7_meets_73 : decode cX7_meets 73 = .ok (.aload_n 0, 1) := by decide +kernel
theorem dX7_meets_74 : decode cX7_meets 74 = .ok (.getfield 37, 3) := by decide +kernel
theorem dX7_meets_77 : decode cX7_meets 77 = .ok (.iload 4, 2) := by decide +kernel
theorem dX7_meets_79 : decode cX7_meets 79 = .ok (.iaload, 1) := by decide +kernel
theorem dX7_meets_80 : decode cX7_meets 80 = .ok (.iload 5, 2) := by decide +kernel
theorem dX7_meets_82 : decode cX7_meets 82 = .ok (.iadd, 1) := by decide +kernel
theorem dX7_meets_83 : decode cX7_meets 83 = .ok (.bipush 99, 2) := by decide +kernel
theorem dX7_meets_85 : decode cX7_meets 85 = .ok (.invokestatic 115, 3) := by decide +kernel
theorem dX7_meets_88 : decode cX7_meets 88 = .ok (.iastore, 1) := by decide +kernel
theorem dX7_meets_89 : decode cX7_meets 89 = .ok (.return_, 1) := by decide +kernel
theorem dX7_goesHead_0 : decode cX7_goesHead 0 = .ok (.aload_n 0, 1) := by decide +kernel
theorem dX7_goesHead_1 : decode cX7_goesHead 1 = .ok (.getfield 40, 3) := by decide +kernel
theorem dX7_goesHead_4 : decode cX7_goesHead 4 = .ok (.iload_n 1, 1) := by decide +kernel
theorem dX7_goesHead_5 : decode cX7_goesHead 5 = .ok (.iaload, 1) := by decide +kernel
theorem dX7_goesHead_6 : decode cX7_goesHead 6 = .ok (.iconst 1, 1) := by decide +kernel
theorem dX7_goesHead_7 : decode cX7_goesHead 7 = .ok (.if_icmp .eq 13, 3) := by decide +kernel
theorem dX7_goesHead_10 : decode cX7_goesHead 10 = .ok (.aload_n 0, 1) := by decide +kernel
theorem dX7_goesHead_11 : decode cX7_goesHead 11 = .ok (.getfield 34, 3) := by decide +kernel
theorem dX7_goesHead_14 : decode cX7_goesHead 14 = .ok (.iload_n 1, 1) := by decide +kernel
theorem dX7_goesHead_15 : decode cX7_goesHead 15 = .ok (.iaload, 1) := by decide +kernel
theorem dX7_goesHead_16 : decode cX7_goesHead 16 = .ok (.iconst 4, 1) := by decide +kernel
theorem dX7_goesHead_17 : decode cX7_goesHead 17 = .ok (.if_icmp .ne 4, 3) := by decide +kernel
theorem dX7_goesHead_20 : decode cX7_goesHead 20 = .ok (.return_, 1) := by decide +kernel
theorem dX7_goesHead_21 : decode cX7_goesHead 21 = .ok (.aload_n 0, 1) := by decide +kernel
theorem dX7_goesHead_22 : decode cX7_goesHead 22 = .ok (.getfield 31, 3) := by decide +kernel
theorem dX7_goesHead_25 : decode cX7_goesHead 25 = .ok (.iload_n 1, 1) := by decide +kernel
theorem dX7_goesHead_26 : decode cX7_goesHead 26 = .ok (.aload_n 0, 1) := by decide +kernel
theorem dX7_goesHead_27 : decode cX7_goesHead 27 = .ok (.getfield 31, 3) := by decide +kernel
theorem dX7_goesHead_30 : decode cX7_goesHead 30 = .ok (.iload_n 1, 1) := by decide +kernel
theorem dX7_goesHead_31 : decode cX7_goesHead 31 = .ok (.iaload, 1) := by decide +kernel
theorem dX7_goesHead_32 : decode cX7_goesHead 32 = .ok (.aload_n 0, 1) := by decide +kernel
theorem dX7_goesHead_33 : decode cX7_goesHead 33 = .ok (.getfield 34, 3) := by decide +kernel
theorem dX7_goesHead_36 : decode cX7_goesHead 36 = .ok (.iload_n 1, 1) := by decide +kernel
theorem dX7_goesHead_37 : decode cX7_goesHead 37 = .ok (.iaload, 1) := by decide +kernel
theorem dX7_goesHead_38 : decode cX7_goesHead 38 = .ok (.invokestatic 133, 3) := by decide +kernel
theorem dX7_goesHead_41 : decode cX7_goesHead 41 = .ok (.iadd, 1) := by decide +kernel
theorem dX7_goesHead_42 : decode cX7_goesHead 42 = .ok (.aload_n 0, 1) := by decide +kernel
theorem dX7_goesHead_43 : decode cX7_goesHead 43 = .ok (.iload_n 1, 1) := by decide +kernel
theorem dX7_goesHead_44 : decode cX7_goesHead 44 = .ok (.aload_n 0, 1) := by decide +kernel
theorem dX7_goesHead_45 : decode cX7_goesHead 45 = .ok (.getfield 136, 3) := by decide +kernel
theorem dX7_goesHead_48 : decode cX7_goesHead 48 = .ok (.invokevirtual 139, 3) := by decide +kernel
theorem dX7_goesHead_51 : decode cX7_goesHead 51 = .ok (.iadd, 1) := by decide +kernel
theorem dX7_goesHead_52 : decode cX7_goesHead 52 = .ok (.iconst 4, 1) := by decide +kernel
theorem dX7_goesHead_53 : decode cX7_goesHead 53 = .ok (.irem, 1) := by decide +kernel
theorem dX7_goesHead_54 : decode cX7_goesHead 54 = .ok (.iastore, 1) := by decide +kernel
theorem dX7_goesHead_55 : decode cX7_goesHead 55 = .ok (.aload_n 0, 1) := by decide +kernel
theorem dX7_goesHead_56 : decode cX7_goesHead 56 = .ok (.iload_n 1, 1) := by decide +kernel
theorem dX7_goesHead_57 : decode cX7_goesHead 57 = .ok (.invokevirtual 142, 3) := by decide +kernel
theorem dX7_goesHead_60 : decode cX7_goesHead 60 = .ok (.istore_n 2, 1) := by decide +kernel
theorem dX7_goesHead_61 : decode cX7_goesHead 61 = .ok (.iload_n 2, 1) := by decide +kernel
theorem dX7_goesHead_62 : decode cX7_goesHead 62 = .ok (.ifCond .le 17, 3) := by decide +kernel
theorem dX7_goesHead_65 : decode cX7_goesHead 65 = .ok (.aload_n 0, 1) := by decide +kernel
theorem dX7_goesHead_66 : decode cX7_goesHead 66 = .ok (.iload_n 1, 1) := by decide +kernel
theorem dX7_goesHead_67 : decode cX7_goesHead 67 = .ok (.invokevirtual 145, 3) := by decide +kernel
theorem dX7_goesHead_70 : decode cX7_goesHead 70 = .ok (.ifCond .eq 9, 3) := by decide +kernel
theorem dX7_goesHead_73 : decode cX7_goesHead 73 = .ok (.iinc 2 (-1), 3) := by decide +kernel
theorem dX7_goesHead_76 : decode cX7_goesHead 76 = .ok (.goto (-15), 3) := by decide +kernel
theorem dX7_goesHead_79 : decode cX7_goesHead 79 = .ok (.aload_n 0, 1) := by decide +kernel
theorem dX7_goesHead_80 : decode cX7_goesHead 80 = .ok (.iload_n 1, 1) := by decide +kernel
theorem dX7_goesHead_81 : decode cX7_goesHead 81 = .ok (.invokevirtual 148, 3) := by decide +kernel
theorem dX7_goesHead_84 : decode cX7_goesHead 84 = .ok (.aload_n 0, 1) := by decide +kernel
theorem dX7_goesHead_85 : decode cX7_goesHead 85 = .ok (.iload_n 1, 1) := by decide +kernel
theorem dX7_goesHead_86 : decode cX7_goesHead 86 = .ok (.invokevirtual 151, 3) := by decide +kernel
theorem dX7_goesHead_89 : decode cX7_goesHead 89 = .ok (.aload_n 0, 1) := by decide +kernel
theorem dX7_goesHead_90 : decode cX7_goesHead 90 = .ok (.getfield 37, 3) := by decide +kernel
theorem dX7_goesHead_93 : decode cX7_goesHead 93 = .ok (.iload_n 1, 1) := by decide +kernel
theorem dX7_goesHead_94 : decode cX7_goesHead 94 = .ok (.iaload, 1) := by decide +kernel
theorem dX7_goesHead_95 : decode cX7_goesHead 95 = .ok (.aload_n 0, 1) := by decide +kernel
theorem dX7_goesHead_96 : decode cX7_goesHead 96 = .ok (.iload_n 1, 1) := by decide +kernel
theorem dX7_goesHead_97 : decode cX7_goesHead 97 = .ok (.invokevirtual 154, 3) := by decide +kernel
theorem dX7_goesHead_100 : decode cX7_goesHead 100 = .ok (.if_icmp .lt 10, 3) := by decide +kernel
theorem dX7_goesHead_103 : decode cX7_goesHead 103 = .ok (.aload_n 0, 1) := by decide +kernel
theorem dX7_goesHead_104 : decode cX7_goesHead 104 = .ok (.getfield 40, 3) := by decide +kernel
theorem dX7_goesHead_107 : decode cX7_goesHead 107 = .ok (.iload_n 1, 1) := by decide +kernel
theorem dX7_goesHead_108 : decode cX7_goesHead 108 = .ok (.iconst 1, 1) := by decide +kernel
theorem dX7_goesHead_109 : decode cX7_goesHead 109 = .ok (.iastore, 1) := by decide +kernel
theorem dX7_goesHead_110 : decode cX7_goesHead 110 = .ok (.return_, 1) := by decide +kernel
theorem dX7_goesNight_0 : decode cX7_goesNight 0 = .ok (.aload_n 0, 1) := by decide +kernel
theorem dX7_goesNight_1 : decode cX7_goesNight 1 = .ok (.dup, 1) := by decide +kernel
theorem dX7_goesNight_2 : decode cX7_goesNight 2 = .ok (.getfield 136, 3) := by decide +kernel
theorem dX7_goesNight_5 : decode cX7_goesNight 5 = .ok (.iconst 1, 1) := by decide +kernel
theorem dX7_goesNight_6 : decode cX7_goesNight 6 = .ok (.iadd, 1) := by decide +kernel
theorem dX7_goesNight_7 : decode cX7_goesNight 7 = .ok (.putfield 136, 3) := by decide +kernel
theorem dX7_goesNight_10 : decode cX7_goesNight 10 = .ok (.iconst 0, 1) := by decide +kernel
theorem dX7_goesNight_11 : decode cX7_goesNight 11 = .ok (.istore_n 1, 1) := by decide +kernel
theorem dX7_goesNight_12 : decode cX7_goesNight 12 = .ok (.iload_n 1, 1) := by decide +kernel
theorem dX7_goesNight_13 : decode cX7_goesNight 13 = .ok (.aload_n 0, 1) := by decide +kernel
theorem dX7_goesNight_14 : decode cX7_goesNight 14 = .ok (.getfield 79, 3) := by decide +kernel
theorem dX7_goesNight_17 : decode cX7_goesNight 17 = .ok (.if_icmp .ge 14, 3) := by decide +kernel
theorem dX7_goesNight_20 : decode cX7_goesNight 20 = .ok (.aload_n 0, 1) := by decide +kernel
theorem dX7_goesNight_21 : decode cX7_goesNight 21 = .ok (.iload_n 1, 1) := by decide +kernel
theorem dX7_goesNight_22 : decode cX7_goesNight 22 = .ok (.invokevirtual 157, 3) := by decide +kernel
theorem dX7_goesNight_25 : decode cX7_goesNight 25 = .ok (.iinc 1 1, 3) := by decide +kernel
theorem dX7_goesNight_28 : decode cX7_goesNight 28 = .ok (.goto (-16), 3) := by decide +kernel
theorem dX7_goesNight_31 : decode cX7_goesNight 31 = .ok (.return_, 1) := by decide +kernel
theorem dX7_goes_0 : decode cX7_goes 0 = .ok (.iconst 0, 1) := by decide +kernel
theorem dX7_goes_1 : decode cX7_goes 1 = .ok (.istore_n 2, 1) := by decide +kernel
theorem dX7_goes_2 : decode cX7_goes 2 = .ok (.iload_n 2, 1) := by decide +kernel
theorem dX7_goes_3 : decode cX7_goes 3 = .ok (.iload_n 1, 1) := by decide +kernel
theorem dX7_goes_4 : decode cX7_goes 4 = .ok (.if_icmp .ge 13, 3) := by decide +kernel
theorem dX7_goes_7 : decode cX7_goes 7 = .ok (.aload_n 0, 1) := by decide +kernel
theorem dX7_goes_8 : decode cX7_goes 8 = .ok (.invokevirtual 160, 3) := by decide +kernel
theorem dX7_goes_11 : decode cX7_goes 11 = .ok (.iinc 2 1, 3) := by decide +kernel
theorem dX7_goes_14 : decode cX7_goes 14 = .ok (.goto (-12), 3) := by decide +kernel
theorem dX7_goes_17 : decode cX7_goes 17 = .ok (.return_, 1) := by decide +kernel
theorem dX7_feed_0 : decode cX7_feed 0 = .ok (.iload_n 1, 1) := by decide +kernel
theorem dX7_feed_1 : decode cX7_feed 1 = .ok (.iconst 0, 1) := by decide +kernel
theorem dX7_feed_2 : decode cX7_feed 2 = .ok (.sipush 255, 3) := by decide +kernel
theorem dX7_feed_5 : decode cX7_feed 5 = .ok (.invokestatic 163, 3) := by decide +kernel
theorem dX7_feed_8 : decode cX7_feed 8 = .ok (.istore_n 2, 1) := by decide +kernel
theorem dX7_feed_9 : decode cX7_feed 9 = .ok (.iload_n 2, 1) := by decide +kernel
theorem dX7_feed_10 : decode cX7_feed 10 = .ok (.ifCond .ne 15, 3) := by decide +kernel
theorem dX7_feed_13 : decode cX7_feed 13 = .ok (.aload_n 0, 1) := by decide +kernel
theorem dX7_feed_14 : decode cX7_feed 14 = .ok (.getfield 167, 3) := by decide +kernel
theorem dX7_feed_17 : decode cX7_feed 17 = .ok (.bipush 96, 2) := by decide +kernel
theorem dX7_feed_19 : decode cX7_feed 19 = .ok (.if_icmp .ne 6, 3) := by decide +kernel
theorem dX7_feed_22 : decode cX7_feed 22 = .ok (.bipush (-6), 2) := by decide +kernel
theorem dX7_feed_24 : decode cX7_feed 24 = .ok (.istore_n 2, 1) := by decide +kernel
theorem dX7_feed_25 : decode cX7_feed 25 = .ok (.iload_n 2, 1) := by decide +kernel
theorem dX7_feed_26 : decode cX7_feed 26 = .ok (.ifCond .eq 9, 3) := by decide +kernel
theorem dX7_feed_29 : decode cX7_feed 29 = .ok (.aload_n 0, 1) := by decide +kernel
theorem dX7_feed_30 : decode cX7_feed 30 = .ok (.iload_n 2, 1) := by decide +kernel
theorem dX7_feed_31 : decode cX7_feed 31 = .ok (.invokevirtual 170, 3) := by decide +kernel
theorem dX7_feed_34 : decode cX7_feed 34 = .ok (.ireturn, 1) := by decide +kernel
theorem dX7_feed_35 : decode cX7_feed 35 = .ok (.aload_n 0, 1) := by decide +kernel
theorem dX7_feed_36 : decode cX7_feed 36 = .ok (.getfield 49, 3) := by decide +kernel
theorem dX7_feed_39 : decode cX7_feed 39 = .ok (.aload_n 0, 1) := by decide +kernel
theorem dX7_feed_40 : decode cX7_feed 40 = .ok (.getfield 167, 3) := by decide +kernel
theorem dX7_feed_43 : decode cX7_feed 43 = .ok (.iload_n 1, 1) := by decide +kernel
theorem dX7_feed_44 : decode cX7_feed 44 = .ok (.iastore, 1) := by decide +kernel
theorem dX7_feed_45 : decode cX7_feed 45 = .ok (.aload_n 0, 1) := by decide +kernel
theorem dX7_feed_46 : decode cX7_feed 46 = .ok (.dup, 1) := by decide +kernel
theorem dX7_feed_47 : decode cX7_feed 47 = .ok (.getfield 167, 3) := by decide +kernel
theorem dX7_feed_50 : decode cX7_feed 50 = .ok (.iconst 1, 1) := by decide +kernel
theorem dX7_feed_51 : decode cX7_feed 51 = .ok (.iadd, 1) := by decide +kernel
theorem dX7_feed_52 : decode cX7_feed 52 = .ok (.putfield 167, 3) := by decide +kernel
theorem dX7_feed_55 : decode cX7_feed 55 = .ok (.aload_n 0, 1) := by decide +kernel
theorem dX7_feed_56 : decode cX7_feed 56 = .ok (.getfield 167, 3) := by decide +kernel
theorem dX7_feed_59 : decode cX7_feed 59 = .ok (.ireturn, 1) := by decide +kernel
theorem dX7_sign_0 : decode cX7_sign 0 = .ok (.aload_n 0, 1) := by decide +kernel
theorem dX7_sign_1 : decode cX7_sign 1 = .ok (.getfield 173, 3) := by decide +kernel
theorem dX7_sign_4 : decode cX7_sign 4 = .ok (.aload_n 0, 1) := by decide +kernel
theorem dX7_sign_5 : decode cX7_sign 5 = .ok (.getfield 167, 3) := by decide +kernel
theorem dX7_sign_8 : decode cX7_sign 8 = .ok (.if_icmp .ge 15, 3) := by decide +kernel
theorem dX7_sign_11 : decode cX7_sign 11 = .ok (.aload_n 0, 1) := by decide +kernel
theorem dX7_sign_12 : decode cX7_sign 12 = .ok (.getfield 49, 3) := by decide +kernel
theorem dX7_sign_15 : decode cX7_sign 15 = .ok (.aload_n 0, 1) := by decide +kernel
theorem dX7_sign_16 : decode cX7_sign 16 = .ok (.getfield 173, 3) := by decide +kernel
theorem dX7_sign_19 : decode cX7_sign 19 = .ok (.iaload, 1) := by decide +kernel
theorem dX7_sign_20 : decode cX7_sign 20 = .ok (.goto 4, 3) := by decide +kernel
theorem dX7_sign_23 : decode cX7_sign 23 = .ok (.iconst (-1), 1) := by decide +kernel
theorem dX7_sign_24 : decode cX7_sign 24 = .ok (.ireturn, 1) := by decide +kernel
theorem dX7_readsSome_0 : decode cX7_readsSome 0 = .ok (.iconst 0, 1) := by decide +kernel
theorem dX7_readsSome_1 : decode cX7_readsSome 1 = .ok (.istore 4, 2) := by decide +kernel
theorem dX7_readsSome_3 : decode cX7_readsSome 3 = .ok (.iload 4, 2) := by decide +kernel
theorem dX7_readsSome_5 : decode cX7_readsSome 5 = .ok (.iload_n 3, 1) := by decide +kernel
theorem dX7_readsSome_6 : decode cX7_readsSome 6 = .ok (.if_icmp .ge 31, 3) := by decide +kernel
theorem dX7_readsSome_9 : decode cX7_readsSome 9 = .ok (.aload_n 0, 1) := by decide +kernel
theorem dX7_readsSome_10 : decode cX7_readsSome 10 = .ok (.invokevirtual 176, 3) := by decide +kernel
theorem dX7_readsSome_13 : decode cX7_readsSome 13 = .ok (.iload_n 1, 1) := by decide +kernel
theorem dX7_readsSome_14 : decode cX7_readsSome 14 = .ok (.iload_n 2, 1) := by decide +kernel
theorem dX7_readsSome_15 : decode cX7_readsSome 15 = .ok (.invokestatic 85, 3) := by decide +kernel
theorem dX7_readsSome_18 : decode cX7_readsSome 18 = .ok (.ifCond .eq 19, 3) := by decide +kernel
theorem dX7_readsSome_21 : decode cX7_readsSome 21 = .ok (.aload_n 0, 1) := by decide +kernel
theorem dX7_readsSome_22 : decode cX7_readsSome 22 = .ok (.dup, 1) := by decide +kernel
theorem dX7_readsSome_23 : decode cX7_readsSome 23 = .ok (.getfield 173, 3) := by decide +kernel
theorem dX7_readsSome_26 : decode cX7_readsSome 26 = .ok (.iconst 1, 1) := by decide +kernel
theorem dX7_readsSome_27 : decode cX7_readsSome 27 = .ok (.iadd, 1) := by decide +kernel
theorem dX7_readsSome_28 : decode cX7_readsSome 28 = .ok (.putfield 173, 3) := by decide +kernel
theorem dX7_readsSome_31 : decode cX7_readsSome 31 = .ok (.iinc 4 1, 3) := by decide +kernel
theorem dX7_readsSome_34 : decode cX7_readsSome 34 = .ok (.goto (-31), 3) := by decide +kernel
theorem dX7_readsSome_37 : decode cX7_readsSome 37 = .ok (.iload 4, 2) := by decide +kernel
theorem dX7_readsSome_39 : decode cX7_readsSome 39 = .ok (.ireturn, 1) := by decide +kernel
theorem dX7_readsPart_0 : decode cX7_readsPart 0 = .ok (.iconst 3, 1) := by decide +kernel
theorem dX7_readsPart_1 : decode cX7_readsPart 1 = .ok (.aload_n 0, 1) := by decide +kernel
theorem dX7_readsPart_2 : decode cX7_readsPart 2 = .ok (.getfield 180, 3) := by decide +kernel
theorem dX7_readsPart_5 : decode cX7_readsPart 5 = .ok (.imul, 1) := by decide +kernel
theorem dX7_readsPart_6 : decode cX7_readsPart 6 = .ok (.aload_n 0, 1) := by decide +kernel
theorem dX7_readsPart_7 : decode cX7_readsPart 7 = .ok (.getfield 58, 3) := by decide +kernel
theorem dX7_readsPart_10 : decode cX7_readsPart 10 = .ok (.aload_n 0, 1) := by decide +kernel
theorem dX7_readsPart_11 : decode cX7_readsPart 11 = .ok (.getfield 180, 3) := by decide +kernel
theorem dX7_readsPart_14 : decode cX7_readsPart 14 = .ok (.iaload, 1) := by decide +kernel
theorem dX7_readsPart_15 : decode cX7_readsPart 15 = .ok (.iadd, 1) := by decide +kernel
theorem dX7_readsPart_16 : decode cX7_readsPart 16 = .ok (.istore_n 1, 1) := by decide +kernel
theorem dX7_readsPart_17 : decode cX7_readsPart 17 = .ok (.aload_n 0, 1) := by decide +kernel
theorem dX7_readsPart_18 : decode cX7_readsPart 18 = .ok (.getfield 61, 3) := by decide +kernel
theorem dX7_readsPart_21 : decode cX7_readsPart 21 = .ok (.iload_n 1, 1) := by decide +kernel
theorem dX7_readsPart_22 : decode cX7_readsPart 22 = .ok (.aload_n 0, 1) := by decide +kernel
theorem dX7_readsPart_23 : decode cX7_readsPart 23 = .ok (.getfield 173, 3) := by decide +kernel
theorem dX7_readsPart_26 : decode cX7_readsPart 26 = .ok (.iastore, 1) := by decide +kernel
theorem dX7_readsPart_27 : decode cX7_readsPart 27 = .ok (.aload_n 0, 1) := by decide +kernel
theorem dX7_readsPart_28 : decode cX7_readsPart 28 = .ok (.bipush 97, 2) := by decide +kernel
theorem dX7_readsPart_30 : decode cX7_readsPart 30 = .ok (.bipush 122, 2) := by decide +kernel
theorem dX7_readsPart_32 : decode cX7_readsPart 32 = .ok (.bipush 7, 2) := by decide +kernel
theorem dX7_readsPart_34 : decode cX7_readsPart 34 = .ok (.invokevirtual 183, 3) := by decide +kernel
theorem dX7_readsPart_37 : decode cX7_readsPart 37 = .ok (.istore_n 2, 1) := by decide +kernel
theorem dX7_readsPart_38 : decode cX7_readsPart 38 = .ok (.iload_n 2, 1) := by decide +kernel
theorem dX7_readsPart_39 : decode cX7_readsPart 39 = .ok (.ifCond .ne 13, 3) := by decide +kernel
theorem dX7_readsPart_42 : decode cX7_readsPart 42 = .ok (.aload_n 0, 1) := by decide +kernel
theorem dX7_readsPart_43 : decode cX7_readsPart 43 = .ok (.bipush 48, 2) := by decide +kernel
theorem dX7_readsPart_45 : decode cX7_readsPart 45 = .ok (.bipush 57, 2) := by decide +kernel
theorem dX7_readsPart_47 : decode cX7_readsPart 47 = .ok (.iconst 2, 1) := by decide +kernel
theorem dX7_readsPart_48 : decode cX7_readsPart 48 = .ok (.invokevirtual 183, 3) := by decide +kernel
theorem dX7_readsPart_51 : decode cX7_readsPart 51 = .ok (.istore_n 2, 1) := by decide +kernel
theorem dX7_readsPart_52 : decode cX7_readsPart 52 = .ok (.aload_n 0, 1) := by decide +kernel
theorem dX7_readsPart_53 : decode cX7_readsPart 53 = .ok (.getfield 64, 3) := by decide +kernel
theorem dX7_readsPart_56 : decode cX7_readsPart 56 = .ok (.iload_n 1, 1) := by decide +kernel
theorem dX7_readsPart_57 : decode cX7_readsPart 57 = .ok (.iload_n 2, 1) := by decide +kernel
theorem dX7_readsPart_58 : decode cX7_readsPart 58 = .ok (.iastore, 1) := by decide +kernel
theorem dX7_readsPart_59 : decode cX7_readsPart 59 = .ok (.aload_n 0, 1) := by decide +kernel
theorem dX7_readsPart_60 : decode cX7_readsPart 60 = .ok (.getfield 58, 3) := by decide +kernel
theorem dX7_readsPart_63 : decode cX7_readsPart 63 = .ok (.aload_n 0, 1) := by decide +kernel
theorem dX7_readsPart_64 : decode cX7_readsPart 64 = .ok (.getfield 180, 3) := by decide +kernel
theorem dX7_readsPart_67 : decode cX7_readsPart 67 = .ok (.dup2, 1) := by decide +kernel
theorem dX7_readsPart_68 : decode cX7_readsPart 68 = .ok (.iaload, 1) := by decide +kernel
theorem dX7_readsPart_69 : decode cX7_readsPart 69 = .ok (.iconst 1, 1) := by decide +kernel
theorem dX7_readsPart_70 : decode cX7_readsPart 70 = .ok (.iadd, 1) := by decide +kernel
theorem dX7_readsPart_71 : decode cX7_readsPart 71 = .ok (.iastore, 1) := by decide +kernel
theorem dX7_readsPart_72 : decode cX7_readsPart 72 = .ok (.iload_n 2, 1) := by decide +kernel
theorem dX7_readsPart_73 : decode cX7_readsPart 73 = .ok (.ifCond .le 7, 3) := by decide +kernel
theorem dX7_readsPart_76 : decode cX7_readsPart 76 = .ok (.iconst 1, 1) := by decide +kernel
theorem dX7_readsPart_77 : decode cX7_readsPart 77 = .ok (.goto 4, 3) := by decide +kernel
theorem dX7_readsPart_80 : decode cX7_readsPart 80 = .ok (.iconst 0, 1) := by decide +kernel
theorem dX7_readsPart_81 : decode cX7_readsPart 81 = .ok (.ireturn, 1) := by decide +kernel
theorem dX7_reads_0 : decode cX7_reads 0 = .ok (.aload_n 0, 1) := by decide +kernel
theorem dX7_reads_1 : decode cX7_reads 1 = .ok (.invokevirtual 176, 3) := by decide +kernel
theorem dX7_reads_4 : decode cX7_reads 4 = .ok (.iload_n 1, 1) := by decide +kernel
theorem dX7_reads_5 : decode cX7_reads 5 = .ok (.if_icmp .eq 5, 3) := by decide +kernel
theorem dX7_reads_8 : decode cX7_reads 8 = .ok (.iconst 0, 1) := by decide +kernel
theorem dX7_reads_9 : decode cX7_reads 9 = .ok (.ireturn, 1) := by decide +kernel
theorem dX7_reads_10 : decode cX7_reads 10 = .ok (.aload_n 0, 1) := by decide +kernel
theorem dX7_reads_11 : decode cX7_reads 11 = .ok (.dup, 1) := by decide +kernel
theorem dX7_reads_12 : decode cX7_reads 12 = .ok (.getfield 173, 3) := by decide +kernel
theorem dX7_reads_15 : decode cX7_reads 15 = .ok (.iconst 1, 1) := by decide +kernel
theorem dX7_reads_16 : decode cX7_reads 16 = .ok (.iadd, 1) := by decide +kernel
theorem dX7_reads_17 : decode cX7_reads 17 = .ok (.putfield 173, 3) := by decide +kernel
theorem dX7_reads_20 : decode cX7_reads 20 = .ok (.iconst 1, 1) := by decide +kernel
theorem dX7_reads_21 : decode cX7_reads 21 = .ok (.ireturn, 1) := by decide +kernel
theorem dX7_statement_0 : decode cX7_statement 0 = .ok (.aload_n 0, 1) := by decide +kernel
theorem dX7_statement_1 : decode cX7_statement 1 = .ok (.getfield 52, 3) := by decide +kernel
theorem dX7_statement_4 : decode cX7_statement 4 = .ok (.aload_n 0, 1) := by decide +kernel
theorem dX7_statement_5 : decode cX7_statement 5 = .ok (.getfield 180, 3) := by decide +kernel
theorem dX7_statement_8 : decode cX7_statement 8 = .ok (.aload_n 0, 1) := by decide +kernel
theorem dX7_statement_9 : decode cX7_statement 9 = .ok (.getfield 173, 3) := by decide +kernel
theorem dX7_statement_12 : decode cX7_statement 12 = .ok (.iastore, 1) := by decide +kernel
theorem dX7_statement_13 : decode cX7_statement 13 = .ok (.aload_n 0, 1) := by decide +kernel
theorem dX7_statement_14 : decode cX7_statement 14 = .ok (.getfield 55, 3) := by decide +kernel
theorem dX7_statement_17 : decode cX7_statement 17 = .ok (.aload_n 0, 1) := by decide +kernel
theorem dX7_statement_18 : decode cX7_statement 18 = .ok (.getfield 180, 3) := by decide +kernel
theorem dX7_statement_21 : decode cX7_statement 21 = .ok (.aload_n 0, 1) := by decide +kernel
theorem dX7_statement_22 : decode cX7_statement 22 = .ok (.bipush 97, 2) := by decide +kernel
theorem dX7_statement_24 : decode cX7_statement 24 = .ok (.bipush 122, 2) := by decide +kernel
theorem dX7_statement_26 : decode cX7_statement 26 = .ok (.bipush 7, 2) := by decide +kernel
theorem dX7_statement_28 : decode cX7_statement 28 = .ok (.invokevirtual 183, 3) := by decide +kernel
theorem dX7_statement_31 : decode cX7_statement 31 = .ok (.iastore, 1) := by decide +kernel
theorem dX7_statement_32 : decode cX7_statement 32 = .ok (.aload_n 0, 1) := by decide +kernel
theorem dX7_statement_33 : decode cX7_statement 33 = .ok (.getfield 58, 3) := by decide +kernel
theorem dX7_statement_36 : decode cX7_statement 36 = .ok (.aload_n 0, 1) := by decide +kernel
theorem dX7_statement_37 : decode cX7_statement 37 = .ok (.getfield 180, 3) := by decide +kernel
theorem dX7_statement_40 : decode cX7_statement 40 = .ok (.iconst 0, 1) := by decide +kernel
theorem dX7_statement_41 : decode cX7_statement 41 = .ok (.iastore, 1) := by decide +kernel
theorem dX7_statement_42 : decode cX7_statement 42 = .ok (.aload_n 0, 1) := by decide +kernel
theorem dX7_statement_43 : decode cX7_statement 43 = .ok (.getfield 55, 3) := by decide +kernel
theorem dX7_statement_46 : decode cX7_statement 46 = .ok (.aload_n 0, 1) := by decide +kernel
theorem dX7_statement_47 : decode cX7_statement 47 = .ok (.getfield 180, 3) := by decide +kernel
theorem dX7_statement_50 : decode cX7_statement 50 = .ok (.iaload, 1) := by decide +kernel
theorem dX7_statement_51 : decode cX7_statement 51 = .ok (.ifCond .eq 19, 3) := by decide +kernel
theorem dX7_statement_54 : decode cX7_statement 54 = .ok (.aload_n 0, 1) := by decide +kernel
theorem dX7_statement_55 : decode cX7_statement 55 = .ok (.bipush 32, 2) := by decide +kernel
theorem dX7_statement_57 : decode cX7_statement 57 = .ok (.invokevirtual 186, 3) := by decide +kernel
theorem dX7_statement_60 : decode cX7_statement 60 = .ok (.ifCond .eq 10, 3) := by decide +kernel
theorem dX7_statement_63 : decode cX7_statement 63 = .ok (.aload_n 0, 1) := by decide +kernel
theorem dX7_statement_64 : decode cX7_statement 64 = .ok (.invokevirtual 189, 3) := by decide +kernel
theorem dX7_statement_67 : decode cX7_statement 67 = .ok (.ifCond .ne 5, 3) := by decide +kernel
theorem dX7_statement_70 : decode cX7_statement 70 = .ok (.iconst 0, 1) := by decide +kernel
theorem dX7_statement_71 : decode cX7_statement 71 = .ok (.ireturn, 1) := by decide +kernel
theorem dX7_statement_72 : decode cX7_statement 72 = .ok (.aload_n 0, 1) := by decide +kernel
theorem dX7_statement_73 : decode cX7_statement 73 = .ok (.getfield 58, 3) := by decide +kernel
theorem dX7_statement_76 : decode cX7_statement 76 = .ok (.aload_n 0, 1) := by decide +kernel
theorem dX7_statement_77 : decode cX7_statement 77 = .ok (.getfield 180, 3) := by decide +kernel
theorem dX7_statement_80 : decode cX7_statement 80 = .ok (.iaload, 1) := by decide +kernel
theorem dX7_statement_81 : decode cX7_statement 81 = .ok (.iconst 3, 1) := by decide +kernel
theorem dX7_statement_82 : decode cX7_statement 82 = .ok (.if_icmp .ge 21, 3) := by decide +kernel
theorem dX7_statement_85 : decode cX7_statement 85 = .ok (.aload_n 0, 1) := by decide +kernel
theorem dX7_statement_86 : decode cX7_statement 86 = .ok (.bipush 32, 2) := by decide +kernel
theorem dX7_statement_88 : decode cX7_statement 88 = .ok (.invokevirtual 186, 3) := by decide +kernel
theorem dX7_statement_91 : decode cX7_statement 91 = .ok (.ifCond .eq 12, 3) := by decide +kernel
theorem dX7_statement_94 : decode cX7_statement 94 = .ok (.aload_n 0, 1) := by decide +kernel
theorem dX7_statement_95 : decode cX7_statement 95 = .ok (.invokevirtual 189, 3) := by decide +kernel
theorem dX7_statement_98 : decode cX7_statement 98 = .ok (.ifCond .ne (-26), 3) := by decide +kernel
theorem dX7_statement_101 : decode cX7_statement 101 = .ok (.iconst 0, 1) := by decide +kernel
theorem dX7_statement_102 : decode cX7_statement 102 = .ok (.ireturn, 1) := by decide +kernel
theorem dX7_statement_103 : decode cX7_statement 103 = .ok (.aload_n 0, 1) := by decide +kernel
theorem dX7_statement_104 : decode cX7_statement 104 = .ok (.bipush 59, 2) := by decide +kernel
theorem dX7_statement_106 : decode cX7_statement 106 = .ok (.invokevirtual 186, 3) := by decide +kernel
theorem dX7_statement_109 : decode cX7_statement 109 = .ok (.ireturn, 1) := by decide +kernel
theorem dX7_codeAt_0 : decode cX7_codeAt 0 = .ok (.lconst 0, 1) := by decide +kernel
theorem dX7_codeAt_1 : decode cX7_codeAt 1 = .ok (.lstore_n 3, 1) := by decide +kernel
theorem dX7_codeAt_2 : decode cX7_codeAt 2 = .ok (.iload_n 1, 1) := by decide +kernel
theorem dX7_codeAt_3 : decode cX7_codeAt 3 = .ok (.istore 5, 2) := by decide +kernel
theorem dX7_codeAt_5 : decode cX7_codeAt 5 = .ok (.iload 5, 2) := by decide +kernel
theorem dX7_codeAt_7 : decode cX7_codeAt 7 = .ok (.iload_n 1, 1) := by decide +kernel
theorem dX7_codeAt_8 : decode cX7_codeAt 8 = .ok (.iload_n 2, 1) := by decide +kernel
theorem dX7_codeAt_9 : decode cX7_codeAt 9 = .ok (.iadd, 1) := by decide +kernel
theorem dX7_codeAt_10 : decode cX7_codeAt 10 = .ok (.if_icmp .ge 30, 3) := by decide +kernel
theorem dX7_codeAt_13 : decode cX7_codeAt 13 = .ok (.ldc2_w 193, 3) := by decide +kernel
theorem dX7_codeAt_16 : decode cX7_codeAt 16 = .ok (.lload_n 3, 1) := by decide +kernel
theorem dX7_codeAt_17 : decode cX7_codeAt 17 = .ok (.lmul, 1) := by decide +kernel
theorem dX7_codeAt_18 : decode cX7_codeAt 18 = .ok (.aload_n 0, 1) := by decide +kernel
theorem dX7_codeAt_19 : decode cX7_codeAt 19 = .ok (.getfield 49, 3) := by decide +kernel
theorem dX7_codeAt_22 : decode cX7_codeAt 22 = .ok (.iload 5, 2) := by decide +kernel
theorem dX7_codeAt_24 : decode cX7_codeAt 24 = .ok (.iaload, 1) := by decide +kernel
theorem dX7_codeAt_25 : decode cX7_codeAt 25 = .ok (.i2l, 1) := by decide +kernel
theorem dX7_codeAt_26 : decode cX7_codeAt 26 = .ok (.ladd, 1) := by decide +kernel
theorem dX7_codeAt_27 : decode cX7_codeAt 27 = .ok (.ldc2_w 195, 3) := by decide +kernel
theorem dX7_codeAt_30 : decode cX7_codeAt 30 = .ok (.lsub, 1) := by decide +kernel
theorem dX7_codeAt_31 : decode cX7_codeAt 31 = .ok (.lconst 1, 1) := by decide +kernel
theorem dX7_codeAt_32 : decode cX7_codeAt 32 = .ok (.ladd, 1) := by decide +kernel
theorem dX7_codeAt_33 : decode cX7_codeAt 33 = .ok (.lstore_n 3, 1) := by decide +kernel
theorem dX7_codeAt_34 : decode cX7_codeAt 34 = .ok (.iinc 5 1, 3) := by decide +kernel
theorem dX7_codeAt_37 : decode cX7_codeAt 37 = .ok (.goto (-32), 3) := by decide +kernel
theorem dX7_codeAt_40 : decode cX7_codeAt 40 = .ok (.lload_n 3, 1) := by decide +kernel
theorem dX7_codeAt_41 : decode cX7_codeAt 41 = .ok (.lreturn, 1) := by decide +kernel
theorem dX7_isNumber_0 : decode cX7_isNumber 0 = .ok (.iload_n 2, 1) := by decide +kernel
theorem dX7_isNumber_1 : decode cX7_isNumber 1 = .ok (.aload_n 0, 1) := by decide +kernel
theorem dX7_isNumber_2 : decode cX7_isNumber 2 = .ok (.getfield 58, 3) := by decide +kernel
theorem dX7_isNumber_5 : decode cX7_isNumber 5 = .ok (.iload_n 1, 1) := by decide +kernel
theorem dX7_isNumber_6 : decode cX7_isNumber 6 = .ok (.iaload, 1) := by decide +kernel
theorem dX7_isNumber_7 : decode cX7_isNumber 7 = .ok (.if_icmp .ge 27, 3) := by decide +kernel
theorem dX7_isNumber_10 : decode cX7_isNumber 10 = .ok (.aload_n 0, 1) := by decide +kernel
theorem dX7_isNumber_11 : decode cX7_isNumber 11 = .ok (.getfield 49, 3) := by decide +kernel
theorem dX7_isNumber_14 : decode cX7_isNumber 14 = .ok (.aload_n 0, 1) := by decide +kernel
theorem dX7_isNumber_15 : decode cX7_isNumber 15 = .ok (.getfield 61, 3) := by decide +kernel
theorem dX7_isNumber_18 : decode cX7_isNumber 18 = .ok (.iconst 3, 1) := by decide +kernel
theorem dX7_isNumber_19 : decode cX7_isNumber 19 = .ok (.iload_n 1, 1) := by decide +kernel
theorem dX7_isNumber_20 : decode cX7_isNumber 20 = .ok (.imul, 1) := by decide +kernel
theorem dX7_isNumber_21 : decode cX7_isNumber 21 = .ok (.iload_n 2, 1) := by decide +kernel
theorem dX7_isNumber_22 : decode cX7_isNumber 22 = .ok (.iadd, 1) := by decide +kernel
theorem dX7_isNumber_23 : decode cX7_isNumber 23 = .ok (.iaload, 1) := by decide +kernel
theorem dX7_isNumber_24 : decode cX7_isNumber 24 = .ok (.iaload, 1) := by decide +kernel
theorem dX7_isNumber_25 : decode cX7_isNumber 25 = .ok (.bipush 57, 2) := by decide +kernel
theorem dX7_isNumber_27 : decode cX7_isNumber 27 = .ok (.if_icmp .gt 7, 3) := by decide +kernel
theorem dX7_isNumber_30 : decode cX7_isNumber 30 = .ok (.iconst 1, 1) := by decide +kernel
theorem dX7_isNumber_31 : decode cX7_isNumber 31 = .ok (.goto 4, 3) := by decide +kernel
theorem dX7_isNumber_34 : decode cX7_isNumber 34 = .ok (.iconst 0, 1) := by decide +kernel
theorem dX7_isNumber_35 : decode cX7_isNumber 35 = .ok (.ireturn, 1) := by decide +kernel
theorem dX7_areLetters_0 : decode cX7_areLetters 0 = .ok (.iload_n 2, 1) := by decide +kernel
theorem dX7_areLetters_1 : decode cX7_areLetters 1 = .ok (.aload_n 0, 1) := by decide +kernel
theorem dX7_areLetters_2 : decode cX7_areLetters 2 = .ok (.getfield 58, 3) := by decide +kernel
theorem dX7_areLetters_5 : decode cX7_areLetters 5 = .ok (.iload_n 1, 1) := by decide +kernel
theorem dX7_areLetters_6 : decode cX7_areLetters 6 = .ok (.iaload, 1) := by decide +kernel
theorem dX7_areLetters_7 : decode cX7_areLetters 7 = .ok (.if_icmp .ge 27, 3) := by decide +kernel
theorem dX7_areLetters_10 : decode cX7_areLetters 10 = .ok (.aload_n 0, 1) := by decide +kernel
theorem dX7_areLetters_11 : decode cX7_areLetters 11 = .ok (.getfield 49, 3) := by decide +kernel
theorem dX7_areLetters_14 : decode cX7_areLetters 14 = .ok (.aload_n 0, 1) := by decide +kernel
theorem dX7_areLetters_15 : decode cX7_areLetters 15 = .ok (.getfield 61, 3) := by decide +kernel
theorem dX7_areLetters_18 : decode cX7_areLetters 18 = .ok (.iconst 3, 1) := by decide +kernel
theorem dX7_areLetters_19 : decode cX7_areLetters 19 = .ok (.iload_n 1, 1) := by decide +kernel
theorem dX7_areLetters_20 : decode cX7_areLetters 20 = .ok (.imul, 1) := by decide +kernel
theorem dX7_areLetters_21 : decode cX7_areLetters 21 = .ok (.iload_n 2, 1) := by decide +kernel
theorem dX7_areLetters_22 : decode cX7_areLetters 22 = .ok (.iadd, 1) := by decide +kernel
theorem dX7_areLetters_23 : decode cX7_areLetters 23 = .ok (.iaload, 1) := by decide +kernel
theorem dX7_areLetters_24 : decode cX7_areLetters 24 = .ok (.iaload, 1) := by decide +kernel
theorem dX7_areLetters_25 : decode cX7_areLetters 25 = .ok (.bipush 57, 2) := by decide +kernel
theorem dX7_areLetters_27 : decode cX7_areLetters 27 = .ok (.if_icmp .le 7, 3) := by decide +kernel
theorem dX7_areLetters_30 : decode cX7_areLetters 30 = .ok (.iconst 1, 1) := by decide +kernel
theorem dX7_areLetters_31 : decode cX7_areLetters 31 = .ok (.goto 4, 3) := by decide +kernel
theorem dX7_areLetters_34 : decode cX7_areLetters 34 = .ok (.iconst 0, 1) := by decide +kernel
theorem dX7_areLetters_35 : decode cX7_areLetters 35 = .ok (.ireturn, 1) := by decide +kernel
theorem dX7_numberOf_0 : decode cX7_numberOf 0 = .ok (.aload_n 0, 1) := by decide +kernel
theorem dX7_numberOf_1 : decode cX7_numberOf 1 = .ok (.iload_n 1, 1) := by decide +kernel
theorem dX7_numberOf_2 : decode cX7_numberOf 2 = .ok (.iload_n 2, 1) := by decide +kernel
theorem dX7_numberOf_3 : decode cX7_numberOf 3 = .ok (.invokevirtual 197, 3) := by decide +kernel
theorem dX7_numberOf_6 : decode cX7_numberOf 6 = .ok (.ifCond .ne 6, 3) := by decide +kernel
theorem dX7_numberOf_9 : decode cX7_numberOf 9 = .ok (.bipush (-9), 2) := by decide +kernel
theorem dX7_numberOf_11 : decode cX7_numberOf 11 = .ok (.ireturn, 1) := by decide +kernel
theorem dX7_numberOf_12 : decode cX7_numberOf 12 = .ok (.aload_n 0, 1) := by decide +kernel
theorem dX7_numberOf_13 : decode cX7_numberOf 13 = .ok (.getfield 61, 3) := by decide +kernel
theorem dX7_numberOf_16 : decode cX7_numberOf 16 = .ok (.iconst 3, 1) := by decide +kernel
theorem dX7_numberOf_17 : decode cX7_numberOf 17 = .ok (.iload_n 1, 1) := by decide +kernel
theorem dX7_numberOf_18 : decode cX7_numberOf 18 = .ok (.imul, 1) := by decide +kernel
theorem dX7_numberOf_19 : decode cX7_numberOf 19 = .ok (.iload_n 2, 1) := by decide +kernel
theorem dX7_numberOf_20 : decode cX7_numberOf 20 = .ok (.iadd, 1) := by decide +kernel
theorem dX7_numberOf_21 : decode cX7_numberOf 21 = .ok (.iaload, 1) := by decide +kernel
theorem dX7_numberOf_22 : decode cX7_numberOf 22 = .ok (.istore_n 3, 1) := by decide +kernel
theorem dX7_numberOf_23 : decode cX7_numberOf 23 = .ok (.aload_n 0, 1) := by decide +kernel
theorem dX7_numberOf_24 : decode cX7_numberOf 24 = .ok (.getfield 49, 3) := by decide +kernel
theorem dX7_numberOf_27 : decode cX7_numberOf 27 = .ok (.iload_n 3, 1) := by decide +kernel
theorem dX7_numberOf_28 : decode cX7_numberOf 28 = .ok (.iaload, 1) := by decide +kernel
theorem dX7_numberOf_29 : decode cX7_numberOf 29 = .ok (.bipush 48, 2) := by decide +kernel
theorem dX7_numberOf_31 : decode cX7_numberOf 31 = .ok (.isub, 1) := by decide +kernel
theorem dX7_numberOf_32 : decode cX7_numberOf 32 = .ok (.istore 4, 2) := by decide +kernel
theorem dX7_numberOf_34 : decode cX7_numberOf 34 = .ok (.aload_n 0, 1) := by decide +kernel
theorem dX7_numberOf_35 : decode cX7_numberOf 35 = .ok (.getfield 64, 3) := by decide +kernel
theorem dX7_numberOf_38 : decode cX7_numberOf 38 = .ok (.iconst 3, 1) := by decide +kernel
theorem dX7_numberOf_39 : decode cX7_numberOf 39 = .ok (.iload_n 1, 1) := by decide +kernel
theorem dX7_numberOf_40 : decode cX7_numberOf 40 = .ok (.imul, 1) := by decide +kernel
theorem dX7_numberOf_41 : decode cX7_numberOf 41 = .ok (.iload_n 2, 1) := by decide +kernel
theorem dX7_numberOf_42 : decode cX7_numberOf 42 = .ok (.iadd, 1) := by decide +kernel
theorem dX7_numberOf_43 : decode cX7_numberOf 43 = .ok (.iaload, 1) := by decide +kernel
theorem dX7_numberOf_44 : decode cX7_numberOf 44 = .ok (.iconst 1, 1) := by decide +kernel
theorem dX7_numberOf_45 : decode cX7_numberOf 45 = .ok (.if_icmp .ne 8, 3) := by decide +kernel
theorem dX7_numberOf_48 : decode cX7_numberOf 48 = .ok (.iload 4, 2) := by decide +kernel
theorem dX7_numberOf_50 : decode cX7_numberOf 50 = .ok (.goto 20, 3) := by decide +kernel
theorem dX7_numberOf_53 : decode cX7_numberOf 53 = .ok (.bipush 10, 2) := by decide +kernel
theorem dX7_numberOf_55 : decode cX7_numberOf 55 = .ok (.iload 4, 2) := by decide +kernel
theorem dX7_numberOf_57 : decode cX7_numberOf 57 = .ok (.imul, 1) := by decide +kernel
theorem dX7_numberOf_58 : decode cX7_numberOf 58 = .ok (.aload_n 0, 1) := by decide +kernel
theorem dX7_numberOf_59 : decode cX7_numberOf 59 = .ok (.getfield 49, 3) := by decide +kernel
theorem dX7_numberOf_62 : decode cX7_numberOf 62 = .ok (.iload_n 3, 1) := by decide +kernel
theorem dX7_numberOf_63 : decode cX7_numberOf 63 = .ok (.iconst 1, 1) := by decide +kernel
theorem dX7_numberOf_64 : decode cX7_numberOf 64 = .ok (.iadd, 1) := by decide +kernel
theorem dX7_numberOf_65 : decode cX7_numberOf 65 = .ok (.iaload, 1) := by decide +kernel
theorem dX7_numberOf_66 : decode cX7_numberOf 66 = .ok (.iadd, 1) := by decide +kernel
theorem dX7_numberOf_67 : decode cX7_numberOf 67 = .ok (.bipush 48, 2) := by decide +kernel
theorem dX7_numberOf_69 : decode cX7_numberOf 69 = .ok (.isub, 1) := by decide +kernel
theorem dX7_numberOf_70 : decode cX7_numberOf 70 = .ok (.ireturn, 1) := by decide +kernel
theorem dX7_wordOf_0 : decode cX7_wordOf 0 = .ok (.aload_n 0, 1) := by decide +kernel
theorem dX7_wordOf_1 : decode cX7_wordOf 1 = .ok (.iload_n 1, 1) := by decide +kernel
theorem dX7_wordOf_2 : decode cX7_wordOf 2 = .ok (.iload_n 2, 1) := by decide +kernel
theorem dX7_wordOf_3 : decode cX7_wordOf 3 = .ok (.invokevirtual 200, 3) := by decide +kernel
theorem dX7_wordOf_6 : decode cX7_wordOf 6 = .ok (.ifCond .eq 30, 3) := by decide +kernel
theorem dX7_wordOf_9 : decode cX7_wordOf 9 = .ok (.aload_n 0, 1) := by decide +kernel
theorem dX7_wordOf_10 : decode cX7_wordOf 10 = .ok (.aload_n 0, 1) := by decide +kernel
theorem dX7_wordOf_11 : decode cX7_wordOf 11 = .ok (.getfield 61, 3) := by decide +kernel
theorem dX7_wordOf_14 : decode cX7_wordOf 14 = .ok (.iconst 3, 1) := by decide +kernel
theorem dX7_wordOf_15 : decode cX7_wordOf 15 = .ok (.iload_n 1, 1) := by decide +kernel
theorem dX7_wordOf_16 : decode cX7_wordOf 16 = .ok (.imul, 1) := by decide +kernel
theorem dX7_wordOf_17 : decode cX7_wordOf 17 = .ok (.iload_n 2, 1) := by decide +kernel
theorem dX7_wordOf_18 : decode cX7_wordOf 18 = .ok (.iadd, 1) := by decide +kernel
theorem dX7_wordOf_19 : decode cX7_wordOf 19 = .ok (.iaload, 1) := by decide +kernel
theorem dX7_wordOf_20 : decode cX7_wordOf 20 = .ok (.aload_n 0, 1) := by decide +kernel
theorem dX7_wordOf_21 : decode cX7_wordOf 21 = .ok (.getfield 64, 3) := by decide +kernel
theorem dX7_wordOf_24 : decode cX7_wordOf 24 = .ok (.iconst 3, 1) := by decide +kernel
theorem dX7_wordOf_25 : decode cX7_wordOf 25 = .ok (.iload_n 1, 1) := by decide +kernel
theorem dX7_wordOf_26 : decode cX7_wordOf 26 = .ok (.imul, 1) := by decide +kernel
theorem dX7_wordOf_27 : decode cX7_wordOf 27 = .ok (.iload_n 2, 1) := by decide +kernel
theorem dX7_wordOf_28 : decode cX7_wordOf 28 = .ok (.iadd, 1) := by decide +kernel
theorem dX7_wordOf_29 : decode cX7_wordOf 29 = .ok (.iaload, 1) := by decide +kernel
theorem dX7_wordOf_30 : decode cX7_wordOf 30 = .ok (.invokevirtual 203, 3) := by decide +kernel
theorem dX7_wordOf_33 : decode cX7_wordOf 33 = .ok (.goto 4, 3) := by decide +kernel
theorem dX7_wordOf_36 : decode cX7_wordOf 36 = .ok (.lconst 0, 1) := by decide +kernel
theorem dX7_wordOf_37 : decode cX7_wordOf 37 = .ok (.lreturn, 1) := by decide +kernel
theorem dX7_kindSaid_0 : decode cX7_kindSaid 0 = .ok (.lload_n 0, 1) := by decide +kernel
theorem dX7_kindSaid_1 : decode cX7_kindSaid 1 = .ok (.ldc2_w 207, 3) := by decide +kernel
theorem dX7_kindSaid_4 : decode cX7_kindSaid 4 = .ok (.lcmp, 1) := by decide +kernel
theorem dX7_kindSaid_5 : decode cX7_kindSaid 5 = .ok (.ifCond .ne 5, 3) := by decide +kernel
theorem dX7_kindSaid_8 : decode cX7_kindSaid 8 = .ok (.iconst 0, 1) := by decide +kernel
theorem dX7_kindSaid_9 : decode cX7_kindSaid 9 = .ok (.ireturn, 1) := by decide +kernel
theorem dX7_kindSaid_10 : decode cX7_kindSaid 10 = .ok (.lload_n 0, 1) := by decide +kernel
theorem dX7_kindSaid_11 : decode cX7_kindSaid 11 = .ok (.ldc2_w 209, 3) := by decide +kernel
theorem dX7_kindSaid_14 : decode cX7_kindSaid 14 = .ok (.lcmp, 1) := by decide +kernel
theorem dX7_kindSaid_15 : decode cX7_kindSaid 15 = .ok (.ifCond .ne 5, 3) := by decide +kernel
theorem dX7_kindSaid_18 : decode cX7_kindSaid 18 = .ok (.iconst 1, 1) := by decide +kernel
theorem dX7_kindSaid_19 : decode cX7_kindSaid 19 = .ok (.ireturn, 1) := by decide +kernel
theorem dX7_kindSaid_20 : decode cX7_kindSaid 20 = .ok (.lload_n 0, 1) := by decide +kernel
theorem dX7_kindSaid_21 : decode cX7_kindSaid 21 = .ok (.ldc2_w 211, 3) := by decide +kernel
theorem dX7_kindSaid_24 : decode cX7_kindSaid 24 = .ok (.lcmp, 1) := by decide +kernel
theorem dX7_kindSaid_25 : decode cX7_kindSaid 25 = .ok (.ifCond .ne 5, 3) := by decide +kernel
theorem dX7_kindSaid_28 : decode cX7_kindSaid 28 = .ok (.iconst 2, 1) := by decide +kernel
theorem dX7_kindSaid_29 : decode cX7_kindSaid 29 = .ok (.ireturn, 1) := by decide +kernel
theorem dX7_kindSaid_30 : decode cX7_kindSaid 30 = .ok (.lload_n 0, 1) := by decide +kernel
theorem dX7_kindSaid_31 : decode cX7_kindSaid 31 = .ok (.ldc2_w 213, 3) := by decide +kernel
theorem dX7_kindSaid_34 : decode cX7_kindSaid 34 = .ok (.lcmp, 1) := by decide +kernel
theorem dX7_kindSaid_35 : decode cX7_kindSaid 35 = .ok (.ifCond .ne 5, 3) := by decide +kernel
theorem dX7_kindSaid_38 : decode cX7_kindSaid 38 = .ok (.iconst 3, 1) := by decide +kernel
theorem dX7_kindSaid_39 : decode cX7_kindSaid 39 = .ok (.ireturn, 1) := by decide +kernel
theorem dX7_kindSaid_40 : decode cX7_kindSaid 40 = .ok (.lload_n 0, 1) := by decide +kernel
theorem dX7_kindSaid_41 : decode cX7_kindSaid 41 = .ok (.ldc2_w 215, 3) := by decide +kernel
theorem dX7_kindSaid_44 : decode cX7_kindSaid 44 = .ok (.lcmp, 1) := by decide +kernel
theorem dX7_kindSaid_45 : decode cX7_kindSaid 45 = .ok (.ifCond .ne 5, 3) := by decide +kernel
theorem dX7_kindSaid_48 : decode cX7_kindSaid 48 = .ok (.iconst 4, 1) := by decide +kernel
theorem dX7_kindSaid_49 : decode cX7_kindSaid 49 = .ok (.ireturn, 1) := by decide +kernel
theorem dX7_kindSaid_50 : decode cX7_kindSaid 50 = .ok (.lload_n 0, 1) := by decide +kernel
theorem dX7_kindSaid_51 : decode cX7_kindSaid 51 = .ok (.ldc2_w 217, 3) := by decide +kernel
theorem dX7_kindSaid_54 : decode cX7_kindSaid 54 = .ok (.lcmp, 1) := by decide +kernel
theorem dX7_kindSaid_55 : decode cX7_kindSaid 55 = .ok (.ifCond .ne 5, 3) := by decide +kernel
theorem dX7_kindSaid_58 : decode cX7_kindSaid 58 = .ok (.iconst 5, 1) := by decide +kernel
theorem dX7_kindSaid_59 : decode cX7_kindSaid 59 = .ok (.ireturn, 1) := by decide +kernel
theorem dX7_kindSaid_60 : decode cX7_kindSaid 60 = .ok (.lload_n 0, 1) := by decide +kernel
theorem dX7_kindSaid_61 : decode cX7_kindSaid 61 = .ok (.ldc2_w 219, 3) := by decide +kernel
theorem dX7_kindSaid_64 : decode cX7_kindSaid 64 = .ok (.lcmp, 1) := by decide +kernel
theorem dX7_kindSaid_65 : decode cX7_kindSaid 65 = .ok (.ifCond .ne 6, 3) := by decide +kernel
theorem dX7_kindSaid_68 : decode cX7_kindSaid 68 = .ok (.bipush 6, 2) := by decide +kernel
theorem dX7_kindSaid_70 : decode cX7_kindSaid 70 = .ok (.ireturn, 1) := by decide +kernel
theorem dX7_kindSaid_71 : decode cX7_kindSaid 71 = .ok (.lload_n 0, 1) := by decide +kernel
theorem dX7_kindSaid_72 : decode cX7_kindSaid 72 = .ok (.ldc2_w 221, 3) := by decide +kernel
theorem dX7_kindSaid_75 : decode cX7_kindSaid 75 = .ok (.lcmp, 1) := by decide +kernel
theorem dX7_kindSaid_76 : decode cX7_kindSaid 76 = .ok (.ifCond .ne 8, 3) := by decide +kernel
theorem dX7_kindSaid_79 : decode cX7_kindSaid 79 = .ok (.bipush 7, 2) := by decide +kernel
theorem dX7_kindSaid_81 : decode cX7_kindSaid 81 = .ok (.goto 5, 3) := by decide +kernel
theorem dX7_kindSaid_84 : decode cX7_kindSaid 84 = .ok (.bipush (-9), 2) := by decide +kernel
theorem dX7_kindSaid_86 : decode cX7_kindSaid 86 = .ok (.ireturn, 1) := by decide +kernel
theorem dX7_doesSaid_0 : decode cX7_doesSaid 0 = .ok (.lload_n 0, 1) := by decide +kernel
theorem dX7_doesSaid_1 : decode cX7_doesSaid 1 = .ok (.ldc2_w 223, 3) := by decide +kernel
theorem dX7_doesSaid_4 : decode cX7_doesSaid 4 = .ok (.lcmp, 1) := by decide +kernel
theorem dX7_doesSaid_5 : decode cX7_doesSaid 5 = .ok (.ifCond .ne 5, 3) := by decide +kernel
theorem dX7_doesSaid_8 : decode cX7_doesSaid 8 = .ok (.iconst 0, 1) := by decide +kernel
theorem dX7_doesSaid_9 : decode cX7_doesSaid 9 = .ok (.ireturn, 1) := by decide +kernel
theorem dX7_doesSaid_10 : decode cX7_doesSaid 10 = .ok (.lload_n 0, 1) := by decide +kernel
theorem dX7_doesSaid_11 : decode cX7_doesSaid 11 = .ok (.ldc2_w 225, 3) := by decide +kernel
theorem dX7_doesSaid_14 : decode cX7_doesSaid 14 = .ok (.lcmp, 1) := by decide +kernel
theorem dX7_doesSaid_15 : decode cX7_doesSaid 15 = .ok (.ifCond .ne 5, 3) := by decide +kernel
theorem dX7_doesSaid_18 : decode cX7_doesSaid 18 = .ok (.iconst 1, 1) := by decide +kernel
theorem dX7_doesSaid_19 : decode cX7_doesSaid 19 = .ok (.ireturn, 1) := by decide +kernel
theorem dX7_doesSaid_20 : decode cX7_doesSaid 20 = .ok (.lload_n 0, 1) := by decide +kernel
theorem dX7_doesSaid_21 : decode cX7_doesSaid 21 = .ok (.ldc2_w 227, 3) := by decide +kernel
theorem dX7_doesSaid_24 : decode cX7_doesSaid 24 = .ok (.lcmp, 1) := by decide +kernel
theorem dX7_doesSaid_25 : decode cX7_doesSaid 25 = .ok (.ifCond .ne 5, 3) := by decide +kernel
theorem dX7_doesSaid_28 : decode cX7_doesSaid 28 = .ok (.iconst 2, 1) := by decide +kernel
theorem dX7_doesSaid_29 : decode cX7_doesSaid 29 = .ok (.ireturn, 1) := by decide +kernel
theorem dX7_doesSaid_30 : decode cX7_doesSaid 30 = .ok (.lload_n 0, 1) := by decide +kernel
theorem dX7_doesSaid_31 : decode cX7_doesSaid 31 = .ok (.ldc2_w 229, 3) := by decide +kernel
theorem dX7_doesSaid_34 : decode cX7_doesSaid 34 = .ok (.lcmp, 1) := by decide +kernel
theorem dX7_doesSaid_35 : decode cX7_doesSaid 35 = .ok (.ifCond .ne 5, 3) := by decide +kernel
theorem dX7_doesSaid_38 : decode cX7_doesSaid 38 = .ok (.iconst 3, 1) := by decide +kernel
theorem dX7_doesSaid_39 : decode cX7_doesSaid 39 = .ok (.ireturn, 1) := by decide +kernel
theorem dX7_doesSaid_40 : decode cX7_doesSaid 40 = .ok (.lload_n 0, 1) := by decide +kernel
theorem dX7_doesSaid_41 : decode cX7_doesSaid 41 = .ok (.ldc2_w 231, 3) := by decide +kernel
theorem dX7_doesSaid_44 : decode cX7_doesSaid 44 = .ok (.lcmp, 1) := by decide +kernel
theorem dX7_doesSaid_45 : decode cX7_doesSaid 45 = .ok (.ifCond .ne 7, 3) := by decide +kernel
theorem dX7_doesSaid_48 : decode cX7_doesSaid 48 = .ok (.iconst 4, 1) := by decide +kernel
theorem dX7_doesSaid_49 : decode cX7_doesSaid 49 = .ok (.goto 5, 3) := by decide +kernel
theorem dX7_doesSaid_52 : decode cX7_doesSaid 52 = .ok (.bipush (-9), 2) := by decide +kernel
theorem dX7_doesSaid_54 : decode cX7_doesSaid 54 = .ok (.ireturn, 1) := by decide +kernel
theorem dX7_faceSaid_0 : decode cX7_faceSaid 0 = .ok (.lload_n 0, 1) := by decide +kernel
theorem dX7_faceSaid_1 : decode cX7_faceSaid 1 = .ok (.ldc2_w 233, 3) := by decide +kernel
theorem dX7_faceSaid_4 : decode cX7_faceSaid 4 = .ok (.lcmp, 1) := by decide +kernel
theorem dX7_faceSaid_5 : decode cX7_faceSaid 5 = .ok (.ifCond .ne 7, 3) := by decide +kernel
theorem dX7_faceSaid_8 : decode cX7_faceSaid 8 = .ok (.iconst 0, 1) := by decide +kernel
theorem dX7_faceSaid_9 : decode cX7_faceSaid 9 = .ok (.goto 41, 3) := by decide +kernel
theorem dX7_faceSaid_12 : decode cX7_faceSaid 12 = .ok (.lload_n 0, 1) := by decide +kernel
theorem dX7_faceSaid_13 : decode cX7_faceSaid 13 = .ok (.ldc2_w 235, 3) := by decide +kernel
theorem dX7_faceSaid_16 : decode cX7_faceSaid 16 = .ok (.lcmp, 1) := by decide +kernel
theorem dX7_faceSaid_17 : decode cX7_faceSaid 17 = .ok (.ifCond .ne 7, 3) := by decide +kernel
theorem dX7_faceSaid_20 : decode cX7_faceSaid 20 = .ok (.iconst 1, 1) := by decide +kernel
theorem dX7_faceSaid_21 : decode cX7_faceSaid 21 = .ok (.goto 29, 3) := by decide +kernel
theorem dX7_faceSaid_24 : decode cX7_faceSaid 24 = .ok (.lload_n 0, 1) := by decide +kernel
theorem dX7_faceSaid_25 : decode cX7_faceSaid 25 = .ok (.ldc2_w 237, 3) := by decide +kernel
theorem dX7_faceSaid_28 : decode cX7_faceSaid 28 = .ok (.lcmp, 1) := by decide +kernel
theorem dX7_faceSaid_29 : decode cX7_faceSaid 29 = .ok (.ifCond .ne 7, 3) := by decide +kernel
theorem dX7_faceSaid_32 : decode cX7_faceSaid 32 = .ok (.iconst 2, 1) := by decide +kernel
theorem dX7_faceSaid_33 : decode cX7_faceSaid 33 = .ok (.goto 17, 3) := by decide +kernel
theorem dX7_faceSaid_36 : decode cX7_faceSaid 36 = .ok (.lload_n 0, 1) := by decide +kernel
theorem dX7_faceSaid_37 : decode cX7_faceSaid 37 = .ok (.ldc2_w 239, 3) := by decide +kernel
theorem dX7_faceSaid_40 : decode cX7_faceSaid 40 = .ok (.lcmp, 1) := by decide +kernel
theorem dX7_faceSaid_41 : decode cX7_faceSaid 41 = .ok (.ifCond .ne 7, 3) := by decide +kernel
theorem dX7_faceSaid_44 : decode cX7_faceSaid 44 = .ok (.iconst 3, 1) := by decide +kernel
theorem dX7_faceSaid_45 : decode cX7_faceSaid 45 = .ok (.goto 5, 3) := by decide +kernel
theorem dX7_faceSaid_48 : decode cX7_faceSaid 48 = .ok (.bipush (-9), 2) := by decide +kernel
theorem dX7_faceSaid_50 : decode cX7_faceSaid 50 = .ok (.ireturn, 1) := by decide +kernel
theorem dX7_isMore_0 : decode cX7_isMore 0 = .ok (.aload_n 0, 1) := by decide +kernel
theorem dX7_isMore_1 : decode cX7_isMore 1 = .ok (.getfield 22, 3) := by decide +kernel
theorem dX7_isMore_4 : decode cX7_isMore 4 = .ok (.aload_n 0, 1) := by decide +kernel
theorem dX7_isMore_5 : decode cX7_isMore 5 = .ok (.getfield 79, 3) := by decide +kernel
theorem dX7_isMore_8 : decode cX7_isMore 8 = .ok (.iload_n 1, 1) := by decide +kernel
theorem dX7_isMore_9 : decode cX7_isMore 9 = .ok (.iastore, 1) := by decide +kernel
theorem dX7_isMore_10 : decode cX7_isMore 10 = .ok (.aload_n 0, 1) := by decide +kernel
theorem dX7_isMore_11 : decode cX7_isMore 11 = .ok (.getfield 25, 3) := by decide +kernel
theorem dX7_isMore_14 : decode cX7_isMore 14 = .ok (.aload_n 0, 1) := by decide +kernel
theorem dX7_isMore_15 : decode cX7_isMore 15 = .ok (.getfield 79, 3) := by decide +kernel
theorem dX7_isMore_18 : decode cX7_isMore 18 = .ok (.iload_n 2, 1) := by decide +kernel
theorem dX7_isMore_19 : decode cX7_isMore 19 = .ok (.iastore, 1) := by decide +kernel
theorem dX7_isMore_20 : decode cX7_isMore 20 = .ok (.aload_n 0, 1) := by decide +kernel
theorem dX7_isMore_21 : decode cX7_isMore 21 = .ok (.getfield 28, 3) := by decide +kernel
theorem dX7_isMore_24 : decode cX7_isMore 24 = .ok (.aload_n 0, 1) := by decide +kernel
theorem dX7_isMore_25 : decode cX7_isMore 25 = .ok (.getfield 79, 3) := by decide +kernel
theorem dX7_isMore_28 : decode cX7_isMore 28 = .ok (.iload_n 3, 1) := by decide +kernel
theorem dX7_isMore_29 : decode cX7_isMore 29 = .ok (.iastore, 1) := by decide +kernel
theorem dX7_isMore_30 : decode cX7_isMore 30 = .ok (.aload_n 0, 1) := by decide +kernel
theorem dX7_isMore_31 : decode cX7_isMore 31 = .ok (.getfield 31, 3) := by decide +kernel
theorem dX7_isMore_34 : decode cX7_isMore 34 = .ok (.aload_n 0, 1) := by decide +kernel
theorem dX7_isMore_35 : decode cX7_isMore 35 = .ok (.getfield 79, 3) := by decide +kernel
theorem dX7_isMore_38 : decode cX7_isMore 38 = .ok (.iconst 0, 1) := by decide +kernel
theorem dX7_isMore_39 : decode cX7_isMore 39 = .ok (.iastore, 1) := by decide +kernel
theorem dX7_isMore_40 : decode cX7_isMore 40 = .ok (.aload_n 0, 1) := by decide +kernel
theorem dX7_isMore_41 : decode cX7_isMore 41 = .ok (.getfield 34, 3) := by decide +kernel
theorem dX7_isMore_44 : decode cX7_isMore 44 = .ok (.aload_n 0, 1) := by decide +kernel
theorem dX7_isMore_45 : decode cX7_isMore 45 = .ok (.getfield 79, 3) := by decide +kernel
theorem dX7_isMore_48 : decode cX7_isMore 48 = .ok (.iconst 0, 1) := by decide +kernel
theorem dX7_isMore_49 : decode cX7_isMore 49 = .ok (.iastore, 1) := by decide +kernel
theorem dX7_isMore_50 : decode cX7_isMore 50 = .ok (.aload_n 0, 1) := by decide +kernel
theorem dX7_isMore_51 : decode cX7_isMore 51 = .ok (.getfield 37, 3) := by decide +kernel
theorem dX7_isMore_54 : decode cX7_isMore 54 = .ok (.aload_n 0, 1) := by decide +kernel
theorem dX7_isMore_55 : decode cX7_isMore 55 = .ok (.getfield 79, 3) := by decide +kernel
theorem dX7_isMore_58 : decode cX7_isMore 58 = .ok (.iconst 0, 1) := by decide +kernel
theorem dX7_isMore_59 : decode cX7_isMore 59 = .ok (.iastore, 1) := by decide +kernel
theorem dX7_isMore_60 : decode cX7_isMore 60 = .ok (.aload_n 0, 1) := by decide +kernel
theorem dX7_isMore_61 : decode cX7_isMore 61 = .ok (.getfield 40, 3) := by decide +kernel
theorem dX7_isMore_64 : decode cX7_isMore 64 = .ok (.aload_n 0, 1) := by decide +kernel
theorem dX7_isMore_65 : decode cX7_isMore 65 = .ok (.getfield 79, 3) := by decide +kernel
theorem dX7_isMore_68 : decode cX7_isMore 68 = .ok (.iconst 0, 1) := by decide +kernel
theorem dX7_isMore_69 : decode cX7_isMore 69 = .ok (.iastore, 1) := by decide +kernel
theorem dX7_isMore_70 : decode cX7_isMore 70 = .ok (.aload_n 0, 1) := by decide +kernel
theorem dX7_isMore_71 : decode cX7_isMore 71 = .ok (.getfield 43, 3) := by decide +kernel
theorem dX7_isMore_74 : decode cX7_isMore 74 = .ok (.aload_n 0, 1) := by decide +kernel
theorem dX7_isMore_75 : decode cX7_isMore 75 = .ok (.getfield 79, 3) := by decide +kernel
theorem dX7_isMore_78 : decode cX7_isMore 78 = .ok (.iconst 0, 1) := by decide +kernel
theorem dX7_isMore_79 : decode cX7_isMore 79 = .ok (.iastore, 1) := by decide +kernel
theorem dX7_isMore_80 : decode cX7_isMore 80 = .ok (.aload_n 0, 1) := by decide +kernel
theorem dX7_isMore_81 : decode cX7_isMore 81 = .ok (.dup, 1) := by decide +kernel
theorem dX7_isMore_82 : decode cX7_isMore 82 = .ok (.getfield 79, 3) := by decide +kernel
theorem dX7_isMore_85 : decode cX7_isMore 85 = .ok (.iconst 1, 1) := by decide +kernel
theorem dX7_isMore_86 : decode cX7_isMore 86 = .ok (.iadd, 1) := by decide +kernel
theorem dX7_isMore_87 : decode cX7_isMore 87 = .ok (.putfield 79, 3) := by decide +kernel
theorem dX7_isMore_90 : decode cX7_isMore 90 = .ok (.return_, 1) := by decide +kernel
theorem dX7_comesHead_0 : decode cX7_comesHead 0 = .ok (.aload_n 0, 1) := by decide +kernel
theorem dX7_comesHead_1 : decode cX7_comesHead 1 = .ok (.iload_n 1, 1) := by decide +kernel
theorem dX7_comesHead_2 : decode cX7_comesHead 2 = .ok (.iconst 0, 1) := by decide +kernel
theorem dX7_comesHead_3 : decode cX7_comesHead 3 = .ok (.invokevirtual 241, 3) := by decide +kernel
theorem dX7_comesHead_6 : decode cX7_comesHead 6 = .ok (.istore_n 3, 1) := by decide +kernel
theorem dX7_comesHead_7 : decode cX7_comesHead 7 = .ok (.aload_n 0, 1) := by decide +kernel
theorem dX7_comesHead_8 : decode cX7_comesHead 8 = .ok (.iload_n 1, 1) := by decide +kernel
theorem dX7_comesHead_9 : decode cX7_comesHead 9 = .ok (.iconst 2, 1) := by decide +kernel
theorem dX7_comesHead_10 : decode cX7_comesHead 10 = .ok (.invokevirtual 241, 3) := by decide +kernel
theorem dX7_comesHead_13 : decode cX7_comesHead 13 = .ok (.istore 4, 2) := by decide +kernel
theorem dX7_comesHead_15 : decode cX7_comesHead 15 = .ok (.aload_n 0, 1) := by decide +kernel
theorem dX7_comesHead_16 : decode cX7_comesHead 16 = .ok (.getfield 64, 3) := by decide +kernel
theorem dX7_comesHead_19 : decode cX7_comesHead 19 = .ok (.iconst 3, 1) := by decide +kernel
theorem dX7_comesHead_20 : decode cX7_comesHead 20 = .ok (.iload_n 1, 1) := by decide +kernel
theorem dX7_comesHead_21 : decode cX7_comesHead 21 = .ok (.imul, 1) := by decide +kernel
theorem dX7_comesHead_22 : decode cX7_comesHead 22 = .ok (.iconst 1, 1) := by decide +kernel
theorem dX7_comesHead_23 : decode cX7_comesHead 23 = .ok (.iadd, 1) := by decide +kernel
theorem dX7_comesHead_24 : decode cX7_comesHead 24 = .ok (.iaload, 1) := by decide +kernel
theorem dX7_comesHead_25 : decode cX7_comesHead 25 = .ok (.istore 5, 2) := by decide +kernel
theorem dX7_comesHead_27 : decode cX7_comesHead 27 = .ok (.aload_n 0, 1) := by decide +kernel
theorem dX7_comesHead_28 : decode cX7_comesHead 28 = .ok (.getfield 58, 3) := by decide +kernel
theorem dX7_comesHead_31 : decode cX7_comesHead 31 = .ok (.iload_n 1, 1) := by decide +kernel
theorem dX7_comesHead_32 : decode cX7_comesHead 32 = .ok (.iaload, 1) := by decide +kernel
theorem dX7_comesHead_33 : decode cX7_comesHead 33 = .ok (.iconst 3, 1) := by decide +kernel
theorem dX7_comesHead_34 : decode cX7_comesHead 34 = .ok (.if_icmp .ne 45, 3) := by decide +kernel
theorem dX7_comesHead_37 : decode cX7_comesHead 37 = .ok (.iload_n 3, 1) := by decide +kernel
theorem dX7_comesHead_38 : decode cX7_comesHead 38 = .ok (.iconst 0, 1) := by decide +kernel
theorem dX7_comesHead_39 : decode cX7_comesHead 39 = .ok (.bipush 9, 2) := by decide +kernel
theorem dX7_comesHead_41 : decode cX7_comesHead 41 = .ok (.invokestatic 85, 3) := by decide +kernel
theorem dX7_comesHead_44 : decode cX7_comesHead 44 = .ok (.ifCond .eq 35, 3) := by decide +kernel
theorem dX7_comesHead_47 : decode cX7_comesHead 47 = .ok (.aload_n 0, 1) := by decide +kernel
theorem dX7_comesHead_48 : decode cX7_comesHead 48 = .ok (.iload_n 1, 1) := by decide +kernel
theorem dX7_comesHead_49 : decode cX7_comesHead 49 = .ok (.iconst 1, 1) := by decide +kernel
theorem dX7_comesHead_50 : decode cX7_comesHead 50 = .ok (.invokevirtual 200, 3) := by decide +kernel
theorem dX7_comesHead_53 : decode cX7_comesHead 53 = .ok (.ifCond .eq 26, 3) := by decide +kernel
theorem dX7_comesHead_56 : decode cX7_comesHead 56 = .ok (.iload 5, 2) := by decide +kernel
theorem dX7_comesHead_58 : decode cX7_comesHead 58 = .ok (.bipush 6, 2) := by decide +kernel
theorem dX7_comesHead_60 : decode cX7_comesHead 60 = .ok (.if_icmp .gt 19, 3) := by decide +kernel
theorem dX7_comesHead_63 : decode cX7_comesHead 63 = .ok (.iload 4, 2) := by decide +kernel
theorem dX7_comesHead_65 : decode cX7_comesHead 65 = .ok (.invokestatic 244, 3) := by decide +kernel
theorem dX7_comesHead_68 : decode cX7_comesHead 68 = .ok (.ifCond .eq 11, 3) := by decide +kernel
theorem dX7_comesHead_71 : decode cX7_comesHead 71 = .ok (.aload_n 0, 1) := by decide +kernel
theorem dX7_comesHead_72 : decode cX7_comesHead 72 = .ok (.getfield 79, 3) := by decide +kernel
theorem dX7_comesHead_75 : decode cX7_comesHead 75 = .ok (.iconst 5, 1) := by decide +kernel
theorem dX7_comesHead_76 : decode cX7_comesHead 76 = .ok (.if_icmp .ne 5, 3) := by decide +kernel
theorem dX7_comesHead_79 : decode cX7_comesHead 79 = .ok (.iconst 0, 1) := by decide +kernel
theorem dX7_comesHead_80 : decode cX7_comesHead 80 = .ok (.ireturn, 1) := by decide +kernel
theorem dX7_comesHead_81 : decode cX7_comesHead 81 = .ok (.aload_n 0, 1) := by decide +kernel
theorem dX7_comesHead_82 : decode cX7_comesHead 82 = .ok (.iload_n 2, 1) := by decide +kernel
theorem dX7_comesHead_83 : decode cX7_comesHead 83 = .ok (.iload_n 3, 1) := by decide +kernel
theorem dX7_comesHead_84 : decode cX7_comesHead 84 = .ok (.iload 4, 2) := by decide +kernel
theorem dX7_comesHead_86 : decode cX7_comesHead 86 = .ok (.invokevirtual 247, 3) := by decide +kernel
theorem dX7_comesHead_89 : decode cX7_comesHead 89 = .ok (.iconst 0, 1) := by decide +kernel
theorem dX7_comesHead_90 : decode cX7_comesHead 90 = .ok (.istore 6, 2) := by decide +kernel
theorem dX7_comesHead_92 : decode cX7_comesHead 92 = .ok (.iload 6, 2) := by decide +kernel
theorem dX7_comesHead_94 : decode cX7_comesHead 94 = .ok (.iload 5, 2) := by decide +kernel
theorem dX7_comesHead_96 : decode cX7_comesHead 96 = .ok (.if_icmp .ge 47, 3) := by decide +kernel
theorem dX7_comesHead_99 : decode cX7_comesHead 99 = .ok (.aload_n 0, 1) := by decide +kernel
theorem dX7_comesHead_100 : decode cX7_comesHead 100 = .ok (.getfield 46, 3) := by decide +kernel
theorem dX7_comesHead_103 : decode cX7_comesHead 103 = .ok (.bipush 6, 2) := by decide +kernel
theorem dX7_comesHead_105 : decode cX7_comesHead 105 = .ok (.aload_n 0, 1) := by decide +kernel
theorem dX7_comesHead_106 : decode cX7_comesHead 106 = .ok (.getfield 79, 3) := by decide +kernel
theorem dX7_comesHead_109 : decode cX7_comesHead 109 = .ok (.iconst 1, 1) := by decide +kernel
theorem dX7_comesHead_110 : decode cX7_comesHead 110 = .ok (.isub, 1) := by decide +kernel
theorem dX7_comesHead_111 : decode cX7_comesHead 111 = .ok (.imul, 1) := by decide +kernel
theorem dX7_comesHead_112 : decode cX7_comesHead 112 = .ok (.iload 6, 2) := by decide +kernel
theorem dX7_comesHead_114 : decode cX7_comesHead 114 = .ok (.iadd, 1) := by decide +kernel
theorem dX7_comesHead_115 : decode cX7_comesHead 115 = .ok (.aload_n 0, 1) := by decide +kernel
theorem dX7_comesHead_116 : decode cX7_comesHead 116 = .ok (.getfield 49, 3) := by decide +kernel
theorem dX7_comesHead_119 : decode cX7_comesHead 119 = .ok (.aload_n 0, 1) := by decide +kernel
theorem dX7_comesHead_120 : decode cX7_comesHead 120 = .ok (.getfield 61, 3) := by decide +kernel
theorem dX7_comesHead_123 : decode cX7_comesHead 123 = .ok (.iconst 3, 1) := by decide +kernel
theorem dX7_comesHead_124 : decode cX7_comesHead 124 = .ok (.iload_n 1, 1) := by decide +kernel
theorem dX7_comesHead_125 : decode cX7_comesHead 125 = .ok (.imul, 1) := by decide +kernel
theorem dX7_comesHead_126 : decode cX7_comesHead 126 = .ok (.iconst 1, 1) := by decide +kernel
theorem dX7_comesHead_127 : decode cX7_comesHead 127 = .ok (.iadd, 1) := by decide +kernel
theorem dX7_comesHead_128 : decode cX7_comesHead 128 = .ok (.iaload, 1) := by decide +kernel
theorem dX7_comesHead_129 : decode cX7_comesHead 129 = .ok (.iload 6, 2) := by decide +kernel
theorem dX7_comesHead_131 : decode cX7_comesHead 131 = .ok (.iadd, 1) := by decide +kernel
theorem dX7_comesHead_132 : decode cX7_comesHead 132 = .ok (.iaload, 1) := by decide +kernel
theorem dX7_comesHead_133 : decode cX7_comesHead 133 = .ok (.bipush 97, 2) := by decide +kernel
theorem dX7_comesHead_135 : decode cX7_comesHead 135 = .ok (.isub, 1) := by decide +kernel
theorem dX7_comesHead_136 : decode cX7_comesHead 136 = .ok (.iastore, 1) := by decide +kernel
theorem dX7_comesHead_137 : decode cX7_comesHead 137 = .ok (.iinc 6 1, 3) := by decide +kernel
theorem dX7_comesHead_140 : decode cX7_comesHead 140 = .ok (.goto (-48), 3) := by decide +kernel
theorem dX7_comesHead_143 : decode cX7_comesHead 143 = .ok (.aload_n 0, 1) := by decide +kernel
theorem dX7_comesHead_144 : decode cX7_comesHead 144 = .ok (.getfield 43, 3) := by decide +kernel
theorem dX7_comesHead_147 : decode cX7_comesHead 147 = .ok (.aload_n 0, 1) := by decide +kernel
theorem dX7_comesHead_148 : decode cX7_comesHead 148 = .ok (.getfield 79, 3) := by decide +kernel
theorem dX7_comesHead_151 : decode cX7_comesHead 151 = .ok (.iconst 1, 1) := by decide +kernel
theorem dX7_comesHead_152 : decode cX7_comesHead 152 = .ok (.isub, 1) := by decide +kernel
theorem dX7_comesHead_153 : decode cX7_comesHead 153 = .ok (.iload 5, 2) := by decide +kernel
theorem dX7_comesHead_155 : decode cX7_comesHead 155 = .ok (.iastore, 1) := by decide +kernel
theorem dX7_comesHead_156 : decode cX7_comesHead 156 = .ok (.iconst 1, 1) := by decide +kernel
theorem dX7_comesHead_157 : decode cX7_comesHead 157 = .ok (.ireturn, 1) := by decide +kernel
theorem dX7_comesWall_0 : decode cX7_comesWall 0 = .ok (.aload_n 0, 1) := by decide +kernel
theorem dX7_comesWall_1 : decode cX7_comesWall 1 = .ok (.getfield 58, 3) := by decide +kernel
theorem dX7_comesWall_4 : decode cX7_comesWall 4 = .ok (.iload_n 1, 1) := by decide +kernel
theorem dX7_comesWall_5 : decode cX7_comesWall 5 = .ok (.iaload, 1) := by decide +kernel
theorem dX7_comesWall_6 : decode cX7_comesWall 6 = .ok (.iconst 2, 1) := by decide +kernel
theorem dX7_comesWall_7 : decode cX7_comesWall 7 = .ok (.if_icmp .ne 30, 3) := by decide +kernel
theorem dX7_comesWall_10 : decode cX7_comesWall 10 = .ok (.aload_n 0, 1) := by decide +kernel
theorem dX7_comesWall_11 : decode cX7_comesWall 11 = .ok (.iload_n 1, 1) := by decide +kernel
theorem dX7_comesWall_12 : decode cX7_comesWall 12 = .ok (.iconst 0, 1) := by decide +kernel
theorem dX7_comesWall_13 : decode cX7_comesWall 13 = .ok (.invokevirtual 241, 3) := by decide +kernel
theorem dX7_comesWall_16 : decode cX7_comesWall 16 = .ok (.invokestatic 244, 3) := by decide +kernel
theorem dX7_comesWall_19 : decode cX7_comesWall 19 = .ok (.ifCond .eq 18, 3) := by decide +kernel
theorem dX7_comesWall_22 : decode cX7_comesWall 22 = .ok (.aload_n 0, 1) := by decide +kernel
theorem dX7_comesWall_23 : decode cX7_comesWall 23 = .ok (.iload_n 1, 1) := by decide +kernel
theorem dX7_comesWall_24 : decode cX7_comesWall 24 = .ok (.iconst 1, 1) := by decide +kernel
theorem dX7_comesWall_25 : decode cX7_comesWall 25 = .ok (.invokevirtual 241, 3) := by decide +kernel
theorem dX7_comesWall_28 : decode cX7_comesWall 28 = .ok (.iconst 0, 1) := by decide +kernel
theorem dX7_comesWall_29 : decode cX7_comesWall 29 = .ok (.bipush 9, 2) := by decide +kernel
theorem dX7_comesWall_31 : decode cX7_comesWall 31 = .ok (.invokestatic 85, 3) := by decide +kernel
theorem dX7_comesWall_34 : decode cX7_comesWall 34 = .ok (.ifCond .ne 5, 3) := by decide +kernel
theorem dX7_comesWall_37 : decode cX7_comesWall 37 = .ok (.iconst 0, 1) := by decide +kernel
theorem dX7_comesWall_38 : decode cX7_comesWall 38 = .ok (.ireturn, 1) := by decide +kernel
theorem dX7_comesWall_39 : decode cX7_comesWall 39 = .ok (.aload_n 0, 1) := by decide +kernel
theorem dX7_comesWall_40 : decode cX7_comesWall 40 = .ok (.getfield 13, 3) := by decide +kernel
theorem dX7_comesWall_43 : decode cX7_comesWall 43 = .ok (.aload_n 0, 1) := by decide +kernel
theorem dX7_comesWall_44 : decode cX7_comesWall 44 = .ok (.iload_n 1, 1) := by decide +kernel
theorem dX7_comesWall_45 : decode cX7_comesWall 45 = .ok (.iconst 0, 1) := by decide +kernel
theorem dX7_comesWall_46 : decode cX7_comesWall 46 = .ok (.invokevirtual 241, 3) := by decide +kernel
theorem dX7_comesWall_49 : decode cX7_comesWall 49 = .ok (.aload_n 0, 1) := by decide +kernel
theorem dX7_comesWall_50 : decode cX7_comesWall 50 = .ok (.iload_n 1, 1) := by decide +kernel
theorem dX7_comesWall_51 : decode cX7_comesWall 51 = .ok (.iconst 1, 1) := by decide +kernel
theorem dX7_comesWall_52 : decode cX7_comesWall 52 = .ok (.invokevirtual 241, 3) := by decide +kernel
theorem dX7_comesWall_55 : decode cX7_comesWall 55 = .ok (.iastore, 1) := by decide +kernel
theorem dX7_comesWall_56 : decode cX7_comesWall 56 = .ok (.iconst 1, 1) := by decide +kernel
theorem dX7_comesWall_57 : decode cX7_comesWall 57 = .ok (.ireturn, 1) := by decide +kernel
theorem dX7_comesFolk_0 : decode cX7_comesFolk 0 = .ok (.aload_n 0, 1) := by decide +kernel
theorem dX7_comesFolk_1 : decode cX7_comesFolk 1 = .ok (.getfield 58, 3) := by decide +kernel
theorem dX7_comesFolk_4 : decode cX7_comesFolk 4 = .ok (.iload_n 1, 1) := by decide +kernel
theorem dX7_comesFolk_5 : decode cX7_comesFolk 5 = .ok (.iaload, 1) := by decide +kernel
theorem dX7_comesFolk_6 : decode cX7_comesFolk 6 = .ok (.iconst 3, 1) := by decide +kernel
theorem dX7_comesFolk_7 : decode cX7_comesFolk 7 = .ok (.if_icmp .ne 53, 3) := by decide +kernel
theorem dX7_comesFolk_10 : decode cX7_comesFolk 10 = .ok (.aload_n 0, 1) := by decide +kernel
theorem dX7_comesFolk_11 : decode cX7_comesFolk 11 = .ok (.iload_n 1, 1) := by decide +kernel
theorem dX7_comesFolk_12 : decode cX7_comesFolk 12 = .ok (.iconst 0, 1) := by decide +kernel
theorem dX7_comesFolk_13 : decode cX7_comesFolk 13 = .ok (.invokevirtual 241, 3) := by decide +kernel
theorem dX7_comesFolk_16 : decode cX7_comesFolk 16 = .ok (.invokestatic 244, 3) := by decide +kernel
theorem dX7_comesFolk_19 : decode cX7_comesFolk 19 = .ok (.ifCond .eq 41, 3) := by decide +kernel
theorem dX7_comesFolk_22 : decode cX7_comesFolk 22 = .ok (.aload_n 0, 1) := by decide +kernel
theorem dX7_comesFolk_23 : decode cX7_comesFolk 23 = .ok (.iload_n 1, 1) := by decide +kernel
theorem dX7_comesFolk_24 : decode cX7_comesFolk 24 = .ok (.iconst 1, 1) := by decide +kernel
theorem dX7_comesFolk_25 : decode cX7_comesFolk 25 = .ok (.invokevirtual 241, 3) := by decide +kernel
theorem dX7_comesFolk_28 : decode cX7_comesFolk 28 = .ok (.iconst 0, 1) := by decide +kernel
theorem dX7_comesFolk_29 : decode cX7_comesFolk 29 = .ok (.bipush 9, 2) := by decide +kernel
theorem dX7_comesFolk_31 : decode cX7_comesFolk 31 = .ok (.invokestatic 85, 3) := by decide +kernel
theorem dX7_comesFolk_34 : decode cX7_comesFolk 34 = .ok (.ifCond .eq 26, 3) := by decide +kernel
theorem dX7_comesFolk_37 : decode cX7_comesFolk 37 = .ok (.aload_n 0, 1) := by decide +kernel
theorem dX7_comesFolk_38 : decode cX7_comesFolk 38 = .ok (.iload_n 1, 1) := by decide +kernel
theorem dX7_comesFolk_39 : decode cX7_comesFolk 39 = .ok (.iconst 2, 1) := by decide +kernel
theorem dX7_comesFolk_40 : decode cX7_comesFolk 40 = .ok (.invokevirtual 200, 3) := by decide +kernel
theorem dX7_comesFolk_43 : decode cX7_comesFolk 43 = .ok (.ifCond .eq 17, 3) := by decide +kernel
theorem dX7_comesFolk_46 : decode cX7_comesFolk 46 = .ok (.aload_n 0, 1) := by decide +kernel
theorem dX7_comesFolk_47 : decode cX7_comesFolk 47 = .ok (.getfield 64, 3) := by decide +kernel
theorem dX7_comesFolk_50 : decode cX7_comesFolk 50 = .ok (.iconst 3, 1) := by decide +kernel
theorem dX7_comesFolk_51 : decode cX7_comesFolk 51 = .ok (.iload_n 1, 1) := by decide +kernel
theorem dX7_comesFolk_52 : decode cX7_comesFolk 52 = .ok (.imul, 1) := by decide +kernel
theorem dX7_comesFolk_53 : decode cX7_comesFolk 53 = .ok (.iconst 2, 1) := by decide +kernel
theorem dX7_comesFolk_54 : decode cX7_comesFolk 54 = .ok (.iadd, 1) := by decide +kernel
theorem dX7_comesFolk_55 : decode cX7_comesFolk 55 = .ok (.iaload, 1) := by decide +kernel
theorem dX7_comesFolk_56 : decode cX7_comesFolk 56 = .ok (.iconst 1, 1) := by decide +kernel
theorem dX7_comesFolk_57 : decode cX7_comesFolk 57 = .ok (.if_icmp .eq 5, 3) := by decide +kernel
theorem dX7_comesFolk_60 : decode cX7_comesFolk 60 = .ok (.iconst 0, 1) := by decide +kernel
theorem dX7_comesFolk_61 : decode cX7_comesFolk 61 = .ok (.ireturn, 1) := by decide +kernel
theorem dX7_comesFolk_62 : decode cX7_comesFolk 62 = .ok (.aload_n 0, 1) := by decide +kernel
theorem dX7_comesFolk_63 : decode cX7_comesFolk 63 = .ok (.getfield 16, 3) := by decide +kernel
theorem dX7_comesFolk_66 : decode cX7_comesFolk 66 = .ok (.aload_n 0, 1) := by decide +kernel
theorem dX7_comesFolk_67 : decode cX7_comesFolk 67 = .ok (.iload_n 1, 1) := by decide +kernel
theorem dX7_comesFolk_68 : decode cX7_comesFolk 68 = .ok (.iconst 0, 1) := by decide +kernel
theorem dX7_comesFolk_69 : decode cX7_comesFolk 69 = .ok (.invokevirtual 241, 3) := by decide +kernel
theorem dX7_comesFolk_72 : decode cX7_comesFolk 72 = .ok (.aload_n 0, 1) := by decide +kernel
theorem dX7_comesFolk_73 : decode cX7_comesFolk 73 = .ok (.iload_n 1, 1) := by decide +kernel
theorem dX7_comesFolk_74 : decode cX7_comesFolk 74 = .ok (.iconst 1, 1) := by decide +kernel
theorem dX7_comesFolk_75 : decode cX7_comesFolk 75 = .ok (.invokevirtual 241, 3) := by decide +kernel
theorem dX7_comesFolk_78 : decode cX7_comesFolk 78 = .ok (.iastore, 1) := by decide +kernel
theorem dX7_comesFolk_79 : decode cX7_comesFolk 79 = .ok (.aload_n 0, 1) := by decide +kernel
theorem dX7_comesFolk_80 : decode cX7_comesFolk 80 = .ok (.getfield 19, 3) := by decide +kernel
theorem dX7_comesFolk_83 : decode cX7_comesFolk 83 = .ok (.aload_n 0, 1) := by decide +kernel
theorem dX7_comesFolk_84 : decode cX7_comesFolk 84 = .ok (.iload_n 1, 1) := by decide +kernel
theorem dX7_comesFolk_85 : decode cX7_comesFolk 85 = .ok (.iconst 0, 1) := by decide +kernel
theorem dX7_comesFolk_86 : decode cX7_comesFolk 86 = .ok (.invokevirtual 241, 3) := by decide +kernel
theorem dX7_comesFolk_89 : decode cX7_comesFolk 89 = .ok (.aload_n 0, 1) := by decide +kernel
theorem dX7_comesFolk_90 : decode cX7_comesFolk 90 = .ok (.getfield 49, 3) := by decide +kernel
theorem dX7_comesFolk_93 : decode cX7_comesFolk 93 = .ok (.aload_n 0, 1) := by decide +kernel
theorem dX7_comesFolk_94 : decode cX7_comesFolk 94 = .ok (.getfield 61, 3) := by decide +kernel
theorem dX7_comesFolk_97 : decode cX7_comesFolk 97 = .ok (.iconst 3, 1) := by decide +kernel
theorem dX7_comesFolk_98 : decode cX7_comesFolk 98 = .ok (.iload_n 1, 1) := by decide +kernel
theorem dX7_comesFolk_99 : decode cX7_comesFolk 99 = .ok (.imul, 1) := by decide +kernel
theorem dX7_comesFolk_100 : decode cX7_comesFolk 100 = .ok (.iconst 2, 1) := by decide +kernel
theorem dX7_comesFolk_101 : decode cX7_comesFolk 101 = .ok (.iadd, 1) := by decide +kernel
theorem dX7_comesFolk_102 : decode cX7_comesFolk 102 = .ok (.iaload, 1) := by decide +kernel
theorem dX7_comesFolk_103 : decode cX7_comesFolk 103 = .ok (.iaload, 1) := by decide +kernel
theorem dX7_comesFolk_104 : decode cX7_comesFolk 104 = .ok (.bipush 97, 2) := by decide +kernel
theorem dX7_comesFolk_106 : decode cX7_comesFolk 106 = .ok (.isub, 1) := by decide +kernel
theorem dX7_comesFolk_107 : decode cX7_comesFolk 107 = .ok (.iastore, 1) := by decide +kernel
theorem dX7_comesFolk_108 : decode cX7_comesFolk 108 = .ok (.iconst 1, 1) := by decide +kernel
theorem dX7_comesFolk_109 : decode cX7_comesFolk 109 = .ok (.ireturn, 1) := by decide +kernel
theorem dX7_comesFace_0 : decode cX7_comesFace 0 = .ok (.aload_n 0, 1) := by decide +kernel
theorem dX7_comesFace_1 : decode cX7_comesFace 1 = .ok (.iload_n 1, 1) := by decide +kernel
theorem dX7_comesFace_2 : decode cX7_comesFace 2 = .ok (.iconst 1, 1) := by decide +kernel
theorem dX7_comesFace_3 : decode cX7_comesFace 3 = .ok (.invokevirtual 251, 3) := by decide +kernel
theorem dX7_comesFace_6 : decode cX7_comesFace 6 = .ok (.invokestatic 254, 3) := by decide +kernel
theorem dX7_comesFace_9 : decode cX7_comesFace 9 = .ok (.istore_n 2, 1) := by decide +kernel
theorem dX7_comesFace_10 : decode cX7_comesFace 10 = .ok (.aload_n 0, 1) := by decide +kernel
theorem dX7_comesFace_11 : decode cX7_comesFace 11 = .ok (.getfield 58, 3) := by decide +kernel
theorem dX7_comesFace_14 : decode cX7_comesFace 14 = .ok (.iload_n 1, 1) := by decide +kernel
theorem dX7_comesFace_15 : decode cX7_comesFace 15 = .ok (.iaload, 1) := by decide +kernel
theorem dX7_comesFace_16 : decode cX7_comesFace 16 = .ok (.iconst 2, 1) := by decide +kernel
theorem dX7_comesFace_17 : decode cX7_comesFace 17 = .ok (.if_icmp .ne 20, 3) := by decide +kernel
theorem dX7_comesFace_20 : decode cX7_comesFace 20 = .ok (.aload_n 0, 1) := by decide +kernel
theorem dX7_comesFace_21 : decode cX7_comesFace 21 = .ok (.aload_n 0, 1) := by decide +kernel
theorem dX7_comesFace_22 : decode cX7_comesFace 22 = .ok (.iload_n 1, 1) := by decide +kernel
theorem dX7_comesFace_23 : decode cX7_comesFace 23 = .ok (.iconst 0, 1) := by decide +kernel
theorem dX7_comesFace_24 : decode cX7_comesFace 24 = .ok (.invokevirtual 241, 3) := by decide +kernel
theorem dX7_comesFace_27 : decode cX7_comesFace 27 = .ok (.invokevirtual 89, 3) := by decide +kernel
theorem dX7_comesFace_30 : decode cX7_comesFace 30 = .ok (.ifCond .eq 7, 3) := by decide +kernel
theorem dX7_comesFace_33 : decode cX7_comesFace 33 = .ok (.iload_n 2, 1) := by decide +kernel
theorem dX7_comesFace_34 : decode cX7_comesFace 34 = .ok (.ifCond .ge 5, 3) := by decide +kernel
theorem dX7_comesFace_37 : decode cX7_comesFace 37 = .ok (.iconst 0, 1) := by decide +kernel
theorem dX7_comesFace_38 : decode cX7_comesFace 38 = .ok (.ireturn, 1) := by decide +kernel
theorem dX7_comesFace_39 : decode cX7_comesFace 39 = .ok (.aload_n 0, 1) := by decide +kernel
theorem dX7_comesFace_40 : decode cX7_comesFace 40 = .ok (.getfield 31, 3) := by decide +kernel
theorem dX7_comesFace_43 : decode cX7_comesFace 43 = .ok (.aload_n 0, 1) := by decide +kernel
theorem dX7_comesFace_44 : decode cX7_comesFace 44 = .ok (.iload_n 1, 1) := by decide +kernel
theorem dX7_comesFace_45 : decode cX7_comesFace 45 = .ok (.iconst 0, 1) := by decide +kernel
theorem dX7_comesFace_46 : decode cX7_comesFace 46 = .ok (.invokevirtual 241, 3) := by decide +kernel
theorem dX7_comesFace_49 : decode cX7_comesFace 49 = .ok (.iload_n 2, 1) := by decide +kernel
theorem dX7_comesFace_50 : decode cX7_comesFace 50 = .ok (.iastore, 1) := by decide +kernel
theorem dX7_comesFace_51 : decode cX7_comesFace 51 = .ok (.iconst 1, 1) := by decide +kernel
theorem dX7_comesFace_52 : decode cX7_comesFace 52 = .ok (.ireturn, 1) := by decide +kernel
theorem dX7_comesDoing_0 : decode cX7_comesDoing 0 = .ok (.aload_n 0, 1) := by decide +kernel
theorem dX7_comesDoing_1 : decode cX7_comesDoing 1 = .ok (.iload_n 1, 1) := by decide +kernel
theorem dX7_comesDoing_2 : decode cX7_comesDoing 2 = .ok (.iconst 1, 1) := by decide +kernel
theorem dX7_comesDoing_3 : decode cX7_comesDoing 3 = .ok (.invokevirtual 251, 3) := by decide +kernel
theorem dX7_comesDoing_6 : decode cX7_comesDoing 6 = .ok (.invokestatic 258, 3) := by decide +kernel
theorem dX7_comesDoing_9 : decode cX7_comesDoing 9 = .ok (.istore_n 2, 1) := by decide +kernel
theorem dX7_comesDoing_10 : decode cX7_comesDoing 10 = .ok (.aload_n 0, 1) := by decide +kernel
theorem dX7_comesDoing_11 : decode cX7_comesDoing 11 = .ok (.getfield 58, 3) := by decide +kernel
theorem dX7_comesDoing_14 : decode cX7_comesDoing 14 = .ok (.iload_n 1, 1) := by decide +kernel
theorem dX7_comesDoing_15 : decode cX7_comesDoing 15 = .ok (.iaload, 1) := by decide +kernel
theorem dX7_comesDoing_16 : decode cX7_comesDoing 16 = .ok (.iconst 2, 1) := by decide +kernel
theorem dX7_comesDoing_17 : decode cX7_comesDoing 17 = .ok (.if_icmp .ne 20, 3) := by decide +kernel
theorem dX7_comesDoing_20 : decode cX7_comesDoing 20 = .ok (.aload_n 0, 1) := by decide +kernel
theorem dX7_comesDoing_21 : decode cX7_comesDoing 21 = .ok (.aload_n 0, 1) := by decide +kernel
theorem dX7_comesDoing_22 : decode cX7_comesDoing 22 = .ok (.iload_n 1, 1) := by decide +kernel
theorem dX7_comesDoing_23 : decode cX7_comesDoing 23 = .ok (.iconst 0, 1) := by decide +kernel
theorem dX7_comesDoing_24 : decode cX7_comesDoing 24 = .ok (.invokevirtual 241, 3) := by decide +kernel
theorem dX7_comesDoing_27 : decode cX7_comesDoing 27 = .ok (.invokevirtual 89, 3) := by decide +kernel
theorem dX7_comesDoing_30 : decode cX7_comesDoing 30 = .ok (.ifCond .eq 7, 3) := by decide +kernel
theorem dX7_comesDoing_33 : decode cX7_comesDoing 33 = .ok (.iload_n 2, 1) := by decide +kernel
theorem dX7_comesDoing_34 : decode cX7_comesDoing 34 = .ok (.ifCond .ge 5, 3) := by decide +kernel
theorem dX7_comesDoing_37 : decode cX7_comesDoing 37 = .ok (.iconst 0, 1) := by decide +kernel
theorem dX7_comesDoing_38 : decode cX7_comesDoing 38 = .ok (.ireturn, 1) := by decide +kernel
theorem dX7_comesDoing_39 : decode cX7_comesDoing 39 = .ok (.aload_n 0, 1) := by decide +kernel
theorem dX7_comesDoing_40 : decode cX7_comesDoing 40 = .ok (.getfield 34, 3) := by decide +kernel
theorem dX7_comesDoing_43 : decode cX7_comesDoing 43 = .ok (.aload_n 0, 1) := by decide +kernel
theorem dX7_comesDoing_44 : decode cX7_comesDoing 44 = .ok (.iload_n 1, 1) := by decide +kernel
theorem dX7_comesDoing_45 : decode cX7_comesDoing 45 = .ok (.iconst 0, 1) := by decide +kernel
theorem dX7_comesDoing_46 : decode cX7_comesDoing 46 = .ok (.invokevirtual 241, 3) := by decide +kernel
theorem dX7_comesDoing_49 : decode cX7_comesDoing 49 = .ok (.iload_n 2, 1) := by decide +kernel
theorem dX7_comesDoing_50 : decode cX7_comesDoing 50 = .ok (.iastore, 1) := by decide +kernel
theorem dX7_comesDoing_51 : decode cX7_comesDoing 51 = .ok (.iconst 1, 1) := by decide +kernel
theorem dX7_comesDoing_52 : decode cX7_comesDoing 52 = .ok (.ireturn, 1) := by decide +kernel
theorem dX7_comesJoining_0 : decode cX7_comesJoining 0 = .ok (.aload_n 0, 1) := by decide +kernel
theorem dX7_comesJoining_1 : decode cX7_comesJoining 1 = .ok (.getfield 58, 3) := by decide +kernel
theorem dX7_comesJoining_4 : decode cX7_comesJoining 4 = .ok (.iload_n 1, 1) := by decide +kernel
theorem dX7_comesJoining_5 : decode cX7_comesJoining 5 = .ok (.iaload, 1) := by decide +kernel
theorem dX7_comesJoining_6 : decode cX7_comesJoining 6 = .ok (.iconst 2, 1) := by decide +kernel
theorem dX7_comesJoining_7 : decode cX7_comesJoining 7 = .ok (.if_icmp .ne 25, 3) := by decide +kernel
theorem dX7_comesJoining_10 : decode cX7_comesJoining 10 = .ok (.aload_n 0, 1) := by decide +kernel
theorem dX7_comesJoining_11 : decode cX7_comesJoining 11 = .ok (.aload_n 0, 1) := by decide +kernel
theorem dX7_comesJoining_12 : decode cX7_comesJoining 12 = .ok (.iload_n 1, 1) := by decide +kernel
theorem dX7_comesJoining_13 : decode cX7_comesJoining 13 = .ok (.iconst 0, 1) := by decide +kernel
theorem dX7_comesJoining_14 : decode cX7_comesJoining 14 = .ok (.invokevirtual 241, 3) := by decide +kernel
theorem dX7_comesJoining_17 : decode cX7_comesJoining 17 = .ok (.invokevirtual 89, 3) := by decide +kernel
theorem dX7_comesJoining_20 : decode cX7_comesJoining 20 = .ok (.ifCond .eq 12, 3) := by decide +kernel
theorem dX7_comesJoining_23 : decode cX7_comesJoining 23 = .ok (.aload_n 0, 1) := by decide +kernel
theorem dX7_comesJoining_24 : decode cX7_comesJoining 24 = .ok (.iload_n 1, 1) := by decide +kernel
theorem dX7_comesJoining_25 : decode cX7_comesJoining 25 = .ok (.iconst 1, 1) := by decide +kernel
theorem dX7_comesJoining_26 : decode cX7_comesJoining 26 = .ok (.invokevirtual 197, 3) := by decide +kernel
theorem dX7_comesJoining_29 : decode cX7_comesJoining 29 = .ok (.ifCond .ne 5, 3) := by decide +kernel
theorem dX7_comesJoining_32 : decode cX7_comesJoining 32 = .ok (.iconst 0, 1) := by decide +kernel
theorem dX7_comesJoining_33 : decode cX7_comesJoining 33 = .ok (.ireturn, 1) := by decide +kernel
theorem dX7_comesJoining_34 : decode cX7_comesJoining 34 = .ok (.aload_n 0, 1) := by decide +kernel
theorem dX7_comesJoining_35 : decode cX7_comesJoining 35 = .ok (.getfield 37, 3) := by decide +kernel
theorem dX7_comesJoining_38 : decode cX7_comesJoining 38 = .ok (.aload_n 0, 1) := by decide +kernel
theorem dX7_comesJoining_39 : decode cX7_comesJoining 39 = .ok (.iload_n 1, 1) := by decide +kernel
theorem dX7_comesJoining_40 : decode cX7_comesJoining 40 = .ok (.iconst 0, 1) := by decide +kernel
theorem dX7_comesJoining_41 : decode cX7_comesJoining 41 = .ok (.invokevirtual 241, 3) := by decide +kernel
theorem dX7_comesJoining_44 : decode cX7_comesJoining 44 = .ok (.aload_n 0, 1) := by decide +kernel
theorem dX7_comesJoining_45 : decode cX7_comesJoining 45 = .ok (.iload_n 1, 1) := by decide +kernel
theorem dX7_comesJoining_46 : decode cX7_comesJoining 46 = .ok (.iconst 1, 1) := by decide +kernel
theorem dX7_comesJoining_47 : decode cX7_comesJoining 47 = .ok (.invokevirtual 241, 3) := by decide +kernel
theorem dX7_comesJoining_50 : decode cX7_comesJoining 50 = .ok (.iastore, 1) := by decide +kernel
theorem dX7_comesJoining_51 : decode cX7_comesJoining 51 = .ok (.iconst 1, 1) := by decide +kernel
theorem dX7_comesJoining_52 : decode cX7_comesJoining 52 = .ok (.ireturn, 1) := by decide +kernel
theorem dX7_comesNights_0 : decode cX7_comesNights 0 = .ok (.aload_n 0, 1) := by decide +kernel
theorem dX7_comesNights_1 : decode cX7_comesNights 1 = .ok (.iload_n 1, 1) := by decide +kernel
theorem dX7_comesNights_2 : decode cX7_comesNights 2 = .ok (.iconst 0, 1) := by decide +kernel
theorem dX7_comesNights_3 : decode cX7_comesNights 3 = .ok (.invokevirtual 241, 3) := by decide +kernel
theorem dX7_comesNights_6 : decode cX7_comesNights 6 = .ok (.istore_n 2, 1) := by decide +kernel
theorem dX7_comesNights_7 : decode cX7_comesNights 7 = .ok (.aload_n 0, 1) := by decide +kernel
theorem dX7_comesNights_8 : decode cX7_comesNights 8 = .ok (.getfield 58, 3) := by decide +kernel
theorem dX7_comesNights_11 : decode cX7_comesNights 11 = .ok (.iload_n 1, 1) := by decide +kernel
theorem dX7_comesNights_12 : decode cX7_comesNights 12 = .ok (.iaload, 1) := by decide +kernel
theorem dX7_comesNights_13 : decode cX7_comesNights 13 = .ok (.iconst 1, 1) := by decide +kernel
theorem dX7_comesNights_14 : decode cX7_comesNights 14 = .ok (.if_icmp .ne 25, 3) := by decide +kernel
theorem dX7_comesNights_17 : decode cX7_comesNights 17 = .ok (.iload_n 2, 1) := by decide +kernel
theorem dX7_comesNights_18 : decode cX7_comesNights 18 = .ok (.iconst 1, 1) := by decide +kernel
theorem dX7_comesNights_19 : decode cX7_comesNights 19 = .ok (.bipush 60, 2) := by decide +kernel
theorem dX7_comesNights_21 : decode cX7_comesNights 21 = .ok (.invokestatic 85, 3) := by decide +kernel
theorem dX7_comesNights_24 : decode cX7_comesNights 24 = .ok (.ifCond .eq 15, 3) := by decide +kernel
theorem dX7_comesNights_27 : decode cX7_comesNights 27 = .ok (.aload_n 0, 1) := by decide +kernel
theorem dX7_comesNights_28 : decode cX7_comesNights 28 = .ok (.getfield 136, 3) := by decide +kernel
theorem dX7_comesNights_31 : decode cX7_comesNights 31 = .ok (.iload_n 2, 1) := by decide +kernel
theorem dX7_comesNights_32 : decode cX7_comesNights 32 = .ok (.iadd, 1) := by decide +kernel
theorem dX7_comesNights_33 : decode cX7_comesNights 33 = .ok (.sipush 999, 3) := by decide +kernel
theorem dX7_comesNights_36 : decode cX7_comesNights 36 = .ok (.if_icmp .le 5, 3) := by decide +kernel
theorem dX7_comesNights_39 : decode cX7_comesNights 39 = .ok (.iconst 0, 1) := by decide +kernel
theorem dX7_comesNights_40 : decode cX7_comesNights 40 = .ok (.ireturn, 1) := by decide +kernel
theorem dX7_comesNights_41 : decode cX7_comesNights 41 = .ok (.aload_n 0, 1) := by decide +kernel
theorem dX7_comesNights_42 : decode cX7_comesNights 42 = .ok (.iload_n 2, 1) := by decide +kernel
theorem dX7_comesNights_43 : decode cX7_comesNights 43 = .ok (.invokevirtual 261, 3) := by decide +kernel
theorem dX7_comesNights_46 : decode cX7_comesNights 46 = .ok (.iconst 1, 1) := by decide +kernel
theorem dX7_comesNights_47 : decode cX7_comesNights 47 = .ok (.ireturn, 1) := by decide +kernel
theorem dX7_comesSaid_0 : decode cX7_comesSaid 0 = .ok (.aload_n 0, 1) := by decide +kernel
theorem dX7_comesSaid_1 : decode cX7_comesSaid 1 = .ok (.aload_n 0, 1) := by decide +kernel
theorem dX7_comesSaid_2 : decode cX7_comesSaid 2 = .ok (.getfield 52, 3) := by decide +kernel
theorem dX7_comesSaid_5 : decode cX7_comesSaid 5 = .ok (.iload_n 1, 1) := by decide +kernel
theorem dX7_comesSaid_6 : decode cX7_comesSaid 6 = .ok (.iaload, 1) := by decide +kernel
theorem dX7_comesSaid_7 : decode cX7_comesSaid 7 = .ok (.aload_n 0, 1) := by decide +kernel
theorem dX7_comesSaid_8 : decode cX7_comesSaid 8 = .ok (.getfield 55, 3) := by decide +kernel
theorem dX7_comesSaid_11 : decode cX7_comesSaid 11 = .ok (.iload_n 1, 1) := by decide +kernel
theorem dX7_comesSaid_12 : decode cX7_comesSaid 12 = .ok (.iaload, 1) := by decide +kernel
theorem dX7_comesSaid_13 : decode cX7_comesSaid 13 = .ok (.invokevirtual 203, 3) := by decide +kernel
theorem dX7_comesSaid_16 : decode cX7_comesSaid 16 = .ok (.lstore_n 2, 1) := by decide +kernel
theorem dX7_comesSaid_17 : decode cX7_comesSaid 17 = .ok (.lload_n 2, 1) := by decide +kernel
theorem dX7_comesSaid_18 : decode cX7_comesSaid 18 = .ok (.invokestatic 264, 3) := by decide +kernel
theorem dX7_comesSaid_21 : decode cX7_comesSaid 21 = .ok (.ifCond .lt 13, 3) := by decide +kernel
theorem dX7_comesSaid_24 : decode cX7_comesSaid 24 = .ok (.aload_n 0, 1) := by decide +kernel
theorem dX7_comesSaid_25 : decode cX7_comesSaid 25 = .ok (.iload_n 1, 1) := by decide +kernel
theorem dX7_comesSaid_26 : decode cX7_comesSaid 26 = .ok (.lload_n 2, 1) := by decide +kernel
theorem dX7_comesSaid_27 : decode cX7_comesSaid 27 = .ok (.invokestatic 264, 3) := by decide +kernel
theorem dX7_comesSaid_30 : decode cX7_comesSaid 30 = .ok (.invokevirtual 267, 3) := by decide +kernel
theorem dX7_comesSaid_33 : decode cX7_comesSaid 33 = .ok (.ireturn, 1) := by decide +kernel
theorem dX7_comesSaid_34 : decode cX7_comesSaid 34 = .ok (.lload_n 2, 1) := by decide +kernel
theorem dX7_comesSaid_35 : decode cX7_comesSaid 35 = .ok (.ldc2_w 270, 3) := by decide +kernel
theorem dX7_comesSaid_38 : decode cX7_comesSaid 38 = .ok (.lcmp, 1) := by decide +kernel
theorem dX7_comesSaid_39 : decode cX7_comesSaid 39 = .ok (.ifCond .ne 9, 3) := by decide +kernel
theorem dX7_comesSaid_42 : decode cX7_comesSaid 42 = .ok (.aload_n 0, 1) := by decide +kernel
theorem dX7_comesSaid_43 : decode cX7_comesSaid 43 = .ok (.iload_n 1, 1) := by decide +kernel
theorem dX7_comesSaid_44 : decode cX7_comesSaid 44 = .ok (.invokevirtual 272, 3) := by decide +kernel
theorem dX7_comesSaid_47 : decode cX7_comesSaid 47 = .ok (.ireturn, 1) := by decide +kernel
theorem dX7_comesSaid_48 : decode cX7_comesSaid 48 = .ok (.lload_n 2, 1) := by decide +kernel
theorem dX7_comesSaid_49 : decode cX7_comesSaid 49 = .ok (.ldc2_w 275, 3) := by decide +kernel
theorem dX7_comesSaid_52 : decode cX7_comesSaid 52 = .ok (.lcmp, 1) := by decide +kernel
theorem dX7_comesSaid_53 : decode cX7_comesSaid 53 = .ok (.ifCond .ne 9, 3) := by decide +kernel
theorem dX7_comesSaid_56 : decode cX7_comesSaid 56 = .ok (.aload_n 0, 1) := by decide +kernel
theorem dX7_comesSaid_57 : decode cX7_comesSaid 57 = .ok (.iload_n 1, 1) := by decide +kernel
theorem dX7_comesSaid_58 : decode cX7_comesSaid 58 = .ok (.invokevirtual 277, 3) := by decide +kernel
theorem dX7_comesSaid_61 : decode cX7_comesSaid 61 = .ok (.ireturn, 1) := by decide +kernel
theorem dX7_comesSaid_62 : decode cX7_comesSaid 62 = .ok (.lload_n 2, 1) := by decide +kernel
theorem dX7_comesSaid_63 : decode cX7_comesSaid 63 = .ok (.ldc2_w 280, 3) := by decide +kernel
theorem dX7_comesSaid_66 : decode cX7_comesSaid 66 = .ok (.lcmp, 1) := by decide +kernel
theorem dX7_comesSaid_67 : decode cX7_comesSaid 67 = .ok (.ifCond .ne 9, 3) := by decide +kernel
theorem dX7_comesSaid_70 : decode cX7_comesSaid 70 = .ok (.aload_n 0, 1) := by decide +kernel
theorem dX7_comesSaid_71 : decode cX7_comesSaid 71 = .ok (.iload_n 1, 1) := by decide +kernel
theorem dX7_comesSaid_72 : decode cX7_comesSaid 72 = .ok (.invokevirtual 282, 3) := by decide +kernel
theorem dX7_comesSaid_75 : decode cX7_comesSaid 75 = .ok (.ireturn, 1) := by decide +kernel
theorem dX7_comesSaid_76 : decode cX7_comesSaid 76 = .ok (.lload_n 2, 1) := by decide +kernel
theorem dX7_comesSaid_77 : decode cX7_comesSaid 77 = .ok (.ldc2_w 285, 3) := by decide +kernel
theorem dX7_comesSaid_80 : decode cX7_comesSaid 80 = .ok (.lcmp, 1) := by decide +kernel
theorem dX7_comesSaid_81 : decode cX7_comesSaid 81 = .ok (.ifCond .ne 9, 3) := by decide +kernel
theorem dX7_comesSaid_84 : decode cX7_comesSaid 84 = .ok (.aload_n 0, 1) := by decide +kernel
theorem dX7_comesSaid_85 : decode cX7_comesSaid 85 = .ok (.iload_n 1, 1) := by decide +kernel
theorem dX7_comesSaid_86 : decode cX7_comesSaid 86 = .ok (.invokevirtual 287, 3) := by decide +kernel
theorem dX7_comesSaid_89 : decode cX7_comesSaid 89 = .ok (.ireturn, 1) := by decide +kernel
theorem dX7_comesSaid_90 : decode cX7_comesSaid 90 = .ok (.lload_n 2, 1) := by decide +kernel
theorem dX7_comesSaid_91 : decode cX7_comesSaid 91 = .ok (.ldc2_w 290, 3) := by decide +kernel
theorem dX7_comesSaid_94 : decode cX7_comesSaid 94 = .ok (.lcmp, 1) := by decide +kernel
theorem dX7_comesSaid_95 : decode cX7_comesSaid 95 = .ok (.ifCond .ne 9, 3) := by decide +kernel
theorem dX7_comesSaid_98 : decode cX7_comesSaid 98 = .ok (.aload_n 0, 1) := by decide +kernel
theorem dX7_comesSaid_99 : decode cX7_comesSaid 99 = .ok (.iload_n 1, 1) := by decide +kernel
theorem dX7_comesSaid_100 : decode cX7_comesSaid 100 = .ok (.invokevirtual 292, 3) := by decide +kernel
theorem dX7_comesSaid_103 : decode cX7_comesSaid 103 = .ok (.ireturn, 1) := by decide +kernel
theorem dX7_comesSaid_104 : decode cX7_comesSaid 104 = .ok (.lload_n 2, 1) := by decide +kernel
theorem dX7_comesSaid_105 : decode cX7_comesSaid 105 = .ok (.ldc2_w 295, 3) := by decide +kernel
theorem dX7_comesSaid_108 : decode cX7_comesSaid 108 = .ok (.lcmp, 1) := by decide +kernel
theorem dX7_comesSaid_109 : decode cX7_comesSaid 109 = .ok (.ifCond .ne 15, 3) := by decide +kernel
theorem dX7_comesSaid_112 : decode cX7_comesSaid 112 = .ok (.aload_n 0, 1) := by decide +kernel
theorem dX7_comesSaid_113 : decode cX7_comesSaid 113 = .ok (.iload_n 1, 1) := by decide +kernel
theorem dX7_comesSaid_114 : decode cX7_comesSaid 114 = .ok (.invokevirtual 297, 3) := by decide +kernel
theorem dX7_comesSaid_117 : decode cX7_comesSaid 117 = .ok (.ifCond .eq 7, 3) := by decide +kernel
theorem dX7_comesSaid_120 : decode cX7_comesSaid 120 = .ok (.iconst 1, 1) := by decide +kernel
theorem dX7_comesSaid_121 : decode cX7_comesSaid 121 = .ok (.goto 4, 3) := by decide +kernel
theorem dX7_comesSaid_124 : decode cX7_comesSaid 124 = .ok (.iconst 0, 1) := by decide +kernel
theorem dX7_comesSaid_125 : decode cX7_comesSaid 125 = .ok (.ireturn, 1) := by decide +kernel
theorem dX7_passes_0 : decode cX7_passes 0 = .ok (.iconst 0, 1) := by decide +kernel
theorem dX7_passes_1 : decode cX7_passes 1 = .ok (.istore_n 2, 1) := by decide +kernel
theorem dX7_passes_2 : decode cX7_passes 2 = .ok (.iload_n 2, 1) := by decide +kernel
theorem dX7_passes_3 : decode cX7_passes 3 = .ok (.aload_n 1, 1) := by decide +kernel
theorem dX7_passes_4 : decode cX7_passes 4 = .ok (.arraylength, 1) := by decide +kernel
theorem dX7_passes_5 : decode cX7_passes 5 = .ok (.if_icmp .ge 53, 3) := by decide +kernel
theorem dX7_passes_8 : decode cX7_passes 8 = .ok (.aload_n 0, 1) := by decide +kernel
theorem dX7_passes_9 : decode cX7_passes 9 = .ok (.getfield 313, 3) := by decide +kernel
theorem dX7_passes_12 : decode cX7_passes 12 = .ok (.ifCond .eq 18, 3) := by decide +kernel
theorem dX7_passes_15 : decode cX7_passes 15 = .ok (.aload_n 0, 1) := by decide +kernel
theorem dX7_passes_16 : decode cX7_passes 16 = .ok (.getfield 67, 3) := by decide +kernel
theorem dX7_passes_19 : decode cX7_passes 19 = .ok (.aload_n 0, 1) := by decide +kernel
theorem dX7_passes_20 : decode cX7_passes 20 = .ok (.getfield 317, 3) := by decide +kernel
theorem dX7_passes_23 : decode cX7_passes 23 = .ok (.aload_n 1, 1) := by decide +kernel
theorem dX7_passes_24 : decode cX7_passes 24 = .ok (.iload_n 2, 1) := by decide +kernel
theorem dX7_passes_25 : decode cX7_passes 25 = .ok (.iaload, 1) := by decide +kernel
theorem dX7_passes_26 : decode cX7_passes 26 = .ok (.iastore, 1) := by decide +kernel
theorem dX7_passes_27 : decode cX7_passes 27 = .ok (.goto 15, 3) := by decide +kernel
theorem dX7_passes_30 : decode cX7_passes 30 = .ok (.aload_n 1, 1) := by decide +kernel
theorem dX7_passes_31 : decode cX7_passes 31 = .ok (.iload_n 2, 1) := by decide +kernel
theorem dX7_passes_32 : decode cX7_passes 32 = .ok (.aload_n 0, 1) := by decide +kernel
theorem dX7_passes_33 : decode cX7_passes 33 = .ok (.getfield 67, 3) := by decide +kernel
theorem dX7_passes_36 : decode cX7_passes 36 = .ok (.aload_n 0, 1) := by decide +kernel
theorem dX7_passes_37 : decode cX7_passes 37 = .ok (.getfield 317, 3) := by decide +kernel
theorem dX7_passes_40 : decode cX7_passes 40 = .ok (.iaload, 1) := by decide +kernel
theorem dX7_passes_41 : decode cX7_passes 41 = .ok (.iastore, 1) := by decide +kernel
theorem dX7_passes_42 : decode cX7_passes 42 = .ok (.aload_n 0, 1) := by decide +kernel
theorem dX7_passes_43 : decode cX7_passes 43 = .ok (.dup, 1) := by decide +kernel
theorem dX7_passes_44 : decode cX7_passes 44 = .ok (.getfield 317, 3) := by decide +kernel
theorem dX7_passes_47 : decode cX7_passes 47 = .ok (.iconst 1, 1) := by decide +kernel
theorem dX7_passes_48 : decode cX7_passes 48 = .ok (.iadd, 1) := by decide +kernel
theorem dX7_passes_49 : decode cX7_passes 49 = .ok (.putfield 317, 3) := by decide +kernel
theorem dX7_passes_52 : decode cX7_passes 52 = .ok (.iinc 2 1, 3) := by decide +kernel
theorem dX7_passes_55 : decode cX7_passes 55 = .ok (.goto (-53), 3) := by decide +kernel
theorem dX7_passes_58 : decode cX7_passes 58 = .ok (.return_, 1) := by decide +kernel
theorem dX7_passOne_0 : decode cX7_passOne 0 = .ok (.aload_n 0, 1) := by decide +kernel
theorem dX7_passOne_1 : decode cX7_passOne 1 = .ok (.getfield 313, 3) := by decide +kernel
theorem dX7_passOne_4 : decode cX7_passOne 4 = .ok (.ifCond .eq 7, 3) := by decide +kernel
theorem dX7_passOne_7 : decode cX7_passOne 7 = .ok (.iload_n 1, 1) := by decide +kernel
theorem dX7_passOne_8 : decode cX7_passOne 8 = .ok (.goto 12, 3) := by decide +kernel
theorem dX7_passOne_11 : decode cX7_passOne 11 = .ok (.aload_n 0, 1) := by decide +kernel
theorem dX7_passOne_12 : decode cX7_passOne 12 = .ok (.getfield 67, 3) := by decide +kernel
theorem dX7_passOne_15 : decode cX7_passOne 15 = .ok (.aload_n 0, 1) := by decide +kernel
theorem dX7_passOne_16 : decode cX7_passOne 16 = .ok (.getfield 317, 3) := by decide +kernel
theorem dX7_passOne_19 : decode cX7_passOne 19 = .ok (.iaload, 1) := by decide +kernel
theorem dX7_passOne_20 : decode cX7_passOne 20 = .ok (.istore_n 2, 1) := by decide +kernel
theorem dX7_passOne_21 : decode cX7_passOne 21 = .ok (.aload_n 0, 1) := by decide +kernel
theorem dX7_passOne_22 : decode cX7_passOne 22 = .ok (.getfield 313, 3) := by decide +kernel
theorem dX7_passOne_25 : decode cX7_passOne 25 = .ok (.ifCond .eq 13, 3) := by decide +kernel
theorem dX7_passOne_28 : decode cX7_passOne 28 = .ok (.aload_n 0, 1) := by decide +kernel
theorem dX7_passOne_29 : decode cX7_passOne 29 = .ok (.getfield 67, 3) := by decide +kernel
theorem dX7_passOne_32 : decode cX7_passOne 32 = .ok (.aload_n 0, 1) := by decide +kernel
theorem dX7_passOne_33 : decode cX7_passOne 33 = .ok (.getfield 317, 3) := by decide +kernel
theorem dX7_passOne_36 : decode cX7_passOne 36 = .ok (.iload_n 1, 1) := by decide +kernel
theorem dX7_passOne_37 : decode cX7_passOne 37 = .ok (.iastore, 1) := by decide +kernel
theorem dX7_passOne_38 : decode cX7_passOne 38 = .ok (.aload_n 0, 1) := by decide +kernel
theorem dX7_passOne_39 : decode cX7_passOne 39 = .ok (.dup, 1) := by decide +kernel
theorem dX7_passOne_40 : decode cX7_passOne 40 = .ok (.getfield 317, 3) := by decide +kernel
theorem dX7_passOne_43 : decode cX7_passOne 43 = .ok (.iconst 1, 1) := by decide +kernel
theorem dX7_passOne_44 : decode cX7_passOne 44 = .ok (.iadd, 1) := by decide +kernel
theorem dX7_passOne_45 : decode cX7_passOne 45 = .ok (.putfield 317, 3) := by decide +kernel
theorem dX7_passOne_48 : decode cX7_passOne 48 = .ok (.iload_n 2, 1) := by decide +kernel
theorem dX7_passOne_49 : decode cX7_passOne 49 = .ok (.ireturn, 1) := by decide +kernel
theorem dX7_passesAll_0 : decode cX7_passesAll 0 = .ok (.aload_n 0, 1) := by decide +kernel
theorem dX7_passesAll_1 : decode cX7_passesAll 1 = .ok (.sipush 218, 3) := by decide +kernel
theorem dX7_passesAll_4 : decode cX7_passesAll 4 = .ok (.iload_n 1, 1) := by decide +kernel
theorem dX7_passesAll_5 : decode cX7_passesAll 5 = .ok (.imul, 1) := by decide +kernel
theorem dX7_passesAll_6 : decode cX7_passesAll 6 = .ok (.putfield 317, 3) := by decide +kernel
theorem dX7_passesAll_9 : decode cX7_passesAll 9 = .ok (.aload_n 0, 1) := by decide +kernel
theorem dX7_passesAll_10 : decode cX7_passesAll 10 = .ok (.iload_n 2, 1) := by decide +kernel
theorem dX7_passesAll_11 : decode cX7_passesAll 11 = .ok (.putfield 313, 3) := by decide +kernel
theorem dX7_passesAll_14 : decode cX7_passesAll 14 = .ok (.aload_n 0, 1) := by decide +kernel
theorem dX7_passesAll_15 : decode cX7_passesAll 15 = .ok (.aload_n 0, 1) := by decide +kernel
theorem dX7_passesAll_16 : decode cX7_passesAll 16 = .ok (.getfield 13, 3) := by decide +kernel
theorem dX7_passesAll_19 : decode cX7_passesAll 19 = .ok (.invokevirtual 320, 3) := by decide +kernel
theorem dX7_passesAll_22 : decode cX7_passesAll 22 = .ok (.aload_n 0, 1) := by decide +kernel
theorem dX7_passesAll_23 : decode cX7_passesAll 23 = .ok (.aload_n 0, 1) := by decide +kernel
theorem dX7_passesAll_24 : decode cX7_passesAll 24 = .ok (.getfield 16, 3) := by decide +kernel
theorem dX7_passesAll_27 : decode cX7_passesAll 27 = .ok (.invokevirtual 320, 3) := by decide +kernel
theorem dX7_passesAll_30 : decode cX7_passesAll 30 = .ok (.aload_n 0, 1) := by decide +kernel
theorem dX7_passesAll_31 : decode cX7_passesAll 31 = .ok (.aload_n 0, 1) := by decide +kernel
theorem dX7_passesAll_32 : decode cX7_passesAll 32 = .ok (.getfield 19, 3) := by decide +kernel
theorem dX7_passesAll_35 : decode cX7_passesAll 35 = .ok (.invokevirtual 320, 3) := by decide +kernel
theorem dX7_passesAll_38 : decode cX7_passesAll 38 = .ok (.aload_n 0, 1) := by decide +kernel
theorem dX7_passesAll_39 : decode cX7_passesAll 39 = .ok (.aload_n 0, 1) := by decide +kernel
theorem dX7_passesAll_40 : decode cX7_passesAll 40 = .ok (.getfield 22, 3) := by decide +kernel
theorem dX7_passesAll_43 : decode cX7_passesAll 43 = .ok (.invokevirtual 320, 3) := by decide +kernel
theorem dX7_passesAll_46 : decode cX7_passesAll 46 = .ok (.aload_n 0, 1) := by decide +kernel
theorem dX7_passesAll_47 : decode cX7_passesAll 47 = .ok (.aload_n 0, 1) := by decide +kernel
theorem dX7_passesAll_48 : decode cX7_passesAll 48 = .ok (.getfield 25, 3) := by decide +kernel
theorem dX7_passesAll_51 : decode cX7_passesAll 51 = .ok (.invokevirtual 320, 3) := by decide +kernel
theorem dX7_passesAll_54 : decode cX7_passesAll 54 = .ok (.aload_n 0, 1) := by decide +kernel
theorem dX7_passesAll_55 : decode cX7_passesAll 55 = .ok (.aload_n 0, 1) := by decide +kernel
theorem dX7_passesAll_56 : decode cX7_passesAll 56 = .ok (.getfield 28, 3) := by decide +kernel
theorem dX7_passesAll_59 : decode cX7_passesAll 59 = .ok (.invokevirtual 320, 3) := by decide +kernel
theorem dX7_passesAll_62 : decode cX7_passesAll 62 = .ok (.aload_n 0, 1) := by decide +kernel
theorem dX7_passesAll_63 : decode cX7_passesAll 63 = .ok (.aload_n 0, 1) := by decide +kernel
theorem dX7_passesAll_64 : decode cX7_passesAll 64 = .ok (.getfield 31, 3) := by decide +kernel
theorem dX7_passesAll_67 : decode cX7_passesAll 67 = .ok (.invokevirtual 320, 3) := by decide +kernel
theorem dX7_passesAll_70 : decode cX7_passesAll 70 = .ok (.aload_n 0, 1) := by decide +kernel
theorem dX7_passesAll_71 : decode cX7_passesAll 71 = .ok (.aload_n 0, 1) := by decide +kernel
theorem dX7_passesAll_72 : decode cX7_passesAll 72 = .ok (.getfield 34, 3) := by decide +kernel
theorem dX7_passesAll_75 : decode cX7_passesAll 75 = .ok (.invokevirtual 320, 3) := by decide +kernel
theorem dX7_passesAll_78 : decode cX7_passesAll 78 = .ok (.aload_n 0, 1) := by decide +kernel
theorem dX7_passesAll_79 : decode cX7_passesAll 79 = .ok (.aload_n 0, 1) := by decide +kernel
theorem dX7_passesAll_80 : decode cX7_passesAll 80 = .ok (.getfield 37, 3) := by decide +kernel
theorem dX7_passesAll_83 : decode cX7_passesAll 83 = .ok (.invokevirtual 320, 3) := by decide +kernel
theorem dX7_passesAll_86 : decode cX7_passesAll 86 = .ok (.aload_n 0, 1) := by decide +kernel
theorem dX7_passesAll_87 : decode cX7_passesAll 87 = .ok (.aload_n 0, 1) := by decide +kernel
theorem dX7_passesAll_88 : decode cX7_passesAll 88 = .ok (.getfield 40, 3) := by decide +kernel
theorem dX7_passesAll_91 : decode cX7_passesAll 91 = .ok (.invokevirtual 320, 3) := by decide +kernel
theorem dX7_passesAll_94 : decode cX7_passesAll 94 = .ok (.aload_n 0, 1) := by decide +kernel
theorem dX7_passesAll_95 : decode cX7_passesAll 95 = .ok (.aload_n 0, 1) := by decide +kernel
theorem dX7_passesAll_96 : decode cX7_passesAll 96 = .ok (.getfield 43, 3) := by decide +kernel
theorem dX7_passesAll_99 : decode cX7_passesAll 99 = .ok (.invokevirtual 320, 3) := by decide +kernel
theorem dX7_passesAll_102 : decode cX7_passesAll 102 = .ok (.aload_n 0, 1) := by decide +kernel
theorem dX7_passesAll_103 : decode cX7_passesAll 103 = .ok (.aload_n 0, 1) := by decide +kernel
theorem dX7_passesAll_104 : decode cX7_passesAll 104 = .ok (.getfield 46, 3) := by decide +kernel
theorem dX7_passesAll_107 : decode cX7_passesAll 107 = .ok (.invokevirtual 320, 3) := by decide +kernel
theorem dX7_passesAll_110 : decode cX7_passesAll 110 = .ok (.aload_n 0, 1) := by decide +kernel
theorem dX7_passesAll_111 : decode cX7_passesAll 111 = .ok (.aload_n 0, 1) := by decide +kernel
theorem dX7_passesAll_112 : decode cX7_passesAll 112 = .ok (.aload_n 0, 1) := by decide +kernel
theorem dX7_passesAll_113 : decode cX7_passesAll 113 = .ok (.getfield 79, 3) := by decide +kernel
theorem dX7_passesAll_116 : decode cX7_passesAll 116 = .ok (.invokevirtual 324, 3) := by decide +kernel
theorem dX7_passesAll_119 : decode cX7_passesAll 119 = .ok (.putfield 79, 3) := by decide +kernel
theorem dX7_passesAll_122 : decode cX7_passesAll 122 = .ok (.aload_n 0, 1) := by decide +kernel
theorem dX7_passesAll_123 : decode cX7_passesAll 123 = .ok (.aload_n 0, 1) := by decide +kernel
theorem dX7_passesAll_124 : decode cX7_passesAll 124 = .ok (.aload_n 0, 1) := by decide +kernel
theorem dX7_passesAll_125 : decode cX7_passesAll 125 = .ok (.getfield 136, 3) := by decide +kernel
theorem dX7_passesAll_128 : decode cX7_passesAll 128 = .ok (.invokevirtual 324, 3) := by decide +kernel
theorem dX7_passesAll_131 : decode cX7_passesAll 131 = .ok (.putfield 136, 3) := by decide +kernel
theorem dX7_passesAll_134 : decode cX7_passesAll 134 = .ok (.aload_n 0, 1) := by decide +kernel
theorem dX7_passesAll_135 : decode cX7_passesAll 135 = .ok (.aload_n 0, 1) := by decide +kernel
theorem dX7_passesAll_136 : decode cX7_passesAll 136 = .ok (.aload_n 0, 1) := by decide +kernel
theorem dX7_passesAll_137 : decode cX7_passesAll 137 = .ok (.getfield 127, 3) := by decide +kernel
theorem dX7_passesAll_140 : decode cX7_passesAll 140 = .ok (.invokevirtual 324, 3) := by decide +kernel
theorem dX7_passesAll_143 : decode cX7_passesAll 143 = .ok (.putfield 127, 3) := by decide +kernel
theorem dX7_passesAll_146 : decode cX7_passesAll 146 = .ok (.return_, 1) := by decide +kernel
theorem dX7_land_0 : decode cX7_land 0 = .ok (.aload_n 0, 1) := by decide +kernel
theorem dX7_land_1 : decode cX7_land 1 = .ok (.iconst 0, 1) := by decide +kernel
theorem dX7_land_2 : decode cX7_land 2 = .ok (.putfield 173, 3) := by decide +kernel
theorem dX7_land_5 : decode cX7_land 5 = .ok (.aload_n 0, 1) := by decide +kernel
theorem dX7_land_6 : decode cX7_land 6 = .ok (.iconst 0, 1) := by decide +kernel
theorem dX7_land_7 : decode cX7_land 7 = .ok (.putfield 180, 3) := by decide +kernel
theorem dX7_land_10 : decode cX7_land 10 = .ok (.iconst 1, 1) := by decide +kernel
theorem dX7_land_11 : decode cX7_land 11 = .ok (.istore_n 1, 1) := by decide +kernel
theorem dX7_land_12 : decode cX7_land 12 = .ok (.iload_n 1, 1) := by decide +kernel
theorem dX7_land_13 : decode cX7_land 13 = .ok (.ifCond .eq 47, 3) := by decide +kernel
theorem dX7_land_16 : decode cX7_land 16 = .ok (.aload_n 0, 1) := by decide +kernel
theorem dX7_land_17 : decode cX7_land 17 = .ok (.getfield 173, 3) := by decide +kernel
theorem dX7_land_20 : decode cX7_land 20 = .ok (.aload_n 0, 1) := by decide +kernel
theorem dX7_land_21 : decode cX7_land 21 = .ok (.getfield 167, 3) := by decide +kernel
theorem dX7_land_24 : decode cX7_land 24 = .ok (.if_icmp .lt 10, 3) := by decide +kernel
theorem dX7_land_27 : decode cX7_land 27 = .ok (.aload_n 0, 1) := by decide +kernel
theorem dX7_land_28 : decode cX7_land 28 = .ok (.getfield 180, 3) := by decide +kernel
theorem dX7_land_31 : decode cX7_land 31 = .ok (.ifCond .ne 29, 3) := by decide +kernel
theorem dX7_land_34 : decode cX7_land 34 = .ok (.aload_n 0, 1) := by decide +kernel
theorem dX7_land_35 : decode cX7_land 35 = .ok (.invokevirtual 300, 3) := by decide +kernel
theorem dX7_land_38 : decode cX7_land 38 = .ok (.istore_n 1, 1) := by decide +kernel
theorem dX7_land_39 : decode cX7_land 39 = .ok (.aload_n 0, 1) := by decide +kernel
theorem dX7_land_40 : decode cX7_land 40 = .ok (.dup, 1) := by decide +kernel
theorem dX7_land_41 : decode cX7_land 41 = .ok (.getfield 180, 3) := by decide +kernel
theorem dX7_land_44 : decode cX7_land 44 = .ok (.iload_n 1, 1) := by decide +kernel
theorem dX7_land_45 : decode cX7_land 45 = .ok (.ifCond .eq 7, 3) := by decide +kernel
theorem dX7_land_48 : decode cX7_land 48 = .ok (.iconst 1, 1) := by decide +kernel
theorem dX7_land_49 : decode cX7_land 49 = .ok (.goto 4, 3) := by decide +kernel
theorem dX7_land_52 : decode cX7_land 52 = .ok (.iconst 0, 1) := by decide +kernel
theorem dX7_land_53 : decode cX7_land 53 = .ok (.iadd, 1) := by decide +kernel
theorem dX7_land_54 : decode cX7_land 54 = .ok (.putfield 180, 3) := by decide +kernel
theorem dX7_land_57 : decode cX7_land 57 = .ok (.goto (-45), 3) := by decide +kernel
theorem dX7_land_60 : decode cX7_land 60 = .ok (.aload_n 0, 1) := by decide +kernel
theorem dX7_land_61 : decode cX7_land 61 = .ok (.iconst 0, 1) := by decide +kernel
theorem dX7_land_62 : decode cX7_land 62 = .ok (.putfield 167, 3) := by decide +kernel
theorem dX7_land_65 : decode cX7_land 65 = .ok (.iload_n 1, 1) := by decide +kernel
theorem dX7_land_66 : decode cX7_land 66 = .ok (.ifCond .ne 12, 3) := by decide +kernel
theorem dX7_land_69 : decode cX7_land 69 = .ok (.sipush (-1000), 3) := by decide +kernel
theorem dX7_land_72 : decode cX7_land 72 = .ok (.aload_n 0, 1) := by decide +kernel
theorem dX7_land_73 : decode cX7_land 73 = .ok (.getfield 173, 3) := by decide +kernel
theorem dX7_land_76 : decode cX7_land 76 = .ok (.isub, 1) := by decide +kernel
theorem dX7_land_77 : decode cX7_land 77 = .ok (.ireturn, 1) := by decide +kernel
theorem dX7_land_78 : decode cX7_land 78 = .ok (.aload_n 0, 1) := by decide +kernel
theorem dX7_land_79 : decode cX7_land 79 = .ok (.iconst 1, 1) := by decide +kernel
theorem dX7_land_80 : decode cX7_land 80 = .ok (.iconst 1, 1) := by decide +kernel
theorem dX7_land_81 : decode cX7_land 81 = .ok (.invokevirtual 303, 3) := by decide +kernel
theorem dX7_land_84 : decode cX7_land 84 = .ok (.iconst 0, 1) := by decide +kernel
theorem dX7_land_85 : decode cX7_land 85 = .ok (.istore_n 2, 1) := by decide +kernel
theorem dX7_land_86 : decode cX7_land 86 = .ok (.iload_n 2, 1) := by decide +kernel
theorem dX7_land_87 : decode cX7_land 87 = .ok (.aload_n 0, 1) := by decide +kernel
theorem dX7_land_88 : decode cX7_land 88 = .ok (.getfield 180, 3) := by decide +kernel
theorem dX7_land_91 : decode cX7_land 91 = .ok (.if_icmp .ge 37, 3) := by decide +kernel
theorem dX7_land_94 : decode cX7_land 94 = .ok (.aload_n 0, 1) := by decide +kernel
theorem dX7_land_95 : decode cX7_land 95 = .ok (.iload_n 2, 1) := by decide +kernel
theorem dX7_land_96 : decode cX7_land 96 = .ok (.invokevirtual 307, 3) := by decide +kernel
theorem dX7_land_99 : decode cX7_land 99 = .ok (.ifCond .eq 6, 3) := by decide +kernel
theorem dX7_land_102 : decode cX7_land 102 = .ok (.goto 20, 3) := by decide +kernel
theorem dX7_land_105 : decode cX7_land 105 = .ok (.aload_n 0, 1) := by decide +kernel
theorem dX7_land_106 : decode cX7_land 106 = .ok (.iconst 1, 1) := by decide +kernel
theorem dX7_land_107 : decode cX7_land 107 = .ok (.iconst 0, 1) := by decide +kernel
theorem dX7_land_108 : decode cX7_land 108 = .ok (.invokevirtual 303, 3) := by decide +kernel
theorem dX7_land_111 : decode cX7_land 111 = .ok (.sipush (-2000), 3) := by decide +kernel
theorem dX7_land_114 : decode cX7_land 114 = .ok (.aload_n 0, 1) := by decide +kernel
theorem dX7_land_115 : decode cX7_land 115 = .ok (.getfield 52, 3) := by decide +kernel
theorem dX7_land_118 : decode cX7_land 118 = .ok (.iload_n 2, 1) := by decide +kernel
theorem dX7_land_119 : decode cX7_land 119 = .ok (.iaload, 1) := by decide +kernel
theorem dX7_land_120 : decode cX7_land 120 = .ok (.isub, 1) := by decide +kernel
theorem dX7_land_121 : decode cX7_land 121 = .ok (.ireturn, 1) := by decide +kernel
theorem dX7_land_122 : decode cX7_land 122 = .ok (.iinc 2 1, 3) := by decide +kernel
theorem dX7_land_125 : decode cX7_land 125 = .ok (.goto (-39), 3) := by decide +kernel
theorem dX7_land_128 : decode cX7_land 128 = .ok (.aload_n 0, 1) := by decide +kernel
theorem dX7_land_129 : decode cX7_land 129 = .ok (.iconst 0, 1) := by decide +kernel
theorem dX7_land_130 : decode cX7_land 130 = .ok (.putfield 310, 3) := by decide +kernel
theorem dX7_land_133 : decode cX7_land 133 = .ok (.aload_n 0, 1) := by decide +kernel
theorem dX7_land_134 : decode cX7_land 134 = .ok (.getfield 180, 3) := by decide +kernel
theorem dX7_land_137 : decode cX7_land 137 = .ok (.ireturn, 1) := by decide +kernel
theorem dX7_minds_0 : decode cX7_minds 0 = .ok (.aload_n 0, 1) := by decide +kernel
theorem dX7_minds_1 : decode cX7_minds 1 = .ok (.iconst 2, 1) := by decide +kernel
theorem dX7_minds_2 : decode cX7_minds 2 = .ok (.iconst 1, 1) := by decide +kernel
theorem dX7_minds_3 : decode cX7_minds 3 = .ok (.invokevirtual 303, 3) := by decide +kernel
theorem dX7_minds_6 : decode cX7_minds 6 = .ok (.return_, 1) := by decide +kernel
theorem dX7_forgets_0 : decode cX7_forgets 0 = .ok (.aload_n 0, 1) := by decide +kernel
theorem dX7_forgets_1 : decode cX7_forgets 1 = .ok (.iconst 2, 1) := by decide +kernel
theorem dX7_forgets_2 : decode cX7_forgets 2 = .ok (.iconst 0, 1) := by decide +kernel
theorem dX7_forgets_3 : decode cX7_forgets 3 = .ok (.invokevirtual 303, 3) := by decide +kernel
theorem dX7_forgets_6 : decode cX7_forgets 6 = .ok (.return_, 1) := by decide +kernel
theorem dX7_remembers_0 : decode cX7_remembers 0 = .ok (.aload_n 0, 1) := by decide +kernel
theorem dX7_remembers_1 : decode cX7_remembers 1 = .ok (.getfield 310, 3) := by decide +kernel
theorem dX7_remembers_4 : decode cX7_remembers 4 = .ok (.bipush 8, 2) := by decide +kernel
theorem dX7_remembers_6 : decode cX7_remembers 6 = .ok (.if_icmp .ne 19, 3) := by decide +kernel
theorem dX7_remembers_9 : decode cX7_remembers 9 = .ok (.aload_n 0, 1) := by decide +kernel
theorem dX7_remembers_10 : decode cX7_remembers 10 = .ok (.aload_n 0, 1) := by decide +kernel
theorem dX7_remembers_11 : decode cX7_remembers 11 = .ok (.getfield 327, 3) := by decide +kernel
theorem dX7_remembers_14 : decode cX7_remembers 14 = .ok (.iconst 1, 1) := by decide +kernel
theorem dX7_remembers_15 : decode cX7_remembers 15 = .ok (.iadd, 1) := by decide +kernel
theorem dX7_remembers_16 : decode cX7_remembers 16 = .ok (.bipush 8, 2) := by decide +kernel
theorem dX7_remembers_18 : decode cX7_remembers 18 = .ok (.irem, 1) := by decide +kernel
theorem dX7_remembers_19 : decode cX7_remembers 19 = .ok (.putfield 327, 3) := by decide +kernel
theorem dX7_remembers_22 : decode cX7_remembers 22 = .ok (.goto 13, 3) := by decide +kernel
theorem dX7_remembers_25 : decode cX7_remembers 25 = .ok (.aload_n 0, 1) := by decide +kernel
theorem dX7_remembers_26 : decode cX7_remembers 26 = .ok (.dup, 1) := by decide +kernel
theorem dX7_remembers_27 : decode cX7_remembers 27 = .ok (.getfield 310, 3) := by decide +kernel
theorem dX7_remembers_30 : decode cX7_remembers 30 = .ok (.iconst 1, 1) := by decide +kernel
theorem dX7_remembers_31 : decode cX7_remembers 31 = .ok (.iadd, 1) := by decide +kernel
theorem dX7_remembers_32 : decode cX7_remembers 32 = .ok (.putfield 310, 3) := by decide +kernel
theorem dX7_remembers_35 : decode cX7_remembers 35 = .ok (.aload_n 0, 1) := by decide +kernel
theorem dX7_remembers_36 : decode cX7_remembers 36 = .ok (.iconst 3, 1) := by decide +kernel
theorem dX7_remembers_37 : decode cX7_remembers 37 = .ok (.aload_n 0, 1) := by decide +kernel
theorem dX7_remembers_38 : decode cX7_remembers 38 = .ok (.getfield 327, 3) := by decide +kernel
theorem dX7_remembers_41 : decode cX7_remembers 41 = .ok (.aload_n 0, 1) := by decide +kernel
theorem dX7_remembers_42 : decode cX7_remembers 42 = .ok (.getfield 310, 3) := by decide +kernel
theorem dX7_remembers_45 : decode cX7_remembers 45 = .ok (.iadd, 1) := by decide +kernel
theorem dX7_remembers_46 : decode cX7_remembers 46 = .ok (.iconst 1, 1) := by decide +kernel
theorem dX7_remembers_47 : decode cX7_remembers 47 = .ok (.isub, 1) := by decide +kernel
theorem dX7_remembers_48 : decode cX7_remembers 48 = .ok (.bipush 8, 2) := by decide +kernel
theorem dX7_remembers_50 : decode cX7_remembers 50 = .ok (.irem, 1) := by decide +kernel
theorem dX7_remembers_51 : decode cX7_remembers 51 = .ok (.iadd, 1) := by decide +kernel
theorem dX7_remembers_52 : decode cX7_remembers 52 = .ok (.iconst 1, 1) := by decide +kernel
theorem dX7_remembers_53 : decode cX7_remembers 53 = .ok (.invokevirtual 303, 3) := by decide +kernel
theorem dX7_remembers_56 : decode cX7_remembers 56 = .ok (.return_, 1) := by decide +kernel
theorem dX7_back_0 : decode cX7_back 0 = .ok (.aload_n 0, 1) := by decide +kernel
theorem dX7_back_1 : decode cX7_back 1 = .ok (.getfield 310, 3) := by decide +kernel
theorem dX7_back_4 : decode cX7_back 4 = .ok (.ifCond .ne 10, 3) := by decide +kernel
theorem dX7_back_7 : decode cX7_back 7 = .ok (.aload_n 0, 1) := by decide +kernel
theorem dX7_back_8 : decode cX7_back 8 = .ok (.bipush (-3), 2) := by decide +kernel
theorem dX7_back_10 : decode cX7_back 10 = .ok (.invokevirtual 170, 3) := by decide +kernel
theorem dX7_back_13 : decode cX7_back 13 = .ok (.ireturn, 1) := by decide +kernel
theorem dX7_back_14 : decode cX7_back 14 = .ok (.aload_n 0, 1) := by decide +kernel
theorem dX7_back_15 : decode cX7_back 15 = .ok (.iconst 3, 1) := by decide +kernel
theorem dX7_back_16 : decode cX7_back 16 = .ok (.aload_n 0, 1) := by decide +kernel
theorem dX7_back_17 : decode cX7_back 17 = .ok (.getfield 327, 3) := by decide +kernel
theorem dX7_back_20 : decode cX7_back 20 = .ok (.aload_n 0, 1) := by decide +kernel
theorem dX7_back_21 : decode cX7_back 21 = .ok (.getfield 310, 3) := by decide +kernel
theorem dX7_back_24 : decode cX7_back 24 = .ok (.iadd, 1) := by decide +kernel
theorem dX7_back_25 : decode cX7_back 25 = .ok (.iconst 1, 1) := by decide +kernel
theorem dX7_back_26 : decode cX7_back 26 = .ok (.isub, 1) := by decide +kernel
theorem dX7_back_27 : decode cX7_back 27 = .ok (.bipush 8, 2) := by decide +kernel
theorem dX7_back_29 : decode cX7_back 29 = .ok (.irem, 1) := by decide +kernel
theorem dX7_back_30 : decode cX7_back 30 = .ok (.iadd, 1) := by decide +kernel
theorem dX7_back_31 : decode cX7_back 31 = .ok (.iconst 0, 1) := by decide +kernel
theorem dX7_back_32 : decode cX7_back 32 = .ok (.invokevirtual 303, 3) := by decide +kernel
theorem dX7_back_35 : decode cX7_back 35 = .ok (.aload_n 0, 1) := by decide +kernel
theorem dX7_back_36 : decode cX7_back 36 = .ok (.dup, 1) := by decide +kernel
theorem dX7_back_37 : decode cX7_back 37 = .ok (.getfield 310, 3) := by decide +kernel
theorem dX7_back_40 : decode cX7_back 40 = .ok (.iconst 1, 1) := by decide +kernel
theorem dX7_back_41 : decode cX7_back 41 = .ok (.isub, 1) := by decide +kernel
theorem dX7_back_42 : decode cX7_back 42 = .ok (.putfield 310, 3) := by decide +kernel
theorem dX7_back_45 : decode cX7_back 45 = .ok (.aload_n 0, 1) := by decide +kernel
theorem dX7_back_46 : decode cX7_back 46 = .ok (.getfield 310, 3) := by decide +kernel
theorem dX7_back_49 : decode cX7_back 49 = .ok (.ireturn, 1) := by decide +kernel
theorem dX7_image_0 : decode cX7_image 0 = .ok (.aload_n 0, 1) := by decide +kernel
theorem dX7_image_1 : decode cX7_image 1 = .ok (.iconst 1, 1) := by decide +kernel
theorem dX7_image_2 : decode cX7_image 2 = .ok (.putfield 330, 3) := by decide +kernel
theorem dX7_image_5 : decode cX7_image 5 = .ok (.aload_n 0, 1) := by decide +kernel
theorem dX7_image_6 : decode cX7_image 6 = .ok (.iconst 0, 1) := by decide +kernel
theorem dX7_image_7 : decode cX7_image 7 = .ok (.iconst 1, 1) := by decide +kernel
theorem dX7_image_8 : decode cX7_image 8 = .ok (.invokevirtual 303, 3) := by decide +kernel
theorem dX7_image_11 : decode cX7_image 11 = .ok (.aload_n 0, 1) := by decide +kernel
theorem dX7_image_12 : decode cX7_image 12 = .ok (.getfield 136, 3) := by decide +kernel
theorem dX7_image_15 : decode cX7_image 15 = .ok (.ireturn, 1) := by decide +kernel
theorem dX7_restore_0 : decode cX7_restore 0 = .ok (.aload_n 0, 1) := by decide +kernel
theorem dX7_restore_1 : decode cX7_restore 1 = .ok (.getfield 330, 3) := by decide +kernel
theorem dX7_restore_4 : decode cX7_restore 4 = .ok (.ifCond .ne 10, 3) := by decide +kernel
theorem dX7_restore_7 : decode cX7_restore 7 = .ok (.aload_n 0, 1) := by decide +kernel
theorem dX7_restore_8 : decode cX7_restore 8 = .ok (.bipush (-3), 2) := by decide +kernel
theorem dX7_restore_10 : decode cX7_restore 10 = .ok (.invokevirtual 170, 3) := by decide +kernel
theorem dX7_restore_13 : decode cX7_restore 13 = .ok (.ireturn, 1) := by decide +kernel
theorem dX7_restore_14 : decode cX7_restore 14 = .ok (.aload_n 0, 1) := by decide +kernel
theorem dX7_restore_15 : decode cX7_restore 15 = .ok (.iconst 0, 1) := by decide +kernel
theorem dX7_restore_16 : decode cX7_restore 16 = .ok (.iconst 0, 1) := by decide +kernel
theorem dX7_restore_17 : decode cX7_restore 17 = .ok (.invokevirtual 303, 3) := by decide +kernel
theorem dX7_restore_20 : decode cX7_restore 20 = .ok (.aload_n 0, 1) := by decide +kernel
theorem dX7_restore_21 : decode cX7_restore 21 = .ok (.iconst 0, 1) := by decide +kernel
theorem dX7_restore_22 : decode cX7_restore 22 = .ok (.putfield 310, 3) := by decide +kernel
theorem dX7_restore_25 : decode cX7_restore 25 = .ok (.aload_n 0, 1) := by decide +kernel
theorem dX7_restore_26 : decode cX7_restore 26 = .ok (.getfield 136, 3) := by decide +kernel
theorem dX7_restore_29 : decode cX7_restore 29 = .ok (.ireturn, 1) := by decide +kernel
theorem dX7_head_0 : decode cX7_head 0 = .ok (.aload_n 0, 1) := by decide +kernel
theorem dX7_head_1 : decode cX7_head 1 = .ok (.iload_n 1, 1) := by decide +kernel
theorem dX7_head_2 : decode cX7_head 2 = .ok (.invokevirtual 89, 3) := by decide +kernel
theorem dX7_head_5 : decode cX7_head 5 = .ok (.ifCond .ne 9, 3) := by decide +kernel
theorem dX7_head_8 : decode cX7_head 8 = .ok (.aload_n 0, 1) := by decide +kernel
theorem dX7_head_9 : decode cX7_head 9 = .ok (.iconst (-1), 1) := by decide +kernel
theorem dX7_head_10 : decode cX7_head 10 = .ok (.invokevirtual 170, 3) := by decide +kernel
theorem dX7_head_13 : decode cX7_head 13 = .ok (.ireturn, 1) := by decide +kernel
theorem dX7_head_14 : decode cX7_head 14 = .ok (.iload_n 2, 1) := by decide +kernel
theorem dX7_head_15 : decode cX7_head 15 = .ok (.tableswitch 147 0 11 #[61, 68, 75, 82, 89, 96, 103, 110, 117, 123, 129, 141], 61) := by decide +kernel
theorem dX7_head_76 : decode cX7_head 76 = .ok (.aload_n 0, 1) := by decide +kernel
theorem dX7_head_77 : decode cX7_head 77 = .ok (.getfield 22, 3) := by decide +kernel
theorem dX7_head_80 : decode cX7_head 80 = .ok (.iload_n 1, 1) := by decide +kernel
theorem dX7_head_81 : decode cX7_head 81 = .ok (.iaload, 1) := by decide +kernel
theorem dX7_head_82 : decode cX7_head 82 = .ok (.ireturn, 1) := by decide +kernel
theorem dX7_head_83 : decode cX7_head 83 = .ok (.aload_n 0, 1) := by decide +kernel
theorem dX7_head_84 : decode cX7_head 84 = .ok (.getfield 25, 3) := by decide +kernel
theorem dX7_head_87 : decode cX7_head 87 = .ok (.iload_n 1, 1) := by decide +kernel
theorem dX7_head_88 : decode cX7_head 88 = .ok (.iaload, 1) := by decide +kernel
theorem dX7_head_89 : decode cX7_head 89 = .ok (.ireturn, 1) := by decide +kernel
theorem dX7_head_90 : decode cX7_head 90 = .ok (.aload_n 0, 1) := by decide +kernel
theorem dX7_head_91 : decode cX7_head 91 = .ok (.getfield 28, 3) := by decide +kernel
theorem dX7_head_94 : decode cX7_head 94 = .ok (.iload_n 1, 1) := by decide +kernel
theorem dX7_head_95 : decode cX7_head 95 = .ok (.iaload, 1) := by decide +kernel
theorem dX7_head_96 : decode cX7_head 96 = .ok (.ireturn, 1) := by decide +kernel
theorem dX7_head_97 : decode cX7_head 97 = .ok (.aload_n 0, 1) := by decide +kernel
theorem dX7_head_98 : decode cX7_head 98 = .ok (.getfield 31, 3) := by decide +kernel
theorem dX7_head_101 : decode cX7_head 101 = .ok (.iload_n 1, 1) := by decide +kernel
theorem dX7_head_102 : decode cX7_head 102 = .ok (.iaload, 1) := by decide +kernel
theorem dX7_head_103 : decode cX7_head 103 = .ok (.ireturn, 1) := by decide +kernel
theorem dX7_head_104 : decode cX7_head 104 = .ok (.aload_n 0, 1) := by decide +kernel
theorem dX7_head_105 : decode cX7_head 105 = .ok (.getfield 34, 3) := by decide +kernel
theorem dX7_head_108 : decode cX7_head 108 = .ok (.iload_n 1, 1) := by decide +kernel
theorem dX7_head_109 : decode cX7_head 109 = .ok (.iaload, 1) := by decide +kernel
theorem dX7_head_110 : decode cX7_head 110 = .ok (.ireturn, 1) := by decide +kernel
theorem dX7_head_111 : decode cX7_head 111 = .ok (.aload_n 0, 1) := by decide +kernel
theorem dX7_head_112 : decode cX7_head 112 = .ok (.getfield 37, 3) := by decide +kernel
theorem dX7_head_115 : decode cX7_head 115 = .ok (.iload_n 1, 1) := by decide +kernel
theorem dX7_head_116 : decode cX7_head 116 = .ok (.iaload, 1) := by decide +kernel
theorem dX7_head_117 : decode cX7_head 117 = .ok (.ireturn, 1) := by decide +kernel
theorem dX7_head_118 : decode cX7_head 118 = .ok (.aload_n 0, 1) := by decide +kernel
theorem dX7_head_119 : decode cX7_head 119 = .ok (.getfield 40, 3) := by decide +kernel
theorem dX7_head_122 : decode cX7_head 122 = .ok (.iload_n 1, 1) := by decide +kernel
theorem dX7_head_123 : decode cX7_head 123 = .ok (.iaload, 1) := by decide +kernel
theorem dX7_head_124 : decode cX7_head 124 = .ok (.ireturn, 1) := by decide +kernel
theorem dX7_head_125 : decode cX7_head 125 = .ok (.aload_n 0, 1) := by decide +kernel
theorem dX7_head_126 : decode cX7_head 126 = .ok (.getfield 43, 3) := by decide +kernel
theorem dX7_head_129 : decode cX7_head 129 = .ok (.iload_n 1, 1) := by decide +kernel
theorem dX7_head_130 : decode cX7_head 130 = .ok (.iaload, 1) := by decide +kernel
theorem dX7_head_131 : decode cX7_head 131 = .ok (.ireturn, 1) := by decide +kernel
theorem dX7_head_132 : decode cX7_head 132 = .ok (.aload_n 0, 1) := by decide +kernel
theorem dX7_head_133 : decode cX7_head 133 = .ok (.iload_n 1, 1) := by decide +kernel
theorem dX7_head_134 : decode cX7_head 134 = .ok (.invokevirtual 142, 3) := by decide +kernel
theorem dX7_head_137 : decode cX7_head 137 = .ok (.ireturn, 1) := by decide +kernel
theorem dX7_head_138 : decode cX7_head 138 = .ok (.aload_n 0, 1) := by decide +kernel
theorem dX7_head_139 : decode cX7_head 139 = .ok (.iload_n 1, 1) := by decide +kernel
theorem dX7_head_140 : decode cX7_head 140 = .ok (.invokevirtual 107, 3) := by decide +kernel
theorem dX7_head_143 : decode cX7_head 143 = .ok (.ireturn, 1) := by decide +kernel
theorem dX7_head_144 : decode cX7_head 144 = .ok (.aload_n 0, 1) := by decide +kernel
theorem dX7_head_145 : decode cX7_head 145 = .ok (.iload_n 1, 1) := by decide +kernel
theorem dX7_head_146 : decode cX7_head 146 = .ok (.aload_n 0, 1) := by decide +kernel
theorem dX7_head_147 : decode cX7_head 147 = .ok (.getfield 136, 3) := by decide +kernel
theorem dX7_head_150 : decode cX7_head 150 = .ok (.iconst 1, 1) := by decide +kernel
theorem dX7_head_151 : decode cX7_head 151 = .ok (.iadd, 1) := by decide +kernel
theorem dX7_head_152 : decode cX7_head 152 = .ok (.invokevirtual 139, 3) := by decide +kernel
theorem dX7_head_155 : decode cX7_head 155 = .ok (.ireturn, 1) := by decide +kernel
theorem dX7_head_156 : decode cX7_head 156 = .ok (.aload_n 0, 1) := by decide +kernel
theorem dX7_head_157 : decode cX7_head 157 = .ok (.iload_n 1, 1) := by decide +kernel
theorem dX7_head_158 : decode cX7_head 158 = .ok (.invokevirtual 154, 3) := by decide +kernel
theorem dX7_head_161 : decode cX7_head 161 = .ok (.ireturn, 1) := by decide +kernel
theorem dX7_head_162 : decode cX7_head 162 = .ok (.aload_n 0, 1) := by decide +kernel
theorem dX7_head_163 : decode cX7_head 163 = .ok (.bipush (-2), 2) := by decide +kernel
theorem dX7_head_165 : decode cX7_head 165 = .ok (.invokevirtual 170, 3) := by decide +kernel
theorem dX7_head_168 : decode cX7_head 168 = .ok (.ireturn, 1) := by decide +kernel
theorem dX7_headsOn_0 : decode cX7_headsOn 0 = .ok (.iconst 0, 1) := by decide +kernel
theorem dX7_headsOn_1 : decode cX7_headsOn 1 = .ok (.istore_n 2, 1) := by decide +kernel
theorem dX7_headsOn_2 : decode cX7_headsOn 2 = .ok (.iconst 0, 1) := by decide +kernel
theorem dX7_headsOn_3 : decode cX7_headsOn 3 = .ok (.istore_n 3, 1) := by decide +kernel
theorem dX7_headsOn_4 : decode cX7_headsOn 4 = .ok (.iload_n 3, 1) := by decide +kernel
theorem dX7_headsOn_5 : decode cX7_headsOn 5 = .ok (.aload_n 0, 1) := by decide +kernel
theorem dX7_headsOn_6 : decode cX7_headsOn 6 = .ok (.getfield 79, 3) := by decide +kernel
theorem dX7_headsOn_9 : decode cX7_headsOn 9 = .ok (.if_icmp .ge 29, 3) := by decide +kernel
theorem dX7_headsOn_12 : decode cX7_headsOn 12 = .ok (.iload_n 2, 1) := by decide +kernel
theorem dX7_headsOn_13 : decode cX7_headsOn 13 = .ok (.aload_n 0, 1) := by decide +kernel
theorem dX7_headsOn_14 : decode cX7_headsOn 14 = .ok (.getfield 28, 3) := by decide +kernel
theorem dX7_headsOn_17 : decode cX7_headsOn 17 = .ok (.iload_n 3, 1) := by decide +kernel
theorem dX7_headsOn_18 : decode cX7_headsOn 18 = .ok (.iaload, 1) := by decide +kernel
theorem dX7_headsOn_19 : decode cX7_headsOn 19 = .ok (.iload_n 1, 1) := by decide +kernel
theorem dX7_headsOn_20 : decode cX7_headsOn 20 = .ok (.if_icmp .ne 9, 3) := by decide +kernel
theorem dX7_headsOn_23 : decode cX7_headsOn 23 = .ok (.iconst 1, 1) := by decide +kernel
theorem dX7_headsOn_24 : decode cX7_headsOn 24 = .ok (.iload_n 3, 1) := by decide +kernel
theorem dX7_headsOn_25 : decode cX7_headsOn 25 = .ok (.ishl, 1) := by decide +kernel
theorem dX7_headsOn_26 : decode cX7_headsOn 26 = .ok (.goto 4, 3) := by decide +kernel
theorem dX7_headsOn_29 : decode cX7_headsOn 29 = .ok (.iconst 0, 1) := by decide +kernel
theorem dX7_headsOn_30 : decode cX7_headsOn 30 = .ok (.ior, 1) := by decide +kernel
theorem dX7_headsOn_31 : decode cX7_headsOn 31 = .ok (.istore_n 2, 1) := by decide +kernel
theorem dX7_headsOn_32 : decode cX7_headsOn 32 = .ok (.iinc 3 1, 3) := by decide +kernel
theorem dX7_headsOn_35 : decode cX7_headsOn 35 = .ok (.goto (-31), 3) := by decide +kernel
theorem dX7_headsOn_38 : decode cX7_headsOn 38 = .ok (.iload_n 2, 1) := by decide +kernel
theorem dX7_headsOn_39 : decode cX7_headsOn 39 = .ok (.ireturn, 1) := by decide +kernel
theorem dX7_field_0 : decode cX7_field 0 = .ok (.iload_n 1, 1) := by decide +kernel
theorem dX7_field_1 : decode cX7_field 1 = .ok (.invokestatic 244, 3) := by decide +kernel
theorem dX7_field_4 : decode cX7_field 4 = .ok (.ifCond .ne 9, 3) := by decide +kernel
theorem dX7_field_7 : decode cX7_field 7 = .ok (.aload_n 0, 1) := by decide +kernel
theorem dX7_field_8 : decode cX7_field 8 = .ok (.iconst (-1), 1) := by decide +kernel
theorem dX7_field_9 : decode cX7_field 9 = .ok (.invokevirtual 170, 3) := by decide +kernel
theorem dX7_field_12 : decode cX7_field 12 = .ok (.ireturn, 1) := by decide +kernel
theorem dX7_field_13 : decode cX7_field 13 = .ok (.iload_n 2, 1) := by decide +kernel
theorem dX7_field_14 : decode cX7_field 14 = .ok (.tableswitch 57 0 3 #[30, 37, 44, 51], 30) := by decide +kernel
theorem dX7_field_44 : decode cX7_field 44 = .ok (.aload_n 0, 1) := by decide +kernel
theorem dX7_field_45 : decode cX7_field 45 = .ok (.getfield 13, 3) := by decide +kernel
theorem dX7_field_48 : decode cX7_field 48 = .ok (.iload_n 1, 1) := by decide +kernel
theorem dX7_field_49 : decode cX7_field 49 = .ok (.iaload, 1) := by decide +kernel
theorem dX7_field_50 : decode cX7_field 50 = .ok (.ireturn, 1) := by decide +kernel
theorem dX7_field_51 : decode cX7_field 51 = .ok (.aload_n 0, 1) := by decide +kernel
theorem dX7_field_52 : decode cX7_field 52 = .ok (.getfield 16, 3) := by decide +kernel
theorem dX7_field_55 : decode cX7_field 55 = .ok (.iload_n 1, 1) := by decide +kernel
theorem dX7_field_56 : decode cX7_field 56 = .ok (.iaload, 1) := by decide +kernel
theorem dX7_field_57 : decode cX7_field 57 = .ok (.ireturn, 1) := by decide +kernel
theorem dX7_field_58 : decode cX7_field 58 = .ok (.aload_n 0, 1) := by decide +kernel
theorem dX7_field_59 : decode cX7_field 59 = .ok (.getfield 19, 3) := by decide +kernel
theorem dX7_field_62 : decode cX7_field 62 = .ok (.iload_n 1, 1) := by decide +kernel
theorem dX7_field_63 : decode cX7_field 63 = .ok (.iaload, 1) := by decide +kernel
theorem dX7_field_64 : decode cX7_field 64 = .ok (.ireturn, 1) := by decide +kernel
theorem dX7_field_65 : decode cX7_field 65 = .ok (.aload_n 0, 1) := by decide +kernel
theorem dX7_field_66 : decode cX7_field 66 = .ok (.iload_n 1, 1) := by decide +kernel
theorem dX7_field_67 : decode cX7_field 67 = .ok (.invokevirtual 333, 3) := by decide +kernel
theorem dX7_field_70 : decode cX7_field 70 = .ok (.ireturn, 1) := by decide +kernel
theorem dX7_field_71 : decode cX7_field 71 = .ok (.aload_n 0, 1) := by decide +kernel
theorem dX7_field_72 : decode cX7_field 72 = .ok (.bipush (-2), 2) := by decide +kernel
theorem dX7_field_74 : decode cX7_field 74 = .ok (.invokevirtual 170, 3) := by decide +kernel
theorem dX7_field_77 : decode cX7_field 77 = .ok (.ireturn, 1) := by decide +kernel
theorem dX7_comes_0 : decode cX7_comes 0 = .ok (.iload_n 1, 1) := by decide +kernel
theorem dX7_comes_1 : decode cX7_comes 1 = .ok (.iconst 0, 1) := by decide +kernel
theorem dX7_comes_2 : decode cX7_comes 2 = .ok (.bipush 7, 2) := by decide +kernel
theorem dX7_comes_4 : decode cX7_comes 4 = .ok (.invokestatic 85, 3) := by decide +kernel
theorem dX7_comes_7 : decode cX7_comes 7 = .ok (.ifCond .ne 8, 3) := by decide +kernel
theorem dX7_comes_10 : decode cX7_comes 10 = .ok (.bipush (-2), 2) := by decide +kernel
theorem dX7_comes_12 : decode cX7_comes 12 = .ok (.goto 55, 3) := by decide +kernel
theorem dX7_comes_15 : decode cX7_comes 15 = .ok (.iload_n 2, 1) := by decide +kernel
theorem dX7_comes_16 : decode cX7_comes 16 = .ok (.ifCond .lt 8, 3) := by decide +kernel
theorem dX7_comes_19 : decode cX7_comes 19 = .ok (.iload 4, 2) := by decide +kernel
theorem dX7_comes_21 : decode cX7_comes 21 = .ok (.ifCond .ge 8, 3) := by decide +kernel
theorem dX7_comes_24 : decode cX7_comes 24 = .ok (.bipush (-4), 2) := by decide +kernel
theorem dX7_comes_26 : decode cX7_comes 26 = .ok (.goto 41, 3) := by decide +kernel
theorem dX7_comes_29 : decode cX7_comes 29 = .ok (.iload_n 2, 1) := by decide +kernel
theorem dX7_comes_30 : decode cX7_comes 30 = .ok (.bipush 9, 2) := by decide +kernel
theorem dX7_comes_32 : decode cX7_comes 32 = .ok (.if_icmp .gt 18, 3) := by decide +kernel
theorem dX7_comes_35 : decode cX7_comes 35 = .ok (.iload 4, 2) := by decide +kernel
theorem dX7_comes_37 : decode cX7_comes 37 = .ok (.bipush 25, 2) := by decide +kernel
theorem dX7_comes_39 : decode cX7_comes 39 = .ok (.if_icmp .gt 11, 3) := by decide +kernel
theorem dX7_comes_42 : decode cX7_comes 42 = .ok (.aload_n 0, 1) := by decide +kernel
theorem dX7_comes_43 : decode cX7_comes 43 = .ok (.getfield 79, 3) := by decide +kernel
theorem dX7_comes_46 : decode cX7_comes 46 = .ok (.iconst 5, 1) := by decide +kernel
theorem dX7_comes_47 : decode cX7_comes 47 = .ok (.if_icmp .ne 8, 3) := by decide +kernel
theorem dX7_comes_50 : decode cX7_comes 50 = .ok (.bipush (-6), 2) := by decide +kernel
theorem dX7_comes_52 : decode cX7_comes 52 = .ok (.goto 15, 3) := by decide +kernel
theorem dX7_comes_55 : decode cX7_comes 55 = .ok (.iload_n 3, 1) := by decide +kernel
theorem dX7_comes_56 : decode cX7_comes 56 = .ok (.invokestatic 244, 3) := by decide +kernel
theorem dX7_comes_59 : decode cX7_comes 59 = .ok (.ifCond .ne 7, 3) := by decide +kernel
theorem dX7_comes_62 : decode cX7_comes 62 = .ok (.iconst (-1), 1) := by decide +kernel
theorem dX7_comes_63 : decode cX7_comes 63 = .ok (.goto 4, 3) := by decide +kernel
theorem dX7_comes_66 : decode cX7_comes 66 = .ok (.iconst 0, 1) := by decide +kernel
theorem dX7_comes_67 : decode cX7_comes 67 = .ok (.istore 5, 2) := by decide +kernel
theorem dX7_comes_69 : decode cX7_comes 69 = .ok (.iload 5, 2) := by decide +kernel
theorem dX7_comes_71 : decode cX7_comes 71 = .ok (.ifCond .eq 10, 3) := by decide +kernel
theorem dX7_comes_74 : decode cX7_comes 74 = .ok (.aload_n 0, 1) := by decide +kernel
theorem dX7_comes_75 : decode cX7_comes 75 = .ok (.iload 5, 2) := by decide +kernel
theorem dX7_comes_77 : decode cX7_comes 77 = .ok (.invokevirtual 170, 3) := by decide +kernel
theorem dX7_comes_80 : decode cX7_comes 80 = .ok (.ireturn, 1) := by decide +kernel
theorem dX7_comes_81 : decode cX7_comes 81 = .ok (.aload_n 0, 1) := by decide +kernel
theorem dX7_comes_82 : decode cX7_comes 82 = .ok (.iload_n 1, 1) := by decide +kernel
theorem dX7_comes_83 : decode cX7_comes 83 = .ok (.iload_n 2, 1) := by decide +kernel
theorem dX7_comes_84 : decode cX7_comes 84 = .ok (.iload_n 3, 1) := by decide +kernel
theorem dX7_comes_85 : decode cX7_comes 85 = .ok (.invokevirtual 247, 3) := by decide +kernel
theorem dX7_comes_88 : decode cX7_comes 88 = .ok (.aload_n 0, 1) := by decide +kernel
theorem dX7_comes_89 : decode cX7_comes 89 = .ok (.getfield 46, 3) := by decide +kernel
theorem dX7_comes_92 : decode cX7_comes 92 = .ok (.bipush 6, 2) := by decide +kernel
theorem dX7_comes_94 : decode cX7_comes 94 = .ok (.aload_n 0, 1) := by decide +kernel
theorem dX7_comes_95 : decode cX7_comes 95 = .ok (.getfield 79, 3) := by decide +kernel
theorem dX7_comes_98 : decode cX7_comes 98 = .ok (.iconst 1, 1) := by decide +kernel
theorem dX7_comes_99 : decode cX7_comes 99 = .ok (.isub, 1) := by decide +kernel
theorem dX7_comes_100 : decode cX7_comes 100 = .ok (.imul, 1) := by decide +kernel
theorem dX7_comes_101 : decode cX7_comes 101 = .ok (.iload 4, 2) := by decide +kernel
theorem dX7_comes_103 : decode cX7_comes 103 = .ok (.iastore, 1) := by decide +kernel
theorem dX7_comes_104 : decode cX7_comes 104 = .ok (.aload_n 0, 1) := by decide +kernel
theorem dX7_comes_105 : decode cX7_comes 105 = .ok (.getfield 43, 3) := by decide +kernel
theorem dX7_comes_108 : decode cX7_comes 108 = .ok (.aload_n 0, 1) := by decide +kernel
theorem dX7_comes_109 : decode cX7_comes 109 = .ok (.getfield 79, 3) := by decide +kernel
theorem dX7_comes_112 : decode cX7_comes 112 = .ok (.iconst 1, 1) := by decide +kernel
theorem dX7_comes_113 : decode cX7_comes 113 = .ok (.isub, 1) := by decide +kernel
theorem dX7_comes_114 : decode cX7_comes 114 = .ok (.iconst 1, 1) := by decide +kernel
theorem dX7_comes_115 : decode cX7_comes 115 = .ok (.iastore, 1) := by decide +kernel
theorem dX7_comes_116 : decode cX7_comes 116 = .ok (.aload_n 0, 1) := by decide +kernel
theorem dX7_comes_117 : decode cX7_comes 117 = .ok (.iconst 0, 1) := by decide +kernel
theorem dX7_comes_118 : decode cX7_comes 118 = .ok (.putfield 310, 3) := by decide +kernel
theorem dX7_comes_121 : decode cX7_comes 121 = .ok (.aload_n 0, 1) := by decide +kernel
theorem dX7_comes_122 : decode cX7_comes 122 = .ok (.getfield 79, 3) := by decide +kernel
theorem dX7_comes_125 : decode cX7_comes 125 = .ok (.iconst 1, 1) := by decide +kernel
theorem dX7_comes_126 : decode cX7_comes 126 = .ok (.isub, 1) := by decide +kernel
theorem dX7_comes_127 : decode cX7_comes 127 = .ok (.ireturn, 1) := by decide +kernel
theorem dX7_puts_0 : decode cX7_puts 0 = .ok (.aload_n 0, 1) := by decide +kernel
theorem dX7_puts_1 : decode cX7_puts 1 = .ok (.getfield 46, 3) := by decide +kernel
theorem dX7_puts_4 : decode cX7_puts 4 = .ok (.bipush 6, 2) := by decide +kernel
theorem dX7_puts_6 : decode cX7_puts 6 = .ok (.iload_n 1, 1) := by decide +kernel
theorem dX7_puts_7 : decode cX7_puts 7 = .ok (.imul, 1) := by decide +kernel
theorem dX7_puts_8 : decode cX7_puts 8 = .ok (.aload_n 0, 1) := by decide +kernel
theorem dX7_puts_9 : decode cX7_puts 9 = .ok (.getfield 43, 3) := by decide +kernel
theorem dX7_puts_12 : decode cX7_puts 12 = .ok (.iload_n 1, 1) := by decide +kernel
theorem dX7_puts_13 : decode cX7_puts 13 = .ok (.iaload, 1) := by decide +kernel
theorem dX7_puts_14 : decode cX7_puts 14 = .ok (.iadd, 1) := by decide +kernel
theorem dX7_puts_15 : decode cX7_puts 15 = .ok (.iload_n 2, 1) := by decide +kernel
theorem dX7_puts_16 : decode cX7_puts 16 = .ok (.iastore, 1) := by decide +kernel
theorem dX7_puts_17 : decode cX7_puts 17 = .ok (.aload_n 0, 1) := by decide +kernel
theorem dX7_puts_18 : decode cX7_puts 18 = .ok (.getfield 43, 3) := by decide +kernel
theorem dX7_puts_21 : decode cX7_puts 21 = .ok (.iload_n 1, 1) := by decide +kernel
theorem dX7_puts_22 : decode cX7_puts 22 = .ok (.dup2, 1) := by decide +kernel
theorem dX7_puts_23 : decode cX7_puts 23 = .ok (.iaload, 1) := by decide +kernel
theorem dX7_puts_24 : decode cX7_puts 24 = .ok (.iconst 1, 1) := by decide +kernel
theorem dX7_puts_25 : decode cX7_puts 25 = .ok (.iadd, 1) := by decide +kernel
theorem dX7_puts_26 : decode cX7_puts 26 = .ok (.iastore, 1) := by decide +kernel
theorem dX7_puts_27 : decode cX7_puts 27 = .ok (.return_, 1) := by decide +kernel
theorem dX7_named_0 : decode cX7_named 0 = .ok (.aload_n 0, 1) := by decide +kernel
theorem dX7_named_1 : decode cX7_named 1 = .ok (.iload_n 1, 1) := by decide +kernel
theorem dX7_named_2 : decode cX7_named 2 = .ok (.invokevirtual 89, 3) := by decide +kernel
theorem dX7_named_5 : decode cX7_named 5 = .ok (.ifCond .ne 7, 3) := by decide +kernel
theorem dX7_named_8 : decode cX7_named 8 = .ok (.iconst (-1), 1) := by decide +kernel
theorem dX7_named_9 : decode cX7_named 9 = .ok (.goto 10, 3) := by decide +kernel
theorem dX7_named_12 : decode cX7_named 12 = .ok (.iload_n 2, 1) := by decide +kernel
theorem dX7_named_13 : decode cX7_named 13 = .ok (.iconst 0, 1) := by decide +kernel
theorem dX7_named_14 : decode cX7_named 14 = .ok (.bipush 25, 2) := by decide +kernel
theorem dX7_named_16 : decode cX7_named 16 = .ok (.invokestatic 163, 3) := by decide +kernel
theorem dX7_named_19 : decode cX7_named 19 = .ok (.istore_n 3, 1) := by decide +kernel
theorem dX7_named_20 : decode cX7_named 20 = .ok (.iload_n 3, 1) := by decide +kernel
theorem dX7_named_21 : decode cX7_named 21 = .ok (.ifCond .ne 17, 3) := by decide +kernel
theorem dX7_named_24 : decode cX7_named 24 = .ok (.aload_n 0, 1) := by decide +kernel
theorem dX7_named_25 : decode cX7_named 25 = .ok (.getfield 43, 3) := by decide +kernel
theorem dX7_named_28 : decode cX7_named 28 = .ok (.iload_n 1, 1) := by decide +kernel
theorem dX7_named_29 : decode cX7_named 29 = .ok (.iaload, 1) := by decide +kernel
theorem dX7_named_30 : decode cX7_named 30 = .ok (.bipush 6, 2) := by decide +kernel
theorem dX7_named_32 : decode cX7_named 32 = .ok (.if_icmp .ne 6, 3) := by decide +kernel
theorem dX7_named_35 : decode cX7_named 35 = .ok (.bipush (-6), 2) := by decide +kernel
theorem dX7_named_37 : decode cX7_named 37 = .ok (.istore_n 3, 1) := by decide +kernel
theorem dX7_named_38 : decode cX7_named 38 = .ok (.iload_n 3, 1) := by decide +kernel
theorem dX7_named_39 : decode cX7_named 39 = .ok (.ifCond .eq 9, 3) := by decide +kernel
theorem dX7_named_42 : decode cX7_named 42 = .ok (.aload_n 0, 1) := by decide +kernel
theorem dX7_named_43 : decode cX7_named 43 = .ok (.iload_n 3, 1) := by decide +kernel
theorem dX7_named_44 : decode cX7_named 44 = .ok (.invokevirtual 170, 3) := by decide +kernel
theorem dX7_named_47 : decode cX7_named 47 = .ok (.ireturn, 1) := by decide +kernel
theorem dX7_named_48 : decode cX7_named 48 = .ok (.aload_n 0, 1) := by decide +kernel
theorem dX7_named_49 : decode cX7_named 49 = .ok (.invokevirtual 336, 3) := by decide +kernel
theorem dX7_named_52 : decode cX7_named 52 = .ok (.aload_n 0, 1) := by decide +kernel
theorem dX7_named_53 : decode cX7_named 53 = .ok (.iload_n 1, 1) := by decide +kernel
theorem dX7_named_54 : decode cX7_named 54 = .ok (.iload_n 2, 1) := by decide +kernel
theorem dX7_named_55 : decode cX7_named 55 = .ok (.invokevirtual 339, 3) := by decide +kernel
theorem dX7_named_58 : decode cX7_named 58 = .ok (.aload_n 0, 1) := by decide +kernel
theorem dX7_named_59 : decode cX7_named 59 = .ok (.getfield 43, 3) := by decide +kernel
theorem dX7_named_62 : decode cX7_named 62 = .ok (.iload_n 1, 1) := by decide +kernel
theorem dX7_named_63 : decode cX7_named 63 = .ok (.iaload, 1) := by decide +kernel
theorem dX7_named_64 : decode cX7_named 64 = .ok (.ireturn, 1) := by decide +kernel
theorem dX7_faces_0 : decode cX7_faces 0 = .ok (.aload_n 0, 1) := by decide +kernel
theorem dX7_faces_1 : decode cX7_faces 1 = .ok (.iload_n 1, 1) := by decide +kernel
theorem dX7_faces_2 : decode cX7_faces 2 = .ok (.invokevirtual 89, 3) := by decide +kernel
theorem dX7_faces_5 : decode cX7_faces 5 = .ok (.ifCond .ne 7, 3) := by decide +kernel
theorem dX7_faces_8 : decode cX7_faces 8 = .ok (.iconst (-1), 1) := by decide +kernel
theorem dX7_faces_9 : decode cX7_faces 9 = .ok (.goto 9, 3) := by decide +kernel
theorem dX7_faces_12 : decode cX7_faces 12 = .ok (.iload_n 2, 1) := by decide +kernel
theorem dX7_faces_13 : decode cX7_faces 13 = .ok (.iconst 0, 1) := by decide +kernel
theorem dX7_faces_14 : decode cX7_faces 14 = .ok (.iconst 3, 1) := by decide +kernel
theorem dX7_faces_15 : decode cX7_faces 15 = .ok (.invokestatic 163, 3) := by decide +kernel
theorem dX7_faces_18 : decode cX7_faces 18 = .ok (.istore_n 3, 1) := by decide +kernel
theorem dX7_faces_19 : decode cX7_faces 19 = .ok (.iload_n 3, 1) := by decide +kernel
theorem dX7_faces_20 : decode cX7_faces 20 = .ok (.ifCond .eq 9, 3) := by decide +kernel
theorem dX7_faces_23 : decode cX7_faces 23 = .ok (.aload_n 0, 1) := by decide +kernel
theorem dX7_faces_24 : decode cX7_faces 24 = .ok (.iload_n 3, 1) := by decide +kernel
theorem dX7_faces_25 : decode cX7_faces 25 = .ok (.invokevirtual 170, 3) := by decide +kernel
theorem dX7_faces_28 : decode cX7_faces 28 = .ok (.ireturn, 1) := by decide +kernel
theorem dX7_faces_29 : decode cX7_faces 29 = .ok (.aload_n 0, 1) := by decide +kernel
theorem dX7_faces_30 : decode cX7_faces 30 = .ok (.invokevirtual 336, 3) := by decide +kernel
theorem dX7_faces_33 : decode cX7_faces 33 = .ok (.aload_n 0, 1) := by decide +kernel
theorem dX7_faces_34 : decode cX7_faces 34 = .ok (.getfield 31, 3) := by decide +kernel
theorem dX7_faces_37 : decode cX7_faces 37 = .ok (.iload_n 1, 1) := by decide +kernel
theorem dX7_faces_38 : decode cX7_faces 38 = .ok (.iaload, 1) := by decide +kernel
theorem dX7_faces_39 : decode cX7_faces 39 = .ok (.istore 4, 2) := by decide +kernel
theorem dX7_faces_41 : decode cX7_faces 41 = .ok (.aload_n 0, 1) := by decide +kernel
theorem dX7_faces_42 : decode cX7_faces 42 = .ok (.getfield 31, 3) := by decide +kernel
theorem dX7_faces_45 : decode cX7_faces 45 = .ok (.iload_n 1, 1) := by decide +kernel
theorem dX7_faces_46 : decode cX7_faces 46 = .ok (.iload_n 2, 1) := by decide +kernel
theorem dX7_faces_47 : decode cX7_faces 47 = .ok (.iastore, 1) := by decide +kernel
theorem dX7_faces_48 : decode cX7_faces 48 = .ok (.iload 4, 2) := by decide +kernel
theorem dX7_faces_50 : decode cX7_faces 50 = .ok (.ireturn, 1) := by decide +kernel
theorem dX7_does_0 : decode cX7_does 0 = .ok (.aload_n 0, 1) := by decide +kernel
theorem dX7_does_1 : decode cX7_does 1 = .ok (.iload_n 1, 1) := by decide +kernel
theorem dX7_does_2 : decode cX7_does 2 = .ok (.invokevirtual 89, 3) := by decide +kernel
theorem dX7_does_5 : decode cX7_does 5 = .ok (.ifCond .ne 7, 3) := by decide +kernel
theorem dX7_does_8 : decode cX7_does 8 = .ok (.iconst (-1), 1) := by decide +kernel
theorem dX7_does_9 : decode cX7_does 9 = .ok (.goto 18, 3) := by decide +kernel
theorem dX7_does_12 : decode cX7_does 12 = .ok (.iload_n 2, 1) := by decide +kernel
theorem dX7_does_13 : decode cX7_does 13 = .ok (.iconst 0, 1) := by decide +kernel
theorem dX7_does_14 : decode cX7_does 14 = .ok (.iconst 4, 1) := by decide +kernel
theorem dX7_does_15 : decode cX7_does 15 = .ok (.invokestatic 85, 3) := by decide +kernel
theorem dX7_does_18 : decode cX7_does 18 = .ok (.ifCond .ne 8, 3) := by decide +kernel
theorem dX7_does_21 : decode cX7_does 21 = .ok (.bipush (-2), 2) := by decide +kernel
theorem dX7_does_23 : decode cX7_does 23 = .ok (.goto 4, 3) := by decide +kernel
theorem dX7_does_26 : decode cX7_does 26 = .ok (.iconst 0, 1) := by decide +kernel
theorem dX7_does_27 : decode cX7_does 27 = .ok (.istore_n 3, 1) := by decide +kernel
theorem dX7_does_28 : decode cX7_does 28 = .ok (.iload_n 3, 1) := by decide +kernel
theorem dX7_does_29 : decode cX7_does 29 = .ok (.ifCond .eq 9, 3) := by decide +kernel
theorem dX7_does_32 : decode cX7_does 32 = .ok (.aload_n 0, 1) := by decide +kernel
theorem dX7_does_33 : decode cX7_does 33 = .ok (.iload_n 3, 1) := by decide +kernel
theorem dX7_does_34 : decode cX7_does 34 = .ok (.invokevirtual 170, 3) := by decide +kernel
theorem dX7_does_37 : decode cX7_does 37 = .ok (.ireturn, 1) := by decide +kernel
theorem dX7_does_38 : decode cX7_does 38 = .ok (.aload_n 0, 1) := by decide +kernel
theorem dX7_does_39 : decode cX7_does 39 = .ok (.invokevirtual 336, 3) := by decide +kernel
theorem dX7_does_42 : decode cX7_does 42 = .ok (.aload_n 0, 1) := by decide +kernel
theorem dX7_does_43 : decode cX7_does 43 = .ok (.getfield 34, 3) := by decide +kernel
theorem dX7_does_46 : decode cX7_does 46 = .ok (.iload_n 1, 1) := by decide +kernel
theorem dX7_does_47 : decode cX7_does 47 = .ok (.iaload, 1) := by decide +kernel
theorem dX7_does_48 : decode cX7_does 48 = .ok (.istore 4, 2) := by decide +kernel
theorem dX7_does_50 : decode cX7_does 50 = .ok (.aload_n 0, 1) := by decide +kernel
theorem dX7_does_51 : decode cX7_does 51 = .ok (.getfield 34, 3) := by decide +kernel
theorem dX7_does_54 : decode cX7_does 54 = .ok (.iload_n 1, 1) := by decide +kernel
theorem dX7_does_55 : decode cX7_does 55 = .ok (.iload_n 2, 1) := by decide +kernel
theorem dX7_does_56 : decode cX7_does 56 = .ok (.iastore, 1) := by decide +kernel
theorem dX7_does_57 : decode cX7_does 57 = .ok (.iload 4, 2) := by decide +kernel
theorem dX7_does_59 : decode cX7_does 59 = .ok (.ireturn, 1) := by decide +kernel
theorem dX7_joins_0 : decode cX7_joins 0 = .ok (.aload_n 0, 1) := by decide +kernel
theorem dX7_joins_1 : decode cX7_joins 1 = .ok (.iload_n 1, 1) := by decide +kernel
theorem dX7_joins_2 : decode cX7_joins 2 = .ok (.invokevirtual 89, 3) := by decide +kernel
theorem dX7_joins_5 : decode cX7_joins 5 = .ok (.ifCond .ne 7, 3) := by decide +kernel
theorem dX7_joins_8 : decode cX7_joins 8 = .ok (.iconst (-1), 1) := by decide +kernel
theorem dX7_joins_9 : decode cX7_joins 9 = .ok (.goto 10, 3) := by decide +kernel
theorem dX7_joins_12 : decode cX7_joins 12 = .ok (.iload_n 2, 1) := by decide +kernel
theorem dX7_joins_13 : decode cX7_joins 13 = .ok (.iconst 0, 1) := by decide +kernel
theorem dX7_joins_14 : decode cX7_joins 14 = .ok (.bipush 99, 2) := by decide +kernel
theorem dX7_joins_16 : decode cX7_joins 16 = .ok (.invokestatic 163, 3) := by decide +kernel
theorem dX7_joins_19 : decode cX7_joins 19 = .ok (.istore_n 3, 1) := by decide +kernel
theorem dX7_joins_20 : decode cX7_joins 20 = .ok (.iload_n 3, 1) := by decide +kernel
theorem dX7_joins_21 : decode cX7_joins 21 = .ok (.ifCond .eq 9, 3) := by decide +kernel
theorem dX7_joins_24 : decode cX7_joins 24 = .ok (.aload_n 0, 1) := by decide +kernel
theorem dX7_joins_25 : decode cX7_joins 25 = .ok (.iload_n 3, 1) := by decide +kernel
theorem dX7_joins_26 : decode cX7_joins 26 = .ok (.invokevirtual 170, 3) := by decide +kernel
theorem dX7_joins_29 : decode cX7_joins 29 = .ok (.ireturn, 1) := by decide +kernel
theorem dX7_joins_30 : decode cX7_joins 30 = .ok (.aload_n 0, 1) := by decide +kernel
theorem dX7_joins_31 : decode cX7_joins 31 = .ok (.invokevirtual 336, 3) := by decide +kernel
theorem dX7_joins_34 : decode cX7_joins 34 = .ok (.aload_n 0, 1) := by decide +kernel
theorem dX7_joins_35 : decode cX7_joins 35 = .ok (.getfield 37, 3) := by decide +kernel
theorem dX7_joins_38 : decode cX7_joins 38 = .ok (.iload_n 1, 1) := by decide +kernel
theorem dX7_joins_39 : decode cX7_joins 39 = .ok (.iaload, 1) := by decide +kernel
theorem dX7_joins_40 : decode cX7_joins 40 = .ok (.istore 4, 2) := by decide +kernel
theorem dX7_joins_42 : decode cX7_joins 42 = .ok (.aload_n 0, 1) := by decide +kernel
theorem dX7_joins_43 : decode cX7_joins 43 = .ok (.getfield 37, 3) := by decide +kernel
theorem dX7_joins_46 : decode cX7_joins 46 = .ok (.iload_n 1, 1) := by decide +kernel
theorem dX7_joins_47 : decode cX7_joins 47 = .ok (.iload_n 2, 1) := by decide +kernel
theorem dX7_joins_48 : decode cX7_joins 48 = .ok (.iastore, 1) := by decide +kernel
theorem dX7_joins_49 : decode cX7_joins 49 = .ok (.iload 4, 2) := by decide +kernel
theorem dX7_joins_51 : decode cX7_joins 51 = .ok (.ireturn, 1) := by decide +kernel
theorem dX7_walls_0 : decode cX7_walls 0 = .ok (.iload_n 1, 1) := by decide +kernel
theorem dX7_walls_1 : decode cX7_walls 1 = .ok (.invokestatic 244, 3) := by decide +kernel
theorem dX7_walls_4 : decode cX7_walls 4 = .ok (.ifCond .ne 7, 3) := by decide +kernel
theorem dX7_walls_7 : decode cX7_walls 7 = .ok (.iconst (-1), 1) := by decide +kernel
theorem dX7_walls_8 : decode cX7_walls 8 = .ok (.goto 10, 3) := by decide +kernel
theorem dX7_walls_11 : decode cX7_walls 11 = .ok (.iload_n 2, 1) := by decide +kernel
theorem dX7_walls_12 : decode cX7_walls 12 = .ok (.iconst 0, 1) := by decide +kernel
theorem dX7_walls_13 : decode cX7_walls 13 = .ok (.bipush 9, 2) := by decide +kernel
theorem dX7_walls_15 : decode cX7_walls 15 = .ok (.invokestatic 163, 3) := by decide +kernel
theorem dX7_walls_18 : decode cX7_walls 18 = .ok (.istore_n 3, 1) := by decide +kernel
theorem dX7_walls_19 : decode cX7_walls 19 = .ok (.iload_n 3, 1) := by decide +kernel
theorem dX7_walls_20 : decode cX7_walls 20 = .ok (.ifCond .eq 9, 3) := by decide +kernel
theorem dX7_walls_23 : decode cX7_walls 23 = .ok (.aload_n 0, 1) := by decide +kernel
theorem dX7_walls_24 : decode cX7_walls 24 = .ok (.iload_n 3, 1) := by decide +kernel
theorem dX7_walls_25 : decode cX7_walls 25 = .ok (.invokevirtual 170, 3) := by decide +kernel
theorem dX7_walls_28 : decode cX7_walls 28 = .ok (.ireturn, 1) := by decide +kernel
theorem dX7_walls_29 : decode cX7_walls 29 = .ok (.aload_n 0, 1) := by decide +kernel
theorem dX7_walls_30 : decode cX7_walls 30 = .ok (.invokevirtual 336, 3) := by decide +kernel
theorem dX7_walls_33 : decode cX7_walls 33 = .ok (.aload_n 0, 1) := by decide +kernel
theorem dX7_walls_34 : decode cX7_walls 34 = .ok (.getfield 13, 3) := by decide +kernel
theorem dX7_walls_37 : decode cX7_walls 37 = .ok (.iload_n 1, 1) := by decide +kernel
theorem dX7_walls_38 : decode cX7_walls 38 = .ok (.iaload, 1) := by decide +kernel
theorem dX7_walls_39 : decode cX7_walls 39 = .ok (.istore 4, 2) := by decide +kernel
theorem dX7_walls_41 : decode cX7_walls 41 = .ok (.aload_n 0, 1) := by decide +kernel
theorem dX7_walls_42 : decode cX7_walls 42 = .ok (.getfield 13, 3) := by decide +kernel
theorem dX7_walls_45 : decode cX7_walls 45 = .ok (.iload_n 1, 1) := by decide +kernel
theorem dX7_walls_46 : decode cX7_walls 46 = .ok (.iload_n 2, 1) := by decide +kernel
theorem dX7_walls_47 : decode cX7_walls 47 = .ok (.iastore, 1) := by decide +kernel
theorem dX7_walls_48 : decode cX7_walls 48 = .ok (.iload 4, 2) := by decide +kernel
theorem dX7_walls_50 : decode cX7_walls 50 = .ok (.ireturn, 1) := by decide +kernel
theorem dX7_folk_0 : decode cX7_folk 0 = .ok (.iload_n 1, 1) := by decide +kernel
theorem dX7_folk_1 : decode cX7_folk 1 = .ok (.invokestatic 244, 3) := by decide +kernel
theorem dX7_folk_4 : decode cX7_folk 4 = .ok (.ifCond .ne 7, 3) := by decide +kernel
theorem dX7_folk_7 : decode cX7_folk 7 = .ok (.iconst (-1), 1) := by decide +kernel
theorem dX7_folk_8 : decode cX7_folk 8 = .ok (.goto 34, 3) := by decide +kernel
theorem dX7_folk_11 : decode cX7_folk 11 = .ok (.iload_n 2, 1) := by decide +kernel
theorem dX7_folk_12 : decode cX7_folk 12 = .ok (.ifCond .lt 7, 3) := by decide +kernel
theorem dX7_folk_15 : decode cX7_folk 15 = .ok (.iload_n 3, 1) := by decide +kernel
theorem dX7_folk_16 : decode cX7_folk 16 = .ok (.ifCond .ge 8, 3) := by decide +kernel
theorem dX7_folk_19 : decode cX7_folk 19 = .ok (.bipush (-4), 2) := by decide +kernel
theorem dX7_folk_21 : decode cX7_folk 21 = .ok (.goto 21, 3) := by decide +kernel
theorem dX7_folk_24 : decode cX7_folk 24 = .ok (.iload_n 2, 1) := by decide +kernel
theorem dX7_folk_25 : decode cX7_folk 25 = .ok (.bipush 9, 2) := by decide +kernel
theorem dX7_folk_27 : decode cX7_folk 27 = .ok (.if_icmp .gt 9, 3) := by decide +kernel
theorem dX7_folk_30 : decode cX7_folk 30 = .ok (.iload_n 3, 1) := by decide +kernel
theorem dX7_folk_31 : decode cX7_folk 31 = .ok (.bipush 25, 2) := by decide +kernel
theorem dX7_folk_33 : decode cX7_folk 33 = .ok (.if_icmp .le 8, 3) := by decide +kernel
theorem dX7_folk_36 : decode cX7_folk 36 = .ok (.bipush (-6), 2) := by decide +kernel
theorem dX7_folk_38 : decode cX7_folk 38 = .ok (.goto 4, 3) := by decide +kernel
theorem dX7_folk_41 : decode cX7_folk 41 = .ok (.iconst 0, 1) := by decide +kernel
theorem dX7_folk_42 : decode cX7_folk 42 = .ok (.istore 4, 2) := by decide +kernel
theorem dX7_folk_44 : decode cX7_folk 44 = .ok (.iload 4, 2) := by decide +kernel
theorem dX7_folk_46 : decode cX7_folk 46 = .ok (.ifCond .eq 10, 3) := by decide +kernel
theorem dX7_folk_49 : decode cX7_folk 49 = .ok (.aload_n 0, 1) := by decide +kernel
theorem dX7_folk_50 : decode cX7_folk 50 = .ok (.iload 4, 2) := by decide +kernel
theorem dX7_folk_52 : decode cX7_folk 52 = .ok (.invokevirtual 170, 3) := by decide +kernel
theorem dX7_folk_55 : decode cX7_folk 55 = .ok (.ireturn, 1) := by decide +kernel
theorem dX7_folk_56 : decode cX7_folk 56 = .ok (.aload_n 0, 1) := by decide +kernel
theorem dX7_folk_57 : decode cX7_folk 57 = .ok (.invokevirtual 336, 3) := by decide +kernel
theorem dX7_folk_60 : decode cX7_folk 60 = .ok (.bipush 10, 2) := by decide +kernel
theorem dX7_folk_62 : decode cX7_folk 62 = .ok (.aload_n 0, 1) := by decide +kernel
theorem dX7_folk_63 : decode cX7_folk 63 = .ok (.getfield 19, 3) := by decide +kernel
theorem dX7_folk_66 : decode cX7_folk 66 = .ok (.iload_n 1, 1) := by decide +kernel
theorem dX7_folk_67 : decode cX7_folk 67 = .ok (.iaload, 1) := by decide +kernel
theorem dX7_folk_68 : decode cX7_folk 68 = .ok (.imul, 1) := by decide +kernel
theorem dX7_folk_69 : decode cX7_folk 69 = .ok (.aload_n 0, 1) := by decide +kernel
theorem dX7_folk_70 : decode cX7_folk 70 = .ok (.getfield 16, 3) := by decide +kernel
theorem dX7_folk_73 : decode cX7_folk 73 = .ok (.iload_n 1, 1) := by decide +kernel
theorem dX7_folk_74 : decode cX7_folk 74 = .ok (.iaload, 1) := by decide +kernel
theorem dX7_folk_75 : decode cX7_folk 75 = .ok (.iadd, 1) := by decide +kernel
theorem dX7_folk_76 : decode cX7_folk 76 = .ok (.istore 5, 2) := by decide +kernel
theorem dX7_folk_78 : decode cX7_folk 78 = .ok (.aload_n 0, 1) := by decide +kernel
theorem dX7_folk_79 : decode cX7_folk 79 = .ok (.getfield 16, 3) := by decide +kernel
theorem dX7_folk_82 : decode cX7_folk 82 = .ok (.iload_n 1, 1) := by decide +kernel
theorem dX7_folk_83 : decode cX7_folk 83 = .ok (.iload_n 2, 1) := by decide +kernel
theorem dX7_folk_84 : decode cX7_folk 84 = .ok (.iastore, 1) := by decide +kernel
theorem dX7_folk_85 : decode cX7_folk 85 = .ok (.aload_n 0, 1) := by decide +kernel
theorem dX7_folk_86 : decode cX7_folk 86 = .ok (.getfield 19, 3) := by decide +kernel
theorem dX7_folk_89 : decode cX7_folk 89 = .ok (.iload_n 1, 1) := by decide +kernel
theorem dX7_folk_90 : decode cX7_folk 90 = .ok (.iload_n 3, 1) := by decide +kernel
theorem dX7_folk_91 : decode cX7_folk 91 = .ok (.iastore, 1) := by decide +kernel
theorem dX7_folk_92 : decode cX7_folk 92 = .ok (.iload 5, 2) := by decide +kernel
theorem dX7_folk_94 : decode cX7_folk 94 = .ok (.ireturn, 1) := by decide +kernel
theorem dX7_nights_0 : decode cX7_nights 0 = .ok (.iload_n 1, 1) := by decide +kernel
theorem dX7_nights_1 : decode cX7_nights 1 = .ok (.iconst 1, 1) := by decide +kernel
theorem dX7_nights_2 : decode cX7_nights 2 = .ok (.bipush 60, 2) := by decide +kernel
theorem dX7_nights_4 : decode cX7_nights 4 = .ok (.invokestatic 163, 3) := by decide +kernel
theorem dX7_nights_7 : decode cX7_nights 7 = .ok (.istore_n 2, 1) := by decide +kernel
theorem dX7_nights_8 : decode cX7_nights 8 = .ok (.iload_n 2, 1) := by decide +kernel
theorem dX7_nights_9 : decode cX7_nights 9 = .ok (.ifCond .ne 18, 3) := by decide +kernel
theorem dX7_nights_12 : decode cX7_nights 12 = .ok (.aload_n 0, 1) := by decide +kernel
theorem dX7_nights_13 : decode cX7_nights 13 = .ok (.getfield 136, 3) := by decide +kernel
theorem dX7_nights_16 : decode cX7_nights 16 = .ok (.iload_n 1, 1) := by decide +kernel
theorem dX7_nights_17 : decode cX7_nights 17 = .ok (.iadd, 1) := by decide +kernel
theorem dX7_nights_18 : decode cX7_nights 18 = .ok (.sipush 999, 3) := by decide +kernel
theorem dX7_nights_21 : decode cX7_nights 21 = .ok (.if_icmp .le 6, 3) := by decide +kernel
theorem dX7_nights_24 : decode cX7_nights 24 = .ok (.bipush (-6), 2) := by decide +kernel
theorem dX7_nights_26 : decode cX7_nights 26 = .ok (.istore_n 2, 1) := by decide +kernel
theorem dX7_nights_27 : decode cX7_nights 27 = .ok (.iload_n 2, 1) := by decide +kernel
theorem dX7_nights_28 : decode cX7_nights 28 = .ok (.ifCond .eq 9, 3) := by decide +kernel
theorem dX7_nights_31 : decode cX7_nights 31 = .ok (.aload_n 0, 1) := by decide +kernel
theorem dX7_nights_32 : decode cX7_nights 32 = .ok (.iload_n 2, 1) := by decide +kernel
theorem dX7_nights_33 : decode cX7_nights 33 = .ok (.invokevirtual 170, 3) := by decide +kernel
theorem dX7_nights_36 : decode cX7_nights 36 = .ok (.ireturn, 1) := by decide +kernel
theorem dX7_nights_37 : decode cX7_nights 37 = .ok (.aload_n 0, 1) := by decide +kernel
theorem dX7_nights_38 : decode cX7_nights 38 = .ok (.invokevirtual 336, 3) := by decide +kernel
theorem dX7_nights_41 : decode cX7_nights 41 = .ok (.aload_n 0, 1) := by decide +kernel
theorem dX7_nights_42 : decode cX7_nights 42 = .ok (.iload_n 1, 1) := by decide +kernel
theorem dX7_nights_43 : decode cX7_nights 43 = .ok (.invokevirtual 261, 3) := by decide +kernel
theorem dX7_nights_46 : decode cX7_nights 46 = .ok (.aload_n 0, 1) := by decide +kernel
theorem dX7_nights_47 : decode cX7_nights 47 = .ok (.getfield 127, 3) := by decide +kernel
theorem dX7_nights_50 : decode cX7_nights 50 = .ok (.ireturn, 1) := by decide +kernel
theorem dX7_headThen_0 : decode cX7_headThen 0 = .ok (.aload_n 0, 1) := by decide +kernel
theorem dX7_headThen_1 : decode cX7_headThen 1 = .ok (.iload_n 1, 1) := by decide +kernel
theorem dX7_headThen_2 : decode cX7_headThen 2 = .ok (.invokevirtual 89, 3) := by decide +kernel
theorem dX7_headThen_5 : decode cX7_headThen 5 = .ok (.ifCond .ne 7, 3) := by decide +kernel
theorem dX7_headThen_8 : decode cX7_headThen 8 = .ok (.iconst (-1), 1) := by decide +kernel
theorem dX7_headThen_9 : decode cX7_headThen 9 = .ok (.goto 10, 3) := by decide +kernel
theorem dX7_headThen_12 : decode cX7_headThen 12 = .ok (.iload_n 2, 1) := by decide +kernel
theorem dX7_headThen_13 : decode cX7_headThen 13 = .ok (.iconst 0, 1) := by decide +kernel
theorem dX7_headThen_14 : decode cX7_headThen 14 = .ok (.bipush 60, 2) := by decide +kernel
theorem dX7_headThen_16 : decode cX7_headThen 16 = .ok (.invokestatic 163, 3) := by decide +kernel
theorem dX7_headThen_19 : decode cX7_headThen 19 = .ok (.istore 4, 2) := by decide +kernel
theorem dX7_headThen_21 : decode cX7_headThen 21 = .ok (.iload 4, 2) := by decide +kernel
theorem dX7_headThen_23 : decode cX7_headThen 23 = .ok (.ifCond .ne 16, 3) := by decide +kernel
theorem dX7_headThen_26 : decode cX7_headThen 26 = .ok (.iload_n 3, 1) := by decide +kernel
theorem dX7_headThen_27 : decode cX7_headThen 27 = .ok (.iconst 0, 1) := by decide +kernel
theorem dX7_headThen_28 : decode cX7_headThen 28 = .ok (.iconst 3, 1) := by decide +kernel
theorem dX7_headThen_29 : decode cX7_headThen 29 = .ok (.invokestatic 85, 3) := by decide +kernel
theorem dX7_headThen_32 : decode cX7_headThen 32 = .ok (.ifCond .ne 7, 3) := by decide +kernel
theorem dX7_headThen_35 : decode cX7_headThen 35 = .ok (.bipush (-2), 2) := by decide +kernel
theorem dX7_headThen_37 : decode cX7_headThen 37 = .ok (.istore 4, 2) := by decide +kernel
theorem dX7_headThen_39 : decode cX7_headThen 39 = .ok (.iload 4, 2) := by decide +kernel
theorem dX7_headThen_41 : decode cX7_headThen 41 = .ok (.ifCond .eq 10, 3) := by decide +kernel
theorem dX7_headThen_44 : decode cX7_headThen 44 = .ok (.aload_n 0, 1) := by decide +kernel
theorem dX7_headThen_45 : decode cX7_headThen 45 = .ok (.iload 4, 2) := by decide +kernel
theorem dX7_headThen_47 : decode cX7_headThen 47 = .ok (.invokevirtual 170, 3) := by decide +kernel
theorem dX7_headThen_50 : decode cX7_headThen 50 = .ok (.ireturn, 1) := by decide +kernel
theorem dX7_headThen_51 : decode cX7_headThen 51 = .ok (.aload_n 0, 1) := by decide +kernel
theorem dX7_headThen_52 : decode cX7_headThen 52 = .ok (.invokevirtual 343, 3) := by decide +kernel
theorem dX7_headThen_55 : decode cX7_headThen 55 = .ok (.aload_n 0, 1) := by decide +kernel
theorem dX7_headThen_56 : decode cX7_headThen 56 = .ok (.iload_n 2, 1) := by decide +kernel
theorem dX7_headThen_57 : decode cX7_headThen 57 = .ok (.invokevirtual 261, 3) := by decide +kernel
theorem dX7_headThen_60 : decode cX7_headThen 60 = .ok (.iload_n 3, 1) := by decide +kernel
theorem dX7_headThen_61 : decode cX7_headThen 61 = .ok (.ifCond .ne 12, 3) := by decide +kernel
theorem dX7_headThen_64 : decode cX7_headThen 64 = .ok (.aload_n 0, 1) := by decide +kernel
theorem dX7_headThen_65 : decode cX7_headThen 65 = .ok (.getfield 28, 3) := by decide +kernel
theorem dX7_headThen_68 : decode cX7_headThen 68 = .ok (.iload_n 1, 1) := by decide +kernel
theorem dX7_headThen_69 : decode cX7_headThen 69 = .ok (.iaload, 1) := by decide +kernel
theorem dX7_headThen_70 : decode cX7_headThen 70 = .ok (.goto 37, 3) := by decide +kernel
theorem dX7_headThen_73 : decode cX7_headThen 73 = .ok (.iload_n 3, 1) := by decide +kernel
theorem dX7_headThen_74 : decode cX7_headThen 74 = .ok (.iconst 1, 1) := by decide +kernel
theorem dX7_headThen_75 : decode cX7_headThen 75 = .ok (.if_icmp .ne 12, 3) := by decide +kernel
theorem dX7_headThen_78 : decode cX7_headThen 78 = .ok (.aload_n 0, 1) := by decide +kernel
theorem dX7_headThen_79 : decode cX7_headThen 79 = .ok (.getfield 31, 3) := by decide +kernel
theorem dX7_headThen_82 : decode cX7_headThen 82 = .ok (.iload_n 1, 1) := by decide +kernel
theorem dX7_headThen_83 : decode cX7_headThen 83 = .ok (.iaload, 1) := by decide +kernel
theorem dX7_headThen_84 : decode cX7_headThen 84 = .ok (.goto 23, 3) := by decide +kernel
theorem dX7_headThen_87 : decode cX7_headThen 87 = .ok (.iload_n 3, 1) := by decide +kernel
theorem dX7_headThen_88 : decode cX7_headThen 88 = .ok (.iconst 2, 1) := by decide +kernel
theorem dX7_headThen_89 : decode cX7_headThen 89 = .ok (.if_icmp .ne 12, 3) := by decide +kernel
theorem dX7_headThen_92 : decode cX7_headThen 92 = .ok (.aload_n 0, 1) := by decide +kernel
theorem dX7_headThen_93 : decode cX7_headThen 93 = .ok (.getfield 37, 3) := by decide +kernel
theorem dX7_headThen_96 : decode cX7_headThen 96 = .ok (.iload_n 1, 1) := by decide +kernel
theorem dX7_headThen_97 : decode cX7_headThen 97 = .ok (.iaload, 1) := by decide +kernel
theorem dX7_headThen_98 : decode cX7_headThen 98 = .ok (.goto 9, 3) := by decide +kernel
theorem dX7_headThen_101 : decode cX7_headThen 101 = .ok (.aload_n 0, 1) := by decide +kernel
theorem dX7_headThen_102 : decode cX7_headThen 102 = .ok (.getfield 40, 3) := by decide +kernel
theorem dX7_headThen_105 : decode cX7_headThen 105 = .ok (.iload_n 1, 1) := by decide +kernel
theorem dX7_headThen_106 : decode cX7_headThen 106 = .ok (.iaload, 1) := by decide +kernel
theorem dX7_headThen_107 : decode cX7_headThen 107 = .ok (.istore 5, 2) := by decide +kernel
theorem dX7_headThen_109 : decode cX7_headThen 109 = .ok (.aload_n 0, 1) := by decide +kernel
theorem dX7_headThen_110 : decode cX7_headThen 110 = .ok (.invokevirtual 346, 3) := by decide +kernel
theorem dX7_headThen_113 : decode cX7_headThen 113 = .ok (.iload 5, 2) := by decide +kernel
theorem dX7_headThen_115 : decode cX7_headThen 115 = .ok (.ireturn, 1) := by decide +kernel
theorem dX7_setSettled_0 : decode cX7_setSettled 0 = .ok (.iconst 0, 1) := by decide +kernel
theorem dX7_setSettled_1 : decode cX7_setSettled 1 = .ok (.istore_n 1, 1) := by decide +kernel
theorem dX7_setSettled_2 : decode cX7_setSettled 2 = .ok (.iconst 0, 1) := by decide +kernel
theorem dX7_setSettled_3 : decode cX7_setSettled 3 = .ok (.istore_n 2, 1) := by decide +kernel
theorem dX7_setSettled_4 : decode cX7_setSettled 4 = .ok (.iload_n 2, 1) := by decide +kernel
theorem dX7_setSettled_5 : decode cX7_setSettled 5 = .ok (.aload_n 0, 1) := by decide +kernel
theorem dX7_setSettled_6 : decode cX7_setSettled 6 = .ok (.getfield 79, 3) := by decide +kernel
theorem dX7_setSettled_9 : decode cX7_setSettled 9 = .ok (.if_icmp .ge 20, 3) := by decide +kernel
theorem dX7_setSettled_12 : decode cX7_setSettled 12 = .ok (.iload_n 1, 1) := by decide +kernel
theorem dX7_setSettled_13 : decode cX7_setSettled 13 = .ok (.aload_n 0, 1) := by decide +kernel
theorem dX7_setSettled_14 : decode cX7_setSettled 14 = .ok (.getfield 40, 3) := by decide +kernel
theorem dX7_setSettled_17 : decode cX7_setSettled 17 = .ok (.iload_n 2, 1) := by decide +kernel
theorem dX7_setSettled_18 : decode cX7_setSettled 18 = .ok (.iaload, 1) := by decide +kernel
theorem dX7_setSettled_19 : decode cX7_setSettled 19 = .ok (.iload_n 2, 1) := by decide +kernel
theorem dX7_setSettled_20 : decode cX7_setSettled 20 = .ok (.ishl, 1) := by decide +kernel
theorem dX7_setSettled_21 : decode cX7_setSettled 21 = .ok (.ior, 1) := by decide +kernel
theorem dX7_setSettled_22 : decode cX7_setSettled 22 = .ok (.istore_n 1, 1) := by decide +kernel
theorem dX7_setSettled_23 : decode cX7_setSettled 23 = .ok (.iinc 2 1, 3) := by decide +kernel
theorem dX7_setSettled_26 : decode cX7_setSettled 26 = .ok (.goto (-22), 3) := by decide +kernel
theorem dX7_setSettled_29 : decode cX7_setSettled 29 = .ok (.iload_n 1, 1) := by decide +kernel
theorem dX7_setSettled_30 : decode cX7_setSettled 30 = .ok (.ireturn, 1) := by decide +kernel
theorem dX7_allOf_0 : decode cX7_allOf 0 = .ok (.iconst 0, 1) := by decide +kernel
theorem dX7_allOf_1 : decode cX7_allOf 1 = .ok (.istore_n 2, 1) := by decide +kernel
theorem dX7_allOf_2 : decode cX7_allOf 2 = .ok (.iconst 0, 1) := by decide +kernel
theorem dX7_allOf_3 : decode cX7_allOf 3 = .ok (.istore_n 3, 1) := by decide +kernel
theorem dX7_allOf_4 : decode cX7_allOf 4 = .ok (.iload_n 3, 1) := by decide +kernel
theorem dX7_allOf_5 : decode cX7_allOf 5 = .ok (.iload_n 1, 1) := by decide +kernel
theorem dX7_allOf_6 : decode cX7_allOf 6 = .ok (.if_icmp .ge 15, 3) := by decide +kernel
theorem dX7_allOf_9 : decode cX7_allOf 9 = .ok (.iload_n 2, 1) := by decide +kernel
theorem dX7_allOf_10 : decode cX7_allOf 10 = .ok (.aload_n 0, 1) := by decide +kernel
theorem dX7_allOf_11 : decode cX7_allOf 11 = .ok (.iload_n 3, 1) := by decide +kernel
theorem dX7_allOf_12 : decode cX7_allOf 12 = .ok (.iaload, 1) := by decide +kernel
theorem dX7_allOf_13 : decode cX7_allOf 13 = .ok (.iadd, 1) := by decide +kernel
theorem dX7_allOf_14 : decode cX7_allOf 14 = .ok (.istore_n 2, 1) := by decide +kernel
theorem dX7_allOf_15 : decode cX7_allOf 15 = .ok (.iinc 3 1, 3) := by decide +kernel
theorem dX7_allOf_18 : decode cX7_allOf 18 = .ok (.goto (-14), 3) := by decide +kernel
theorem dX7_allOf_21 : decode cX7_allOf 21 = .ok (.iload_n 2, 1) := by decide +kernel
theorem dX7_allOf_22 : decode cX7_allOf 22 = .ok (.ireturn, 1) := by decide +kernel
theorem dX7_then_0 : decode cX7_then 0 = .ok (.iload_n 1, 1) := by decide +kernel
theorem dX7_then_1 : decode cX7_then 1 = .ok (.iconst 0, 1) := by decide +kernel
theorem dX7_then_2 : decode cX7_then 2 = .ok (.bipush 60, 2) := by decide +kernel
theorem dX7_then_4 : decode cX7_then 4 = .ok (.invokestatic 163, 3) := by decide +kernel
theorem dX7_then_7 : decode cX7_then 7 = .ok (.istore_n 3, 1) := by decide +kernel
theorem dX7_then_8 : decode cX7_then 8 = .ok (.iload_n 3, 1) := by decide +kernel
theorem dX7_then_9 : decode cX7_then 9 = .ok (.ifCond .ne 15, 3) := by decide +kernel
theorem dX7_then_12 : decode cX7_then 12 = .ok (.iload_n 2, 1) := by decide +kernel
theorem dX7_then_13 : decode cX7_then 13 = .ok (.iconst 0, 1) := by decide +kernel
theorem dX7_then_14 : decode cX7_then 14 = .ok (.iconst 3, 1) := by decide +kernel
theorem dX7_then_15 : decode cX7_then 15 = .ok (.invokestatic 85, 3) := by decide +kernel
theorem dX7_then_18 : decode cX7_then 18 = .ok (.ifCond .ne 6, 3) := by decide +kernel
theorem dX7_then_21 : decode cX7_then 21 = .ok (.bipush (-2), 2) := by decide +kernel
theorem dX7_then_23 : decode cX7_then 23 = .ok (.istore_n 3, 1) := by decide +kernel
theorem dX7_then_24 : decode cX7_then 24 = .ok (.iload_n 3, 1) := by decide +kernel
theorem dX7_then_25 : decode cX7_then 25 = .ok (.ifCond .eq 9, 3) := by decide +kernel
theorem dX7_then_28 : decode cX7_then 28 = .ok (.aload_n 0, 1) := by decide +kernel
theorem dX7_then_29 : decode cX7_then 29 = .ok (.iload_n 3, 1) := by decide +kernel
theorem dX7_then_30 : decode cX7_then 30 = .ok (.invokevirtual 170, 3) := by decide +kernel
theorem dX7_then_33 : decode cX7_then 33 = .ok (.ireturn, 1) := by decide +kernel
theorem dX7_then_34 : decode cX7_then 34 = .ok (.aload_n 0, 1) := by decide +kernel
theorem dX7_then_35 : decode cX7_then 35 = .ok (.invokevirtual 343, 3) := by decide +kernel
theorem dX7_then_38 : decode cX7_then 38 = .ok (.aload_n 0, 1) := by decide +kernel
theorem dX7_then_39 : decode cX7_then 39 = .ok (.iload_n 1, 1) := by decide +kernel
theorem dX7_then_40 : decode cX7_then 40 = .ok (.invokevirtual 261, 3) := by decide +kernel
theorem dX7_then_43 : decode cX7_then 43 = .ok (.iload_n 2, 1) := by decide +kernel
theorem dX7_then_44 : decode cX7_then 44 = .ok (.ifCond .ne 10, 3) := by decide +kernel
theorem dX7_then_47 : decode cX7_then 47 = .ok (.aload_n 0, 1) := by decide +kernel
theorem dX7_then_48 : decode cX7_then 48 = .ok (.getfield 127, 3) := by decide +kernel
theorem dX7_then_51 : decode cX7_then 51 = .ok (.goto 41, 3) := by decide +kernel
theorem dX7_then_54 : decode cX7_then 54 = .ok (.iload_n 2, 1) := by decide +kernel
theorem dX7_then_55 : decode cX7_then 55 = .ok (.iconst 1, 1) := by decide +kernel
theorem dX7_then_56 : decode cX7_then 56 = .ok (.if_icmp .ne 10, 3) := by decide +kernel
theorem dX7_then_59 : decode cX7_then 59 = .ok (.aload_n 0, 1) := by decide +kernel
theorem dX7_then_60 : decode cX7_then 60 = .ok (.invokevirtual 349, 3) := by decide +kernel
theorem dX7_then_63 : decode cX7_then 63 = .ok (.goto 29, 3) := by decide +kernel
theorem dX7_then_66 : decode cX7_then 66 = .ok (.iload_n 2, 1) := by decide +kernel
theorem dX7_then_67 : decode cX7_then 67 = .ok (.iconst 2, 1) := by decide +kernel
theorem dX7_then_68 : decode cX7_then 68 = .ok (.if_icmp .ne 15, 3) := by decide +kernel
theorem dX7_then_71 : decode cX7_then 71 = .ok (.aload_n 0, 1) := by decide +kernel
theorem dX7_then_72 : decode cX7_then 72 = .ok (.getfield 16, 3) := by decide +kernel
theorem dX7_then_75 : decode cX7_then 75 = .ok (.bipush 48, 2) := by decide +kernel
theorem dX7_then_77 : decode cX7_then 77 = .ok (.invokestatic 352, 3) := by decide +kernel
theorem dX7_then_80 : decode cX7_then 80 = .ok (.goto 12, 3) := by decide +kernel
theorem dX7_then_83 : decode cX7_then 83 = .ok (.aload_n 0, 1) := by decide +kernel
theorem dX7_then_84 : decode cX7_then 84 = .ok (.getfield 13, 3) := by decide +kernel
theorem dX7_then_87 : decode cX7_then 87 = .ok (.bipush 48, 2) := by decide +kernel
theorem dX7_then_89 : decode cX7_then 89 = .ok (.invokestatic 352, 3) := by decide +kernel
theorem dX7_then_92 : decode cX7_then 92 = .ok (.istore 4, 2) := by decide +kernel
theorem dX7_then_94 : decode cX7_then 94 = .ok (.aload_n 0, 1) := by decide +kernel
theorem dX7_then_95 : decode cX7_then 95 = .ok (.invokevirtual 346, 3) := by decide +kernel
theorem dX7_then_98 : decode cX7_then 98 = .ok (.iload 4, 2) := by decide +kernel
theorem dX7_then_100 : decode cX7_then 100 = .ok (.ireturn, 1) := by decide +kernel
theorem dX7_when_0 : decode cX7_when 0 = .ok (.aload_n 0, 1) := by decide +kernel
theorem dX7_when_1 : decode cX7_when 1 = .ok (.iload_n 1, 1) := by decide +kernel
theorem dX7_when_2 : decode cX7_when 2 = .ok (.invokevirtual 89, 3) := by decide +kernel
theorem dX7_when_5 : decode cX7_when 5 = .ok (.ifCond .eq 10, 3) := by decide +kernel
theorem dX7_when_8 : decode cX7_when 8 = .ok (.iload_n 2, 1) := by decide +kernel
theorem dX7_when_9 : decode cX7_when 9 = .ok (.invokestatic 244, 3) := by decide +kernel
theorem dX7_when_12 : decode cX7_when 12 = .ok (.ifCond .ne 9, 3) := by decide +kernel
theorem dX7_when_15 : decode cX7_when 15 = .ok (.aload_n 0, 1) := by decide +kernel
theorem dX7_when_16 : decode cX7_when 16 = .ok (.iconst (-1), 1) := by decide +kernel
theorem dX7_when_17 : decode cX7_when 17 = .ok (.invokevirtual 170, 3) := by decide +kernel
theorem dX7_when_20 : decode cX7_when 20 = .ok (.ireturn, 1) := by decide +kernel
theorem dX7_when_21 : decode cX7_when 21 = .ok (.bipush (-9), 2) := by decide +kernel
theorem dX7_when_23 : decode cX7_when 23 = .ok (.istore_n 3, 1) := by decide +kernel
theorem dX7_when_24 : decode cX7_when 24 = .ok (.aload_n 0, 1) := by decide +kernel
theorem dX7_when_25 : decode cX7_when 25 = .ok (.invokevirtual 343, 3) := by decide +kernel
theorem dX7_when_28 : decode cX7_when 28 = .ok (.iconst 0, 1) := by decide +kernel
theorem dX7_when_29 : decode cX7_when 29 = .ok (.istore 4, 2) := by decide +kernel
theorem dX7_when_31 : decode cX7_when 31 = .ok (.iload 4, 2) := by decide +kernel
theorem dX7_when_33 : decode cX7_when 33 = .ok (.bipush 60, 2) := by decide +kernel
theorem dX7_when_35 : decode cX7_when 35 = .ok (.if_icmp .gt 35, 3) := by decide +kernel
theorem dX7_when_38 : decode cX7_when 38 = .ok (.iload_n 3, 1) := by decide +kernel
theorem dX7_when_39 : decode cX7_when 39 = .ok (.ifCond .ge 31, 3) := by decide +kernel
theorem dX7_when_42 : decode cX7_when 42 = .ok (.aload_n 0, 1) := by decide +kernel
theorem dX7_when_43 : decode cX7_when 43 = .ok (.getfield 28, 3) := by decide +kernel
theorem dX7_when_46 : decode cX7_when 46 = .ok (.iload_n 1, 1) := by decide +kernel
theorem dX7_when_47 : decode cX7_when 47 = .ok (.iaload, 1) := by decide +kernel
theorem dX7_when_48 : decode cX7_when 48 = .ok (.iload_n 2, 1) := by decide +kernel
theorem dX7_when_49 : decode cX7_when 49 = .ok (.if_icmp .ne 8, 3) := by decide +kernel
theorem dX7_when_52 : decode cX7_when 52 = .ok (.iload 4, 2) := by decide +kernel
theorem dX7_when_54 : decode cX7_when 54 = .ok (.goto 5, 3) := by decide +kernel
theorem dX7_when_57 : decode cX7_when 57 = .ok (.bipush (-9), 2) := by decide +kernel
theorem dX7_when_59 : decode cX7_when 59 = .ok (.istore_n 3, 1) := by decide +kernel
theorem dX7_when_60 : decode cX7_when 60 = .ok (.aload_n 0, 1) := by decide +kernel
theorem dX7_when_61 : decode cX7_when 61 = .ok (.invokevirtual 160, 3) := by decide +kernel
theorem dX7_when_64 : decode cX7_when 64 = .ok (.iinc 4 1, 3) := by decide +kernel
theorem dX7_when_67 : decode cX7_when 67 = .ok (.goto (-36), 3) := by decide +kernel
theorem dX7_when_70 : decode cX7_when 70 = .ok (.aload_n 0, 1) := by decide +kernel
theorem dX7_when_71 : decode cX7_when 71 = .ok (.invokevirtual 346, 3) := by decide +kernel
theorem dX7_when_74 : decode cX7_when 74 = .ok (.iload_n 3, 1) := by decide +kernel
theorem dX7_when_75 : decode cX7_when 75 = .ok (.ireturn, 1) := by decide +kernel
theorem dX7_settlesWhen_0 : decode cX7_settlesWhen 0 = .ok (.bipush (-9), 2) := by decide +kernel
theorem dX7_settlesWhen_2 : decode cX7_settlesWhen 2 = .ok (.istore_n 2, 1) := by decide +kernel
theorem dX7_settlesWhen_3 : decode cX7_settlesWhen 3 = .ok (.aload_n 0, 1) := by decide +kernel
theorem dX7_settlesWhen_4 : decode cX7_settlesWhen 4 = .ok (.invokevirtual 343, 3) := by decide +kernel
theorem dX7_settlesWhen_7 : decode cX7_settlesWhen 7 = .ok (.iconst 0, 1) := by decide +kernel
theorem dX7_settlesWhen_8 : decode cX7_settlesWhen 8 = .ok (.istore_n 3, 1) := by decide +kernel
theorem dX7_settlesWhen_9 : decode cX7_settlesWhen 9 = .ok (.iload_n 3, 1) := by decide +kernel
theorem dX7_settlesWhen_10 : decode cX7_settlesWhen 10 = .ok (.bipush 60, 2) := by decide +kernel
theorem dX7_settlesWhen_12 : decode cX7_settlesWhen 12 = .ok (.if_icmp .gt 34, 3) := by decide +kernel
theorem dX7_settlesWhen_15 : decode cX7_settlesWhen 15 = .ok (.iload_n 2, 1) := by decide +kernel
theorem dX7_settlesWhen_16 : decode cX7_settlesWhen 16 = .ok (.ifCond .ge 30, 3) := by decide +kernel
theorem dX7_settlesWhen_19 : decode cX7_settlesWhen 19 = .ok (.aload_n 0, 1) := by decide +kernel
theorem dX7_settlesWhen_20 : decode cX7_settlesWhen 20 = .ok (.getfield 40, 3) := by decide +kernel
theorem dX7_settlesWhen_23 : decode cX7_settlesWhen 23 = .ok (.iload_n 1, 1) := by decide +kernel
theorem dX7_settlesWhen_24 : decode cX7_settlesWhen 24 = .ok (.iaload, 1) := by decide +kernel
theorem dX7_settlesWhen_25 : decode cX7_settlesWhen 25 = .ok (.iconst 1, 1) := by decide +kernel
theorem dX7_settlesWhen_26 : decode cX7_settlesWhen 26 = .ok (.if_icmp .ne 7, 3) := by decide +kernel
theorem dX7_settlesWhen_29 : decode cX7_settlesWhen 29 = .ok (.iload_n 3, 1) := by decide +kernel
theorem dX7_settlesWhen_30 : decode cX7_settlesWhen 30 = .ok (.goto 5, 3) := by decide +kernel
theorem dX7_settlesWhen_33 : decode cX7_settlesWhen 33 = .ok (.bipush (-9), 2) := by decide +kernel
theorem dX7_settlesWhen_35 : decode cX7_settlesWhen 35 = .ok (.istore_n 2, 1) := by decide +kernel
theorem dX7_settlesWhen_36 : decode cX7_settlesWhen 36 = .ok (.aload_n 0, 1) := by decide +kernel
theorem dX7_settlesWhen_37 : decode cX7_settlesWhen 37 = .ok (.invokevirtual 160, 3) := by decide +kernel
theorem dX7_settlesWhen_40 : decode cX7_settlesWhen 40 = .ok (.iinc 3 1, 3) := by decide +kernel
theorem dX7_settlesWhen_43 : decode cX7_settlesWhen 43 = .ok (.goto (-34), 3) := by decide +kernel
theorem dX7_settlesWhen_46 : decode cX7_settlesWhen 46 = .ok (.aload_n 0, 1) := by decide +kernel
theorem dX7_settlesWhen_47 : decode cX7_settlesWhen 47 = .ok (.invokevirtual 346, 3) := by decide +kernel
theorem dX7_settlesWhen_50 : decode cX7_settlesWhen 50 = .ok (.iload_n 2, 1) := by decide +kernel
theorem dX7_settlesWhen_51 : decode cX7_settlesWhen 51 = .ok (.ireturn, 1) := by decide +kernel
theorem dX7_firstToSettle_0 : decode cX7_firstToSettle 0 = .ok (.aload_n 0, 1) := by decide +kernel
theorem dX7_firstToSettle_1 : decode cX7_firstToSettle 1 = .ok (.invokevirtual 349, 3) := by decide +kernel
theorem dX7_firstToSettle_4 : decode cX7_firstToSettle 4 = .ok (.istore_n 1, 1) := by decide +kernel
theorem dX7_firstToSettle_5 : decode cX7_firstToSettle 5 = .ok (.iconst 0, 1) := by decide +kernel
theorem dX7_firstToSettle_6 : decode cX7_firstToSettle 6 = .ok (.istore_n 2, 1) := by decide +kernel
theorem dX7_firstToSettle_7 : decode cX7_firstToSettle 7 = .ok (.aload_n 0, 1) := by decide +kernel
theorem dX7_firstToSettle_8 : decode cX7_firstToSettle 8 = .ok (.invokevirtual 343, 3) := by decide +kernel
theorem dX7_firstToSettle_11 : decode cX7_firstToSettle 11 = .ok (.iconst 0, 1) := by decide +kernel
theorem dX7_firstToSettle_12 : decode cX7_firstToSettle 12 = .ok (.istore_n 3, 1) := by decide +kernel
theorem dX7_firstToSettle_13 : decode cX7_firstToSettle 13 = .ok (.iload_n 3, 1) := by decide +kernel
theorem dX7_firstToSettle_14 : decode cX7_firstToSettle 14 = .ok (.bipush 60, 2) := by decide +kernel
theorem dX7_firstToSettle_16 : decode cX7_firstToSettle 16 = .ok (.if_icmp .ge 26, 3) := by decide +kernel
theorem dX7_firstToSettle_19 : decode cX7_firstToSettle 19 = .ok (.iload_n 2, 1) := by decide +kernel
theorem dX7_firstToSettle_20 : decode cX7_firstToSettle 20 = .ok (.ifCond .ne 22, 3) := by decide +kernel
theorem dX7_firstToSettle_23 : decode cX7_firstToSettle 23 = .ok (.aload_n 0, 1) := by decide +kernel
theorem dX7_firstToSettle_24 : decode cX7_firstToSettle 24 = .ok (.invokevirtual 160, 3) := by decide +kernel
theorem dX7_firstToSettle_27 : decode cX7_firstToSettle 27 = .ok (.aload_n 0, 1) := by decide +kernel
theorem dX7_firstToSettle_28 : decode cX7_firstToSettle 28 = .ok (.invokevirtual 349, 3) := by decide +kernel
theorem dX7_firstToSettle_31 : decode cX7_firstToSettle 31 = .ok (.iload_n 1, 1) := by decide +kernel
theorem dX7_firstToSettle_32 : decode cX7_firstToSettle 32 = .ok (.iconst (-1), 1) := by decide +kernel
theorem dX7_firstToSettle_33 : decode cX7_firstToSettle 33 = .ok (.ixor, 1) := by decide +kernel
theorem dX7_firstToSettle_34 : decode cX7_firstToSettle 34 = .ok (.iand, 1) := by decide +kernel
theorem dX7_firstToSettle_35 : decode cX7_firstToSettle 35 = .ok (.istore_n 2, 1) := by decide +kernel
theorem dX7_firstToSettle_36 : decode cX7_firstToSettle 36 = .ok (.iinc 3 1, 3) := by decide +kernel
theorem dX7_firstToSettle_39 : decode cX7_firstToSettle 39 = .ok (.goto (-26), 3) := by decide +kernel
theorem dX7_firstToSettle_42 : decode cX7_firstToSettle 42 = .ok (.aload_n 0, 1) := by decide +kernel
theorem dX7_firstToSettle_43 : decode cX7_firstToSettle 43 = .ok (.invokevirtual 346, 3) := by decide +kernel
theorem dX7_firstToSettle_46 : decode cX7_firstToSettle 46 = .ok (.iconst 0, 1) := by decide +kernel
theorem dX7_firstToSettle_47 : decode cX7_firstToSettle 47 = .ok (.istore_n 3, 1) := by decide +kernel
theorem dX7_firstToSettle_48 : decode cX7_firstToSettle 48 = .ok (.iload_n 3, 1) := by decide +kernel
theorem dX7_firstToSettle_49 : decode cX7_firstToSettle 49 = .ok (.aload_n 0, 1) := by decide +kernel
theorem dX7_firstToSettle_50 : decode cX7_firstToSettle 50 = .ok (.getfield 79, 3) := by decide +kernel
theorem dX7_firstToSettle_53 : decode cX7_firstToSettle 53 = .ok (.if_icmp .ge 19, 3) := by decide +kernel
theorem dX7_firstToSettle_56 : decode cX7_firstToSettle 56 = .ok (.iload_n 2, 1) := by decide +kernel
theorem dX7_firstToSettle_57 : decode cX7_firstToSettle 57 = .ok (.iload_n 3, 1) := by decide +kernel
theorem dX7_firstToSettle_58 : decode cX7_firstToSettle 58 = .ok (.invokestatic 356, 3) := by decide +kernel
theorem dX7_firstToSettle_61 : decode cX7_firstToSettle 61 = .ok (.ifCond .eq 5, 3) := by decide +kernel
theorem dX7_firstToSettle_64 : decode cX7_firstToSettle 64 = .ok (.iload_n 3, 1) := by decide +kernel
theorem dX7_firstToSettle_65 : decode cX7_firstToSettle 65 = .ok (.ireturn, 1) := by decide +kernel
theorem dX7_firstToSettle_66 : decode cX7_firstToSettle 66 = .ok (.iinc 3 1, 3) := by decide +kernel
theorem dX7_firstToSettle_69 : decode cX7_firstToSettle 69 = .ok (.goto (-21), 3) := by decide +kernel
theorem dX7_firstToSettle_72 : decode cX7_firstToSettle 72 = .ok (.bipush (-9), 2) := by decide +kernel
theorem dX7_firstToSettle_74 : decode cX7_firstToSettle 74 = .ok (.ireturn, 1) := by decide +kernel
theorem dX7_settles_0 : decode cX7_settles 0 = .ok (.iload_n 1, 1) := by decide +kernel
theorem dX7_settles_1 : decode cX7_settles 1 = .ok (.iconst (-1), 1) := by decide +kernel
theorem dX7_settles_2 : decode cX7_settles 2 = .ok (.aload_n 0, 1) := by decide +kernel
theorem dX7_settles_3 : decode cX7_settles 3 = .ok (.getfield 79, 3) := by decide +kernel
theorem dX7_settles_6 : decode cX7_settles 6 = .ok (.iconst 1, 1) := by decide +kernel
theorem dX7_settles_7 : decode cX7_settles 7 = .ok (.isub, 1) := by decide +kernel
theorem dX7_settles_8 : decode cX7_settles 8 = .ok (.invokestatic 85, 3) := by decide +kernel
theorem dX7_settles_11 : decode cX7_settles 11 = .ok (.ifCond .ne 9, 3) := by decide +kernel
theorem dX7_settles_14 : decode cX7_settles 14 = .ok (.aload_n 0, 1) := by decide +kernel
theorem dX7_settles_15 : decode cX7_settles 15 = .ok (.iconst (-1), 1) := by decide +kernel
theorem dX7_settles_16 : decode cX7_settles 16 = .ok (.invokevirtual 170, 3) := by decide +kernel
theorem dX7_settles_19 : decode cX7_settles 19 = .ok (.ireturn, 1) := by decide +kernel
theorem dX7_settles_20 : decode cX7_settles 20 = .ok (.iload_n 1, 1) := by decide +kernel
theorem dX7_settles_21 : decode cX7_settles 21 = .ok (.ifCond .ge 10, 3) := by decide +kernel
theorem dX7_settles_24 : decode cX7_settles 24 = .ok (.aload_n 0, 1) := by decide +kernel
theorem dX7_settles_25 : decode cX7_settles 25 = .ok (.invokevirtual 359, 3) := by decide +kernel
theorem dX7_settles_28 : decode cX7_settles 28 = .ok (.goto 8, 3) := by decide +kernel
theorem dX7_settles_31 : decode cX7_settles 31 = .ok (.aload_n 0, 1) := by decide +kernel
theorem dX7_settles_32 : decode cX7_settles 32 = .ok (.iload_n 1, 1) := by decide +kernel
theorem dX7_settles_33 : decode cX7_settles 33 = .ok (.invokevirtual 362, 3) := by decide +kernel
theorem dX7_settles_36 : decode cX7_settles 36 = .ok (.ireturn, 1) := by decide +kernel
theorem dX7_meeting_0 : decode cX7_meeting 0 = .ok (.aload_n 0, 1) := by decide +kernel
theorem dX7_meeting_1 : decode cX7_meeting 1 = .ok (.iload_n 1, 1) := by decide +kernel
theorem dX7_meeting_2 : decode cX7_meeting 2 = .ok (.iload_n 2, 1) := by decide +kernel
theorem dX7_meeting_3 : decode cX7_meeting 3 = .ok (.invokevirtual 365, 3) := by decide +kernel
theorem dX7_meeting_6 : decode cX7_meeting 6 = .ok (.ifCond .ne 9, 3) := by decide +kernel
theorem dX7_meeting_9 : decode cX7_meeting 9 = .ok (.aload_n 0, 1) := by decide +kernel
theorem dX7_meeting_10 : decode cX7_meeting 10 = .ok (.iconst (-1), 1) := by decide +kernel
theorem dX7_meeting_11 : decode cX7_meeting 11 = .ok (.invokevirtual 170, 3) := by decide +kernel
theorem dX7_meeting_14 : decode cX7_meeting 14 = .ok (.ireturn, 1) := by decide +kernel
theorem dX7_meeting_15 : decode cX7_meeting 15 = .ok (.bipush (-9), 2) := by decide +kernel
theorem dX7_meeting_17 : decode cX7_meeting 17 = .ok (.istore_n 3, 1) := by decide +kernel
theorem dX7_meeting_18 : decode cX7_meeting 18 = .ok (.aload_n 0, 1) := by decide +kernel
theorem dX7_meeting_19 : decode cX7_meeting 19 = .ok (.invokevirtual 343, 3) := by decide +kernel
theorem dX7_meeting_22 : decode cX7_meeting 22 = .ok (.iconst 0, 1) := by decide +kernel
theorem dX7_meeting_23 : decode cX7_meeting 23 = .ok (.istore 4, 2) := by decide +kernel
theorem dX7_meeting_25 : decode cX7_meeting 25 = .ok (.iload 4, 2) := by decide +kernel
theorem dX7_meeting_27 : decode cX7_meeting 27 = .ok (.bipush 60, 2) := by decide +kernel
theorem dX7_meeting_29 : decode cX7_meeting 29 = .ok (.if_icmp .gt 40, 3) := by decide +kernel
theorem dX7_meeting_32 : decode cX7_meeting 32 = .ok (.iload_n 3, 1) := by decide +kernel
theorem dX7_meeting_33 : decode cX7_meeting 33 = .ok (.ifCond .ge 36, 3) := by decide +kernel
theorem dX7_meeting_36 : decode cX7_meeting 36 = .ok (.aload_n 0, 1) := by decide +kernel
theorem dX7_meeting_37 : decode cX7_meeting 37 = .ok (.getfield 28, 3) := by decide +kernel
theorem dX7_meeting_40 : decode cX7_meeting 40 = .ok (.iload_n 1, 1) := by decide +kernel
theorem dX7_meeting_41 : decode cX7_meeting 41 = .ok (.iaload, 1) := by decide +kernel
theorem dX7_meeting_42 : decode cX7_meeting 42 = .ok (.aload_n 0, 1) := by decide +kernel
theorem dX7_meeting_43 : decode cX7_meeting 43 = .ok (.getfield 28, 3) := by decide +kernel
theorem dX7_meeting_46 : decode cX7_meeting 46 = .ok (.iload_n 2, 1) := by decide +kernel
theorem dX7_meeting_47 : decode cX7_meeting 47 = .ok (.iaload, 1) := by decide +kernel
theorem dX7_meeting_48 : decode cX7_meeting 48 = .ok (.if_icmp .ne 8, 3) := by decide +kernel
theorem dX7_meeting_51 : decode cX7_meeting 51 = .ok (.iload 4, 2) := by decide +kernel
theorem dX7_meeting_53 : decode cX7_meeting 53 = .ok (.goto 5, 3) := by decide +kernel
theorem dX7_meeting_56 : decode cX7_meeting 56 = .ok (.bipush (-9), 2) := by decide +kernel
theorem dX7_meeting_58 : decode cX7_meeting 58 = .ok (.istore_n 3, 1) := by decide +kernel
theorem dX7_meeting_59 : decode cX7_meeting 59 = .ok (.aload_n 0, 1) := by decide +kernel
theorem dX7_meeting_60 : decode cX7_meeting 60 = .ok (.invokevirtual 160, 3) := by decide +kernel
theorem dX7_meeting_63 : decode cX7_meeting 63 = .ok (.iinc 4 1, 3) := by decide +kernel
theorem dX7_meeting_66 : decode cX7_meeting 66 = .ok (.goto (-41), 3) := by decide +kernel
theorem dX7_meeting_69 : decode cX7_meeting 69 = .ok (.aload_n 0, 1) := by decide +kernel
theorem dX7_meeting_70 : decode cX7_meeting 70 = .ok (.invokevirtual 346, 3) := by decide +kernel
theorem dX7_meeting_73 : decode cX7_meeting 73 = .ok (.iload_n 3, 1) := by decide +kernel
theorem dX7_meeting_74 : decode cX7_meeting 74 = .ok (.ireturn, 1) := by decide +kernel
theorem dX7_bestWord_0 : decode cX7_bestWord 0 = .ok (.aload_n 0, 1) := by decide +kernel
theorem dX7_bestWord_1 : decode cX7_bestWord 1 = .ok (.iload_n 1, 1) := by decide +kernel
theorem dX7_bestWord_2 : decode cX7_bestWord 2 = .ok (.invokevirtual 89, 3) := by decide +kernel
theorem dX7_bestWord_5 : decode cX7_bestWord 5 = .ok (.ifCond .ne 7, 3) := by decide +kernel
theorem dX7_bestWord_8 : decode cX7_bestWord 8 = .ok (.iconst (-1), 1) := by decide +kernel
theorem dX7_bestWord_9 : decode cX7_bestWord 9 = .ok (.goto 10, 3) := by decide +kernel
theorem dX7_bestWord_12 : decode cX7_bestWord 12 = .ok (.iload_n 2, 1) := by decide +kernel
theorem dX7_bestWord_13 : decode cX7_bestWord 13 = .ok (.iconst 0, 1) := by decide +kernel
theorem dX7_bestWord_14 : decode cX7_bestWord 14 = .ok (.bipush 60, 2) := by decide +kernel
theorem dX7_bestWord_16 : decode cX7_bestWord 16 = .ok (.invokestatic 163, 3) := by decide +kernel
theorem dX7_bestWord_19 : decode cX7_bestWord 19 = .ok (.istore 4, 2) := by decide +kernel
theorem dX7_bestWord_21 : decode cX7_bestWord 21 = .ok (.iload 4, 2) := by decide +kernel
theorem dX7_bestWord_23 : decode cX7_bestWord 23 = .ok (.ifCond .ne 16, 3) := by decide +kernel
theorem dX7_bestWord_26 : decode cX7_bestWord 26 = .ok (.iload_n 3, 1) := by decide +kernel
theorem dX7_bestWord_27 : decode cX7_bestWord 27 = .ok (.iconst 0, 1) := by decide +kernel
theorem dX7_bestWord_28 : decode cX7_bestWord 28 = .ok (.iconst 1, 1) := by decide +kernel
theorem dX7_bestWord_29 : decode cX7_bestWord 29 = .ok (.invokestatic 85, 3) := by decide +kernel
theorem dX7_bestWord_32 : decode cX7_bestWord 32 = .ok (.ifCond .ne 7, 3) := by decide +kernel
theorem dX7_bestWord_35 : decode cX7_bestWord 35 = .ok (.bipush (-2), 2) := by decide +kernel
theorem dX7_bestWord_37 : decode cX7_bestWord 37 = .ok (.istore 4, 2) := by decide +kernel
theorem dX7_bestWord_39 : decode cX7_bestWord 39 = .ok (.iload 4, 2) := by decide +kernel
theorem dX7_bestWord_41 : decode cX7_bestWord 41 = .ok (.ifCond .eq 10, 3) := by decide +kernel
theorem dX7_bestWord_44 : decode cX7_bestWord 44 = .ok (.aload_n 0, 1) := by decide +kernel
theorem dX7_bestWord_45 : decode cX7_bestWord 45 = .ok (.iload 4, 2) := by decide +kernel
theorem dX7_bestWord_47 : decode cX7_bestWord 47 = .ok (.invokevirtual 170, 3) := by decide +kernel
theorem dX7_bestWord_50 : decode cX7_bestWord 50 = .ok (.ireturn, 1) := by decide +kernel
theorem dX7_bestWord_51 : decode cX7_bestWord 51 = .ok (.bipush (-9), 2) := by decide +kernel
theorem dX7_bestWord_53 : decode cX7_bestWord 53 = .ok (.istore 5, 2) := by decide +kernel
theorem dX7_bestWord_55 : decode cX7_bestWord 55 = .ok (.bipush (-9), 2) := by decide +kernel
theorem dX7_bestWord_57 : decode cX7_bestWord 57 = .ok (.istore 6, 2) := by decide +kernel
theorem dX7_bestWord_59 : decode cX7_bestWord 59 = .ok (.iconst 0, 1) := by decide +kernel
theorem dX7_bestWord_60 : decode cX7_bestWord 60 = .ok (.istore 7, 2) := by decide +kernel
theorem dX7_bestWord_62 : decode cX7_bestWord 62 = .ok (.iload 7, 2) := by decide +kernel
theorem dX7_bestWord_64 : decode cX7_bestWord 64 = .ok (.iconst 4, 1) := by decide +kernel
theorem dX7_bestWord_65 : decode cX7_bestWord 65 = .ok (.if_icmp .gt 56, 3) := by decide +kernel
theorem dX7_bestWord_68 : decode cX7_bestWord 68 = .ok (.aload_n 0, 1) := by decide +kernel
theorem dX7_bestWord_69 : decode cX7_bestWord 69 = .ok (.invokevirtual 343, 3) := by decide +kernel
theorem dX7_bestWord_72 : decode cX7_bestWord 72 = .ok (.aload_n 0, 1) := by decide +kernel
theorem dX7_bestWord_73 : decode cX7_bestWord 73 = .ok (.getfield 34, 3) := by decide +kernel
theorem dX7_bestWord_76 : decode cX7_bestWord 76 = .ok (.iload_n 1, 1) := by decide +kernel
theorem dX7_bestWord_77 : decode cX7_bestWord 77 = .ok (.iload 7, 2) := by decide +kernel
theorem dX7_bestWord_79 : decode cX7_bestWord 79 = .ok (.iastore, 1) := by decide +kernel
theorem dX7_bestWord_80 : decode cX7_bestWord 80 = .ok (.aload_n 0, 1) := by decide +kernel
theorem dX7_bestWord_81 : decode cX7_bestWord 81 = .ok (.iload_n 2, 1) := by decide +kernel
theorem dX7_bestWord_82 : decode cX7_bestWord 82 = .ok (.invokevirtual 261, 3) := by decide +kernel
theorem dX7_bestWord_85 : decode cX7_bestWord 85 = .ok (.aload_n 0, 1) := by decide +kernel
theorem dX7_bestWord_86 : decode cX7_bestWord 86 = .ok (.getfield 37, 3) := by decide +kernel
theorem dX7_bestWord_89 : decode cX7_bestWord 89 = .ok (.iload_n 1, 1) := by decide +kernel
theorem dX7_bestWord_90 : decode cX7_bestWord 90 = .ok (.iaload, 1) := by decide +kernel
theorem dX7_bestWord_91 : decode cX7_bestWord 91 = .ok (.istore 8, 2) := by decide +kernel
theorem dX7_bestWord_93 : decode cX7_bestWord 93 = .ok (.aload_n 0, 1) := by decide +kernel
theorem dX7_bestWord_94 : decode cX7_bestWord 94 = .ok (.invokevirtual 346, 3) := by decide +kernel
theorem dX7_bestWord_97 : decode cX7_bestWord 97 = .ok (.iload 8, 2) := by decide +kernel
theorem dX7_bestWord_99 : decode cX7_bestWord 99 = .ok (.iload 6, 2) := by decide +kernel
theorem dX7_bestWord_101 : decode cX7_bestWord 101 = .ok (.if_icmp .gt 6, 3) := by decide +kernel
theorem dX7_bestWord_104 : decode cX7_bestWord 104 = .ok (.goto 11, 3) := by decide +kernel
theorem dX7_bestWord_107 : decode cX7_bestWord 107 = .ok (.iload 7, 2) := by decide +kernel
theorem dX7_bestWord_109 : decode cX7_bestWord 109 = .ok (.istore 5, 2) := by decide +kernel
theorem dX7_bestWord_111 : decode cX7_bestWord 111 = .ok (.iload 8, 2) := by decide +kernel
theorem dX7_bestWord_113 : decode cX7_bestWord 113 = .ok (.istore 6, 2) := by decide +kernel
theorem dX7_bestWord_115 : decode cX7_bestWord 115 = .ok (.iinc 7 1, 3) := by decide +kernel
theorem dX7_bestWord_118 : decode cX7_bestWord 118 = .ok (.goto (-56), 3) := by decide +kernel
theorem dX7_bestWord_121 : decode cX7_bestWord 121 = .ok (.iload_n 3, 1) := by decide +kernel
theorem dX7_bestWord_122 : decode cX7_bestWord 122 = .ok (.ifCond .ne 8, 3) := by decide +kernel
theorem dX7_bestWord_125 : decode cX7_bestWord 125 = .ok (.iload 5, 2) := by decide +kernel
theorem dX7_bestWord_127 : decode cX7_bestWord 127 = .ok (.goto 5, 3) := by decide +kernel
theorem dX7_bestWord_130 : decode cX7_bestWord 130 = .ok (.iload 6, 2) := by decide +kernel
theorem dX7_bestWord_132 : decode cX7_bestWord 132 = .ok (.ireturn, 1) := by decide +kernel
theorem dX7_bestLetter_0 : decode cX7_bestLetter 0 = .ok (.aload_n 0, 1) := by decide +kernel
theorem dX7_bestLetter_1 : decode cX7_bestLetter 1 = .ok (.iload_n 1, 1) := by decide +kernel
theorem dX7_bestLetter_2 : decode cX7_bestLetter 2 = .ok (.invokevirtual 89, 3) := by decide +kernel
theorem dX7_bestLetter_5 : decode cX7_bestLetter 5 = .ok (.ifCond .ne 7, 3) := by decide +kernel
theorem dX7_bestLetter_8 : decode cX7_bestLetter 8 = .ok (.iconst (-1), 1) := by decide +kernel
theorem dX7_bestLetter_9 : decode cX7_bestLetter 9 = .ok (.goto 10, 3) := by decide +kernel
theorem dX7_bestLetter_12 : decode cX7_bestLetter 12 = .ok (.iload_n 2, 1) := by decide +kernel
theorem dX7_bestLetter_13 : decode cX7_bestLetter 13 = .ok (.iconst 0, 1) := by decide +kernel
theorem dX7_bestLetter_14 : decode cX7_bestLetter 14 = .ok (.bipush 30, 2) := by decide +kernel
theorem dX7_bestLetter_16 : decode cX7_bestLetter 16 = .ok (.invokestatic 163, 3) := by decide +kernel
theorem dX7_bestLetter_19 : decode cX7_bestLetter 19 = .ok (.istore 4, 2) := by decide +kernel
theorem dX7_bestLetter_21 : decode cX7_bestLetter 21 = .ok (.iload 4, 2) := by decide +kernel
theorem dX7_bestLetter_23 : decode cX7_bestLetter 23 = .ok (.ifCond .ne 16, 3) := by decide +kernel
theorem dX7_bestLetter_26 : decode cX7_bestLetter 26 = .ok (.iload_n 3, 1) := by decide +kernel
theorem dX7_bestLetter_27 : decode cX7_bestLetter 27 = .ok (.iconst 0, 1) := by decide +kernel
theorem dX7_bestLetter_28 : decode cX7_bestLetter 28 = .ok (.iconst 1, 1) := by decide +kernel
theorem dX7_bestLetter_29 : decode cX7_bestLetter 29 = .ok (.invokestatic 85, 3) := by decide +kernel
theorem dX7_bestLetter_32 : decode cX7_bestLetter 32 = .ok (.ifCond .ne 7, 3) := by decide +kernel
theorem dX7_bestLetter_35 : decode cX7_bestLetter 35 = .ok (.bipush (-2), 2) := by decide +kernel
theorem dX7_bestLetter_37 : decode cX7_bestLetter 37 = .ok (.istore 4, 2) := by decide +kernel
theorem dX7_bestLetter_39 : decode cX7_bestLetter 39 = .ok (.iload 4, 2) := by decide +kernel
theorem dX7_bestLetter_41 : decode cX7_bestLetter 41 = .ok (.ifCond .eq 10, 3) := by decide +kernel
theorem dX7_bestLetter_44 : decode cX7_bestLetter 44 = .ok (.aload_n 0, 1) := by decide +kernel
theorem dX7_bestLetter_45 : decode cX7_bestLetter 45 = .ok (.iload 4, 2) := by decide +kernel
theorem dX7_bestLetter_47 : decode cX7_bestLetter 47 = .ok (.invokevirtual 170, 3) := by decide +kernel
theorem dX7_bestLetter_50 : decode cX7_bestLetter 50 = .ok (.ireturn, 1) := by decide +kernel
theorem dX7_bestLetter_51 : decode cX7_bestLetter 51 = .ok (.aload_n 0, 1) := by decide +kernel
theorem dX7_bestLetter_52 : decode cX7_bestLetter 52 = .ok (.getfield 43, 3) := by decide +kernel
theorem dX7_bestLetter_55 : decode cX7_bestLetter 55 = .ok (.iload_n 1, 1) := by decide +kernel
theorem dX7_bestLetter_56 : decode cX7_bestLetter 56 = .ok (.iaload, 1) := by decide +kernel
theorem dX7_bestLetter_57 : decode cX7_bestLetter 57 = .ok (.bipush 6, 2) := by decide +kernel
theorem dX7_bestLetter_59 : decode cX7_bestLetter 59 = .ok (.if_icmp .ne 6, 3) := by decide +kernel
theorem dX7_bestLetter_62 : decode cX7_bestLetter 62 = .ok (.bipush (-9), 2) := by decide +kernel
theorem dX7_bestLetter_64 : decode cX7_bestLetter 64 = .ok (.ireturn, 1) := by decide +kernel
theorem dX7_bestLetter_65 : decode cX7_bestLetter 65 = .ok (.bipush (-9), 2) := by decide +kernel
theorem dX7_bestLetter_67 : decode cX7_bestLetter 67 = .ok (.istore 5, 2) := by decide +kernel
theorem dX7_bestLetter_69 : decode cX7_bestLetter 69 = .ok (.bipush (-9), 2) := by decide +kernel
theorem dX7_bestLetter_71 : decode cX7_bestLetter 71 = .ok (.istore 6, 2) := by decide +kernel
theorem dX7_bestLetter_73 : decode cX7_bestLetter 73 = .ok (.iconst 0, 1) := by decide +kernel
theorem dX7_bestLetter_74 : decode cX7_bestLetter 74 = .ok (.istore 7, 2) := by decide +kernel
theorem dX7_bestLetter_76 : decode cX7_bestLetter 76 = .ok (.iload 7, 2) := by decide +kernel
theorem dX7_bestLetter_78 : decode cX7_bestLetter 78 = .ok (.bipush 26, 2) := by decide +kernel
theorem dX7_bestLetter_80 : decode cX7_bestLetter 80 = .ok (.if_icmp .ge 55, 3) := by decide +kernel
theorem dX7_bestLetter_83 : decode cX7_bestLetter 83 = .ok (.aload_n 0, 1) := by decide +kernel
theorem dX7_bestLetter_84 : decode cX7_bestLetter 84 = .ok (.invokevirtual 343, 3) := by decide +kernel
theorem dX7_bestLetter_87 : decode cX7_bestLetter 87 = .ok (.aload_n 0, 1) := by decide +kernel
theorem dX7_bestLetter_88 : decode cX7_bestLetter 88 = .ok (.iload_n 1, 1) := by decide +kernel
theorem dX7_bestLetter_89 : decode cX7_bestLetter 89 = .ok (.iload 7, 2) := by decide +kernel
theorem dX7_bestLetter_91 : decode cX7_bestLetter 91 = .ok (.invokevirtual 339, 3) := by decide +kernel
theorem dX7_bestLetter_94 : decode cX7_bestLetter 94 = .ok (.aload_n 0, 1) := by decide +kernel
theorem dX7_bestLetter_95 : decode cX7_bestLetter 95 = .ok (.iload_n 2, 1) := by decide +kernel
theorem dX7_bestLetter_96 : decode cX7_bestLetter 96 = .ok (.invokevirtual 261, 3) := by decide +kernel
theorem dX7_bestLetter_99 : decode cX7_bestLetter 99 = .ok (.aload_n 0, 1) := by decide +kernel
theorem dX7_bestLetter_100 : decode cX7_bestLetter 100 = .ok (.getfield 37, 3) := by decide +kernel
theorem dX7_bestLetter_103 : decode cX7_bestLetter 103 = .ok (.iload_n 1, 1) := by decide +kernel
theorem dX7_bestLetter_104 : decode cX7_bestLetter 104 = .ok (.iaload, 1) := by decide +kernel
theorem dX7_bestLetter_105 : decode cX7_bestLetter 105 = .ok (.istore 8, 2) := by decide +kernel
theorem dX7_bestLetter_107 : decode cX7_bestLetter 107 = .ok (.aload_n 0, 1) := by decide +kernel
theorem dX7_bestLetter_108 : decode cX7_bestLetter 108 = .ok (.invokevirtual 346, 3) := by decide +kernel
theorem dX7_bestLetter_111 : decode cX7_bestLetter 111 = .ok (.iload 8, 2) := by decide +kernel
theorem dX7_bestLetter_113 : decode cX7_bestLetter 113 = .ok (.iload 6, 2) := by decide +kernel
theorem dX7_bestLetter_115 : decode cX7_bestLetter 115 = .ok (.if_icmp .gt 6, 3) := by decide +kernel
theorem dX7_bestLetter_118 : decode cX7_bestLetter 118 = .ok (.goto 11, 3) := by decide +kernel
theorem dX7_bestLetter_121 : decode cX7_bestLetter 121 = .ok (.iload 7, 2) := by decide +kernel
theorem dX7_bestLetter_123 : decode cX7_bestLetter 123 = .ok (.istore 5, 2) := by decide +kernel
theorem dX7_bestLetter_125 : decode cX7_bestLetter 125 = .ok (.iload 8, 2) := by decide +kernel
theorem dX7_bestLetter_127 : decode cX7_bestLetter 127 = .ok (.istore 6, 2) := by decide +kernel
theorem dX7_bestLetter_129 : decode cX7_bestLetter 129 = .ok (.iinc 7 1, 3) := by decide +kernel
theorem dX7_bestLetter_132 : decode cX7_bestLetter 132 = .ok (.goto (-56), 3) := by decide +kernel
theorem dX7_bestLetter_135 : decode cX7_bestLetter 135 = .ok (.iload_n 3, 1) := by decide +kernel
theorem dX7_bestLetter_136 : decode cX7_bestLetter 136 = .ok (.ifCond .ne 8, 3) := by decide +kernel
theorem dX7_bestLetter_139 : decode cX7_bestLetter 139 = .ok (.iload 5, 2) := by decide +kernel
theorem dX7_bestLetter_141 : decode cX7_bestLetter 141 = .ok (.goto 5, 3) := by decide +kernel
theorem dX7_bestLetter_144 : decode cX7_bestLetter 144 = .ok (.iload 6, 2) := by decide +kernel
theorem dX7_bestLetter_146 : decode cX7_bestLetter 146 = .ok (.ireturn, 1) := by decide +kernel
theorem dX7_comesTo_0 : decode cX7_comesTo 0 = .ok (.iconst 0, 1) := by decide +kernel
theorem dX7_comesTo_1 : decode cX7_comesTo 1 = .ok (.istore 4, 2) := by decide +kernel
theorem dX7_comesTo_3 : decode cX7_comesTo 3 = .ok (.iconst 0, 1) := by decide +kernel
theorem dX7_comesTo_4 : decode cX7_comesTo 4 = .ok (.istore 5, 2) := by decide +kernel
theorem dX7_comesTo_6 : decode cX7_comesTo 6 = .ok (.iload 5, 2) := by decide +kernel
theorem dX7_comesTo_8 : decode cX7_comesTo 8 = .ok (.iload_n 3, 1) := by decide +kernel
theorem dX7_comesTo_9 : decode cX7_comesTo 9 = .ok (.if_icmp .ge 35, 3) := by decide +kernel
theorem dX7_comesTo_12 : decode cX7_comesTo 12 = .ok (.iload 4, 2) := by decide +kernel
theorem dX7_comesTo_14 : decode cX7_comesTo 14 = .ok (.ifCond .ne 30, 3) := by decide +kernel
theorem dX7_comesTo_17 : decode cX7_comesTo 17 = .ok (.aload_n 0, 1) := by decide +kernel
theorem dX7_comesTo_18 : decode cX7_comesTo 18 = .ok (.invokevirtual 160, 3) := by decide +kernel
theorem dX7_comesTo_21 : decode cX7_comesTo 21 = .ok (.aload_n 0, 1) := by decide +kernel
theorem dX7_comesTo_22 : decode cX7_comesTo 22 = .ok (.getfield 28, 3) := by decide +kernel
theorem dX7_comesTo_25 : decode cX7_comesTo 25 = .ok (.iload_n 1, 1) := by decide +kernel
theorem dX7_comesTo_26 : decode cX7_comesTo 26 = .ok (.iaload, 1) := by decide +kernel
theorem dX7_comesTo_27 : decode cX7_comesTo 27 = .ok (.iload_n 2, 1) := by decide +kernel
theorem dX7_comesTo_28 : decode cX7_comesTo 28 = .ok (.if_icmp .ne 7, 3) := by decide +kernel
theorem dX7_comesTo_31 : decode cX7_comesTo 31 = .ok (.iconst 1, 1) := by decide +kernel
theorem dX7_comesTo_32 : decode cX7_comesTo 32 = .ok (.goto 4, 3) := by decide +kernel
theorem dX7_comesTo_35 : decode cX7_comesTo 35 = .ok (.iconst 0, 1) := by decide +kernel
theorem dX7_comesTo_36 : decode cX7_comesTo 36 = .ok (.istore 4, 2) := by decide +kernel
theorem dX7_comesTo_38 : decode cX7_comesTo 38 = .ok (.iinc 5 1, 3) := by decide +kernel
theorem dX7_comesTo_41 : decode cX7_comesTo 41 = .ok (.goto (-35), 3) := by decide +kernel
theorem dX7_comesTo_44 : decode cX7_comesTo 44 = .ok (.iload 4, 2) := by decide +kernel
theorem dX7_comesTo_46 : decode cX7_comesTo 46 = .ok (.ireturn, 1) := by decide +kernel
theorem dX7_holds_0 : decode cX7_holds 0 = .ok (.aload_n 0, 1) := by decide +kernel
theorem dX7_holds_1 : decode cX7_holds 1 = .ok (.iload_n 1, 1) := by decide +kernel
theorem dX7_holds_2 : decode cX7_holds 2 = .ok (.invokevirtual 89, 3) := by decide +kernel
theorem dX7_holds_5 : decode cX7_holds 5 = .ok (.ifCond .eq 10, 3) := by decide +kernel
theorem dX7_holds_8 : decode cX7_holds 8 = .ok (.iload_n 2, 1) := by decide +kernel
theorem dX7_holds_9 : decode cX7_holds 9 = .ok (.invokestatic 244, 3) := by decide +kernel
theorem dX7_holds_12 : decode cX7_holds 12 = .ok (.ifCond .ne 7, 3) := by decide +kernel
theorem dX7_holds_15 : decode cX7_holds 15 = .ok (.iconst (-1), 1) := by decide +kernel
theorem dX7_holds_16 : decode cX7_holds 16 = .ok (.goto 10, 3) := by decide +kernel
theorem dX7_holds_19 : decode cX7_holds 19 = .ok (.iload_n 3, 1) := by decide +kernel
theorem dX7_holds_20 : decode cX7_holds 20 = .ok (.iconst 1, 1) := by decide +kernel
theorem dX7_holds_21 : decode cX7_holds 21 = .ok (.bipush 60, 2) := by decide +kernel
theorem dX7_holds_23 : decode cX7_holds 23 = .ok (.invokestatic 163, 3) := by decide +kernel
theorem dX7_holds_26 : decode cX7_holds 26 = .ok (.istore 4, 2) := by decide +kernel
theorem dX7_holds_28 : decode cX7_holds 28 = .ok (.iload 4, 2) := by decide +kernel
theorem dX7_holds_30 : decode cX7_holds 30 = .ok (.ifCond .eq 10, 3) := by decide +kernel
theorem dX7_holds_33 : decode cX7_holds 33 = .ok (.aload_n 0, 1) := by decide +kernel
theorem dX7_holds_34 : decode cX7_holds 34 = .ok (.iload 4, 2) := by decide +kernel
theorem dX7_holds_36 : decode cX7_holds 36 = .ok (.invokevirtual 170, 3) := by decide +kernel
theorem dX7_holds_39 : decode cX7_holds 39 = .ok (.ireturn, 1) := by decide +kernel
theorem dX7_holds_40 : decode cX7_holds 40 = .ok (.bipush (-9), 2) := by decide +kernel
theorem dX7_holds_42 : decode cX7_holds 42 = .ok (.istore 5, 2) := by decide +kernel
theorem dX7_holds_44 : decode cX7_holds 44 = .ok (.bipush 9, 2) := by decide +kernel
theorem dX7_holds_46 : decode cX7_holds 46 = .ok (.istore 6, 2) := by decide +kernel
theorem dX7_holds_48 : decode cX7_holds 48 = .ok (.iload 6, 2) := by decide +kernel
theorem dX7_holds_50 : decode cX7_holds 50 = .ok (.ifCond .lt 44, 3) := by decide +kernel
theorem dX7_holds_53 : decode cX7_holds 53 = .ok (.aload_n 0, 1) := by decide +kernel
theorem dX7_holds_54 : decode cX7_holds 54 = .ok (.invokevirtual 343, 3) := by decide +kernel
theorem dX7_holds_57 : decode cX7_holds 57 = .ok (.aload_n 0, 1) := by decide +kernel
theorem dX7_holds_58 : decode cX7_holds 58 = .ok (.getfield 13, 3) := by decide +kernel
theorem dX7_holds_61 : decode cX7_holds 61 = .ok (.iload_n 2, 1) := by decide +kernel
theorem dX7_holds_62 : decode cX7_holds 62 = .ok (.iload 6, 2) := by decide +kernel
theorem dX7_holds_64 : decode cX7_holds 64 = .ok (.iastore, 1) := by decide +kernel
theorem dX7_holds_65 : decode cX7_holds 65 = .ok (.aload_n 0, 1) := by decide +kernel
theorem dX7_holds_66 : decode cX7_holds 66 = .ok (.iload_n 1, 1) := by decide +kernel
theorem dX7_holds_67 : decode cX7_holds 67 = .ok (.iload_n 2, 1) := by decide +kernel
theorem dX7_holds_68 : decode cX7_holds 68 = .ok (.iload_n 3, 1) := by decide +kernel
theorem dX7_holds_69 : decode cX7_holds 69 = .ok (.invokevirtual 368, 3) := by decide +kernel
theorem dX7_holds_72 : decode cX7_holds 72 = .ok (.ifCond .eq 8, 3) := by decide +kernel
theorem dX7_holds_75 : decode cX7_holds 75 = .ok (.iload 5, 2) := by decide +kernel
theorem dX7_holds_77 : decode cX7_holds 77 = .ok (.goto 5, 3) := by decide +kernel
theorem dX7_holds_80 : decode cX7_holds 80 = .ok (.iload 6, 2) := by decide +kernel
theorem dX7_holds_82 : decode cX7_holds 82 = .ok (.istore 5, 2) := by decide +kernel
theorem dX7_holds_84 : decode cX7_holds 84 = .ok (.aload_n 0, 1) := by decide +kernel
theorem dX7_holds_85 : decode cX7_holds 85 = .ok (.invokevirtual 346, 3) := by decide +kernel
theorem dX7_holds_88 : decode cX7_holds 88 = .ok (.iinc 6 (-1), 3) := by decide +kernel
theorem dX7_holds_91 : decode cX7_holds 91 = .ok (.goto (-43), 3) := by decide +kernel
theorem dX7_holds_94 : decode cX7_holds 94 = .ok (.iload 5, 2) := by decide +kernel
theorem dX7_holds_96 : decode cX7_holds 96 = .ok (.ireturn, 1) := by decide +kernel
theorem dX7_wallFor_0 : decode cX7_wallFor 0 = .ok (.aload_n 0, 1) := by decide +kernel
theorem dX7_wallFor_1 : decode cX7_wallFor 1 = .ok (.iload_n 1, 1) := by decide +kernel
theorem dX7_wallFor_2 : decode cX7_wallFor 2 = .ok (.invokevirtual 89, 3) := by decide +kernel
theorem dX7_wallFor_5 : decode cX7_wallFor 5 = .ok (.ifCond .eq 10, 3) := by decide +kernel
theorem dX7_wallFor_8 : decode cX7_wallFor 8 = .ok (.iload_n 2, 1) := by decide +kernel
theorem dX7_wallFor_9 : decode cX7_wallFor 9 = .ok (.invokestatic 244, 3) := by decide +kernel
theorem dX7_wallFor_12 : decode cX7_wallFor 12 = .ok (.ifCond .ne 7, 3) := by decide +kernel
theorem dX7_wallFor_15 : decode cX7_wallFor 15 = .ok (.iconst (-1), 1) := by decide +kernel
theorem dX7_wallFor_16 : decode cX7_wallFor 16 = .ok (.goto 10, 3) := by decide +kernel
theorem dX7_wallFor_19 : decode cX7_wallFor 19 = .ok (.iload_n 3, 1) := by decide +kernel
theorem dX7_wallFor_20 : decode cX7_wallFor 20 = .ok (.iconst 0, 1) := by decide +kernel
theorem dX7_wallFor_21 : decode cX7_wallFor 21 = .ok (.bipush 30, 2) := by decide +kernel
theorem dX7_wallFor_23 : decode cX7_wallFor 23 = .ok (.invokestatic 163, 3) := by decide +kernel
theorem dX7_wallFor_26 : decode cX7_wallFor 26 = .ok (.istore 4, 2) := by decide +kernel
theorem dX7_wallFor_28 : decode cX7_wallFor 28 = .ok (.iload 4, 2) := by decide +kernel
theorem dX7_wallFor_30 : decode cX7_wallFor 30 = .ok (.ifCond .eq 10, 3) := by decide +kernel
theorem dX7_wallFor_33 : decode cX7_wallFor 33 = .ok (.aload_n 0, 1) := by decide +kernel
theorem dX7_wallFor_34 : decode cX7_wallFor 34 = .ok (.iload 4, 2) := by decide +kernel
theorem dX7_wallFor_36 : decode cX7_wallFor 36 = .ok (.invokevirtual 170, 3) := by decide +kernel
theorem dX7_wallFor_39 : decode cX7_wallFor 39 = .ok (.ireturn, 1) := by decide +kernel
theorem dX7_wallFor_40 : decode cX7_wallFor 40 = .ok (.bipush (-9), 2) := by decide +kernel
theorem dX7_wallFor_42 : decode cX7_wallFor 42 = .ok (.istore 5, 2) := by decide +kernel
theorem dX7_wallFor_44 : decode cX7_wallFor 44 = .ok (.iconst 0, 1) := by decide +kernel
theorem dX7_wallFor_45 : decode cX7_wallFor 45 = .ok (.istore 6, 2) := by decide +kernel
theorem dX7_wallFor_47 : decode cX7_wallFor 47 = .ok (.iload 6, 2) := by decide +kernel
theorem dX7_wallFor_49 : decode cX7_wallFor 49 = .ok (.bipush 48, 2) := by decide +kernel
theorem dX7_wallFor_51 : decode cX7_wallFor 51 = .ok (.if_icmp .ge 55, 3) := by decide +kernel
theorem dX7_wallFor_54 : decode cX7_wallFor 54 = .ok (.iload 5, 2) := by decide +kernel
theorem dX7_wallFor_56 : decode cX7_wallFor 56 = .ok (.ifCond .ge 50, 3) := by decide +kernel
theorem dX7_wallFor_59 : decode cX7_wallFor 59 = .ok (.aload_n 0, 1) := by decide +kernel
theorem dX7_wallFor_60 : decode cX7_wallFor 60 = .ok (.invokevirtual 343, 3) := by decide +kernel
theorem dX7_wallFor_63 : decode cX7_wallFor 63 = .ok (.aload_n 0, 1) := by decide +kernel
theorem dX7_wallFor_64 : decode cX7_wallFor 64 = .ok (.getfield 13, 3) := by decide +kernel
theorem dX7_wallFor_67 : decode cX7_wallFor 67 = .ok (.iload 6, 2) := by decide +kernel
theorem dX7_wallFor_69 : decode cX7_wallFor 69 = .ok (.bipush 9, 2) := by decide +kernel
theorem dX7_wallFor_71 : decode cX7_wallFor 71 = .ok (.iastore, 1) := by decide +kernel
theorem dX7_wallFor_72 : decode cX7_wallFor 72 = .ok (.aload_n 0, 1) := by decide +kernel
theorem dX7_wallFor_73 : decode cX7_wallFor 73 = .ok (.iload_n 3, 1) := by decide +kernel
theorem dX7_wallFor_74 : decode cX7_wallFor 74 = .ok (.invokevirtual 261, 3) := by decide +kernel
theorem dX7_wallFor_77 : decode cX7_wallFor 77 = .ok (.aload_n 0, 1) := by decide +kernel
theorem dX7_wallFor_78 : decode cX7_wallFor 78 = .ok (.getfield 28, 3) := by decide +kernel
theorem dX7_wallFor_81 : decode cX7_wallFor 81 = .ok (.iload_n 1, 1) := by decide +kernel
theorem dX7_wallFor_82 : decode cX7_wallFor 82 = .ok (.iaload, 1) := by decide +kernel
theorem dX7_wallFor_83 : decode cX7_wallFor 83 = .ok (.iload_n 2, 1) := by decide +kernel
theorem dX7_wallFor_84 : decode cX7_wallFor 84 = .ok (.if_icmp .ne 8, 3) := by decide +kernel
theorem dX7_wallFor_87 : decode cX7_wallFor 87 = .ok (.iload 6, 2) := by decide +kernel
theorem dX7_wallFor_89 : decode cX7_wallFor 89 = .ok (.goto 5, 3) := by decide +kernel
theorem dX7_wallFor_92 : decode cX7_wallFor 92 = .ok (.bipush (-9), 2) := by decide +kernel
theorem dX7_wallFor_94 : decode cX7_wallFor 94 = .ok (.istore 5, 2) := by decide +kernel
theorem dX7_wallFor_96 : decode cX7_wallFor 96 = .ok (.aload_n 0, 1) := by decide +kernel
theorem dX7_wallFor_97 : decode cX7_wallFor 97 = .ok (.invokevirtual 346, 3) := by decide +kernel
theorem dX7_wallFor_100 : decode cX7_wallFor 100 = .ok (.iinc 6 1, 3) := by decide +kernel
theorem dX7_wallFor_103 : decode cX7_wallFor 103 = .ok (.goto (-56), 3) := by decide +kernel
theorem dX7_wallFor_106 : decode cX7_wallFor 106 = .ok (.iload 5, 2) := by decide +kernel
theorem dX7_wallFor_108 : decode cX7_wallFor 108 = .ok (.ireturn, 1) := by decide +kernel
theorem dX7_changesNames_0 : decode cX7_changesNames 0 = .ok (.iconst 0, 1) := by decide +kernel
theorem dX7_changesNames_1 : decode cX7_changesNames 1 = .ok (.istore_n 3, 1) := by decide +kernel
theorem dX7_changesNames_2 : decode cX7_changesNames 2 = .ok (.iload_n 3, 1) := by decide +kernel
theorem dX7_changesNames_3 : decode cX7_changesNames 3 = .ok (.bipush 6, 2) := by decide +kernel
theorem dX7_changesNames_5 : decode cX7_changesNames 5 = .ok (.if_icmp .ge 57, 3) := by decide +kernel
theorem dX7_changesNames_8 : decode cX7_changesNames 8 = .ok (.aload_n 0, 1) := by decide +kernel
theorem dX7_changesNames_9 : decode cX7_changesNames 9 = .ok (.getfield 46, 3) := by decide +kernel
theorem dX7_changesNames_12 : decode cX7_changesNames 12 = .ok (.bipush 6, 2) := by decide +kernel
theorem dX7_changesNames_14 : decode cX7_changesNames 14 = .ok (.iload_n 1, 1) := by decide +kernel
theorem dX7_changesNames_15 : decode cX7_changesNames 15 = .ok (.imul, 1) := by decide +kernel
theorem dX7_changesNames_16 : decode cX7_changesNames 16 = .ok (.iload_n 3, 1) := by decide +kernel
theorem dX7_changesNames_17 : decode cX7_changesNames 17 = .ok (.iadd, 1) := by decide +kernel
theorem dX7_changesNames_18 : decode cX7_changesNames 18 = .ok (.iaload, 1) := by decide +kernel
theorem dX7_changesNames_19 : decode cX7_changesNames 19 = .ok (.istore 4, 2) := by decide +kernel
theorem dX7_changesNames_21 : decode cX7_changesNames 21 = .ok (.aload_n 0, 1) := by decide +kernel
theorem dX7_changesNames_22 : decode cX7_changesNames 22 = .ok (.getfield 46, 3) := by decide +kernel
theorem dX7_changesNames_25 : decode cX7_changesNames 25 = .ok (.bipush 6, 2) := by decide +kernel
theorem dX7_changesNames_27 : decode cX7_changesNames 27 = .ok (.iload_n 1, 1) := by decide +kernel
theorem dX7_changesNames_28 : decode cX7_changesNames 28 = .ok (.imul, 1) := by decide +kernel
theorem dX7_changesNames_29 : decode cX7_changesNames 29 = .ok (.iload_n 3, 1) := by decide +kernel
theorem dX7_changesNames_30 : decode cX7_changesNames 30 = .ok (.iadd, 1) := by decide +kernel
theorem dX7_changesNames_31 : decode cX7_changesNames 31 = .ok (.aload_n 0, 1) := by decide +kernel
theorem dX7_changesNames_32 : decode cX7_changesNames 32 = .ok (.getfield 46, 3) := by decide +kernel
theorem dX7_changesNames_35 : decode cX7_changesNames 35 = .ok (.bipush 6, 2) := by decide +kernel
theorem dX7_changesNames_37 : decode cX7_changesNames 37 = .ok (.iload_n 2, 1) := by decide +kernel
theorem dX7_changesNames_38 : decode cX7_changesNames 38 = .ok (.imul, 1) := by decide +kernel
theorem dX7_changesNames_39 : decode cX7_changesNames 39 = .ok (.iload_n 3, 1) := by decide +kernel
theorem dX7_changesNames_40 : decode cX7_changesNames 40 = .ok (.iadd, 1) := by decide +kernel
theorem dX7_changesNames_41 : decode cX7_changesNames 41 = .ok (.iaload, 1) := by decide +kernel
theorem dX7_changesNames_42 : decode cX7_changesNames 42 = .ok (.iastore, 1) := by decide +kernel
theorem dX7_changesNames_43 : decode cX7_changesNames 43 = .ok (.aload_n 0, 1) := by decide +kernel
theorem dX7_changesNames_44 : decode cX7_changesNames 44 = .ok (.getfield 46, 3) := by decide +kernel
theorem dX7_changesNames_47 : decode cX7_changesNames 47 = .ok (.bipush 6, 2) := by decide +kernel
theorem dX7_changesNames_49 : decode cX7_changesNames 49 = .ok (.iload_n 2, 1) := by decide +kernel
theorem dX7_changesNames_50 : decode cX7_changesNames 50 = .ok (.imul, 1) := by decide +kernel
theorem dX7_changesNames_51 : decode cX7_changesNames 51 = .ok (.iload_n 3, 1) := by decide +kernel
theorem dX7_changesNames_52 : decode cX7_changesNames 52 = .ok (.iadd, 1) := by decide +kernel
theorem dX7_changesNames_53 : decode cX7_changesNames 53 = .ok (.iload 4, 2) := by decide +kernel
theorem dX7_changesNames_55 : decode cX7_changesNames 55 = .ok (.iastore, 1) := by decide +kernel
theorem dX7_changesNames_56 : decode cX7_changesNames 56 = .ok (.iinc 3 1, 3) := by decide +kernel
theorem dX7_changesNames_59 : decode cX7_changesNames 59 = .ok (.goto (-57), 3) := by decide +kernel
theorem dX7_changesNames_62 : decode cX7_changesNames 62 = .ok (.aload_n 0, 1) := by decide +kernel
theorem dX7_changesNames_63 : decode cX7_changesNames 63 = .ok (.getfield 43, 3) := by decide +kernel
theorem dX7_changesNames_66 : decode cX7_changesNames 66 = .ok (.iload_n 1, 1) := by decide +kernel
theorem dX7_changesNames_67 : decode cX7_changesNames 67 = .ok (.iaload, 1) := by decide +kernel
theorem dX7_changesNames_68 : decode cX7_changesNames 68 = .ok (.istore_n 3, 1) := by decide +kernel
theorem dX7_changesNames_69 : decode cX7_changesNames 69 = .ok (.aload_n 0, 1) := by decide +kernel
theorem dX7_changesNames_70 : decode cX7_changesNames 70 = .ok (.getfield 43, 3) := by decide +kernel
theorem dX7_changesNames_73 : decode cX7_changesNames 73 = .ok (.iload_n 1, 1) := by decide +kernel
theorem dX7_changesNames_74 : decode cX7_changesNames 74 = .ok (.aload_n 0, 1) := by decide +kernel
theorem dX7_changesNames_75 : decode cX7_changesNames 75 = .ok (.getfield 43, 3) := by decide +kernel
theorem dX7_changesNames_78 : decode cX7_changesNames 78 = .ok (.iload_n 2, 1) := by decide +kernel
theorem dX7_changesNames_79 : decode cX7_changesNames 79 = .ok (.iaload, 1) := by decide +kernel
theorem dX7_changesNames_80 : decode cX7_changesNames 80 = .ok (.iastore, 1) := by decide +kernel
theorem dX7_changesNames_81 : decode cX7_changesNames 81 = .ok (.aload_n 0, 1) := by decide +kernel
theorem dX7_changesNames_82 : decode cX7_changesNames 82 = .ok (.getfield 43, 3) := by decide +kernel
theorem dX7_changesNames_85 : decode cX7_changesNames 85 = .ok (.iload_n 2, 1) := by decide +kernel
theorem dX7_changesNames_86 : decode cX7_changesNames 86 = .ok (.iload_n 3, 1) := by decide +kernel
theorem dX7_changesNames_87 : decode cX7_changesNames 87 = .ok (.iastore, 1) := by decide +kernel
theorem dX7_changesNames_88 : decode cX7_changesNames 88 = .ok (.return_, 1) := by decide +kernel
theorem dX7_names_0 : decode cX7_names 0 = .ok (.iload_n 1, 1) := by decide +kernel
theorem dX7_names_1 : decode cX7_names 1 = .ok (.iconst 0, 1) := by decide +kernel
theorem dX7_names_2 : decode cX7_names 2 = .ok (.bipush 30, 2) := by decide +kernel
theorem dX7_names_4 : decode cX7_names 4 = .ok (.invokestatic 163, 3) := by decide +kernel
theorem dX7_names_7 : decode cX7_names 7 = .ok (.istore_n 2, 1) := by decide +kernel
theorem dX7_names_8 : decode cX7_names 8 = .ok (.iload_n 2, 1) := by decide +kernel
theorem dX7_names_9 : decode cX7_names 9 = .ok (.ifCond .eq 9, 3) := by decide +kernel
theorem dX7_names_12 : decode cX7_names 12 = .ok (.aload_n 0, 1) := by decide +kernel
theorem dX7_names_13 : decode cX7_names 13 = .ok (.iload_n 2, 1) := by decide +kernel
theorem dX7_names_14 : decode cX7_names 14 = .ok (.invokevirtual 170, 3) := by decide +kernel
theorem dX7_names_17 : decode cX7_names 17 = .ok (.ireturn, 1) := by decide +kernel
theorem dX7_names_18 : decode cX7_names 18 = .ok (.bipush (-9), 2) := by decide +kernel
theorem dX7_names_20 : decode cX7_names 20 = .ok (.istore_n 3, 1) := by decide +kernel
theorem dX7_names_21 : decode cX7_names 21 = .ok (.aload_n 0, 1) := by decide +kernel
theorem dX7_names_22 : decode cX7_names 22 = .ok (.invokevirtual 343, 3) := by decide +kernel
theorem dX7_names_25 : decode cX7_names 25 = .ok (.aload_n 0, 1) := by decide +kernel
theorem dX7_names_26 : decode cX7_names 26 = .ok (.iload_n 1, 1) := by decide +kernel
theorem dX7_names_27 : decode cX7_names 27 = .ok (.invokevirtual 261, 3) := by decide +kernel
theorem dX7_names_30 : decode cX7_names 30 = .ok (.aload_n 0, 1) := by decide +kernel
theorem dX7_names_31 : decode cX7_names 31 = .ok (.getfield 37, 3) := by decide +kernel
theorem dX7_names_34 : decode cX7_names 34 = .ok (.aload_n 0, 1) := by decide +kernel
theorem dX7_names_35 : decode cX7_names 35 = .ok (.getfield 79, 3) := by decide +kernel
theorem dX7_names_38 : decode cX7_names 38 = .ok (.invokestatic 352, 3) := by decide +kernel
theorem dX7_names_41 : decode cX7_names 41 = .ok (.istore 4, 2) := by decide +kernel
theorem dX7_names_43 : decode cX7_names 43 = .ok (.aload_n 0, 1) := by decide +kernel
theorem dX7_names_44 : decode cX7_names 44 = .ok (.invokevirtual 346, 3) := by decide +kernel
theorem dX7_names_47 : decode cX7_names 47 = .ok (.iconst 0, 1) := by decide +kernel
theorem dX7_names_48 : decode cX7_names 48 = .ok (.istore 5, 2) := by decide +kernel
theorem dX7_names_50 : decode cX7_names 50 = .ok (.iload 5, 2) := by decide +kernel
theorem dX7_names_52 : decode cX7_names 52 = .ok (.aload_n 0, 1) := by decide +kernel
theorem dX7_names_53 : decode cX7_names 53 = .ok (.getfield 79, 3) := by decide +kernel
theorem dX7_names_56 : decode cX7_names 56 = .ok (.if_icmp .ge 87, 3) := by decide +kernel
theorem dX7_names_59 : decode cX7_names 59 = .ok (.iload 5, 2) := by decide +kernel
theorem dX7_names_61 : decode cX7_names 61 = .ok (.iconst 1, 1) := by decide +kernel
theorem dX7_names_62 : decode cX7_names 62 = .ok (.iadd, 1) := by decide +kernel
theorem dX7_names_63 : decode cX7_names 63 = .ok (.istore 6, 2) := by decide +kernel
theorem dX7_names_65 : decode cX7_names 65 = .ok (.iload 6, 2) := by decide +kernel
theorem dX7_names_67 : decode cX7_names 67 = .ok (.aload_n 0, 1) := by decide +kernel
theorem dX7_names_68 : decode cX7_names 68 = .ok (.getfield 79, 3) := by decide +kernel
theorem dX7_names_71 : decode cX7_names 71 = .ok (.if_icmp .ge 66, 3) := by decide +kernel
theorem dX7_names_74 : decode cX7_names 74 = .ok (.aload_n 0, 1) := by decide +kernel
theorem dX7_names_75 : decode cX7_names 75 = .ok (.invokevirtual 343, 3) := by decide +kernel
theorem dX7_names_78 : decode cX7_names 78 = .ok (.aload_n 0, 1) := by decide +kernel
theorem dX7_names_79 : decode cX7_names 79 = .ok (.iload 5, 2) := by decide +kernel
theorem dX7_names_81 : decode cX7_names 81 = .ok (.iload 6, 2) := by decide +kernel
theorem dX7_names_83 : decode cX7_names 83 = .ok (.invokevirtual 371, 3) := by decide +kernel
theorem dX7_names_86 : decode cX7_names 86 = .ok (.aload_n 0, 1) := by decide +kernel
theorem dX7_names_87 : decode cX7_names 87 = .ok (.iload_n 1, 1) := by decide +kernel
theorem dX7_names_88 : decode cX7_names 88 = .ok (.invokevirtual 261, 3) := by decide +kernel
theorem dX7_names_91 : decode cX7_names 91 = .ok (.aload_n 0, 1) := by decide +kernel
theorem dX7_names_92 : decode cX7_names 92 = .ok (.getfield 37, 3) := by decide +kernel
theorem dX7_names_95 : decode cX7_names 95 = .ok (.aload_n 0, 1) := by decide +kernel
theorem dX7_names_96 : decode cX7_names 96 = .ok (.getfield 79, 3) := by decide +kernel
theorem dX7_names_99 : decode cX7_names 99 = .ok (.invokestatic 352, 3) := by decide +kernel
theorem dX7_names_102 : decode cX7_names 102 = .ok (.istore 7, 2) := by decide +kernel
theorem dX7_names_104 : decode cX7_names 104 = .ok (.aload_n 0, 1) := by decide +kernel
theorem dX7_names_105 : decode cX7_names 105 = .ok (.invokevirtual 346, 3) := by decide +kernel
theorem dX7_names_108 : decode cX7_names 108 = .ok (.iload 7, 2) := by decide +kernel
theorem dX7_names_110 : decode cX7_names 110 = .ok (.iload 4, 2) := by decide +kernel
theorem dX7_names_112 : decode cX7_names 112 = .ok (.if_icmp .gt 6, 3) := by decide +kernel
theorem dX7_names_115 : decode cX7_names 115 = .ok (.goto 16, 3) := by decide +kernel
theorem dX7_names_118 : decode cX7_names 118 = .ok (.bipush 10, 2) := by decide +kernel
theorem dX7_names_120 : decode cX7_names 120 = .ok (.iload 5, 2) := by decide +kernel
theorem dX7_names_122 : decode cX7_names 122 = .ok (.imul, 1) := by decide +kernel
theorem dX7_names_123 : decode cX7_names 123 = .ok (.iload 6, 2) := by decide +kernel
theorem dX7_names_125 : decode cX7_names 125 = .ok (.iadd, 1) := by decide +kernel
theorem dX7_names_126 : decode cX7_names 126 = .ok (.istore_n 3, 1) := by decide +kernel
theorem dX7_names_127 : decode cX7_names 127 = .ok (.iload 7, 2) := by decide +kernel
theorem dX7_names_129 : decode cX7_names 129 = .ok (.istore 4, 2) := by decide +kernel
theorem dX7_names_131 : decode cX7_names 131 = .ok (.iinc 6 1, 3) := by decide +kernel
theorem dX7_names_134 : decode cX7_names 134 = .ok (.goto (-69), 3) := by decide +kernel
theorem dX7_names_137 : decode cX7_names 137 = .ok (.iinc 5 1, 3) := by decide +kernel
theorem dX7_names_140 : decode cX7_names 140 = .ok (.goto (-90), 3) := by decide +kernel
theorem dX7_names_143 : decode cX7_names 143 = .ok (.iload_n 3, 1) := by decide +kernel
theorem dX7_names_144 : decode cX7_names 144 = .ok (.ireturn, 1) := by decide +kernel
theorem dX7_wentSo_0 : decode cX7_wentSo 0 = .ok (.iconst 0, 1) := by decide +kernel
theorem dX7_wentSo_1 : decode cX7_wentSo 1 = .ok (.istore_n 2, 1) := by decide +kernel
theorem dX7_wentSo_2 : decode cX7_wentSo 2 = .ok (.iload_n 2, 1) := by decide +kernel
theorem dX7_wentSo_3 : decode cX7_wentSo 3 = .ok (.aload_n 0, 1) := by decide +kernel
theorem dX7_wentSo_4 : decode cX7_wentSo 4 = .ok (.getfield 374, 3) := by decide +kernel
theorem dX7_wentSo_7 : decode cX7_wentSo 7 = .ok (.if_icmp .ge 30, 3) := by decide +kernel
theorem dX7_wentSo_10 : decode cX7_wentSo 10 = .ok (.aload_n 0, 1) := by decide +kernel
theorem dX7_wentSo_11 : decode cX7_wentSo 11 = .ok (.getfield 28, 3) := by decide +kernel
theorem dX7_wentSo_14 : decode cX7_wentSo 14 = .ok (.iload_n 1, 1) := by decide +kernel
theorem dX7_wentSo_15 : decode cX7_wentSo 15 = .ok (.iaload, 1) := by decide +kernel
theorem dX7_wentSo_16 : decode cX7_wentSo 16 = .ok (.aload_n 0, 1) := by decide +kernel
theorem dX7_wentSo_17 : decode cX7_wentSo 17 = .ok (.getfield 70, 3) := by decide +kernel
theorem dX7_wentSo_20 : decode cX7_wentSo 20 = .ok (.iload_n 2, 1) := by decide +kernel
theorem dX7_wentSo_21 : decode cX7_wentSo 21 = .ok (.iaload, 1) := by decide +kernel
theorem dX7_wentSo_22 : decode cX7_wentSo 22 = .ok (.if_icmp .eq 5, 3) := by decide +kernel
theorem dX7_wentSo_25 : decode cX7_wentSo 25 = .ok (.iconst 0, 1) := by decide +kernel
theorem dX7_wentSo_26 : decode cX7_wentSo 26 = .ok (.ireturn, 1) := by decide +kernel
theorem dX7_wentSo_27 : decode cX7_wentSo 27 = .ok (.aload_n 0, 1) := by decide +kernel
theorem dX7_wentSo_28 : decode cX7_wentSo 28 = .ok (.invokevirtual 160, 3) := by decide +kernel
theorem dX7_wentSo_31 : decode cX7_wentSo 31 = .ok (.iinc 2 1, 3) := by decide +kernel
theorem dX7_wentSo_34 : decode cX7_wentSo 34 = .ok (.goto (-32), 3) := by decide +kernel
theorem dX7_wentSo_37 : decode cX7_wentSo 37 = .ok (.iconst 1, 1) := by decide +kernel
theorem dX7_wentSo_38 : decode cX7_wentSo 38 = .ok (.ireturn, 1) := by decide +kernel
theorem dX7_whatKind_0 : decode cX7_whatKind 0 = .ok (.aload_n 0, 1) := by decide +kernel
theorem dX7_whatKind_1 : decode cX7_whatKind 1 = .ok (.iload_n 1, 1) := by decide +kernel
theorem dX7_whatKind_2 : decode cX7_whatKind 2 = .ok (.invokevirtual 89, 3) := by decide +kernel
theorem dX7_whatKind_5 : decode cX7_whatKind 5 = .ok (.ifCond .ne 7, 3) := by decide +kernel
theorem dX7_whatKind_8 : decode cX7_whatKind 8 = .ok (.iconst (-1), 1) := by decide +kernel
theorem dX7_whatKind_9 : decode cX7_whatKind 9 = .ok (.goto 18, 3) := by decide +kernel
theorem dX7_whatKind_12 : decode cX7_whatKind 12 = .ok (.iload_n 2, 1) := by decide +kernel
theorem dX7_whatKind_13 : decode cX7_whatKind 13 = .ok (.iconst 0, 1) := by decide +kernel
theorem dX7_whatKind_14 : decode cX7_whatKind 14 = .ok (.iconst 1, 1) := by decide +kernel
theorem dX7_whatKind_15 : decode cX7_whatKind 15 = .ok (.invokestatic 85, 3) := by decide +kernel
theorem dX7_whatKind_18 : decode cX7_whatKind 18 = .ok (.ifCond .ne 8, 3) := by decide +kernel
theorem dX7_whatKind_21 : decode cX7_whatKind 21 = .ok (.bipush (-2), 2) := by decide +kernel
theorem dX7_whatKind_23 : decode cX7_whatKind 23 = .ok (.goto 4, 3) := by decide +kernel
theorem dX7_whatKind_26 : decode cX7_whatKind 26 = .ok (.iconst 0, 1) := by decide +kernel
theorem dX7_whatKind_27 : decode cX7_whatKind 27 = .ok (.istore_n 3, 1) := by decide +kernel
theorem dX7_whatKind_28 : decode cX7_whatKind 28 = .ok (.iload_n 3, 1) := by decide +kernel
theorem dX7_whatKind_29 : decode cX7_whatKind 29 = .ok (.ifCond .eq 9, 3) := by decide +kernel
theorem dX7_whatKind_32 : decode cX7_whatKind 32 = .ok (.aload_n 0, 1) := by decide +kernel
theorem dX7_whatKind_33 : decode cX7_whatKind 33 = .ok (.iload_n 3, 1) := by decide +kernel
theorem dX7_whatKind_34 : decode cX7_whatKind 34 = .ok (.invokevirtual 170, 3) := by decide +kernel
theorem dX7_whatKind_37 : decode cX7_whatKind 37 = .ok (.ireturn, 1) := by decide +kernel
theorem dX7_whatKind_38 : decode cX7_whatKind 38 = .ok (.iconst 0, 1) := by decide +kernel
theorem dX7_whatKind_39 : decode cX7_whatKind 39 = .ok (.istore 4, 2) := by decide +kernel
theorem dX7_whatKind_41 : decode cX7_whatKind 41 = .ok (.iconst 0, 1) := by decide +kernel
theorem dX7_whatKind_42 : decode cX7_whatKind 42 = .ok (.istore 5, 2) := by decide +kernel
theorem dX7_whatKind_44 : decode cX7_whatKind 44 = .ok (.iload 5, 2) := by decide +kernel
theorem dX7_whatKind_46 : decode cX7_whatKind 46 = .ok (.iload_n 2, 1) := by decide +kernel
theorem dX7_whatKind_47 : decode cX7_whatKind 47 = .ok (.ifCond .ne 8, 3) := by decide +kernel
theorem dX7_whatKind_50 : decode cX7_whatKind 50 = .ok (.bipush 8, 2) := by decide +kernel
theorem dX7_whatKind_52 : decode cX7_whatKind 52 = .ok (.goto 5, 3) := by decide +kernel
theorem dX7_whatKind_55 : decode cX7_whatKind 55 = .ok (.bipush 10, 2) := by decide +kernel
theorem dX7_whatKind_57 : decode cX7_whatKind 57 = .ok (.if_icmp .ge 61, 3) := by decide +kernel
theorem dX7_whatKind_60 : decode cX7_whatKind 60 = .ok (.aload_n 0, 1) := by decide +kernel
theorem dX7_whatKind_61 : decode cX7_whatKind 61 = .ok (.invokevirtual 343, 3) := by decide +kernel
theorem dX7_whatKind_64 : decode cX7_whatKind 64 = .ok (.iload_n 2, 1) := by decide +kernel
theorem dX7_whatKind_65 : decode cX7_whatKind 65 = .ok (.ifCond .ne 14, 3) := by decide +kernel
theorem dX7_whatKind_68 : decode cX7_whatKind 68 = .ok (.aload_n 0, 1) := by decide +kernel
theorem dX7_whatKind_69 : decode cX7_whatKind 69 = .ok (.getfield 22, 3) := by decide +kernel
theorem dX7_whatKind_72 : decode cX7_whatKind 72 = .ok (.iload_n 1, 1) := by decide +kernel
theorem dX7_whatKind_73 : decode cX7_whatKind 73 = .ok (.iload 5, 2) := by decide +kernel
theorem dX7_whatKind_75 : decode cX7_whatKind 75 = .ok (.iastore, 1) := by decide +kernel
theorem dX7_whatKind_76 : decode cX7_whatKind 76 = .ok (.goto 11, 3) := by decide +kernel
theorem dX7_whatKind_79 : decode cX7_whatKind 79 = .ok (.aload_n 0, 1) := by decide +kernel
theorem dX7_whatKind_80 : decode cX7_whatKind 80 = .ok (.getfield 25, 3) := by decide +kernel
theorem dX7_whatKind_83 : decode cX7_whatKind 83 = .ok (.iload_n 1, 1) := by decide +kernel
theorem dX7_whatKind_84 : decode cX7_whatKind 84 = .ok (.iload 5, 2) := by decide +kernel
theorem dX7_whatKind_86 : decode cX7_whatKind 86 = .ok (.iastore, 1) := by decide +kernel
theorem dX7_whatKind_87 : decode cX7_whatKind 87 = .ok (.iload 4, 2) := by decide +kernel
theorem dX7_whatKind_89 : decode cX7_whatKind 89 = .ok (.aload_n 0, 1) := by decide +kernel
theorem dX7_whatKind_90 : decode cX7_whatKind 90 = .ok (.iload_n 1, 1) := by decide +kernel
theorem dX7_whatKind_91 : decode cX7_whatKind 91 = .ok (.invokevirtual 377, 3) := by decide +kernel
theorem dX7_whatKind_94 : decode cX7_whatKind 94 = .ok (.ifCond .eq 10, 3) := by decide +kernel
theorem dX7_whatKind_97 : decode cX7_whatKind 97 = .ok (.iconst 1, 1) := by decide +kernel
theorem dX7_whatKind_98 : decode cX7_whatKind 98 = .ok (.iload 5, 2) := by decide +kernel
theorem dX7_whatKind_100 : decode cX7_whatKind 100 = .ok (.ishl, 1) := by decide +kernel
theorem dX7_whatKind_101 : decode cX7_whatKind 101 = .ok (.goto 4, 3) := by decide +kernel
theorem dX7_whatKind_104 : decode cX7_whatKind 104 = .ok (.iconst 0, 1) := by decide +kernel
theorem dX7_whatKind_105 : decode cX7_whatKind 105 = .ok (.ior, 1) := by decide +kernel
theorem dX7_whatKind_106 : decode cX7_whatKind 106 = .ok (.istore 4, 2) := by decide +kernel
theorem dX7_whatKind_108 : decode cX7_whatKind 108 = .ok (.aload_n 0, 1) := by decide +kernel
theorem dX7_whatKind_109 : decode cX7_whatKind 109 = .ok (.invokevirtual 346, 3) := by decide +kernel
theorem dX7_whatKind_112 : decode cX7_whatKind 112 = .ok (.iinc 5 1, 3) := by decide +kernel
theorem dX7_whatKind_115 : decode cX7_whatKind 115 = .ok (.goto (-71), 3) := by decide +kernel
theorem dX7_whatKind_118 : decode cX7_whatKind 118 = .ok (.iload 4, 2) := by decide +kernel
theorem dX7_whatKind_120 : decode cX7_whatKind 120 = .ok (.ireturn, 1) := by decide +kernel
theorem dX7_whatWord_0 : decode cX7_whatWord 0 = .ok (.aload_n 0, 1) := by decide +kernel
theorem dX7_whatWord_1 : decode cX7_whatWord 1 = .ok (.iload_n 1, 1) := by decide +kernel
theorem dX7_whatWord_2 : decode cX7_whatWord 2 = .ok (.invokevirtual 89, 3) := by decide +kernel
theorem dX7_whatWord_5 : decode cX7_whatWord 5 = .ok (.ifCond .ne 9, 3) := by decide +kernel
theorem dX7_whatWord_8 : decode cX7_whatWord 8 = .ok (.aload_n 0, 1) := by decide +kernel
theorem dX7_whatWord_9 : decode cX7_whatWord 9 = .ok (.iconst (-1), 1) := by decide +kernel
theorem dX7_whatWord_10 : decode cX7_whatWord 10 = .ok (.invokevirtual 170, 3) := by decide +kernel
theorem dX7_whatWord_13 : decode cX7_whatWord 13 = .ok (.ireturn, 1) := by decide +kernel
theorem dX7_whatWord_14 : decode cX7_whatWord 14 = .ok (.iconst 0, 1) := by decide +kernel
theorem dX7_whatWord_15 : decode cX7_whatWord 15 = .ok (.istore_n 2, 1) := by decide +kernel
theorem dX7_whatWord_16 : decode cX7_whatWord 16 = .ok (.iconst 0, 1) := by decide +kernel
theorem dX7_whatWord_17 : decode cX7_whatWord 17 = .ok (.istore_n 3, 1) := by decide +kernel
theorem dX7_whatWord_18 : decode cX7_whatWord 18 = .ok (.iload_n 3, 1) := by decide +kernel
theorem dX7_whatWord_19 : decode cX7_whatWord 19 = .ok (.iconst 4, 1) := by decide +kernel
theorem dX7_whatWord_20 : decode cX7_whatWord 20 = .ok (.if_icmp .gt 42, 3) := by decide +kernel
theorem dX7_whatWord_23 : decode cX7_whatWord 23 = .ok (.aload_n 0, 1) := by decide +kernel
theorem dX7_whatWord_24 : decode cX7_whatWord 24 = .ok (.invokevirtual 343, 3) := by decide +kernel
theorem dX7_whatWord_27 : decode cX7_whatWord 27 = .ok (.aload_n 0, 1) := by decide +kernel
theorem dX7_whatWord_28 : decode cX7_whatWord 28 = .ok (.getfield 34, 3) := by decide +kernel
theorem dX7_whatWord_31 : decode cX7_whatWord 31 = .ok (.iload_n 1, 1) := by decide +kernel
theorem dX7_whatWord_32 : decode cX7_whatWord 32 = .ok (.iload_n 3, 1) := by decide +kernel
theorem dX7_whatWord_33 : decode cX7_whatWord 33 = .ok (.iastore, 1) := by decide +kernel
theorem dX7_whatWord_34 : decode cX7_whatWord 34 = .ok (.iload_n 2, 1) := by decide +kernel
theorem dX7_whatWord_35 : decode cX7_whatWord 35 = .ok (.aload_n 0, 1) := by decide +kernel
theorem dX7_whatWord_36 : decode cX7_whatWord 36 = .ok (.iload_n 1, 1) := by decide +kernel
theorem dX7_whatWord_37 : decode cX7_whatWord 37 = .ok (.invokevirtual 377, 3) := by decide +kernel
theorem dX7_whatWord_40 : decode cX7_whatWord 40 = .ok (.ifCond .eq 9, 3) := by decide +kernel
theorem dX7_whatWord_43 : decode cX7_whatWord 43 = .ok (.iconst 1, 1) := by decide +kernel
theorem dX7_whatWord_44 : decode cX7_whatWord 44 = .ok (.iload_n 3, 1) := by decide +kernel
theorem dX7_whatWord_45 : decode cX7_whatWord 45 = .ok (.ishl, 1) := by decide +kernel
theorem dX7_whatWord_46 : decode cX7_whatWord 46 = .ok (.goto 4, 3) := by decide +kernel
theorem dX7_whatWord_49 : decode cX7_whatWord 49 = .ok (.iconst 0, 1) := by decide +kernel
theorem dX7_whatWord_50 : decode cX7_whatWord 50 = .ok (.ior, 1) := by decide +kernel
theorem dX7_whatWord_51 : decode cX7_whatWord 51 = .ok (.istore_n 2, 1) := by decide +kernel
theorem dX7_whatWord_52 : decode cX7_whatWord 52 = .ok (.aload_n 0, 1) := by decide +kernel
theorem dX7_whatWord_53 : decode cX7_whatWord 53 = .ok (.invokevirtual 346, 3) := by decide +kernel
theorem dX7_whatWord_56 : decode cX7_whatWord 56 = .ok (.iinc 3 1, 3) := by decide +kernel
theorem dX7_whatWord_59 : decode cX7_whatWord 59 = .ok (.goto (-41), 3) := by decide +kernel
theorem dX7_whatWord_62 : decode cX7_whatWord 62 = .ok (.iload_n 2, 1) := by decide +kernel
theorem dX7_whatWord_63 : decode cX7_whatWord 63 = .ok (.ireturn, 1) := by decide +kernel
theorem dX7_findEnds_0 : decode cX7_findEnds 0 = .ok (.iconst 0, 1) := by decide +kernel
theorem dX7_findEnds_1 : decode cX7_findEnds 1 = .ok (.istore 4, 2) := by decide +kernel
theorem dX7_findEnds_3 : decode cX7_findEnds 3 = .ok (.iload 4, 2) := by decide +kernel
theorem dX7_findEnds_5 : decode cX7_findEnds 5 = .ok (.iconst 4, 1) := by decide +kernel
theorem dX7_findEnds_6 : decode cX7_findEnds 6 = .ok (.if_icmp .ge 98, 3) := by decide +kernel
theorem dX7_findEnds_9 : decode cX7_findEnds 9 = .ok (.aload_n 0, 1) := by decide +kernel
theorem dX7_findEnds_10 : decode cX7_findEnds 10 = .ok (.invokevirtual 343, 3) := by decide +kernel
theorem dX7_findEnds_13 : decode cX7_findEnds 13 = .ok (.iload 4, 2) := by decide +kernel
theorem dX7_findEnds_15 : decode cX7_findEnds 15 = .ok (.iconst 2, 1) := by decide +kernel
theorem dX7_findEnds_16 : decode cX7_findEnds 16 = .ok (.idiv, 1) := by decide +kernel
theorem dX7_findEnds_17 : decode cX7_findEnds 17 = .ok (.iconst 1, 1) := by decide +kernel
theorem dX7_findEnds_18 : decode cX7_findEnds 18 = .ok (.if_icmp .ne 10, 3) := by decide +kernel
theorem dX7_findEnds_21 : decode cX7_findEnds 21 = .ok (.aload_n 0, 1) := by decide +kernel
theorem dX7_findEnds_22 : decode cX7_findEnds 22 = .ok (.getfield 34, 3) := by decide +kernel
theorem dX7_findEnds_25 : decode cX7_findEnds 25 = .ok (.iload_n 1, 1) := by decide +kernel
theorem dX7_findEnds_26 : decode cX7_findEnds 26 = .ok (.iconst 4, 1) := by decide +kernel
theorem dX7_findEnds_27 : decode cX7_findEnds 27 = .ok (.iastore, 1) := by decide +kernel
theorem dX7_findEnds_28 : decode cX7_findEnds 28 = .ok (.iload 4, 2) := by decide +kernel
theorem dX7_findEnds_30 : decode cX7_findEnds 30 = .ok (.iconst 2, 1) := by decide +kernel
theorem dX7_findEnds_31 : decode cX7_findEnds 31 = .ok (.irem, 1) := by decide +kernel
theorem dX7_findEnds_32 : decode cX7_findEnds 32 = .ok (.iconst 1, 1) := by decide +kernel
theorem dX7_findEnds_33 : decode cX7_findEnds 33 = .ok (.if_icmp .ne 10, 3) := by decide +kernel
theorem dX7_findEnds_36 : decode cX7_findEnds 36 = .ok (.aload_n 0, 1) := by decide +kernel
theorem dX7_findEnds_37 : decode cX7_findEnds 37 = .ok (.getfield 34, 3) := by decide +kernel
theorem dX7_findEnds_40 : decode cX7_findEnds 40 = .ok (.iload_n 2, 1) := by decide +kernel
theorem dX7_findEnds_41 : decode cX7_findEnds 41 = .ok (.iconst 4, 1) := by decide +kernel
theorem dX7_findEnds_42 : decode cX7_findEnds 42 = .ok (.iastore, 1) := by decide +kernel
theorem dX7_findEnds_43 : decode cX7_findEnds 43 = .ok (.aload_n 0, 1) := by decide +kernel
theorem dX7_findEnds_44 : decode cX7_findEnds 44 = .ok (.iload_n 3, 1) := by decide +kernel
theorem dX7_findEnds_45 : decode cX7_findEnds 45 = .ok (.invokevirtual 261, 3) := by decide +kernel
theorem dX7_findEnds_48 : decode cX7_findEnds 48 = .ok (.aload_n 0, 1) := by decide +kernel
theorem dX7_findEnds_49 : decode cX7_findEnds 49 = .ok (.getfield 73, 3) := by decide +kernel
theorem dX7_findEnds_52 : decode cX7_findEnds 52 = .ok (.iconst 2, 1) := by decide +kernel
theorem dX7_findEnds_53 : decode cX7_findEnds 53 = .ok (.iload 4, 2) := by decide +kernel
theorem dX7_findEnds_55 : decode cX7_findEnds 55 = .ok (.imul, 1) := by decide +kernel
theorem dX7_findEnds_56 : decode cX7_findEnds 56 = .ok (.aload_n 0, 1) := by decide +kernel
theorem dX7_findEnds_57 : decode cX7_findEnds 57 = .ok (.getfield 37, 3) := by decide +kernel
theorem dX7_findEnds_60 : decode cX7_findEnds 60 = .ok (.iload_n 1, 1) := by decide +kernel
theorem dX7_findEnds_61 : decode cX7_findEnds 61 = .ok (.iaload, 1) := by decide +kernel
theorem dX7_findEnds_62 : decode cX7_findEnds 62 = .ok (.iconst 5, 1) := by decide +kernel
theorem dX7_findEnds_63 : decode cX7_findEnds 63 = .ok (.iload 4, 2) := by decide +kernel
theorem dX7_findEnds_65 : decode cX7_findEnds 65 = .ok (.iconst 2, 1) := by decide +kernel
theorem dX7_findEnds_66 : decode cX7_findEnds 66 = .ok (.idiv, 1) := by decide +kernel
theorem dX7_findEnds_67 : decode cX7_findEnds 67 = .ok (.imul, 1) := by decide +kernel
theorem dX7_findEnds_68 : decode cX7_findEnds 68 = .ok (.iadd, 1) := by decide +kernel
theorem dX7_findEnds_69 : decode cX7_findEnds 69 = .ok (.iastore, 1) := by decide +kernel
theorem dX7_findEnds_70 : decode cX7_findEnds 70 = .ok (.aload_n 0, 1) := by decide +kernel
theorem dX7_findEnds_71 : decode cX7_findEnds 71 = .ok (.getfield 73, 3) := by decide +kernel
theorem dX7_findEnds_74 : decode cX7_findEnds 74 = .ok (.iconst 2, 1) := by decide +kernel
theorem dX7_findEnds_75 : decode cX7_findEnds 75 = .ok (.iload 4, 2) := by decide +kernel
theorem dX7_findEnds_77 : decode cX7_findEnds 77 = .ok (.imul, 1) := by decide +kernel
theorem dX7_findEnds_78 : decode cX7_findEnds 78 = .ok (.iconst 1, 1) := by decide +kernel
theorem dX7_findEnds_79 : decode cX7_findEnds 79 = .ok (.iadd, 1) := by decide +kernel
theorem dX7_findEnds_80 : decode cX7_findEnds 80 = .ok (.aload_n 0, 1) := by decide +kernel
theorem dX7_findEnds_81 : decode cX7_findEnds 81 = .ok (.getfield 37, 3) := by decide +kernel
theorem dX7_findEnds_84 : decode cX7_findEnds 84 = .ok (.iload_n 2, 1) := by decide +kernel
theorem dX7_findEnds_85 : decode cX7_findEnds 85 = .ok (.iaload, 1) := by decide +kernel
theorem dX7_findEnds_86 : decode cX7_findEnds 86 = .ok (.iconst 5, 1) := by decide +kernel
theorem dX7_findEnds_87 : decode cX7_findEnds 87 = .ok (.iload 4, 2) := by decide +kernel
theorem dX7_findEnds_89 : decode cX7_findEnds 89 = .ok (.iconst 2, 1) := by decide +kernel
theorem dX7_findEnds_90 : decode cX7_findEnds 90 = .ok (.irem, 1) := by decide +kernel
theorem dX7_findEnds_91 : decode cX7_findEnds 91 = .ok (.imul, 1) := by decide +kernel
theorem dX7_findEnds_92 : decode cX7_findEnds 92 = .ok (.iadd, 1) := by decide +kernel
theorem dX7_findEnds_93 : decode cX7_findEnds 93 = .ok (.iastore, 1) := by decide +kernel
theorem dX7_findEnds_94 : decode cX7_findEnds 94 = .ok (.aload_n 0, 1) := by decide +kernel
theorem dX7_findEnds_95 : decode cX7_findEnds 95 = .ok (.invokevirtual 346, 3) := by decide +kernel
theorem dX7_findEnds_98 : decode cX7_findEnds 98 = .ok (.iinc 4 1, 3) := by decide +kernel
theorem dX7_findEnds_101 : decode cX7_findEnds 101 = .ok (.goto (-98), 3) := by decide +kernel
theorem dX7_findEnds_104 : decode cX7_findEnds 104 = .ok (.return_, 1) := by decide +kernel
theorem dX7_two_0 : decode cX7_two 0 = .ok (.aload_n 0, 1) := by decide +kernel
theorem dX7_two_1 : decode cX7_two 1 = .ok (.iload_n 1, 1) := by decide +kernel
theorem dX7_two_2 : decode cX7_two 2 = .ok (.iload_n 2, 1) := by decide +kernel
theorem dX7_two_3 : decode cX7_two 3 = .ok (.invokevirtual 365, 3) := by decide +kernel
theorem dX7_two_6 : decode cX7_two 6 = .ok (.ifCond .ne 7, 3) := by decide +kernel
theorem dX7_two_9 : decode cX7_two 9 = .ok (.iconst (-1), 1) := by decide +kernel
theorem dX7_two_10 : decode cX7_two 10 = .ok (.goto 10, 3) := by decide +kernel
theorem dX7_two_13 : decode cX7_two 13 = .ok (.iload_n 3, 1) := by decide +kernel
theorem dX7_two_14 : decode cX7_two 14 = .ok (.iconst 1, 1) := by decide +kernel
theorem dX7_two_15 : decode cX7_two 15 = .ok (.bipush 30, 2) := by decide +kernel
theorem dX7_two_17 : decode cX7_two 17 = .ok (.invokestatic 163, 3) := by decide +kernel
theorem dX7_two_20 : decode cX7_two 20 = .ok (.istore 4, 2) := by decide +kernel
theorem dX7_two_22 : decode cX7_two 22 = .ok (.iload 4, 2) := by decide +kernel
theorem dX7_two_24 : decode cX7_two 24 = .ok (.ifCond .eq 10, 3) := by decide +kernel
theorem dX7_two_27 : decode cX7_two 27 = .ok (.aload_n 0, 1) := by decide +kernel
theorem dX7_two_28 : decode cX7_two 28 = .ok (.iload 4, 2) := by decide +kernel
theorem dX7_two_30 : decode cX7_two 30 = .ok (.invokevirtual 170, 3) := by decide +kernel
theorem dX7_two_33 : decode cX7_two 33 = .ok (.ireturn, 1) := by decide +kernel
theorem dX7_two_34 : decode cX7_two 34 = .ok (.aload_n 0, 1) := by decide +kernel
theorem dX7_two_35 : decode cX7_two 35 = .ok (.iload_n 1, 1) := by decide +kernel
theorem dX7_two_36 : decode cX7_two 36 = .ok (.iload_n 2, 1) := by decide +kernel
theorem dX7_two_37 : decode cX7_two 37 = .ok (.iload_n 3, 1) := by decide +kernel
theorem dX7_two_38 : decode cX7_two 38 = .ok (.invokevirtual 380, 3) := by decide +kernel
theorem dX7_two_41 : decode cX7_two 41 = .ok (.iconst 0, 1) := by decide +kernel
theorem dX7_two_42 : decode cX7_two 42 = .ok (.istore 5, 2) := by decide +kernel
theorem dX7_two_44 : decode cX7_two 44 = .ok (.iload 5, 2) := by decide +kernel
theorem dX7_two_46 : decode cX7_two 46 = .ok (.iconst 4, 1) := by decide +kernel
theorem dX7_two_47 : decode cX7_two 47 = .ok (.if_icmp .ge 72, 3) := by decide +kernel
theorem dX7_two_50 : decode cX7_two 50 = .ok (.aload_n 0, 1) := by decide +kernel
theorem dX7_two_51 : decode cX7_two 51 = .ok (.getfield 73, 3) := by decide +kernel
theorem dX7_two_54 : decode cX7_two 54 = .ok (.iconst 2, 1) := by decide +kernel
theorem dX7_two_55 : decode cX7_two 55 = .ok (.iload 5, 2) := by decide +kernel
theorem dX7_two_57 : decode cX7_two 57 = .ok (.iconst 2, 1) := by decide +kernel
theorem dX7_two_58 : decode cX7_two 58 = .ok (.ixor, 1) := by decide +kernel
theorem dX7_two_59 : decode cX7_two 59 = .ok (.imul, 1) := by decide +kernel
theorem dX7_two_60 : decode cX7_two 60 = .ok (.iaload, 1) := by decide +kernel
theorem dX7_two_61 : decode cX7_two 61 = .ok (.aload_n 0, 1) := by decide +kernel
theorem dX7_two_62 : decode cX7_two 62 = .ok (.getfield 73, 3) := by decide +kernel
theorem dX7_two_65 : decode cX7_two 65 = .ok (.iconst 2, 1) := by decide +kernel
theorem dX7_two_66 : decode cX7_two 66 = .ok (.iload 5, 2) := by decide +kernel
theorem dX7_two_68 : decode cX7_two 68 = .ok (.imul, 1) := by decide +kernel
theorem dX7_two_69 : decode cX7_two 69 = .ok (.iaload, 1) := by decide +kernel
theorem dX7_two_70 : decode cX7_two 70 = .ok (.if_icmp .gt 43, 3) := by decide +kernel
theorem dX7_two_73 : decode cX7_two 73 = .ok (.aload_n 0, 1) := by decide +kernel
theorem dX7_two_74 : decode cX7_two 74 = .ok (.getfield 73, 3) := by decide +kernel
theorem dX7_two_77 : decode cX7_two 77 = .ok (.iconst 2, 1) := by decide +kernel
theorem dX7_two_78 : decode cX7_two 78 = .ok (.iload 5, 2) := by decide +kernel
theorem dX7_two_80 : decode cX7_two 80 = .ok (.iconst 1, 1) := by decide +kernel
theorem dX7_two_81 : decode cX7_two 81 = .ok (.ixor, 1) := by decide +kernel
theorem dX7_two_82 : decode cX7_two 82 = .ok (.imul, 1) := by decide +kernel
theorem dX7_two_83 : decode cX7_two 83 = .ok (.iconst 1, 1) := by decide +kernel
theorem dX7_two_84 : decode cX7_two 84 = .ok (.iadd, 1) := by decide +kernel
theorem dX7_two_85 : decode cX7_two 85 = .ok (.iaload, 1) := by decide +kernel
theorem dX7_two_86 : decode cX7_two 86 = .ok (.aload_n 0, 1) := by decide +kernel
theorem dX7_two_87 : decode cX7_two 87 = .ok (.getfield 73, 3) := by decide +kernel
theorem dX7_two_90 : decode cX7_two 90 = .ok (.iconst 2, 1) := by decide +kernel
theorem dX7_two_91 : decode cX7_two 91 = .ok (.iload 5, 2) := by decide +kernel
theorem dX7_two_93 : decode cX7_two 93 = .ok (.imul, 1) := by decide +kernel
theorem dX7_two_94 : decode cX7_two 94 = .ok (.iconst 1, 1) := by decide +kernel
theorem dX7_two_95 : decode cX7_two 95 = .ok (.iadd, 1) := by decide +kernel
theorem dX7_two_96 : decode cX7_two 96 = .ok (.iaload, 1) := by decide +kernel
theorem dX7_two_97 : decode cX7_two 97 = .ok (.if_icmp .gt 16, 3) := by decide +kernel
theorem dX7_two_100 : decode cX7_two 100 = .ok (.bipush 10, 2) := by decide +kernel
theorem dX7_two_102 : decode cX7_two 102 = .ok (.iload 5, 2) := by decide +kernel
theorem dX7_two_104 : decode cX7_two 104 = .ok (.iconst 2, 1) := by decide +kernel
theorem dX7_two_105 : decode cX7_two 105 = .ok (.idiv, 1) := by decide +kernel
theorem dX7_two_106 : decode cX7_two 106 = .ok (.imul, 1) := by decide +kernel
theorem dX7_two_107 : decode cX7_two 107 = .ok (.iload 5, 2) := by decide +kernel
theorem dX7_two_109 : decode cX7_two 109 = .ok (.iconst 2, 1) := by decide +kernel
theorem dX7_two_110 : decode cX7_two 110 = .ok (.irem, 1) := by decide +kernel
theorem dX7_two_111 : decode cX7_two 111 = .ok (.iadd, 1) := by decide +kernel
theorem dX7_two_112 : decode cX7_two 112 = .ok (.ireturn, 1) := by decide +kernel
theorem dX7_two_113 : decode cX7_two 113 = .ok (.iinc 5 1, 3) := by decide +kernel
theorem dX7_two_116 : decode cX7_two 116 = .ok (.goto (-72), 3) := by decide +kernel
theorem dX7_two_119 : decode cX7_two 119 = .ok (.bipush (-9), 2) := by decide +kernel
theorem dX7_two_121 : decode cX7_two 121 = .ok (.ireturn, 1) := by decide +kernel
theorem dX7_divisor_0 : decode cX7_divisor 0 = .ok (.lload_n 0, 1) := by decide +kernel
theorem dX7_divisor_1 : decode cX7_divisor 1 = .ok (.lstore 4, 2) := by decide +kernel
theorem dX7_divisor_3 : decode cX7_divisor 3 = .ok (.lload_n 2, 1) := by decide +kernel
theorem dX7_divisor_4 : decode cX7_divisor 4 = .ok (.lstore 6, 2) := by decide +kernel
theorem dX7_divisor_6 : decode cX7_divisor 6 = .ok (.lload 6, 2) := by decide +kernel
theorem dX7_divisor_8 : decode cX7_divisor 8 = .ok (.lconst 0, 1) := by decide +kernel
theorem dX7_divisor_9 : decode cX7_divisor 9 = .ok (.lcmp, 1) := by decide +kernel
theorem dX7_divisor_10 : decode cX7_divisor 10 = .ok (.ifCond .eq 21, 3) := by decide +kernel
theorem dX7_divisor_13 : decode cX7_divisor 13 = .ok (.lload 4, 2) := by decide +kernel
theorem dX7_divisor_15 : decode cX7_divisor 15 = .ok (.lload 6, 2) := by decide +kernel
theorem dX7_divisor_17 : decode cX7_divisor 17 = .ok (.lrem, 1) := by decide +kernel
theorem dX7_divisor_18 : decode cX7_divisor 18 = .ok (.lstore 8, 2) := by decide +kernel
theorem dX7_divisor_20 : decode cX7_divisor 20 = .ok (.lload 6, 2) := by decide +kernel
theorem dX7_divisor_22 : decode cX7_divisor 22 = .ok (.lstore 4, 2) := by decide +kernel
theorem dX7_divisor_24 : decode cX7_divisor 24 = .ok (.lload 8, 2) := by decide +kernel
theorem dX7_divisor_26 : decode cX7_divisor 26 = .ok (.lstore 6, 2) := by decide +kernel
theorem dX7_divisor_28 : decode cX7_divisor 28 = .ok (.goto (-22), 3) := by decide +kernel
theorem dX7_divisor_31 : decode cX7_divisor 31 = .ok (.lload 4, 2) := by decide +kernel
theorem dX7_divisor_33 : decode cX7_divisor 33 = .ok (.lreturn, 1) := by decide +kernel
theorem dX7_partOf_0 : decode cX7_partOf 0 = .ok (.iload 4, 2) := by decide +kernel
theorem dX7_partOf_2 : decode cX7_partOf 2 = .ok (.ifCond .ne 7, 3) := by decide +kernel
theorem dX7_partOf_5 : decode cX7_partOf 5 = .ok (.lload_n 0, 1) := by decide +kernel
theorem dX7_partOf_6 : decode cX7_partOf 6 = .ok (.goto 4, 3) := by decide +kernel
theorem dX7_partOf_9 : decode cX7_partOf 9 = .ok (.lload_n 2, 1) := by decide +kernel
theorem dX7_partOf_10 : decode cX7_partOf 10 = .ok (.lload_n 0, 1) := by decide +kernel
theorem dX7_partOf_11 : decode cX7_partOf 11 = .ok (.lload_n 2, 1) := by decide +kernel
theorem dX7_partOf_12 : decode cX7_partOf 12 = .ok (.invokestatic 383, 3) := by decide +kernel
theorem dX7_partOf_15 : decode cX7_partOf 15 = .ok (.ldiv, 1) := by decide +kernel
theorem dX7_partOf_16 : decode cX7_partOf 16 = .ok (.lreturn, 1) := by decide +kernel
theorem dX7_rain_0 : decode cX7_rain 0 = .ok (.aload_n 0, 1) := by decide +kernel
theorem dX7_rain_1 : decode cX7_rain 1 = .ok (.iload_n 1, 1) := by decide +kernel
theorem dX7_rain_2 : decode cX7_rain 2 = .ok (.invokevirtual 89, 3) := by decide +kernel
theorem dX7_rain_5 : decode cX7_rain 5 = .ok (.ifCond .eq 10, 3) := by decide +kernel
theorem dX7_rain_8 : decode cX7_rain 8 = .ok (.iload_n 2, 1) := by decide +kernel
theorem dX7_rain_9 : decode cX7_rain 9 = .ok (.invokestatic 244, 3) := by decide +kernel
theorem dX7_rain_12 : decode cX7_rain 12 = .ok (.ifCond .ne 7, 3) := by decide +kernel
theorem dX7_rain_15 : decode cX7_rain 15 = .ok (.iconst (-1), 1) := by decide +kernel
theorem dX7_rain_16 : decode cX7_rain 16 = .ok (.goto 52, 3) := by decide +kernel
theorem dX7_rain_19 : decode cX7_rain 19 = .ok (.iload_n 3, 1) := by decide +kernel
theorem dX7_rain_20 : decode cX7_rain 20 = .ok (.ifCond .lt 9, 3) := by decide +kernel
theorem dX7_rain_23 : decode cX7_rain 23 = .ok (.iload 4, 2) := by decide +kernel
theorem dX7_rain_25 : decode cX7_rain 25 = .ok (.iconst 2, 1) := by decide +kernel
theorem dX7_rain_26 : decode cX7_rain 26 = .ok (.if_icmp .ge 8, 3) := by decide +kernel
theorem dX7_rain_29 : decode cX7_rain 29 = .ok (.bipush (-4), 2) := by decide +kernel
theorem dX7_rain_31 : decode cX7_rain 31 = .ok (.goto 37, 3) := by decide +kernel
theorem dX7_rain_34 : decode cX7_rain 34 = .ok (.iload_n 3, 1) := by decide +kernel
theorem dX7_rain_35 : decode cX7_rain 35 = .ok (.bipush 7, 2) := by decide +kernel
theorem dX7_rain_37 : decode cX7_rain 37 = .ok (.if_icmp .gt 10, 3) := by decide +kernel
theorem dX7_rain_40 : decode cX7_rain 40 = .ok (.iload 4, 2) := by decide +kernel
theorem dX7_rain_42 : decode cX7_rain 42 = .ok (.bipush 20, 2) := by decide +kernel
theorem dX7_rain_44 : decode cX7_rain 44 = .ok (.if_icmp .le 8, 3) := by decide +kernel
theorem dX7_rain_47 : decode cX7_rain 47 = .ok (.bipush (-6), 2) := by decide +kernel
theorem dX7_rain_49 : decode cX7_rain 49 = .ok (.goto 19, 3) := by decide +kernel
theorem dX7_rain_52 : decode cX7_rain 52 = .ok (.iload 5, 2) := by decide +kernel
theorem dX7_rain_54 : decode cX7_rain 54 = .ok (.iconst 0, 1) := by decide +kernel
theorem dX7_rain_55 : decode cX7_rain 55 = .ok (.iconst 1, 1) := by decide +kernel
theorem dX7_rain_56 : decode cX7_rain 56 = .ok (.invokestatic 85, 3) := by decide +kernel
theorem dX7_rain_59 : decode cX7_rain 59 = .ok (.ifCond .ne 8, 3) := by decide +kernel
theorem dX7_rain_62 : decode cX7_rain 62 = .ok (.bipush (-2), 2) := by decide +kernel
theorem dX7_rain_64 : decode cX7_rain 64 = .ok (.goto 4, 3) := by decide +kernel
theorem dX7_rain_67 : decode cX7_rain 67 = .ok (.iconst 0, 1) := by decide +kernel
theorem dX7_rain_68 : decode cX7_rain 68 = .ok (.istore 6, 2) := by decide +kernel
theorem dX7_rain_70 : decode cX7_rain 70 = .ok (.iload 6, 2) := by decide +kernel
theorem dX7_rain_72 : decode cX7_rain 72 = .ok (.ifCond .eq 10, 3) := by decide +kernel
theorem dX7_rain_75 : decode cX7_rain 75 = .ok (.aload_n 0, 1) := by decide +kernel
theorem dX7_rain_76 : decode cX7_rain 76 = .ok (.iload 6, 2) := by decide +kernel
theorem dX7_rain_78 : decode cX7_rain 78 = .ok (.invokevirtual 387, 3) := by decide +kernel
theorem dX7_rain_81 : decode cX7_rain 81 = .ok (.lreturn, 1) := by decide +kernel
theorem dX7_rain_82 : decode cX7_rain 82 = .ok (.lconst 0, 1) := by decide +kernel
theorem dX7_rain_83 : decode cX7_rain 83 = .ok (.lstore 7, 2) := by decide +kernel
theorem dX7_rain_85 : decode cX7_rain 85 = .ok (.lconst 1, 1) := by decide +kernel
theorem dX7_rain_86 : decode cX7_rain 86 = .ok (.lstore 9, 2) := by decide +kernel
theorem dX7_rain_88 : decode cX7_rain 88 = .ok (.iconst 0, 1) := by decide +kernel
theorem dX7_rain_89 : decode cX7_rain 89 = .ok (.istore 11, 2) := by decide +kernel
theorem dX7_rain_91 : decode cX7_rain 91 = .ok (.iload 11, 2) := by decide +kernel
theorem dX7_rain_93 : decode cX7_rain 93 = .ok (.iload_n 3, 1) := by decide +kernel
theorem dX7_rain_94 : decode cX7_rain 94 = .ok (.if_icmp .ge 17, 3) := by decide +kernel
theorem dX7_rain_97 : decode cX7_rain 97 = .ok (.lload 9, 2) := by decide +kernel
theorem dX7_rain_99 : decode cX7_rain 99 = .ok (.iload 4, 2) := by decide +kernel
theorem dX7_rain_101 : decode cX7_rain 101 = .ok (.i2l, 1) := by decide +kernel
theorem dX7_rain_102 : decode cX7_rain 102 = .ok (.lmul, 1) := by decide +kernel
theorem dX7_rain_103 : decode cX7_rain 103 = .ok (.lstore 9, 2) := by decide +kernel
theorem dX7_rain_105 : decode cX7_rain 105 = .ok (.iinc 11 1, 3) := by decide +kernel
theorem dX7_rain_108 : decode cX7_rain 108 = .ok (.goto (-17), 3) := by decide +kernel
theorem dX7_rain_111 : decode cX7_rain 111 = .ok (.iconst 0, 1) := by decide +kernel
theorem dX7_rain_112 : decode cX7_rain 112 = .ok (.istore 11, 2) := by decide +kernel
theorem dX7_rain_114 : decode cX7_rain 114 = .ok (.iload 11, 2) := by decide +kernel
theorem dX7_rain_116 : decode cX7_rain 116 = .ok (.iconst 1, 1) := by decide +kernel
theorem dX7_rain_117 : decode cX7_rain 117 = .ok (.iload_n 3, 1) := by decide +kernel
theorem dX7_rain_118 : decode cX7_rain 118 = .ok (.ishl, 1) := by decide +kernel
theorem dX7_rain_119 : decode cX7_rain 119 = .ok (.if_icmp .ge 107, 3) := by decide +kernel
theorem dX7_rain_122 : decode cX7_rain 122 = .ok (.aload_n 0, 1) := by decide +kernel
theorem dX7_rain_123 : decode cX7_rain 123 = .ok (.invokevirtual 343, 3) := by decide +kernel
theorem dX7_rain_126 : decode cX7_rain 126 = .ok (.lconst 1, 1) := by decide +kernel
theorem dX7_rain_127 : decode cX7_rain 127 = .ok (.lstore 12, 2) := by decide +kernel
theorem dX7_rain_129 : decode cX7_rain 129 = .ok (.iconst 0, 1) := by decide +kernel
theorem dX7_rain_130 : decode cX7_rain 130 = .ok (.istore 14, 2) := by decide +kernel
theorem dX7_rain_132 : decode cX7_rain 132 = .ok (.iload 14, 2) := by decide +kernel
theorem dX7_rain_134 : decode cX7_rain 134 = .ok (.iload_n 3, 1) := by decide +kernel
theorem dX7_rain_135 : decode cX7_rain 135 = .ok (.if_icmp .ge 60, 3) := by decide +kernel
theorem dX7_rain_138 : decode cX7_rain 138 = .ok (.lload 12, 2) := by decide +kernel
theorem dX7_rain_140 : decode cX7_rain 140 = .ok (.iload 11, 2) := by decide +kernel
theorem dX7_rain_142 : decode cX7_rain 142 = .ok (.iload 14, 2) := by decide +kernel
theorem dX7_rain_144 : decode cX7_rain 144 = .ok (.invokestatic 356, 3) := by decide +kernel
theorem dX7_rain_147 : decode cX7_rain 147 = .ok (.ifCond .eq 7, 3) := by decide +kernel
theorem dX7_rain_150 : decode cX7_rain 150 = .ok (.lconst 1, 1) := by decide +kernel
theorem dX7_rain_151 : decode cX7_rain 151 = .ok (.goto 8, 3) := by decide +kernel
theorem dX7_rain_154 : decode cX7_rain 154 = .ok (.iload 4, 2) := by decide +kernel
theorem dX7_rain_156 : decode cX7_rain 156 = .ok (.iconst 1, 1) := by decide +kernel
theorem dX7_rain_157 : decode cX7_rain 157 = .ok (.isub, 1) := by decide +kernel
theorem dX7_rain_158 : decode cX7_rain 158 = .ok (.i2l, 1) := by decide +kernel
theorem dX7_rain_159 : decode cX7_rain 159 = .ok (.lmul, 1) := by decide +kernel
theorem dX7_rain_160 : decode cX7_rain 160 = .ok (.lstore 12, 2) := by decide +kernel
theorem dX7_rain_162 : decode cX7_rain 162 = .ok (.iload 11, 2) := by decide +kernel
theorem dX7_rain_164 : decode cX7_rain 164 = .ok (.iload 14, 2) := by decide +kernel
theorem dX7_rain_166 : decode cX7_rain 166 = .ok (.invokestatic 356, 3) := by decide +kernel
theorem dX7_rain_169 : decode cX7_rain 169 = .ok (.ifCond .eq 16, 3) := by decide +kernel
theorem dX7_rain_172 : decode cX7_rain 172 = .ok (.aload_n 0, 1) := by decide +kernel
theorem dX7_rain_173 : decode cX7_rain 173 = .ok (.dup, 1) := by decide +kernel
theorem dX7_rain_174 : decode cX7_rain 174 = .ok (.getfield 136, 3) := by decide +kernel
theorem dX7_rain_177 : decode cX7_rain 177 = .ok (.iconst 1, 1) := by decide +kernel
theorem dX7_rain_178 : decode cX7_rain 178 = .ok (.iadd, 1) := by decide +kernel
theorem dX7_rain_179 : decode cX7_rain 179 = .ok (.putfield 136, 3) := by decide +kernel
theorem dX7_rain_182 : decode cX7_rain 182 = .ok (.goto 7, 3) := by decide +kernel
theorem dX7_rain_185 : decode cX7_rain 185 = .ok (.aload_n 0, 1) := by decide +kernel
theorem dX7_rain_186 : decode cX7_rain 186 = .ok (.invokevirtual 160, 3) := by decide +kernel
theorem dX7_rain_189 : decode cX7_rain 189 = .ok (.iinc 14 1, 3) := by decide +kernel
theorem dX7_rain_192 : decode cX7_rain 192 = .ok (.goto (-60), 3) := by decide +kernel
theorem dX7_rain_195 : decode cX7_rain 195 = .ok (.lload 7, 2) := by decide +kernel
theorem dX7_rain_197 : decode cX7_rain 197 = .ok (.aload_n 0, 1) := by decide +kernel
theorem dX7_rain_198 : decode cX7_rain 198 = .ok (.getfield 28, 3) := by decide +kernel
theorem dX7_rain_201 : decode cX7_rain 201 = .ok (.iload_n 1, 1) := by decide +kernel
theorem dX7_rain_202 : decode cX7_rain 202 = .ok (.iaload, 1) := by decide +kernel
theorem dX7_rain_203 : decode cX7_rain 203 = .ok (.iload_n 2, 1) := by decide +kernel
theorem dX7_rain_204 : decode cX7_rain 204 = .ok (.if_icmp .ne 8, 3) := by decide +kernel
theorem dX7_rain_207 : decode cX7_rain 207 = .ok (.lload 12, 2) := by decide +kernel
theorem dX7_rain_209 : decode cX7_rain 209 = .ok (.goto 4, 3) := by decide +kernel
theorem dX7_rain_212 : decode cX7_rain 212 = .ok (.lconst 0, 1) := by decide +kernel
theorem dX7_rain_213 : decode cX7_rain 213 = .ok (.ladd, 1) := by decide +kernel
theorem dX7_rain_214 : decode cX7_rain 214 = .ok (.lstore 7, 2) := by decide +kernel
theorem dX7_rain_216 : decode cX7_rain 216 = .ok (.aload_n 0, 1) := by decide +kernel
theorem dX7_rain_217 : decode cX7_rain 217 = .ok (.invokevirtual 346, 3) := by decide +kernel
theorem dX7_rain_220 : decode cX7_rain 220 = .ok (.iinc 11 1, 3) := by decide +kernel
theorem dX7_rain_223 : decode cX7_rain 223 = .ok (.goto (-109), 3) := by decide +kernel
theorem dX7_rain_226 : decode cX7_rain 226 = .ok (.lload 7, 2) := by decide +kernel
theorem dX7_rain_228 : decode cX7_rain 228 = .ok (.lload 9, 2) := by decide +kernel
theorem dX7_rain_230 : decode cX7_rain 230 = .ok (.iload 5, 2) := by decide +kernel
theorem dX7_rain_232 : decode cX7_rain 232 = .ok (.invokestatic 391, 3) := by decide +kernel
theorem dX7_rain_235 : decode cX7_rain 235 = .ok (.lreturn, 1) := by decide +kernel
theorem dX7_lettersOf_0 : decode cX7_lettersOf 0 = .ok (.iconst 0, 1) := by decide +kernel
theorem dX7_lettersOf_1 : decode cX7_lettersOf 1 = .ok (.istore_n 2, 1) := by decide +kernel
theorem dX7_lettersOf_2 : decode cX7_lettersOf 2 = .ok (.iconst 0, 1) := by decide +kernel
theorem dX7_lettersOf_3 : decode cX7_lettersOf 3 = .ok (.istore_n 3, 1) := by decide +kernel
theorem dX7_lettersOf_4 : decode cX7_lettersOf 4 = .ok (.iload_n 3, 1) := by decide +kernel
theorem dX7_lettersOf_5 : decode cX7_lettersOf 5 = .ok (.aload_n 0, 1) := by decide +kernel
theorem dX7_lettersOf_6 : decode cX7_lettersOf 6 = .ok (.getfield 43, 3) := by decide +kernel
theorem dX7_lettersOf_9 : decode cX7_lettersOf 9 = .ok (.iload_n 1, 1) := by decide +kernel
theorem dX7_lettersOf_10 : decode cX7_lettersOf 10 = .ok (.iaload, 1) := by decide +kernel
theorem dX7_lettersOf_11 : decode cX7_lettersOf 11 = .ok (.if_icmp .ge 25, 3) := by decide +kernel
theorem dX7_lettersOf_14 : decode cX7_lettersOf 14 = .ok (.iload_n 2, 1) := by decide +kernel
theorem dX7_lettersOf_15 : decode cX7_lettersOf 15 = .ok (.iconst 1, 1) := by decide +kernel
theorem dX7_lettersOf_16 : decode cX7_lettersOf 16 = .ok (.aload_n 0, 1) := by decide +kernel
theorem dX7_lettersOf_17 : decode cX7_lettersOf 17 = .ok (.getfield 46, 3) := by decide +kernel
theorem dX7_lettersOf_20 : decode cX7_lettersOf 20 = .ok (.bipush 6, 2) := by decide +kernel
theorem dX7_lettersOf_22 : decode cX7_lettersOf 22 = .ok (.iload_n 1, 1) := by decide +kernel
theorem dX7_lettersOf_23 : decode cX7_lettersOf 23 = .ok (.imul, 1) := by decide +kernel
theorem dX7_lettersOf_24 : decode cX7_lettersOf 24 = .ok (.iload_n 3, 1) := by decide +kernel
theorem dX7_lettersOf_25 : decode cX7_lettersOf 25 = .ok (.iadd, 1) := by decide +kernel
theorem dX7_lettersOf_26 : decode cX7_lettersOf 26 = .ok (.iaload, 1) := by decide +kernel
theorem dX7_lettersOf_27 : decode cX7_lettersOf 27 = .ok (.ishl, 1) := by decide +kernel
theorem dX7_lettersOf_28 : decode cX7_lettersOf 28 = .ok (.ior, 1) := by decide +kernel
theorem dX7_lettersOf_29 : decode cX7_lettersOf 29 = .ok (.istore_n 2, 1) := by decide +kernel
theorem dX7_lettersOf_30 : decode cX7_lettersOf 30 = .ok (.iinc 3 1, 3) := by decide +kernel
theorem dX7_lettersOf_33 : decode cX7_lettersOf 33 = .ok (.goto (-29), 3) := by decide +kernel
theorem dX7_lettersOf_36 : decode cX7_lettersOf 36 = .ok (.iload_n 2, 1) := by decide +kernel
theorem dX7_lettersOf_37 : decode cX7_lettersOf 37 = .ok (.ireturn, 1) := by decide +kernel
theorem dX7_samePlaces_0 : decode cX7_samePlaces 0 = .ok (.iconst 0, 1) := by decide +kernel
theorem dX7_samePlaces_1 : decode cX7_samePlaces 1 = .ok (.istore_n 3, 1) := by decide +kernel
theorem dX7_samePlaces_2 : decode cX7_samePlaces 2 = .ok (.iconst 0, 1) := by decide +kernel
theorem dX7_samePlaces_3 : decode cX7_samePlaces 3 = .ok (.istore 4, 2) := by decide +kernel
theorem dX7_samePlaces_5 : decode cX7_samePlaces 5 = .ok (.iload 4, 2) := by decide +kernel
theorem dX7_samePlaces_7 : decode cX7_samePlaces 7 = .ok (.aload_n 0, 1) := by decide +kernel
theorem dX7_samePlaces_8 : decode cX7_samePlaces 8 = .ok (.getfield 43, 3) := by decide +kernel
theorem dX7_samePlaces_11 : decode cX7_samePlaces 11 = .ok (.iload_n 1, 1) := by decide +kernel
theorem dX7_samePlaces_12 : decode cX7_samePlaces 12 = .ok (.iaload, 1) := by decide +kernel
theorem dX7_samePlaces_13 : decode cX7_samePlaces 13 = .ok (.if_icmp .ge 55, 3) := by decide +kernel
theorem dX7_samePlaces_16 : decode cX7_samePlaces 16 = .ok (.iload 4, 2) := by decide +kernel
theorem dX7_samePlaces_18 : decode cX7_samePlaces 18 = .ok (.aload_n 0, 1) := by decide +kernel
theorem dX7_samePlaces_19 : decode cX7_samePlaces 19 = .ok (.getfield 43, 3) := by decide +kernel
theorem dX7_samePlaces_22 : decode cX7_samePlaces 22 = .ok (.iload_n 2, 1) := by decide +kernel
theorem dX7_samePlaces_23 : decode cX7_samePlaces 23 = .ok (.iaload, 1) := by decide +kernel
theorem dX7_samePlaces_24 : decode cX7_samePlaces 24 = .ok (.if_icmp .ge 44, 3) := by decide +kernel
theorem dX7_samePlaces_27 : decode cX7_samePlaces 27 = .ok (.iload_n 3, 1) := by decide +kernel
theorem dX7_samePlaces_28 : decode cX7_samePlaces 28 = .ok (.aload_n 0, 1) := by decide +kernel
theorem dX7_samePlaces_29 : decode cX7_samePlaces 29 = .ok (.getfield 46, 3) := by decide +kernel
theorem dX7_samePlaces_32 : decode cX7_samePlaces 32 = .ok (.bipush 6, 2) := by decide +kernel
theorem dX7_samePlaces_34 : decode cX7_samePlaces 34 = .ok (.iload_n 1, 1) := by decide +kernel
theorem dX7_samePlaces_35 : decode cX7_samePlaces 35 = .ok (.imul, 1) := by decide +kernel
theorem dX7_samePlaces_36 : decode cX7_samePlaces 36 = .ok (.iload 4, 2) := by decide +kernel
theorem dX7_samePlaces_38 : decode cX7_samePlaces 38 = .ok (.iadd, 1) := by decide +kernel
theorem dX7_samePlaces_39 : decode cX7_samePlaces 39 = .ok (.iaload, 1) := by decide +kernel
theorem dX7_samePlaces_40 : decode cX7_samePlaces 40 = .ok (.aload_n 0, 1) := by decide +kernel
theorem dX7_samePlaces_41 : decode cX7_samePlaces 41 = .ok (.getfield 46, 3) := by decide +kernel
theorem dX7_samePlaces_44 : decode cX7_samePlaces 44 = .ok (.bipush 6, 2) := by decide +kernel
theorem dX7_samePlaces_46 : decode cX7_samePlaces 46 = .ok (.iload_n 2, 1) := by decide +kernel
theorem dX7_samePlaces_47 : decode cX7_samePlaces 47 = .ok (.imul, 1) := by decide +kernel
theorem dX7_samePlaces_48 : decode cX7_samePlaces 48 = .ok (.iload 4, 2) := by decide +kernel
theorem dX7_samePlaces_50 : decode cX7_samePlaces 50 = .ok (.iadd, 1) := by decide +kernel
theorem dX7_samePlaces_51 : decode cX7_samePlaces 51 = .ok (.iaload, 1) := by decide +kernel
theorem dX7_samePlaces_52 : decode cX7_samePlaces 52 = .ok (.if_icmp .ne 7, 3) := by decide +kernel
theorem dX7_samePlaces_55 : decode cX7_samePlaces 55 = .ok (.iconst 1, 1) := by decide +kernel
theorem dX7_samePlaces_56 : decode cX7_samePlaces 56 = .ok (.goto 4, 3) := by decide +kernel
theorem dX7_samePlaces_59 : decode cX7_samePlaces 59 = .ok (.iconst 0, 1) := by decide +kernel
theorem dX7_samePlaces_60 : decode cX7_samePlaces 60 = .ok (.iadd, 1) := by decide +kernel
theorem dX7_samePlaces_61 : decode cX7_samePlaces 61 = .ok (.istore_n 3, 1) := by decide +kernel
theorem dX7_samePlaces_62 : decode cX7_samePlaces 62 = .ok (.iinc 4 1, 3) := by decide +kernel
theorem dX7_samePlaces_65 : decode cX7_samePlaces 65 = .ok (.goto (-60), 3) := by decide +kernel
theorem dX7_samePlaces_68 : decode cX7_samePlaces 68 = .ok (.iload_n 3, 1) := by decide +kernel
theorem dX7_samePlaces_69 : decode cX7_samePlaces 69 = .ok (.ireturn, 1) := by decide +kernel
theorem dX7_like_0 : decode cX7_like 0 = .ok (.aload_n 0, 1) := by decide +kernel
theorem dX7_like_1 : decode cX7_like 1 = .ok (.iload_n 1, 1) := by decide +kernel
theorem dX7_like_2 : decode cX7_like 2 = .ok (.iload_n 2, 1) := by decide +kernel
theorem dX7_like_3 : decode cX7_like 3 = .ok (.invokevirtual 365, 3) := by decide +kernel
theorem dX7_like_6 : decode cX7_like 6 = .ok (.ifCond .ne 7, 3) := by decide +kernel
theorem dX7_like_9 : decode cX7_like 9 = .ok (.iconst (-1), 1) := by decide +kernel
theorem dX7_like_10 : decode cX7_like 10 = .ok (.goto 18, 3) := by decide +kernel
theorem dX7_like_13 : decode cX7_like 13 = .ok (.iload_n 3, 1) := by decide +kernel
theorem dX7_like_14 : decode cX7_like 14 = .ok (.iconst 0, 1) := by decide +kernel
theorem dX7_like_15 : decode cX7_like 15 = .ok (.iconst 2, 1) := by decide +kernel
theorem dX7_like_16 : decode cX7_like 16 = .ok (.invokestatic 85, 3) := by decide +kernel
theorem dX7_like_19 : decode cX7_like 19 = .ok (.ifCond .ne 8, 3) := by decide +kernel
theorem dX7_like_22 : decode cX7_like 22 = .ok (.bipush (-2), 2) := by decide +kernel
theorem dX7_like_24 : decode cX7_like 24 = .ok (.goto 4, 3) := by decide +kernel
theorem dX7_like_27 : decode cX7_like 27 = .ok (.iconst 0, 1) := by decide +kernel
theorem dX7_like_28 : decode cX7_like 28 = .ok (.istore 4, 2) := by decide +kernel
theorem dX7_like_30 : decode cX7_like 30 = .ok (.iload 4, 2) := by decide +kernel
theorem dX7_like_32 : decode cX7_like 32 = .ok (.ifCond .eq 10, 3) := by decide +kernel
theorem dX7_like_35 : decode cX7_like 35 = .ok (.aload_n 0, 1) := by decide +kernel
theorem dX7_like_36 : decode cX7_like 36 = .ok (.iload 4, 2) := by decide +kernel
theorem dX7_like_38 : decode cX7_like 38 = .ok (.invokevirtual 170, 3) := by decide +kernel
theorem dX7_like_41 : decode cX7_like 41 = .ok (.ireturn, 1) := by decide +kernel
theorem dX7_like_42 : decode cX7_like 42 = .ok (.iload_n 3, 1) := by decide +kernel
theorem dX7_like_43 : decode cX7_like 43 = .ok (.ifCond .ne 12, 3) := by decide +kernel
theorem dX7_like_46 : decode cX7_like 46 = .ok (.aload_n 0, 1) := by decide +kernel
theorem dX7_like_47 : decode cX7_like 47 = .ok (.iload_n 1, 1) := by decide +kernel
theorem dX7_like_48 : decode cX7_like 48 = .ok (.iload_n 2, 1) := by decide +kernel
theorem dX7_like_49 : decode cX7_like 49 = .ok (.invokevirtual 395, 3) := by decide +kernel
theorem dX7_like_52 : decode cX7_like 52 = .ok (.goto 31, 3) := by decide +kernel
theorem dX7_like_55 : decode cX7_like 55 = .ok (.iload_n 3, 1) := by decide +kernel
theorem dX7_like_56 : decode cX7_like 56 = .ok (.iconst 1, 1) := by decide +kernel
theorem dX7_like_57 : decode cX7_like 57 = .ok (.if_icmp .ne 12, 3) := by decide +kernel
theorem dX7_like_60 : decode cX7_like 60 = .ok (.aload_n 0, 1) := by decide +kernel
theorem dX7_like_61 : decode cX7_like 61 = .ok (.iload_n 1, 1) := by decide +kernel
theorem dX7_like_62 : decode cX7_like 62 = .ok (.iload_n 2, 1) := by decide +kernel
theorem dX7_like_63 : decode cX7_like 63 = .ok (.invokevirtual 118, 3) := by decide +kernel
theorem dX7_like_66 : decode cX7_like 66 = .ok (.goto 17, 3) := by decide +kernel
theorem dX7_like_69 : decode cX7_like 69 = .ok (.aload_n 0, 1) := by decide +kernel
theorem dX7_like_70 : decode cX7_like 70 = .ok (.iload_n 1, 1) := by decide +kernel
theorem dX7_like_71 : decode cX7_like 71 = .ok (.invokevirtual 398, 3) := by decide +kernel
theorem dX7_like_74 : decode cX7_like 74 = .ok (.aload_n 0, 1) := by decide +kernel
theorem dX7_like_75 : decode cX7_like 75 = .ok (.iload_n 2, 1) := by decide +kernel
theorem dX7_like_76 : decode cX7_like 76 = .ok (.invokevirtual 398, 3) := by decide +kernel
theorem dX7_like_79 : decode cX7_like 79 = .ok (.iand, 1) := by decide +kernel
theorem dX7_like_80 : decode cX7_like 80 = .ok (.invokestatic 401, 3) := by decide +kernel
theorem dX7_like_83 : decode cX7_like 83 = .ok (.ireturn, 1) := by decide +kernel
theorem dX7_rank_0 : decode cX7_rank 0 = .ok (.aload_n 0, 1) := by decide +kernel
theorem dX7_rank_1 : decode cX7_rank 1 = .ok (.iload_n 1, 1) := by decide +kernel
theorem dX7_rank_2 : decode cX7_rank 2 = .ok (.invokevirtual 89, 3) := by decide +kernel
theorem dX7_rank_5 : decode cX7_rank 5 = .ok (.ifCond .ne 9, 3) := by decide +kernel
theorem dX7_rank_8 : decode cX7_rank 8 = .ok (.aload_n 0, 1) := by decide +kernel
theorem dX7_rank_9 : decode cX7_rank 9 = .ok (.iconst (-1), 1) := by decide +kernel
theorem dX7_rank_10 : decode cX7_rank 10 = .ok (.invokevirtual 170, 3) := by decide +kernel
theorem dX7_rank_13 : decode cX7_rank 13 = .ok (.ireturn, 1) := by decide +kernel
theorem dX7_rank_14 : decode cX7_rank 14 = .ok (.iconst 0, 1) := by decide +kernel
theorem dX7_rank_15 : decode cX7_rank 15 = .ok (.istore_n 2, 1) := by decide +kernel
theorem dX7_rank_16 : decode cX7_rank 16 = .ok (.iconst 0, 1) := by decide +kernel
theorem dX7_rank_17 : decode cX7_rank 17 = .ok (.istore_n 3, 1) := by decide +kernel
theorem dX7_rank_18 : decode cX7_rank 18 = .ok (.iload_n 3, 1) := by decide +kernel
theorem dX7_rank_19 : decode cX7_rank 19 = .ok (.aload_n 0, 1) := by decide +kernel
theorem dX7_rank_20 : decode cX7_rank 20 = .ok (.getfield 79, 3) := by decide +kernel
theorem dX7_rank_23 : decode cX7_rank 23 = .ok (.if_icmp .ge 40, 3) := by decide +kernel
theorem dX7_rank_26 : decode cX7_rank 26 = .ok (.aload_n 0, 1) := by decide +kernel
theorem dX7_rank_27 : decode cX7_rank 27 = .ok (.iload_n 3, 1) := by decide +kernel
theorem dX7_rank_28 : decode cX7_rank 28 = .ok (.iload_n 1, 1) := by decide +kernel
theorem dX7_rank_29 : decode cX7_rank 29 = .ok (.invokevirtual 121, 3) := by decide +kernel
theorem dX7_rank_32 : decode cX7_rank 32 = .ok (.istore 4, 2) := by decide +kernel
theorem dX7_rank_34 : decode cX7_rank 34 = .ok (.iload_n 2, 1) := by decide +kernel
theorem dX7_rank_35 : decode cX7_rank 35 = .ok (.iload 4, 2) := by decide +kernel
theorem dX7_rank_37 : decode cX7_rank 37 = .ok (.ifCond .lt 13, 3) := by decide +kernel
theorem dX7_rank_40 : decode cX7_rank 40 = .ok (.iload 4, 2) := by decide +kernel
theorem dX7_rank_42 : decode cX7_rank 42 = .ok (.ifCond .ne 12, 3) := by decide +kernel
theorem dX7_rank_45 : decode cX7_rank 45 = .ok (.iload_n 3, 1) := by decide +kernel
theorem dX7_rank_46 : decode cX7_rank 46 = .ok (.iload_n 1, 1) := by decide +kernel
theorem dX7_rank_47 : decode cX7_rank 47 = .ok (.if_icmp .ge 7, 3) := by decide +kernel
theorem dX7_rank_50 : decode cX7_rank 50 = .ok (.iconst 1, 1) := by decide +kernel
theorem dX7_rank_51 : decode cX7_rank 51 = .ok (.goto 4, 3) := by decide +kernel
theorem dX7_rank_54 : decode cX7_rank 54 = .ok (.iconst 0, 1) := by decide +kernel
theorem dX7_rank_55 : decode cX7_rank 55 = .ok (.iadd, 1) := by decide +kernel
theorem dX7_rank_56 : decode cX7_rank 56 = .ok (.istore_n 2, 1) := by decide +kernel
theorem dX7_rank_57 : decode cX7_rank 57 = .ok (.iinc 3 1, 3) := by decide +kernel
theorem dX7_rank_60 : decode cX7_rank 60 = .ok (.goto (-42), 3) := by decide +kernel
theorem dX7_rank_63 : decode cX7_rank 63 = .ok (.iload_n 2, 1) := by decide +kernel
theorem dX7_rank_64 : decode cX7_rank 64 = .ok (.ireturn, 1) := by decide +kernel
theorem dX7_digitsOf_0 : decode cX7_digitsOf 0 = .ok (.iload_n 0, 1) := by decide +kernel
theorem dX7_digitsOf_1 : decode cX7_digitsOf 1 = .ok (.bipush 10, 2) := by decide +kernel
theorem dX7_digitsOf_3 : decode cX7_digitsOf 3 = .ok (.if_icmp .ge 7, 3) := by decide +kernel
theorem dX7_digitsOf_6 : decode cX7_digitsOf 6 = .ok (.iconst 1, 1) := by decide +kernel
theorem dX7_digitsOf_7 : decode cX7_digitsOf 7 = .ok (.goto 4, 3) := by decide +kernel
theorem dX7_digitsOf_10 : decode cX7_digitsOf 10 = .ok (.iconst 2, 1) := by decide +kernel
theorem dX7_digitsOf_11 : decode cX7_digitsOf 11 = .ok (.ireturn, 1) := by decide +kernel
theorem dX7_digitOf_0 : decode cX7_digitOf 0 = .ok (.bipush 48, 2) := by decide +kernel
theorem dX7_digitOf_2 : decode cX7_digitOf 2 = .ok (.iload_n 0, 1) := by decide +kernel
theorem dX7_digitOf_3 : decode cX7_digitOf 3 = .ok (.invokestatic 404, 3) := by decide +kernel
theorem dX7_digitOf_6 : decode cX7_digitOf 6 = .ok (.iconst 1, 1) := by decide +kernel
theorem dX7_digitOf_7 : decode cX7_digitOf 7 = .ok (.if_icmp .eq 8, 3) := by decide +kernel
theorem dX7_digitOf_10 : decode cX7_digitOf 10 = .ok (.iload_n 1, 1) := by decide +kernel
theorem dX7_digitOf_11 : decode cX7_digitOf 11 = .ok (.iconst 1, 1) := by decide +kernel
theorem dX7_digitOf_12 : decode cX7_digitOf 12 = .ok (.if_icmp .ne 10, 3) := by decide +kernel
theorem dX7_digitOf_15 : decode cX7_digitOf 15 = .ok (.iload_n 0, 1) := by decide +kernel
theorem dX7_digitOf_16 : decode cX7_digitOf 16 = .ok (.bipush 10, 2) := by decide +kernel
theorem dX7_digitOf_18 : decode cX7_digitOf 18 = .ok (.irem, 1) := by decide +kernel
theorem dX7_digitOf_19 : decode cX7_digitOf 19 = .ok (.goto 7, 3) := by decide +kernel
theorem dX7_digitOf_22 : decode cX7_digitOf 22 = .ok (.iload_n 0, 1) := by decide +kernel
theorem dX7_digitOf_23 : decode cX7_digitOf 23 = .ok (.bipush 10, 2) := by decide +kernel
theorem dX7_digitOf_25 : decode cX7_digitOf 25 = .ok (.idiv, 1) := by decide +kernel
theorem dX7_digitOf_26 : decode cX7_digitOf 26 = .ok (.iadd, 1) := by decide +kernel
theorem dX7_digitOf_27 : decode cX7_digitOf 27 = .ok (.ireturn, 1) := by decide +kernel
theorem dX7_sideOf_0 : decode cX7_sideOf 0 = .ok (.iload_n 0, 1) := by decide +kernel
theorem dX7_sideOf_1 : decode cX7_sideOf 1 = .ok (.ifCond .ne 8, 3) := by decide +kernel
theorem dX7_sideOf_4 : decode cX7_sideOf 4 = .ok (.bipush 110, 2) := by decide +kernel
theorem dX7_sideOf_6 : decode cX7_sideOf 6 = .ok (.goto 25, 3) := by decide +kernel
theorem dX7_sideOf_9 : decode cX7_sideOf 9 = .ok (.iload_n 0, 1) := by decide +kernel
theorem dX7_sideOf_10 : decode cX7_sideOf 10 = .ok (.iconst 1, 1) := by decide +kernel
theorem dX7_sideOf_11 : decode cX7_sideOf 11 = .ok (.if_icmp .ne 8, 3) := by decide +kernel
theorem dX7_sideOf_14 : decode cX7_sideOf 14 = .ok (.bipush 101, 2) := by decide +kernel
theorem dX7_sideOf_16 : decode cX7_sideOf 16 = .ok (.goto 15, 3) := by decide +kernel
theorem dX7_sideOf_19 : decode cX7_sideOf 19 = .ok (.iload_n 0, 1) := by decide +kernel
theorem dX7_sideOf_20 : decode cX7_sideOf 20 = .ok (.iconst 2, 1) := by decide +kernel
theorem dX7_sideOf_21 : decode cX7_sideOf 21 = .ok (.if_icmp .ne 8, 3) := by decide +kernel
theorem dX7_sideOf_24 : decode cX7_sideOf 24 = .ok (.bipush 115, 2) := by decide +kernel
theorem dX7_sideOf_26 : decode cX7_sideOf 26 = .ok (.goto 5, 3) := by decide +kernel
theorem dX7_sideOf_29 : decode cX7_sideOf 29 = .ok (.bipush 119, 2) := by decide +kernel
theorem dX7_sideOf_31 : decode cX7_sideOf 31 = .ok (.ireturn, 1) := by decide +kernel
theorem dX7_lineAt_0 : decode cX7_lineAt 0 = .ok (.aload_n 0, 1) := by decide +kernel
theorem dX7_lineAt_1 : decode cX7_lineAt 1 = .ok (.getfield 43, 3) := by decide +kernel
theorem dX7_lineAt_4 : decode cX7_lineAt 4 = .ok (.iload_n 1, 1) := by decide +kernel
theorem dX7_lineAt_5 : decode cX7_lineAt 5 = .ok (.iaload, 1) := by decide +kernel
theorem dX7_lineAt_6 : decode cX7_lineAt 6 = .ok (.istore_n 3, 1) := by decide +kernel
theorem dX7_lineAt_7 : decode cX7_lineAt 7 = .ok (.iload_n 2, 1) := by decide +kernel
theorem dX7_lineAt_8 : decode cX7_lineAt 8 = .ok (.iload_n 3, 1) := by decide +kernel
theorem dX7_lineAt_9 : decode cX7_lineAt 9 = .ok (.if_icmp .ge 18, 3) := by decide +kernel
theorem dX7_lineAt_12 : decode cX7_lineAt 12 = .ok (.bipush 97, 2) := by decide +kernel
theorem dX7_lineAt_14 : decode cX7_lineAt 14 = .ok (.aload_n 0, 1) := by decide +kernel
theorem dX7_lineAt_15 : decode cX7_lineAt 15 = .ok (.getfield 46, 3) := by decide +kernel
theorem dX7_lineAt_18 : decode cX7_lineAt 18 = .ok (.bipush 6, 2) := by decide +kernel
theorem dX7_lineAt_20 : decode cX7_lineAt 20 = .ok (.iload_n 1, 1) := by decide +kernel
theorem dX7_lineAt_21 : decode cX7_lineAt 21 = .ok (.imul, 1) := by decide +kernel
theorem dX7_lineAt_22 : decode cX7_lineAt 22 = .ok (.iload_n 2, 1) := by decide +kernel
theorem dX7_lineAt_23 : decode cX7_lineAt 23 = .ok (.iadd, 1) := by decide +kernel
theorem dX7_lineAt_24 : decode cX7_lineAt 24 = .ok (.iaload, 1) := by decide +kernel
theorem dX7_lineAt_25 : decode cX7_lineAt 25 = .ok (.iadd, 1) := by decide +kernel
theorem dX7_lineAt_26 : decode cX7_lineAt 26 = .ok (.ireturn, 1) := by decide +kernel
theorem dX7_lineAt_27 : decode cX7_lineAt 27 = .ok (.iload_n 2, 1) := by decide +kernel
theorem dX7_lineAt_28 : decode cX7_lineAt 28 = .ok (.iload_n 3, 1) := by decide +kernel
theorem dX7_lineAt_29 : decode cX7_lineAt 29 = .ok (.if_icmp .ne 6, 3) := by decide +kernel
theorem dX7_lineAt_32 : decode cX7_lineAt 32 = .ok (.bipush 32, 2) := by decide +kernel
theorem dX7_lineAt_34 : decode cX7_lineAt 34 = .ok (.ireturn, 1) := by decide +kernel
theorem dX7_lineAt_35 : decode cX7_lineAt 35 = .ok (.iload_n 2, 1) := by decide +kernel
theorem dX7_lineAt_36 : decode cX7_lineAt 36 = .ok (.iload_n 3, 1) := by decide +kernel
theorem dX7_lineAt_37 : decode cX7_lineAt 37 = .ok (.isub, 1) := by decide +kernel
theorem dX7_lineAt_38 : decode cX7_lineAt 38 = .ok (.iconst 1, 1) := by decide +kernel
theorem dX7_lineAt_39 : decode cX7_lineAt 39 = .ok (.isub, 1) := by decide +kernel
theorem dX7_lineAt_40 : decode cX7_lineAt 40 = .ok (.istore 4, 2) := by decide +kernel
theorem dX7_lineAt_42 : decode cX7_lineAt 42 = .ok (.aload_n 0, 1) := by decide +kernel
theorem dX7_lineAt_43 : decode cX7_lineAt 43 = .ok (.getfield 28, 3) := by decide +kernel
theorem dX7_lineAt_46 : decode cX7_lineAt 46 = .ok (.iload_n 1, 1) := by decide +kernel
theorem dX7_lineAt_47 : decode cX7_lineAt 47 = .ok (.iaload, 1) := by decide +kernel
theorem dX7_lineAt_48 : decode cX7_lineAt 48 = .ok (.invokestatic 404, 3) := by decide +kernel
theorem dX7_lineAt_51 : decode cX7_lineAt 51 = .ok (.istore 5, 2) := by decide +kernel
theorem dX7_lineAt_53 : decode cX7_lineAt 53 = .ok (.iload 4, 2) := by decide +kernel
theorem dX7_lineAt_55 : decode cX7_lineAt 55 = .ok (.iload 5, 2) := by decide +kernel
theorem dX7_lineAt_57 : decode cX7_lineAt 57 = .ok (.if_icmp .ge 15, 3) := by decide +kernel
theorem dX7_lineAt_60 : decode cX7_lineAt 60 = .ok (.aload_n 0, 1) := by decide +kernel
theorem dX7_lineAt_61 : decode cX7_lineAt 61 = .ok (.getfield 28, 3) := by decide +kernel
theorem dX7_lineAt_64 : decode cX7_lineAt 64 = .ok (.iload_n 1, 1) := by decide +kernel
theorem dX7_lineAt_65 : decode cX7_lineAt 65 = .ok (.iaload, 1) := by decide +kernel
theorem dX7_lineAt_66 : decode cX7_lineAt 66 = .ok (.iload 4, 2) := by decide +kernel
theorem dX7_lineAt_68 : decode cX7_lineAt 68 = .ok (.invokestatic 407, 3) := by decide +kernel
theorem dX7_lineAt_71 : decode cX7_lineAt 71 = .ok (.ireturn, 1) := by decide +kernel
theorem dX7_lineAt_72 : decode cX7_lineAt 72 = .ok (.iload 4, 2) := by decide +kernel
theorem dX7_lineAt_74 : decode cX7_lineAt 74 = .ok (.iload 5, 2) := by decide +kernel
theorem dX7_lineAt_76 : decode cX7_lineAt 76 = .ok (.isub, 1) := by decide +kernel
theorem dX7_lineAt_77 : decode cX7_lineAt 77 = .ok (.istore 4, 2) := by decide +kernel
theorem dX7_lineAt_79 : decode cX7_lineAt 79 = .ok (.iload 4, 2) := by decide +kernel
theorem dX7_lineAt_81 : decode cX7_lineAt 81 = .ok (.ifCond .ne 13, 3) := by decide +kernel
theorem dX7_lineAt_84 : decode cX7_lineAt 84 = .ok (.aload_n 0, 1) := by decide +kernel
theorem dX7_lineAt_85 : decode cX7_lineAt 85 = .ok (.getfield 31, 3) := by decide +kernel
theorem dX7_lineAt_88 : decode cX7_lineAt 88 = .ok (.iload_n 1, 1) := by decide +kernel
theorem dX7_lineAt_89 : decode cX7_lineAt 89 = .ok (.iaload, 1) := by decide +kernel
theorem dX7_lineAt_90 : decode cX7_lineAt 90 = .ok (.invokestatic 410, 3) := by decide +kernel
theorem dX7_lineAt_93 : decode cX7_lineAt 93 = .ok (.ireturn, 1) := by decide +kernel
theorem dX7_lineAt_94 : decode cX7_lineAt 94 = .ok (.aload_n 0, 1) := by decide +kernel
theorem dX7_lineAt_95 : decode cX7_lineAt 95 = .ok (.getfield 40, 3) := by decide +kernel
theorem dX7_lineAt_98 : decode cX7_lineAt 98 = .ok (.iload_n 1, 1) := by decide +kernel
theorem dX7_lineAt_99 : decode cX7_lineAt 99 = .ok (.iaload, 1) := by decide +kernel
theorem dX7_lineAt_100 : decode cX7_lineAt 100 = .ok (.iconst 1, 1) := by decide +kernel
theorem dX7_lineAt_101 : decode cX7_lineAt 101 = .ok (.if_icmp .ne 17, 3) := by decide +kernel
theorem dX7_lineAt_104 : decode cX7_lineAt 104 = .ok (.iload 4, 2) := by decide +kernel
theorem dX7_lineAt_106 : decode cX7_lineAt 106 = .ok (.iconst 1, 1) := by decide +kernel
theorem dX7_lineAt_107 : decode cX7_lineAt 107 = .ok (.if_icmp .ne 8, 3) := by decide +kernel
theorem dX7_lineAt_110 : decode cX7_lineAt 110 = .ok (.bipush 33, 2) := by decide +kernel
theorem dX7_lineAt_112 : decode cX7_lineAt 112 = .ok (.goto 5, 3) := by decide +kernel
theorem dX7_lineAt_115 : decode cX7_lineAt 115 = .ok (.bipush (-9), 2) := by decide +kernel
theorem dX7_lineAt_117 : decode cX7_lineAt 117 = .ok (.ireturn, 1) := by decide +kernel
theorem dX7_lineAt_118 : decode cX7_lineAt 118 = .ok (.iload 4, 2) := by decide +kernel
theorem dX7_lineAt_120 : decode cX7_lineAt 120 = .ok (.iconst 1, 1) := by decide +kernel
theorem dX7_lineAt_121 : decode cX7_lineAt 121 = .ok (.isub, 1) := by decide +kernel
theorem dX7_lineAt_122 : decode cX7_lineAt 122 = .ok (.aload_n 0, 1) := by decide +kernel
theorem dX7_lineAt_123 : decode cX7_lineAt 123 = .ok (.getfield 37, 3) := by decide +kernel
theorem dX7_lineAt_126 : decode cX7_lineAt 126 = .ok (.iload_n 1, 1) := by decide +kernel
theorem dX7_lineAt_127 : decode cX7_lineAt 127 = .ok (.iaload, 1) := by decide +kernel
theorem dX7_lineAt_128 : decode cX7_lineAt 128 = .ok (.invokestatic 404, 3) := by decide +kernel
theorem dX7_lineAt_131 : decode cX7_lineAt 131 = .ok (.if_icmp .ge 19, 3) := by decide +kernel
theorem dX7_lineAt_134 : decode cX7_lineAt 134 = .ok (.aload_n 0, 1) := by decide +kernel
theorem dX7_lineAt_135 : decode cX7_lineAt 135 = .ok (.getfield 37, 3) := by decide +kernel
theorem dX7_lineAt_138 : decode cX7_lineAt 138 = .ok (.iload_n 1, 1) := by decide +kernel
theorem dX7_lineAt_139 : decode cX7_lineAt 139 = .ok (.iaload, 1) := by decide +kernel
theorem dX7_lineAt_140 : decode cX7_lineAt 140 = .ok (.iload 4, 2) := by decide +kernel
theorem dX7_lineAt_142 : decode cX7_lineAt 142 = .ok (.iconst 1, 1) := by decide +kernel
theorem dX7_lineAt_143 : decode cX7_lineAt 143 = .ok (.isub, 1) := by decide +kernel
theorem dX7_lineAt_144 : decode cX7_lineAt 144 = .ok (.invokestatic 407, 3) := by decide +kernel
theorem dX7_lineAt_147 : decode cX7_lineAt 147 = .ok (.goto 5, 3) := by decide +kernel
theorem dX7_lineAt_150 : decode cX7_lineAt 150 = .ok (.bipush (-9), 2) := by decide +kernel
theorem dX7_lineAt_152 : decode cX7_lineAt 152 = .ok (.ireturn, 1) := by decide +kernel
theorem dX7_line_0 : decode cX7_line 0 = .ok (.aload_n 0, 1) := by decide +kernel
theorem dX7_line_1 : decode cX7_line 1 = .ok (.iload_n 1, 1) := by decide +kernel
theorem dX7_line_2 : decode cX7_line 2 = .ok (.invokevirtual 89, 3) := by decide +kernel
theorem dX7_line_5 : decode cX7_line 5 = .ok (.ifCond .ne 7, 3) := by decide +kernel
theorem dX7_line_8 : decode cX7_line 8 = .ok (.iconst (-1), 1) := by decide +kernel
theorem dX7_line_9 : decode cX7_line 9 = .ok (.goto 13, 3) := by decide +kernel
theorem dX7_line_12 : decode cX7_line 12 = .ok (.iload_n 2, 1) := by decide +kernel
theorem dX7_line_13 : decode cX7_line 13 = .ok (.ifCond .ge 8, 3) := by decide +kernel
theorem dX7_line_16 : decode cX7_line 16 = .ok (.bipush (-4), 2) := by decide +kernel
theorem dX7_line_18 : decode cX7_line 18 = .ok (.goto 4, 3) := by decide +kernel
theorem dX7_line_21 : decode cX7_line 21 = .ok (.iconst 0, 1) := by decide +kernel
theorem dX7_line_22 : decode cX7_line 22 = .ok (.istore_n 3, 1) := by decide +kernel
theorem dX7_line_23 : decode cX7_line 23 = .ok (.iload_n 3, 1) := by decide +kernel
theorem dX7_line_24 : decode cX7_line 24 = .ok (.ifCond .eq 9, 3) := by decide +kernel
theorem dX7_line_27 : decode cX7_line 27 = .ok (.aload_n 0, 1) := by decide +kernel
theorem dX7_line_28 : decode cX7_line 28 = .ok (.iload_n 3, 1) := by decide +kernel
theorem dX7_line_29 : decode cX7_line 29 = .ok (.invokevirtual 170, 3) := by decide +kernel
theorem dX7_line_32 : decode cX7_line 32 = .ok (.ireturn, 1) := by decide +kernel
theorem dX7_line_33 : decode cX7_line 33 = .ok (.iload_n 2, 1) := by decide +kernel
theorem dX7_line_34 : decode cX7_line 34 = .ok (.bipush 30, 2) := by decide +kernel
theorem dX7_line_36 : decode cX7_line 36 = .ok (.if_icmp .le 8, 3) := by decide +kernel
theorem dX7_line_39 : decode cX7_line 39 = .ok (.bipush (-9), 2) := by decide +kernel
theorem dX7_line_41 : decode cX7_line 41 = .ok (.goto 9, 3) := by decide +kernel
theorem dX7_line_44 : decode cX7_line 44 = .ok (.aload_n 0, 1) := by decide +kernel
theorem dX7_line_45 : decode cX7_line 45 = .ok (.iload_n 1, 1) := by decide +kernel
theorem dX7_line_46 : decode cX7_line 46 = .ok (.iload_n 2, 1) := by decide +kernel
theorem dX7_line_47 : decode cX7_line 47 = .ok (.invokevirtual 413, 3) := by decide +kernel
theorem dX7_line_50 : decode cX7_line 50 = .ok (.ireturn, 1) := by decide +kernel
theorem dX7_power_0 : decode cX7_power 0 = .ok (.aload_n 0, 1) := by decide +kernel
theorem dX7_power_1 : decode cX7_power 1 = .ok (.iload_n 1, 1) := by decide +kernel
theorem dX7_power_2 : decode cX7_power 2 = .ok (.invokevirtual 89, 3) := by decide +kernel
theorem dX7_power_5 : decode cX7_power 5 = .ok (.ifCond .ne 9, 3) := by decide +kernel
theorem dX7_power_8 : decode cX7_power 8 = .ok (.aload_n 0, 1) := by decide +kernel
theorem dX7_power_9 : decode cX7_power 9 = .ok (.iconst (-1), 1) := by decide +kernel
theorem dX7_power_10 : decode cX7_power 10 = .ok (.invokevirtual 170, 3) := by decide +kernel
theorem dX7_power_13 : decode cX7_power 13 = .ok (.ireturn, 1) := by decide +kernel
theorem dX7_power_14 : decode cX7_power 14 = .ok (.aload_n 0, 1) := by decide +kernel
theorem dX7_power_15 : decode cX7_power 15 = .ok (.getfield 37, 3) := by decide +kernel
theorem dX7_power_18 : decode cX7_power 18 = .ok (.aload_n 0, 1) := by decide +kernel
theorem dX7_power_19 : decode cX7_power 19 = .ok (.getfield 79, 3) := by decide +kernel
theorem dX7_power_22 : decode cX7_power 22 = .ok (.invokestatic 352, 3) := by decide +kernel
theorem dX7_power_25 : decode cX7_power 25 = .ok (.istore_n 2, 1) := by decide +kernel
theorem dX7_power_26 : decode cX7_power 26 = .ok (.iconst 0, 1) := by decide +kernel
theorem dX7_power_27 : decode cX7_power 27 = .ok (.istore_n 3, 1) := by decide +kernel
theorem dX7_power_28 : decode cX7_power 28 = .ok (.iconst 0, 1) := by decide +kernel
theorem dX7_power_29 : decode cX7_power 29 = .ok (.istore 4, 2) := by decide +kernel
theorem dX7_power_31 : decode cX7_power 31 = .ok (.iload 4, 2) := by decide +kernel
theorem dX7_power_33 : decode cX7_power 33 = .ok (.iconst 1, 1) := by decide +kernel
theorem dX7_power_34 : decode cX7_power 34 = .ok (.aload_n 0, 1) := by decide +kernel
theorem dX7_power_35 : decode cX7_power 35 = .ok (.getfield 79, 3) := by decide +kernel
theorem dX7_power_38 : decode cX7_power 38 = .ok (.ishl, 1) := by decide +kernel
theorem dX7_power_39 : decode cX7_power 39 = .ok (.if_icmp .ge 99, 3) := by decide +kernel
theorem dX7_power_42 : decode cX7_power 42 = .ok (.iload 4, 2) := by decide +kernel
theorem dX7_power_44 : decode cX7_power 44 = .ok (.iload_n 1, 1) := by decide +kernel
theorem dX7_power_45 : decode cX7_power 45 = .ok (.invokestatic 356, 3) := by decide +kernel
theorem dX7_power_48 : decode cX7_power 48 = .ok (.ifCond .eq 6, 3) := by decide +kernel
theorem dX7_power_51 : decode cX7_power 51 = .ok (.goto 81, 3) := by decide +kernel
theorem dX7_power_54 : decode cX7_power 54 = .ok (.iconst 0, 1) := by decide +kernel
theorem dX7_power_55 : decode cX7_power 55 = .ok (.istore 5, 2) := by decide +kernel
theorem dX7_power_57 : decode cX7_power 57 = .ok (.iconst 0, 1) := by decide +kernel
theorem dX7_power_58 : decode cX7_power 58 = .ok (.istore 6, 2) := by decide +kernel
theorem dX7_power_60 : decode cX7_power 60 = .ok (.iload 6, 2) := by decide +kernel
theorem dX7_power_62 : decode cX7_power 62 = .ok (.aload_n 0, 1) := by decide +kernel
theorem dX7_power_63 : decode cX7_power 63 = .ok (.getfield 79, 3) := by decide +kernel
theorem dX7_power_66 : decode cX7_power 66 = .ok (.if_icmp .ge 35, 3) := by decide +kernel
theorem dX7_power_69 : decode cX7_power 69 = .ok (.iload 5, 2) := by decide +kernel
theorem dX7_power_71 : decode cX7_power 71 = .ok (.iload 4, 2) := by decide +kernel
theorem dX7_power_73 : decode cX7_power 73 = .ok (.iload 6, 2) := by decide +kernel
theorem dX7_power_75 : decode cX7_power 75 = .ok (.invokestatic 356, 3) := by decide +kernel
theorem dX7_power_78 : decode cX7_power 78 = .ok (.ifCond .eq 13, 3) := by decide +kernel
theorem dX7_power_81 : decode cX7_power 81 = .ok (.aload_n 0, 1) := by decide +kernel
theorem dX7_power_82 : decode cX7_power 82 = .ok (.getfield 37, 3) := by decide +kernel
theorem dX7_power_85 : decode cX7_power 85 = .ok (.iload 6, 2) := by decide +kernel
theorem dX7_power_87 : decode cX7_power 87 = .ok (.iaload, 1) := by decide +kernel
theorem dX7_power_88 : decode cX7_power 88 = .ok (.goto 4, 3) := by decide +kernel
theorem dX7_power_91 : decode cX7_power 91 = .ok (.iconst 0, 1) := by decide +kernel
theorem dX7_power_92 : decode cX7_power 92 = .ok (.iadd, 1) := by decide +kernel
theorem dX7_power_93 : decode cX7_power 93 = .ok (.istore 5, 2) := by decide +kernel
theorem dX7_power_95 : decode cX7_power 95 = .ok (.iinc 6 1, 3) := by decide +kernel
theorem dX7_power_98 : decode cX7_power 98 = .ok (.goto (-38), 3) := by decide +kernel
theorem dX7_power_101 : decode cX7_power 101 = .ok (.iload_n 3, 1) := by decide +kernel
theorem dX7_power_102 : decode cX7_power 102 = .ok (.iconst 2, 1) := by decide +kernel
theorem dX7_power_103 : decode cX7_power 103 = .ok (.iload 5, 2) := by decide +kernel
theorem dX7_power_105 : decode cX7_power 105 = .ok (.imul, 1) := by decide +kernel
theorem dX7_power_106 : decode cX7_power 106 = .ok (.iload_n 2, 1) := by decide +kernel
theorem dX7_power_107 : decode cX7_power 107 = .ok (.if_icmp .gt 22, 3) := by decide +kernel
theorem dX7_power_110 : decode cX7_power 110 = .ok (.iconst 2, 1) := by decide +kernel
theorem dX7_power_111 : decode cX7_power 111 = .ok (.iload 5, 2) := by decide +kernel
theorem dX7_power_113 : decode cX7_power 113 = .ok (.aload_n 0, 1) := by decide +kernel
theorem dX7_power_114 : decode cX7_power 114 = .ok (.getfield 37, 3) := by decide +kernel
theorem dX7_power_117 : decode cX7_power 117 = .ok (.iload_n 1, 1) := by decide +kernel
theorem dX7_power_118 : decode cX7_power 118 = .ok (.iaload, 1) := by decide +kernel
theorem dX7_power_119 : decode cX7_power 119 = .ok (.iadd, 1) := by decide +kernel
theorem dX7_power_120 : decode cX7_power 120 = .ok (.imul, 1) := by decide +kernel
theorem dX7_power_121 : decode cX7_power 121 = .ok (.iload_n 2, 1) := by decide +kernel
theorem dX7_power_122 : decode cX7_power 122 = .ok (.if_icmp .le 7, 3) := by decide +kernel
theorem dX7_power_125 : decode cX7_power 125 = .ok (.iconst 1, 1) := by decide +kernel
theorem dX7_power_126 : decode cX7_power 126 = .ok (.goto 4, 3) := by decide +kernel
theorem dX7_power_129 : decode cX7_power 129 = .ok (.iconst 0, 1) := by decide +kernel
theorem dX7_power_130 : decode cX7_power 130 = .ok (.iadd, 1) := by decide +kernel
theorem dX7_power_131 : decode cX7_power 131 = .ok (.istore_n 3, 1) := by decide +kernel
theorem dX7_power_132 : decode cX7_power 132 = .ok (.iinc 4 1, 3) := by decide +kernel
theorem dX7_power_135 : decode cX7_power 135 = .ok (.goto (-104), 3) := by decide +kernel
theorem dX7_power_138 : decode cX7_power 138 = .ok (.iload_n 3, 1) := by decide +kernel
theorem dX7_power_139 : decode cX7_power 139 = .ok (.ireturn, 1) := by decide +kernel
theorem dX7_share_0 : decode cX7_share 0 = .ok (.aload_n 0, 1) := by decide +kernel
theorem dX7_share_1 : decode cX7_share 1 = .ok (.iload_n 1, 1) := by decide +kernel
theorem dX7_share_2 : decode cX7_share 2 = .ok (.invokevirtual 89, 3) := by decide +kernel
theorem dX7_share_5 : decode cX7_share 5 = .ok (.ifCond .ne 7, 3) := by decide +kernel
theorem dX7_share_8 : decode cX7_share 8 = .ok (.iconst (-1), 1) := by decide +kernel
theorem dX7_share_9 : decode cX7_share 9 = .ok (.goto 18, 3) := by decide +kernel
theorem dX7_share_12 : decode cX7_share 12 = .ok (.iload_n 2, 1) := by decide +kernel
theorem dX7_share_13 : decode cX7_share 13 = .ok (.iconst 0, 1) := by decide +kernel
theorem dX7_share_14 : decode cX7_share 14 = .ok (.iconst 1, 1) := by decide +kernel
theorem dX7_share_15 : decode cX7_share 15 = .ok (.invokestatic 85, 3) := by decide +kernel
theorem dX7_share_18 : decode cX7_share 18 = .ok (.ifCond .ne 8, 3) := by decide +kernel
theorem dX7_share_21 : decode cX7_share 21 = .ok (.bipush (-2), 2) := by decide +kernel
theorem dX7_share_23 : decode cX7_share 23 = .ok (.goto 4, 3) := by decide +kernel
theorem dX7_share_26 : decode cX7_share 26 = .ok (.iconst 0, 1) := by decide +kernel
theorem dX7_share_27 : decode cX7_share 27 = .ok (.istore_n 3, 1) := by decide +kernel
theorem dX7_share_28 : decode cX7_share 28 = .ok (.iload_n 3, 1) := by decide +kernel
theorem dX7_share_29 : decode cX7_share 29 = .ok (.ifCond .eq 9, 3) := by decide +kernel
theorem dX7_share_32 : decode cX7_share 32 = .ok (.aload_n 0, 1) := by decide +kernel
theorem dX7_share_33 : decode cX7_share 33 = .ok (.iload_n 3, 1) := by decide +kernel
theorem dX7_share_34 : decode cX7_share 34 = .ok (.invokevirtual 387, 3) := by decide +kernel
theorem dX7_share_37 : decode cX7_share 37 = .ok (.lreturn, 1) := by decide +kernel
theorem dX7_share_38 : decode cX7_share 38 = .ok (.aload_n 0, 1) := by decide +kernel
theorem dX7_share_39 : decode cX7_share 39 = .ok (.getfield 37, 3) := by decide +kernel
theorem dX7_share_42 : decode cX7_share 42 = .ok (.aload_n 0, 1) := by decide +kernel
theorem dX7_share_43 : decode cX7_share 43 = .ok (.getfield 79, 3) := by decide +kernel
theorem dX7_share_46 : decode cX7_share 46 = .ok (.invokestatic 352, 3) := by decide +kernel
theorem dX7_share_49 : decode cX7_share 49 = .ok (.istore 4, 2) := by decide +kernel
theorem dX7_share_51 : decode cX7_share 51 = .ok (.iload 4, 2) := by decide +kernel
theorem dX7_share_53 : decode cX7_share 53 = .ok (.ifCond .ne 8, 3) := by decide +kernel
theorem dX7_share_56 : decode cX7_share 56 = .ok (.iload_n 2, 1) := by decide +kernel
theorem dX7_share_57 : decode cX7_share 57 = .ok (.i2l, 1) := by decide +kernel
theorem dX7_share_58 : decode cX7_share 58 = .ok (.goto 17, 3) := by decide +kernel
theorem dX7_share_61 : decode cX7_share 61 = .ok (.aload_n 0, 1) := by decide +kernel
theorem dX7_share_62 : decode cX7_share 62 = .ok (.getfield 37, 3) := by decide +kernel
theorem dX7_share_65 : decode cX7_share 65 = .ok (.iload_n 1, 1) := by decide +kernel
theorem dX7_share_66 : decode cX7_share 66 = .ok (.iaload, 1) := by decide +kernel
theorem dX7_share_67 : decode cX7_share 67 = .ok (.i2l, 1) := by decide +kernel
theorem dX7_share_68 : decode cX7_share 68 = .ok (.iload 4, 2) := by decide +kernel
theorem dX7_share_70 : decode cX7_share 70 = .ok (.i2l, 1) := by decide +kernel
theorem dX7_share_71 : decode cX7_share 71 = .ok (.iload_n 2, 1) := by decide +kernel
theorem dX7_share_72 : decode cX7_share 72 = .ok (.invokestatic 391, 3) := by decide +kernel
theorem dX7_share_75 : decode cX7_share 75 = .ok (.lreturn, 1) := by decide +kernel
theorem dX7_far_0 : decode cX7_far 0 = .ok (.iload_n 0, 1) := by decide +kernel
theorem dX7_far_1 : decode cX7_far 1 = .ok (.bipush 8, 2) := by decide +kernel
theorem dX7_far_3 : decode cX7_far 3 = .ok (.idiv, 1) := by decide +kernel
theorem dX7_far_4 : decode cX7_far 4 = .ok (.iload_n 1, 1) := by decide +kernel
theorem dX7_far_5 : decode cX7_far 5 = .ok (.bipush 8, 2) := by decide +kernel
theorem dX7_far_7 : decode cX7_far 7 = .ok (.idiv, 1) := by decide +kernel
theorem dX7_far_8 : decode cX7_far 8 = .ok (.invokestatic 416, 3) := by decide +kernel
theorem dX7_far_11 : decode cX7_far 11 = .ok (.iload_n 0, 1) := by decide +kernel
theorem dX7_far_12 : decode cX7_far 12 = .ok (.bipush 8, 2) := by decide +kernel
theorem dX7_far_14 : decode cX7_far 14 = .ok (.irem, 1) := by decide +kernel
theorem dX7_far_15 : decode cX7_far 15 = .ok (.iload_n 1, 1) := by decide +kernel
theorem dX7_far_16 : decode cX7_far 16 = .ok (.bipush 8, 2) := by decide +kernel
theorem dX7_far_18 : decode cX7_far 18 = .ok (.irem, 1) := by decide +kernel
theorem dX7_far_19 : decode cX7_far 19 = .ok (.invokestatic 416, 3) := by decide +kernel
theorem dX7_far_22 : decode cX7_far 22 = .ok (.iadd, 1) := by decide +kernel
theorem dX7_far_23 : decode cX7_far 23 = .ok (.ireturn, 1) := by decide +kernel
theorem dX7_nearest_0 : decode cX7_nearest 0 = .ok (.iload_n 1, 1) := by decide +kernel
theorem dX7_nearest_1 : decode cX7_nearest 1 = .ok (.invokestatic 244, 3) := by decide +kernel
theorem dX7_nearest_4 : decode cX7_nearest 4 = .ok (.ifCond .ne 7, 3) := by decide +kernel
theorem dX7_nearest_7 : decode cX7_nearest 7 = .ok (.iconst (-1), 1) := by decide +kernel
theorem dX7_nearest_8 : decode cX7_nearest 8 = .ok (.goto 18, 3) := by decide +kernel
theorem dX7_nearest_11 : decode cX7_nearest 11 = .ok (.iload_n 2, 1) := by decide +kernel
theorem dX7_nearest_12 : decode cX7_nearest 12 = .ok (.iconst 0, 1) := by decide +kernel
theorem dX7_nearest_13 : decode cX7_nearest 13 = .ok (.iconst 1, 1) := by decide +kernel
theorem dX7_nearest_14 : decode cX7_nearest 14 = .ok (.invokestatic 85, 3) := by decide +kernel
theorem dX7_nearest_17 : decode cX7_nearest 17 = .ok (.ifCond .ne 8, 3) := by decide +kernel
theorem dX7_nearest_20 : decode cX7_nearest 20 = .ok (.bipush (-2), 2) := by decide +kernel
theorem dX7_nearest_22 : decode cX7_nearest 22 = .ok (.goto 4, 3) := by decide +kernel
theorem dX7_nearest_25 : decode cX7_nearest 25 = .ok (.iconst 0, 1) := by decide +kernel
theorem dX7_nearest_26 : decode cX7_nearest 26 = .ok (.istore_n 3, 1) := by decide +kernel
theorem dX7_nearest_27 : decode cX7_nearest 27 = .ok (.iload_n 3, 1) := by decide +kernel
theorem dX7_nearest_28 : decode cX7_nearest 28 = .ok (.ifCond .eq 9, 3) := by decide +kernel
theorem dX7_nearest_31 : decode cX7_nearest 31 = .ok (.aload_n 0, 1) := by decide +kernel
theorem dX7_nearest_32 : decode cX7_nearest 32 = .ok (.iload_n 3, 1) := by decide +kernel
theorem dX7_nearest_33 : decode cX7_nearest 33 = .ok (.invokevirtual 170, 3) := by decide +kernel
theorem dX7_nearest_36 : decode cX7_nearest 36 = .ok (.ireturn, 1) := by decide +kernel
theorem dX7_nearest_37 : decode cX7_nearest 37 = .ok (.bipush (-9), 2) := by decide +kernel
theorem dX7_nearest_39 : decode cX7_nearest 39 = .ok (.istore 4, 2) := by decide +kernel
theorem dX7_nearest_41 : decode cX7_nearest 41 = .ok (.iconst 0, 1) := by decide +kernel
theorem dX7_nearest_42 : decode cX7_nearest 42 = .ok (.istore 5, 2) := by decide +kernel
theorem dX7_nearest_44 : decode cX7_nearest 44 = .ok (.iload 5, 2) := by decide +kernel
theorem dX7_nearest_46 : decode cX7_nearest 46 = .ok (.aload_n 0, 1) := by decide +kernel
theorem dX7_nearest_47 : decode cX7_nearest 47 = .ok (.getfield 79, 3) := by decide +kernel
theorem dX7_nearest_50 : decode cX7_nearest 50 = .ok (.if_icmp .ge 43, 3) := by decide +kernel
theorem dX7_nearest_53 : decode cX7_nearest 53 = .ok (.iload 4, 2) := by decide +kernel
theorem dX7_nearest_55 : decode cX7_nearest 55 = .ok (.ifCond .lt 28, 3) := by decide +kernel
theorem dX7_nearest_58 : decode cX7_nearest 58 = .ok (.aload_n 0, 1) := by decide +kernel
theorem dX7_nearest_59 : decode cX7_nearest 59 = .ok (.getfield 28, 3) := by decide +kernel
theorem dX7_nearest_62 : decode cX7_nearest 62 = .ok (.iload 5, 2) := by decide +kernel
theorem dX7_nearest_64 : decode cX7_nearest 64 = .ok (.iaload, 1) := by decide +kernel
theorem dX7_nearest_65 : decode cX7_nearest 65 = .ok (.iload_n 1, 1) := by decide +kernel
theorem dX7_nearest_66 : decode cX7_nearest 66 = .ok (.invokestatic 419, 3) := by decide +kernel
theorem dX7_nearest_69 : decode cX7_nearest 69 = .ok (.aload_n 0, 1) := by decide +kernel
theorem dX7_nearest_70 : decode cX7_nearest 70 = .ok (.getfield 28, 3) := by decide +kernel
theorem dX7_nearest_73 : decode cX7_nearest 73 = .ok (.iload 4, 2) := by decide +kernel
theorem dX7_nearest_75 : decode cX7_nearest 75 = .ok (.iaload, 1) := by decide +kernel
theorem dX7_nearest_76 : decode cX7_nearest 76 = .ok (.iload_n 1, 1) := by decide +kernel
theorem dX7_nearest_77 : decode cX7_nearest 77 = .ok (.invokestatic 419, 3) := by decide +kernel
theorem dX7_nearest_80 : decode cX7_nearest 80 = .ok (.if_icmp .ge 7, 3) := by decide +kernel
theorem dX7_nearest_83 : decode cX7_nearest 83 = .ok (.iload 5, 2) := by decide +kernel
theorem dX7_nearest_85 : decode cX7_nearest 85 = .ok (.istore 4, 2) := by decide +kernel
theorem dX7_nearest_87 : decode cX7_nearest 87 = .ok (.iinc 5 1, 3) := by decide +kernel
theorem dX7_nearest_90 : decode cX7_nearest 90 = .ok (.goto (-46), 3) := by decide +kernel
theorem dX7_nearest_93 : decode cX7_nearest 93 = .ok (.iload 4, 2) := by decide +kernel
theorem dX7_nearest_95 : decode cX7_nearest 95 = .ok (.ifCond .ge 8, 3) := by decide +kernel
theorem dX7_nearest_98 : decode cX7_nearest 98 = .ok (.bipush (-9), 2) := by decide +kernel
theorem dX7_nearest_100 : decode cX7_nearest 100 = .ok (.goto 23, 3) := by decide +kernel
theorem dX7_nearest_103 : decode cX7_nearest 103 = .ok (.iload_n 2, 1) := by decide +kernel
theorem dX7_nearest_104 : decode cX7_nearest 104 = .ok (.ifCond .ne 8, 3) := by decide +kernel
theorem dX7_nearest_107 : decode cX7_nearest 107 = .ok (.iload 4, 2) := by decide +kernel
theorem dX7_nearest_109 : decode cX7_nearest 109 = .ok (.goto 14, 3) := by decide +kernel
theorem dX7_nearest_112 : decode cX7_nearest 112 = .ok (.aload_n 0, 1) := by decide +kernel
theorem dX7_nearest_113 : decode cX7_nearest 113 = .ok (.getfield 28, 3) := by decide +kernel
theorem dX7_nearest_116 : decode cX7_nearest 116 = .ok (.iload 4, 2) := by decide +kernel
theorem dX7_nearest_118 : decode cX7_nearest 118 = .ok (.iaload, 1) := by decide +kernel
theorem dX7_nearest_119 : decode cX7_nearest 119 = .ok (.iload_n 1, 1) := by decide +kernel
theorem dX7_nearest_120 : decode cX7_nearest 120 = .ok (.invokestatic 419, 3) := by decide +kernel
theorem dX7_nearest_123 : decode cX7_nearest 123 = .ok (.ireturn, 1) := by decide +kernel
theorem dX7_goesFurther_0 : decode cX7_goesFurther 0 = .ok (.iconst 0, 1) := by decide +kernel
theorem dX7_goesFurther_1 : decode cX7_goesFurther 1 = .ok (.istore_n 2, 1) := by decide +kernel
theorem dX7_goesFurther_2 : decode cX7_goesFurther 2 = .ok (.iconst 0, 1) := by decide +kernel
theorem dX7_goesFurther_3 : decode cX7_goesFurther 3 = .ok (.istore_n 3, 1) := by decide +kernel
theorem dX7_goesFurther_4 : decode cX7_goesFurther 4 = .ok (.iload_n 3, 1) := by decide +kernel
theorem dX7_goesFurther_5 : decode cX7_goesFurther 5 = .ok (.bipush 48, 2) := by decide +kernel
theorem dX7_goesFurther_7 : decode cX7_goesFurther 7 = .ok (.if_icmp .ge 82, 3) := by decide +kernel
theorem dX7_goesFurther_10 : decode cX7_goesFurther 10 = .ok (.iconst 0, 1) := by decide +kernel
theorem dX7_goesFurther_11 : decode cX7_goesFurther 11 = .ok (.istore 4, 2) := by decide +kernel
theorem dX7_goesFurther_13 : decode cX7_goesFurther 13 = .ok (.iload 4, 2) := by decide +kernel
theorem dX7_goesFurther_15 : decode cX7_goesFurther 15 = .ok (.iconst 4, 1) := by decide +kernel
theorem dX7_goesFurther_16 : decode cX7_goesFurther 16 = .ok (.if_icmp .ge 67, 3) := by decide +kernel
theorem dX7_goesFurther_19 : decode cX7_goesFurther 19 = .ok (.aload_n 0, 1) := by decide +kernel
theorem dX7_goesFurther_20 : decode cX7_goesFurther 20 = .ok (.getfield 76, 3) := by decide +kernel
theorem dX7_goesFurther_23 : decode cX7_goesFurther 23 = .ok (.iload_n 3, 1) := by decide +kernel
theorem dX7_goesFurther_24 : decode cX7_goesFurther 24 = .ok (.iaload, 1) := by decide +kernel
theorem dX7_goesFurther_25 : decode cX7_goesFurther 25 = .ok (.iload_n 1, 1) := by decide +kernel
theorem dX7_goesFurther_26 : decode cX7_goesFurther 26 = .ok (.if_icmp .ne 57, 3) := by decide +kernel
theorem dX7_goesFurther_29 : decode cX7_goesFurther 29 = .ok (.iload_n 3, 1) := by decide +kernel
theorem dX7_goesFurther_30 : decode cX7_goesFurther 30 = .ok (.iload 4, 2) := by decide +kernel
theorem dX7_goesFurther_32 : decode cX7_goesFurther 32 = .ok (.invokestatic 100, 3) := by decide +kernel
theorem dX7_goesFurther_35 : decode cX7_goesFurther 35 = .ok (.istore 5, 2) := by decide +kernel
theorem dX7_goesFurther_37 : decode cX7_goesFurther 37 = .ok (.iload 5, 2) := by decide +kernel
theorem dX7_goesFurther_39 : decode cX7_goesFurther 39 = .ok (.ifCond .lt 38, 3) := by decide +kernel
theorem dX7_goesFurther_42 : decode cX7_goesFurther 42 = .ok (.aload_n 0, 1) := by decide +kernel
theorem dX7_goesFurther_43 : decode cX7_goesFurther 43 = .ok (.getfield 76, 3) := by decide +kernel
theorem dX7_goesFurther_46 : decode cX7_goesFurther 46 = .ok (.iload 5, 2) := by decide +kernel
theorem dX7_goesFurther_48 : decode cX7_goesFurther 48 = .ok (.iaload, 1) := by decide +kernel
theorem dX7_goesFurther_49 : decode cX7_goesFurther 49 = .ok (.ifCond .ge 28, 3) := by decide +kernel
theorem dX7_goesFurther_52 : decode cX7_goesFurther 52 = .ok (.aload_n 0, 1) := by decide +kernel
theorem dX7_goesFurther_53 : decode cX7_goesFurther 53 = .ok (.getfield 13, 3) := by decide +kernel
theorem dX7_goesFurther_56 : decode cX7_goesFurther 56 = .ok (.iload 5, 2) := by decide +kernel
theorem dX7_goesFurther_58 : decode cX7_goesFurther 58 = .ok (.iaload, 1) := by decide +kernel
theorem dX7_goesFurther_59 : decode cX7_goesFurther 59 = .ok (.ifCond .le 6, 3) := by decide +kernel
theorem dX7_goesFurther_62 : decode cX7_goesFurther 62 = .ok (.goto 15, 3) := by decide +kernel
theorem dX7_goesFurther_65 : decode cX7_goesFurther 65 = .ok (.aload_n 0, 1) := by decide +kernel
theorem dX7_goesFurther_66 : decode cX7_goesFurther 66 = .ok (.getfield 76, 3) := by decide +kernel
theorem dX7_goesFurther_69 : decode cX7_goesFurther 69 = .ok (.iload 5, 2) := by decide +kernel
theorem dX7_goesFurther_71 : decode cX7_goesFurther 71 = .ok (.iload_n 1, 1) := by decide +kernel
theorem dX7_goesFurther_72 : decode cX7_goesFurther 72 = .ok (.iconst 1, 1) := by decide +kernel
theorem dX7_goesFurther_73 : decode cX7_goesFurther 73 = .ok (.iadd, 1) := by decide +kernel
theorem dX7_goesFurther_74 : decode cX7_goesFurther 74 = .ok (.iastore, 1) := by decide +kernel
theorem dX7_goesFurther_75 : decode cX7_goesFurther 75 = .ok (.iconst 1, 1) := by decide +kernel
theorem dX7_goesFurther_76 : decode cX7_goesFurther 76 = .ok (.istore_n 2, 1) := by decide +kernel
theorem dX7_goesFurther_77 : decode cX7_goesFurther 77 = .ok (.iinc 4 1, 3) := by decide +kernel
theorem dX7_goesFurther_80 : decode cX7_goesFurther 80 = .ok (.goto (-67), 3) := by decide +kernel
theorem dX7_goesFurther_83 : decode cX7_goesFurther 83 = .ok (.iinc 3 1, 3) := by decide +kernel
theorem dX7_goesFurther_86 : decode cX7_goesFurther 86 = .ok (.goto (-82), 3) := by decide +kernel
theorem dX7_goesFurther_89 : decode cX7_goesFurther 89 = .ok (.iload_n 2, 1) := by decide +kernel
theorem dX7_goesFurther_90 : decode cX7_goesFurther 90 = .ok (.ireturn, 1) := by decide +kernel
theorem dX7_way_0 : decode cX7_way 0 = .ok (.iload_n 1, 1) := by decide +kernel
theorem dX7_way_1 : decode cX7_way 1 = .ok (.invokestatic 244, 3) := by decide +kernel
theorem dX7_way_4 : decode cX7_way 4 = .ok (.ifCond .eq 10, 3) := by decide +kernel
theorem dX7_way_7 : decode cX7_way 7 = .ok (.iload_n 2, 1) := by decide +kernel
theorem dX7_way_8 : decode cX7_way 8 = .ok (.invokestatic 244, 3) := by decide +kernel
theorem dX7_way_11 : decode cX7_way 11 = .ok (.ifCond .ne 9, 3) := by decide +kernel
theorem dX7_way_14 : decode cX7_way 14 = .ok (.aload_n 0, 1) := by decide +kernel
theorem dX7_way_15 : decode cX7_way 15 = .ok (.iconst (-1), 1) := by decide +kernel
theorem dX7_way_16 : decode cX7_way 16 = .ok (.invokevirtual 170, 3) := by decide +kernel
theorem dX7_way_19 : decode cX7_way 19 = .ok (.ireturn, 1) := by decide +kernel
theorem dX7_way_20 : decode cX7_way 20 = .ok (.iconst 0, 1) := by decide +kernel
theorem dX7_way_21 : decode cX7_way 21 = .ok (.istore_n 3, 1) := by decide +kernel
theorem dX7_way_22 : decode cX7_way 22 = .ok (.iload_n 3, 1) := by decide +kernel
theorem dX7_way_23 : decode cX7_way 23 = .ok (.bipush 48, 2) := by decide +kernel
theorem dX7_way_25 : decode cX7_way 25 = .ok (.if_icmp .ge 17, 3) := by decide +kernel
theorem dX7_way_28 : decode cX7_way 28 = .ok (.aload_n 0, 1) := by decide +kernel
theorem dX7_way_29 : decode cX7_way 29 = .ok (.getfield 76, 3) := by decide +kernel
theorem dX7_way_32 : decode cX7_way 32 = .ok (.iload_n 3, 1) := by decide +kernel
theorem dX7_way_33 : decode cX7_way 33 = .ok (.bipush (-9), 2) := by decide +kernel
theorem dX7_way_35 : decode cX7_way 35 = .ok (.iastore, 1) := by decide +kernel
theorem dX7_way_36 : decode cX7_way 36 = .ok (.iinc 3 1, 3) := by decide +kernel
theorem dX7_way_39 : decode cX7_way 39 = .ok (.goto (-17), 3) := by decide +kernel
theorem dX7_way_42 : decode cX7_way 42 = .ok (.aload_n 0, 1) := by decide +kernel
theorem dX7_way_43 : decode cX7_way 43 = .ok (.getfield 76, 3) := by decide +kernel
theorem dX7_way_46 : decode cX7_way 46 = .ok (.iload_n 1, 1) := by decide +kernel
theorem dX7_way_47 : decode cX7_way 47 = .ok (.iconst 0, 1) := by decide +kernel
theorem dX7_way_48 : decode cX7_way 48 = .ok (.iastore, 1) := by decide +kernel
theorem dX7_way_49 : decode cX7_way 49 = .ok (.iconst 0, 1) := by decide +kernel
theorem dX7_way_50 : decode cX7_way 50 = .ok (.istore_n 3, 1) := by decide +kernel
theorem dX7_way_51 : decode cX7_way 51 = .ok (.aload_n 0, 1) := by decide +kernel
theorem dX7_way_52 : decode cX7_way 52 = .ok (.iload_n 3, 1) := by decide +kernel
theorem dX7_way_53 : decode cX7_way 53 = .ok (.invokevirtual 422, 3) := by decide +kernel
theorem dX7_way_56 : decode cX7_way 56 = .ok (.ifCond .eq 9, 3) := by decide +kernel
theorem dX7_way_59 : decode cX7_way 59 = .ok (.iinc 3 1, 3) := by decide +kernel
theorem dX7_way_62 : decode cX7_way 62 = .ok (.goto (-11), 3) := by decide +kernel
theorem dX7_way_65 : decode cX7_way 65 = .ok (.aload_n 0, 1) := by decide +kernel
theorem dX7_way_66 : decode cX7_way 66 = .ok (.getfield 76, 3) := by decide +kernel
theorem dX7_way_69 : decode cX7_way 69 = .ok (.iload_n 2, 1) := by decide +kernel
theorem dX7_way_70 : decode cX7_way 70 = .ok (.iaload, 1) := by decide +kernel
theorem dX7_way_71 : decode cX7_way 71 = .ok (.ireturn, 1) := by decide +kernel
theorem dX7_vowels_0 : decode cX7_vowels 0 = .ok (.iconst 0, 1) := by decide +kernel
theorem dX7_vowels_1 : decode cX7_vowels 1 = .ok (.istore_n 1, 1) := by decide +kernel
theorem dX7_vowels_2 : decode cX7_vowels 2 = .ok (.iconst 0, 1) := by decide +kernel
theorem dX7_vowels_3 : decode cX7_vowels 3 = .ok (.istore_n 2, 1) := by decide +kernel
theorem dX7_vowels_4 : decode cX7_vowels 4 = .ok (.iload_n 2, 1) := by decide +kernel
theorem dX7_vowels_5 : decode cX7_vowels 5 = .ok (.aload_n 0, 1) := by decide +kernel
theorem dX7_vowels_6 : decode cX7_vowels 6 = .ok (.getfield 79, 3) := by decide +kernel
theorem dX7_vowels_9 : decode cX7_vowels 9 = .ok (.if_icmp .ge 52, 3) := by decide +kernel
theorem dX7_vowels_12 : decode cX7_vowels 12 = .ok (.iconst 0, 1) := by decide +kernel
theorem dX7_vowels_13 : decode cX7_vowels 13 = .ok (.istore_n 3, 1) := by decide +kernel
theorem dX7_vowels_14 : decode cX7_vowels 14 = .ok (.iload_n 3, 1) := by decide +kernel
theorem dX7_vowels_15 : decode cX7_vowels 15 = .ok (.aload_n 0, 1) := by decide +kernel
theorem dX7_vowels_16 : decode cX7_vowels 16 = .ok (.getfield 43, 3) := by decide +kernel
theorem dX7_vowels_19 : decode cX7_vowels 19 = .ok (.iload_n 2, 1) := by decide +kernel
theorem dX7_vowels_20 : decode cX7_vowels 20 = .ok (.iaload, 1) := by decide +kernel
theorem dX7_vowels_21 : decode cX7_vowels 21 = .ok (.if_icmp .ge 34, 3) := by decide +kernel
theorem dX7_vowels_24 : decode cX7_vowels 24 = .ok (.iload_n 1, 1) := by decide +kernel
theorem dX7_vowels_25 : decode cX7_vowels 25 = .ok (.aload_n 0, 1) := by decide +kernel
theorem dX7_vowels_26 : decode cX7_vowels 26 = .ok (.getfield 46, 3) := by decide +kernel
theorem dX7_vowels_29 : decode cX7_vowels 29 = .ok (.bipush 6, 2) := by decide +kernel
theorem dX7_vowels_31 : decode cX7_vowels 31 = .ok (.iload_n 2, 1) := by decide +kernel
theorem dX7_vowels_32 : decode cX7_vowels 32 = .ok (.imul, 1) := by decide +kernel
theorem dX7_vowels_33 : decode cX7_vowels 33 = .ok (.iload_n 3, 1) := by decide +kernel
theorem dX7_vowels_34 : decode cX7_vowels 34 = .ok (.iadd, 1) := by decide +kernel
theorem dX7_vowels_35 : decode cX7_vowels 35 = .ok (.iaload, 1) := by decide +kernel
theorem dX7_vowels_36 : decode cX7_vowels 36 = .ok (.invokestatic 97, 3) := by decide +kernel
theorem dX7_vowels_39 : decode cX7_vowels 39 = .ok (.ifCond .eq 7, 3) := by decide +kernel
theorem dX7_vowels_42 : decode cX7_vowels 42 = .ok (.iconst 1, 1) := by decide +kernel
theorem dX7_vowels_43 : decode cX7_vowels 43 = .ok (.goto 4, 3) := by decide +kernel
theorem dX7_vowels_46 : decode cX7_vowels 46 = .ok (.iconst 0, 1) := by decide +kernel
theorem dX7_vowels_47 : decode cX7_vowels 47 = .ok (.iadd, 1) := by decide +kernel
theorem dX7_vowels_48 : decode cX7_vowels 48 = .ok (.istore_n 1, 1) := by decide +kernel
theorem dX7_vowels_49 : decode cX7_vowels 49 = .ok (.iinc 3 1, 3) := by decide +kernel
theorem dX7_vowels_52 : decode cX7_vowels 52 = .ok (.goto (-38), 3) := by decide +kernel
theorem dX7_vowels_55 : decode cX7_vowels 55 = .ok (.iinc 2 1, 3) := by decide +kernel
theorem dX7_vowels_58 : decode cX7_vowels 58 = .ok (.goto (-54), 3) := by decide +kernel
theorem dX7_vowels_61 : decode cX7_vowels 61 = .ok (.iload_n 1, 1) := by decide +kernel
theorem dX7_vowels_62 : decode cX7_vowels 62 = .ok (.ireturn, 1) := by decide +kernel
theorem dX7_hungry_0 : decode cX7_hungry 0 = .ok (.iconst 0, 1) := by decide +kernel
theorem dX7_hungry_1 : decode cX7_hungry 1 = .ok (.istore_n 1, 1) := by decide +kernel
theorem dX7_hungry_2 : decode cX7_hungry 2 = .ok (.iconst 0, 1) := by decide +kernel
theorem dX7_hungry_3 : decode cX7_hungry 3 = .ok (.istore_n 2, 1) := by decide +kernel
theorem dX7_hungry_4 : decode cX7_hungry 4 = .ok (.iload_n 2, 1) := by decide +kernel
theorem dX7_hungry_5 : decode cX7_hungry 5 = .ok (.aload_n 0, 1) := by decide +kernel
theorem dX7_hungry_6 : decode cX7_hungry 6 = .ok (.getfield 79, 3) := by decide +kernel
theorem dX7_hungry_9 : decode cX7_hungry 9 = .ok (.if_icmp .ge 17, 3) := by decide +kernel
theorem dX7_hungry_12 : decode cX7_hungry 12 = .ok (.iload_n 1, 1) := by decide +kernel
theorem dX7_hungry_13 : decode cX7_hungry 13 = .ok (.aload_n 0, 1) := by decide +kernel
theorem dX7_hungry_14 : decode cX7_hungry 14 = .ok (.iload_n 2, 1) := by decide +kernel
theorem dX7_hungry_15 : decode cX7_hungry 15 = .ok (.invokevirtual 398, 3) := by decide +kernel
theorem dX7_hungry_18 : decode cX7_hungry 18 = .ok (.ior, 1) := by decide +kernel
theorem dX7_hungry_19 : decode cX7_hungry 19 = .ok (.istore_n 1, 1) := by decide +kernel
theorem dX7_hungry_20 : decode cX7_hungry 20 = .ok (.iinc 2 1, 3) := by decide +kernel
theorem dX7_hungry_23 : decode cX7_hungry 23 = .ok (.goto (-19), 3) := by decide +kernel
theorem dX7_hungry_26 : decode cX7_hungry 26 = .ok (.iconst 0, 1) := by decide +kernel
theorem dX7_hungry_27 : decode cX7_hungry 27 = .ok (.istore_n 2, 1) := by decide +kernel
theorem dX7_hungry_28 : decode cX7_hungry 28 = .ok (.iconst 0, 1) := by decide +kernel
theorem dX7_hungry_29 : decode cX7_hungry 29 = .ok (.istore_n 3, 1) := by decide +kernel
theorem dX7_hungry_30 : decode cX7_hungry 30 = .ok (.iload_n 3, 1) := by decide +kernel
theorem dX7_hungry_31 : decode cX7_hungry 31 = .ok (.bipush 48, 2) := by decide +kernel
theorem dX7_hungry_33 : decode cX7_hungry 33 = .ok (.if_icmp .ge 35, 3) := by decide +kernel
theorem dX7_hungry_36 : decode cX7_hungry 36 = .ok (.iload_n 2, 1) := by decide +kernel
theorem dX7_hungry_37 : decode cX7_hungry 37 = .ok (.iload_n 1, 1) := by decide +kernel
theorem dX7_hungry_38 : decode cX7_hungry 38 = .ok (.aload_n 0, 1) := by decide +kernel
theorem dX7_hungry_39 : decode cX7_hungry 39 = .ok (.getfield 19, 3) := by decide +kernel
theorem dX7_hungry_42 : decode cX7_hungry 42 = .ok (.iload_n 3, 1) := by decide +kernel
theorem dX7_hungry_43 : decode cX7_hungry 43 = .ok (.iaload, 1) := by decide +kernel
theorem dX7_hungry_44 : decode cX7_hungry 44 = .ok (.invokestatic 356, 3) := by decide +kernel
theorem dX7_hungry_47 : decode cX7_hungry 47 = .ok (.ifCond .eq 7, 3) := by decide +kernel
theorem dX7_hungry_50 : decode cX7_hungry 50 = .ok (.iconst 0, 1) := by decide +kernel
theorem dX7_hungry_51 : decode cX7_hungry 51 = .ok (.goto 9, 3) := by decide +kernel
theorem dX7_hungry_54 : decode cX7_hungry 54 = .ok (.aload_n 0, 1) := by decide +kernel
theorem dX7_hungry_55 : decode cX7_hungry 55 = .ok (.getfield 16, 3) := by decide +kernel
theorem dX7_hungry_58 : decode cX7_hungry 58 = .ok (.iload_n 3, 1) := by decide +kernel
theorem dX7_hungry_59 : decode cX7_hungry 59 = .ok (.iaload, 1) := by decide +kernel
theorem dX7_hungry_60 : decode cX7_hungry 60 = .ok (.iadd, 1) := by decide +kernel
theorem dX7_hungry_61 : decode cX7_hungry 61 = .ok (.istore_n 2, 1) := by decide +kernel
theorem dX7_hungry_62 : decode cX7_hungry 62 = .ok (.iinc 3 1, 3) := by decide +kernel
theorem dX7_hungry_65 : decode cX7_hungry 65 = .ok (.goto (-35), 3) := by decide +kernel
theorem dX7_hungry_68 : decode cX7_hungry 68 = .ok (.iload_n 2, 1) := by decide +kernel
theorem dX7_hungry_69 : decode cX7_hungry 69 = .ok (.ireturn, 1) := by decide +kernel
theorem dX7_alone_0 : decode cX7_alone 0 = .ok (.iconst 0, 1) := by decide +kernel
theorem dX7_alone_1 : decode cX7_alone 1 = .ok (.istore_n 1, 1) := by decide +kernel
theorem dX7_alone_2 : decode cX7_alone 2 = .ok (.iconst 0, 1) := by decide +kernel
theorem dX7_alone_3 : decode cX7_alone 3 = .ok (.istore_n 2, 1) := by decide +kernel
theorem dX7_alone_4 : decode cX7_alone 4 = .ok (.iload_n 2, 1) := by decide +kernel
theorem dX7_alone_5 : decode cX7_alone 5 = .ok (.aload_n 0, 1) := by decide +kernel
theorem dX7_alone_6 : decode cX7_alone 6 = .ok (.getfield 79, 3) := by decide +kernel
theorem dX7_alone_9 : decode cX7_alone 9 = .ok (.if_icmp .ge 35, 3) := by decide +kernel
theorem dX7_alone_12 : decode cX7_alone 12 = .ok (.iload_n 1, 1) := by decide +kernel
theorem dX7_alone_13 : decode cX7_alone 13 = .ok (.aload_n 0, 1) := by decide +kernel
theorem dX7_alone_14 : decode cX7_alone 14 = .ok (.aload_n 0, 1) := by decide +kernel
theorem dX7_alone_15 : decode cX7_alone 15 = .ok (.getfield 28, 3) := by decide +kernel
theorem dX7_alone_18 : decode cX7_alone 18 = .ok (.iload_n 2, 1) := by decide +kernel
theorem dX7_alone_19 : decode cX7_alone 19 = .ok (.iaload, 1) := by decide +kernel
theorem dX7_alone_20 : decode cX7_alone 20 = .ok (.invokevirtual 333, 3) := by decide +kernel
theorem dX7_alone_23 : decode cX7_alone 23 = .ok (.iconst 1, 1) := by decide +kernel
theorem dX7_alone_24 : decode cX7_alone 24 = .ok (.iload_n 2, 1) := by decide +kernel
theorem dX7_alone_25 : decode cX7_alone 25 = .ok (.ishl, 1) := by decide +kernel
theorem dX7_alone_26 : decode cX7_alone 26 = .ok (.if_icmp .ne 9, 3) := by decide +kernel
theorem dX7_alone_29 : decode cX7_alone 29 = .ok (.iconst 1, 1) := by decide +kernel
theorem dX7_alone_30 : decode cX7_alone 30 = .ok (.iload_n 2, 1) := by decide +kernel
theorem dX7_alone_31 : decode cX7_alone 31 = .ok (.ishl, 1) := by decide +kernel
theorem dX7_alone_32 : decode cX7_alone 32 = .ok (.goto 4, 3) := by decide +kernel
theorem dX7_alone_35 : decode cX7_alone 35 = .ok (.iconst 0, 1) := by decide +kernel
theorem dX7_alone_36 : decode cX7_alone 36 = .ok (.ior, 1) := by decide +kernel
theorem dX7_alone_37 : decode cX7_alone 37 = .ok (.istore_n 1, 1) := by decide +kernel
theorem dX7_alone_38 : decode cX7_alone 38 = .ok (.iinc 2 1, 3) := by decide +kernel
theorem dX7_alone_41 : decode cX7_alone 41 = .ok (.goto (-37), 3) := by decide +kernel
theorem dX7_alone_44 : decode cX7_alone 44 = .ok (.iload_n 1, 1) := by decide +kernel
theorem dX7_alone_45 : decode cX7_alone 45 = .ok (.ireturn, 1) := by decide +kernel
theorem dX7_sight_0 : decode cX7_sight 0 = .ok (.iload_n 1, 1) := by decide +kernel
theorem dX7_sight_1 : decode cX7_sight 1 = .ok (.tableswitch 42 0 2 #[27, 32, 37], 27) := by decide +kernel
theorem dX7_sight_28 : decode cX7_sight 28 = .ok (.aload_n 0, 1) := by decide +kernel
theorem dX7_sight_29 : decode cX7_sight 29 = .ok (.invokevirtual 425, 3) := by decide +kernel
theorem dX7_sight_32 : decode cX7_sight 32 = .ok (.ireturn, 1) := by decide +kernel
theorem dX7_sight_33 : decode cX7_sight 33 = .ok (.aload_n 0, 1) := by decide +kernel
theorem dX7_sight_34 : decode cX7_sight 34 = .ok (.invokevirtual 428, 3) := by decide +kernel
theorem dX7_sight_37 : decode cX7_sight 37 = .ok (.ireturn, 1) := by decide +kernel
theorem dX7_sight_38 : decode cX7_sight 38 = .ok (.aload_n 0, 1) := by decide +kernel
theorem dX7_sight_39 : decode cX7_sight 39 = .ok (.invokevirtual 431, 3) := by decide +kernel
theorem dX7_sight_42 : decode cX7_sight 42 = .ok (.ireturn, 1) := by decide +kernel
theorem dX7_sight_43 : decode cX7_sight 43 = .ok (.aload_n 0, 1) := by decide +kernel
theorem dX7_sight_44 : decode cX7_sight 44 = .ok (.bipush (-2), 2) := by decide +kernel
theorem dX7_sight_46 : decode cX7_sight 46 = .ok (.invokevirtual 170, 3) := by decide +kernel
theorem dX7_sight_49 : decode cX7_sight 49 = .ok (.ireturn, 1) := by decide +kernel
theorem dX7_kinds_0 : decode cX7_kinds 0 = .ok (.iload_n 1, 1) := by decide +kernel
theorem dX7_kinds_1 : decode cX7_kinds 1 = .ok (.iconst 0, 1) := by decide +kernel
theorem dX7_kinds_2 : decode cX7_kinds 2 = .ok (.bipush 7, 2) := by decide +kernel
theorem dX7_kinds_4 : decode cX7_kinds 4 = .ok (.invokestatic 85, 3) := by decide +kernel
theorem dX7_kinds_7 : decode cX7_kinds 7 = .ok (.ifCond .ne 10, 3) := by decide +kernel
theorem dX7_kinds_10 : decode cX7_kinds 10 = .ok (.aload_n 0, 1) := by decide +kernel
theorem dX7_kinds_11 : decode cX7_kinds 11 = .ok (.bipush (-2), 2) := by decide +kernel
theorem dX7_kinds_13 : decode cX7_kinds 13 = .ok (.invokevirtual 170, 3) := by decide +kernel
theorem dX7_kinds_16 : decode cX7_kinds 16 = .ok (.ireturn, 1) := by decide +kernel
theorem dX7_kinds_17 : decode cX7_kinds 17 = .ok (.iconst 0, 1) := by decide +kernel
theorem dX7_kinds_18 : decode cX7_kinds 18 = .ok (.istore_n 2, 1) := by decide +kernel
theorem dX7_kinds_19 : decode cX7_kinds 19 = .ok (.iconst 0, 1) := by decide +kernel
theorem dX7_kinds_20 : decode cX7_kinds 20 = .ok (.istore_n 3, 1) := by decide +kernel
theorem dX7_kinds_21 : decode cX7_kinds 21 = .ok (.iload_n 3, 1) := by decide +kernel
theorem dX7_kinds_22 : decode cX7_kinds 22 = .ok (.aload_n 0, 1) := by decide +kernel
theorem dX7_kinds_23 : decode cX7_kinds 23 = .ok (.getfield 79, 3) := by decide +kernel
theorem dX7_kinds_26 : decode cX7_kinds 26 = .ok (.if_icmp .ge 27, 3) := by decide +kernel
theorem dX7_kinds_29 : decode cX7_kinds 29 = .ok (.iload_n 2, 1) := by decide +kernel
theorem dX7_kinds_30 : decode cX7_kinds 30 = .ok (.aload_n 0, 1) := by decide +kernel
theorem dX7_kinds_31 : decode cX7_kinds 31 = .ok (.getfield 22, 3) := by decide +kernel
theorem dX7_kinds_34 : decode cX7_kinds 34 = .ok (.iload_n 3, 1) := by decide +kernel
theorem dX7_kinds_35 : decode cX7_kinds 35 = .ok (.iaload, 1) := by decide +kernel
theorem dX7_kinds_36 : decode cX7_kinds 36 = .ok (.iload_n 1, 1) := by decide +kernel
theorem dX7_kinds_37 : decode cX7_kinds 37 = .ok (.if_icmp .ne 7, 3) := by decide +kernel
theorem dX7_kinds_40 : decode cX7_kinds 40 = .ok (.iconst 1, 1) := by decide +kernel
theorem dX7_kinds_41 : decode cX7_kinds 41 = .ok (.goto 4, 3) := by decide +kernel
theorem dX7_kinds_44 : decode cX7_kinds 44 = .ok (.iconst 0, 1) := by decide +kernel
theorem dX7_kinds_45 : decode cX7_kinds 45 = .ok (.iadd, 1) := by decide +kernel
theorem dX7_kinds_46 : decode cX7_kinds 46 = .ok (.istore_n 2, 1) := by decide +kernel
theorem dX7_kinds_47 : decode cX7_kinds 47 = .ok (.iinc 3 1, 3) := by decide +kernel
theorem dX7_kinds_50 : decode cX7_kinds 50 = .ok (.goto (-29), 3) := by decide +kernel
theorem dX7_kinds_53 : decode cX7_kinds 53 = .ok (.iload_n 2, 1) := by decide +kernel
theorem dX7_kinds_54 : decode cX7_kinds 54 = .ok (.ireturn, 1) := by decide +kernel
theorem dX7_row_0 : decode cX7_row 0 = .ok (.iload_n 1, 1) := by decide +kernel
theorem dX7_row_1 : decode cX7_row 1 = .ok (.iconst 0, 1) := by decide +kernel
theorem dX7_row_2 : decode cX7_row 2 = .ok (.bipush 99, 2) := by decide +kernel
theorem dX7_row_4 : decode cX7_row 4 = .ok (.invokestatic 163, 3) := by decide +kernel
theorem dX7_row_7 : decode cX7_row 7 = .ok (.istore_n 2, 1) := by decide +kernel
theorem dX7_row_8 : decode cX7_row 8 = .ok (.iload_n 2, 1) := by decide +kernel
theorem dX7_row_9 : decode cX7_row 9 = .ok (.ifCond .ne 15, 3) := by decide +kernel
theorem dX7_row_12 : decode cX7_row 12 = .ok (.aload_n 0, 1) := by decide +kernel
theorem dX7_row_13 : decode cX7_row 13 = .ok (.getfield 374, 3) := by decide +kernel
theorem dX7_row_16 : decode cX7_row 16 = .ok (.bipush 12, 2) := by decide +kernel
theorem dX7_row_18 : decode cX7_row 18 = .ok (.if_icmp .ne 6, 3) := by decide +kernel
theorem dX7_row_21 : decode cX7_row 21 = .ok (.bipush (-6), 2) := by decide +kernel
theorem dX7_row_23 : decode cX7_row 23 = .ok (.istore_n 2, 1) := by decide +kernel
theorem dX7_row_24 : decode cX7_row 24 = .ok (.iload_n 2, 1) := by decide +kernel
theorem dX7_row_25 : decode cX7_row 25 = .ok (.ifCond .eq 9, 3) := by decide +kernel
theorem dX7_row_28 : decode cX7_row 28 = .ok (.aload_n 0, 1) := by decide +kernel
theorem dX7_row_29 : decode cX7_row 29 = .ok (.iload_n 2, 1) := by decide +kernel
theorem dX7_row_30 : decode cX7_row 30 = .ok (.invokevirtual 170, 3) := by decide +kernel
theorem dX7_row_33 : decode cX7_row 33 = .ok (.ireturn, 1) := by decide +kernel
theorem dX7_row_34 : decode cX7_row 34 = .ok (.aload_n 0, 1) := by decide +kernel
theorem dX7_row_35 : decode cX7_row 35 = .ok (.getfield 70, 3) := by decide +kernel
theorem dX7_row_38 : decode cX7_row 38 = .ok (.aload_n 0, 1) := by decide +kernel
theorem dX7_row_39 : decode cX7_row 39 = .ok (.getfield 374, 3) := by decide +kernel
theorem dX7_row_42 : decode cX7_row 42 = .ok (.iload_n 1, 1) := by decide +kernel
theorem dX7_row_43 : decode cX7_row 43 = .ok (.iastore, 1) := by decide +kernel
theorem dX7_row_44 : decode cX7_row 44 = .ok (.aload_n 0, 1) := by decide +kernel
theorem dX7_row_45 : decode cX7_row 45 = .ok (.dup, 1) := by decide +kernel
theorem dX7_row_46 : decode cX7_row 46 = .ok (.getfield 374, 3) := by decide +kernel
theorem dX7_row_49 : decode cX7_row 49 = .ok (.iconst 1, 1) := by decide +kernel
theorem dX7_row_50 : decode cX7_row 50 = .ok (.iadd, 1) := by decide +kernel
theorem dX7_row_51 : decode cX7_row 51 = .ok (.putfield 374, 3) := by decide +kernel
theorem dX7_row_54 : decode cX7_row 54 = .ok (.aload_n 0, 1) := by decide +kernel
theorem dX7_row_55 : decode cX7_row 55 = .ok (.getfield 374, 3) := by decide +kernel
theorem dX7_row_58 : decode cX7_row 58 = .ok (.ireturn, 1) := by decide +kernel
theorem dX7_judge_0 : decode cX7_judge 0 = .ok (.aload_n 0, 1) := by decide +kernel
theorem dX7_judge_1 : decode cX7_judge 1 = .ok (.getfield 374, 3) := by decide +kernel
theorem dX7_judge_4 : decode cX7_judge 4 = .ok (.istore_n 1, 1) := by decide +kernel
theorem dX7_judge_5 : decode cX7_judge 5 = .ok (.aload_n 0, 1) := by decide +kernel
theorem dX7_judge_6 : decode cX7_judge 6 = .ok (.iconst 0, 1) := by decide +kernel
theorem dX7_judge_7 : decode cX7_judge 7 = .ok (.putfield 374, 3) := by decide +kernel
theorem dX7_judge_10 : decode cX7_judge 10 = .ok (.iconst 0, 1) := by decide +kernel
theorem dX7_judge_11 : decode cX7_judge 11 = .ok (.istore_n 2, 1) := by decide +kernel
theorem dX7_judge_12 : decode cX7_judge 12 = .ok (.iload_n 2, 1) := by decide +kernel
theorem dX7_judge_13 : decode cX7_judge 13 = .ok (.iload_n 1, 1) := by decide +kernel
theorem dX7_judge_14 : decode cX7_judge 14 = .ok (.if_icmp .ge 34, 3) := by decide +kernel
theorem dX7_judge_17 : decode cX7_judge 17 = .ok (.aload_n 0, 1) := by decide +kernel
theorem dX7_judge_18 : decode cX7_judge 18 = .ok (.iload_n 2, 1) := by decide +kernel
theorem dX7_judge_19 : decode cX7_judge 19 = .ok (.invokevirtual 89, 3) := by decide +kernel
theorem dX7_judge_22 : decode cX7_judge 22 = .ok (.ifCond .eq 18, 3) := by decide +kernel
theorem dX7_judge_25 : decode cX7_judge 25 = .ok (.aload_n 0, 1) := by decide +kernel
theorem dX7_judge_26 : decode cX7_judge 26 = .ok (.getfield 28, 3) := by decide +kernel
theorem dX7_judge_29 : decode cX7_judge 29 = .ok (.iload_n 2, 1) := by decide +kernel
theorem dX7_judge_30 : decode cX7_judge 30 = .ok (.iaload, 1) := by decide +kernel
theorem dX7_judge_31 : decode cX7_judge 31 = .ok (.aload_n 0, 1) := by decide +kernel
theorem dX7_judge_32 : decode cX7_judge 32 = .ok (.getfield 70, 3) := by decide +kernel
theorem dX7_judge_35 : decode cX7_judge 35 = .ok (.iload_n 2, 1) := by decide +kernel
theorem dX7_judge_36 : decode cX7_judge 36 = .ok (.iaload, 1) := by decide +kernel
theorem dX7_judge_37 : decode cX7_judge 37 = .ok (.if_icmp .eq 5, 3) := by decide +kernel
theorem dX7_judge_40 : decode cX7_judge 40 = .ok (.iload_n 2, 1) := by decide +kernel
theorem dX7_judge_41 : decode cX7_judge 41 = .ok (.ireturn, 1) := by decide +kernel
theorem dX7_judge_42 : decode cX7_judge 42 = .ok (.iinc 2 1, 3) := by decide +kernel
theorem dX7_judge_45 : decode cX7_judge 45 = .ok (.goto (-33), 3) := by decide +kernel
theorem dX7_judge_48 : decode cX7_judge 48 = .ok (.bipush (-9), 2) := by decide +kernel
theorem dX7_judge_50 : decode cX7_judge 50 = .ok (.ireturn, 1) := by decide +kernel
theorem dX7_clear_0 : decode cX7_clear 0 = .ok (.aload_n 0, 1) := by decide +kernel
theorem dX7_clear_1 : decode cX7_clear 1 = .ok (.getfield 374, 3) := by decide +kernel
theorem dX7_clear_4 : decode cX7_clear 4 = .ok (.istore_n 1, 1) := by decide +kernel
theorem dX7_clear_5 : decode cX7_clear 5 = .ok (.aload_n 0, 1) := by decide +kernel
theorem dX7_clear_6 : decode cX7_clear 6 = .ok (.iconst 0, 1) := by decide +kernel
theorem dX7_clear_7 : decode cX7_clear 7 = .ok (.putfield 374, 3) := by decide +kernel
theorem dX7_clear_10 : decode cX7_clear 10 = .ok (.iload_n 1, 1) := by decide +kernel
theorem dX7_clear_11 : decode cX7_clear 11 = .ok (.ireturn, 1) := by decide +kernel
theorem dX7_draw_0 : decode cX7_draw 0 = .ok (.aload_n 0, 1) := by decide +kernel
theorem dX7_draw_1 : decode cX7_draw 1 = .ok (.aload_n 0, 1) := by decide +kernel
theorem dX7_draw_2 : decode cX7_draw 2 = .ok (.getfield 434, 3) := by decide +kernel
theorem dX7_draw_5 : decode cX7_draw 5 = .ok (.ldc_w 437, 3) := by decide +kernel
theorem dX7_draw_8 : decode cX7_draw 8 = .ok (.imul, 1) := by decide +kernel
theorem dX7_draw_9 : decode cX7_draw 9 = .ok (.sipush 12345, 3) := by decide +kernel
theorem dX7_draw_12 : decode cX7_draw 12 = .ok (.iadd, 1) := by decide +kernel
theorem dX7_draw_13 : decode cX7_draw 13 = .ok (.putfield 434, 3) := by decide +kernel
theorem dX7_draw_16 : decode cX7_draw 16 = .ok (.aload_n 0, 1) := by decide +kernel
theorem dX7_draw_17 : decode cX7_draw 17 = .ok (.getfield 434, 3) := by decide +kernel
theorem dX7_draw_20 : decode cX7_draw 20 = .ok (.ldc_w 438, 3) := by decide +kernel
theorem dX7_draw_23 : decode cX7_draw 23 = .ok (.iand, 1) := by decide +kernel
theorem dX7_draw_24 : decode cX7_draw 24 = .ok (.ldc_w 439, 3) := by decide +kernel
theorem dX7_draw_27 : decode cX7_draw 27 = .ok (.idiv, 1) := by decide +kernel
theorem dX7_draw_28 : decode cX7_draw 28 = .ok (.iload_n 1, 1) := by decide +kernel
theorem dX7_draw_29 : decode cX7_draw 29 = .ok (.irem, 1) := by decide +kernel
theorem dX7_draw_30 : decode cX7_draw 30 = .ok (.ireturn, 1) := by decide +kernel
theorem dX7_standsByLot_0 : decode cX7_standsByLot 0 = .ok (.iconst 0, 1) := by decide +kernel
theorem dX7_standsByLot_1 : decode cX7_standsByLot 1 = .ok (.istore_n 1, 1) := by decide +kernel
theorem dX7_standsByLot_2 : decode cX7_standsByLot 2 = .ok (.iload_n 1, 1) := by decide +kernel
theorem dX7_standsByLot_3 : decode cX7_standsByLot 3 = .ok (.aload_n 0, 1) := by decide +kernel
theorem dX7_standsByLot_4 : decode cX7_standsByLot 4 = .ok (.getfield 79, 3) := by decide +kernel
theorem dX7_standsByLot_7 : decode cX7_standsByLot 7 = .ok (.if_icmp .ge 32, 3) := by decide +kernel
theorem dX7_standsByLot_10 : decode cX7_standsByLot 10 = .ok (.aload_n 0, 1) := by decide +kernel
theorem dX7_standsByLot_11 : decode cX7_standsByLot 11 = .ok (.getfield 28, 3) := by decide +kernel
theorem dX7_standsByLot_14 : decode cX7_standsByLot 14 = .ok (.iload_n 1, 1) := by decide +kernel
theorem dX7_standsByLot_15 : decode cX7_standsByLot 15 = .ok (.aload_n 0, 1) := by decide +kernel
theorem dX7_standsByLot_16 : decode cX7_standsByLot 16 = .ok (.bipush 48, 2) := by decide +kernel
theorem dX7_standsByLot_18 : decode cX7_standsByLot 18 = .ok (.invokevirtual 440, 3) := by decide +kernel
theorem dX7_standsByLot_21 : decode cX7_standsByLot 21 = .ok (.iastore, 1) := by decide +kernel
theorem dX7_standsByLot_22 : decode cX7_standsByLot 22 = .ok (.aload_n 0, 1) := by decide +kernel
theorem dX7_standsByLot_23 : decode cX7_standsByLot 23 = .ok (.getfield 31, 3) := by decide +kernel
theorem dX7_standsByLot_26 : decode cX7_standsByLot 26 = .ok (.iload_n 1, 1) := by decide +kernel
theorem dX7_standsByLot_27 : decode cX7_standsByLot 27 = .ok (.aload_n 0, 1) := by decide +kernel
theorem dX7_standsByLot_28 : decode cX7_standsByLot 28 = .ok (.iconst 4, 1) := by decide +kernel
theorem dX7_standsByLot_29 : decode cX7_standsByLot 29 = .ok (.invokevirtual 440, 3) := by decide +kernel
theorem dX7_standsByLot_32 : decode cX7_standsByLot 32 = .ok (.iastore, 1) := by decide +kernel
theorem dX7_standsByLot_33 : decode cX7_standsByLot 33 = .ok (.iinc 1 1, 3) := by decide +kernel
theorem dX7_standsByLot_36 : decode cX7_standsByLot 36 = .ok (.goto (-34), 3) := by decide +kernel
theorem dX7_standsByLot_39 : decode cX7_standsByLot 39 = .ok (.return_, 1) := by decide +kernel
theorem dX7_lots_0 : decode cX7_lots 0 = .ok (.iload_n 1, 1) := by decide +kernel
theorem dX7_lots_1 : decode cX7_lots 1 = .ok (.iconst 1, 1) := by decide +kernel
theorem dX7_lots_2 : decode cX7_lots 2 = .ok (.bipush 20, 2) := by decide +kernel
theorem dX7_lots_4 : decode cX7_lots 4 = .ok (.invokestatic 163, 3) := by decide +kernel
theorem dX7_lots_7 : decode cX7_lots 7 = .ok (.istore 4, 2) := by decide +kernel
theorem dX7_lots_9 : decode cX7_lots 9 = .ok (.iload 4, 2) := by decide +kernel
theorem dX7_lots_11 : decode cX7_lots 11 = .ok (.ifCond .ne 16, 3) := by decide +kernel
theorem dX7_lots_14 : decode cX7_lots 14 = .ok (.iload_n 3, 1) := by decide +kernel
theorem dX7_lots_15 : decode cX7_lots 15 = .ok (.iconst 0, 1) := by decide +kernel
theorem dX7_lots_16 : decode cX7_lots 16 = .ok (.iconst 1, 1) := by decide +kernel
theorem dX7_lots_17 : decode cX7_lots 17 = .ok (.invokestatic 85, 3) := by decide +kernel
theorem dX7_lots_20 : decode cX7_lots 20 = .ok (.ifCond .ne 7, 3) := by decide +kernel
theorem dX7_lots_23 : decode cX7_lots 23 = .ok (.bipush (-2), 2) := by decide +kernel
theorem dX7_lots_25 : decode cX7_lots 25 = .ok (.istore 4, 2) := by decide +kernel
theorem dX7_lots_27 : decode cX7_lots 27 = .ok (.iload 4, 2) := by decide +kernel
theorem dX7_lots_29 : decode cX7_lots 29 = .ok (.ifCond .eq 10, 3) := by decide +kernel
theorem dX7_lots_32 : decode cX7_lots 32 = .ok (.aload_n 0, 1) := by decide +kernel
theorem dX7_lots_33 : decode cX7_lots 33 = .ok (.iload 4, 2) := by decide +kernel
theorem dX7_lots_35 : decode cX7_lots 35 = .ok (.invokevirtual 170, 3) := by decide +kernel
theorem dX7_lots_38 : decode cX7_lots 38 = .ok (.ireturn, 1) := by decide +kernel
theorem dX7_lots_39 : decode cX7_lots 39 = .ok (.aload_n 0, 1) := by decide +kernel
theorem dX7_lots_40 : decode cX7_lots 40 = .ok (.iload_n 2, 1) := by decide +kernel
theorem dX7_lots_41 : decode cX7_lots 41 = .ok (.putfield 434, 3) := by decide +kernel
theorem dX7_lots_44 : decode cX7_lots 44 = .ok (.iconst 0, 1) := by decide +kernel
theorem dX7_lots_45 : decode cX7_lots 45 = .ok (.istore 5, 2) := by decide +kernel
theorem dX7_lots_47 : decode cX7_lots 47 = .ok (.iconst 0, 1) := by decide +kernel
theorem dX7_lots_48 : decode cX7_lots 48 = .ok (.istore 6, 2) := by decide +kernel
theorem dX7_lots_50 : decode cX7_lots 50 = .ok (.iload 6, 2) := by decide +kernel
theorem dX7_lots_52 : decode cX7_lots 52 = .ok (.iload_n 1, 1) := by decide +kernel
theorem dX7_lots_53 : decode cX7_lots 53 = .ok (.if_icmp .ge 81, 3) := by decide +kernel
theorem dX7_lots_56 : decode cX7_lots 56 = .ok (.iload_n 3, 1) := by decide +kernel
theorem dX7_lots_57 : decode cX7_lots 57 = .ok (.ifCond .ne 10, 3) := by decide +kernel
theorem dX7_lots_60 : decode cX7_lots 60 = .ok (.aload_n 0, 1) := by decide +kernel
theorem dX7_lots_61 : decode cX7_lots 61 = .ok (.getfield 127, 3) := by decide +kernel
theorem dX7_lots_64 : decode cX7_lots 64 = .ok (.goto 14, 3) := by decide +kernel
theorem dX7_lots_67 : decode cX7_lots 67 = .ok (.aload_n 0, 1) := by decide +kernel
theorem dX7_lots_68 : decode cX7_lots 68 = .ok (.getfield 40, 3) := by decide +kernel
theorem dX7_lots_71 : decode cX7_lots 71 = .ok (.aload_n 0, 1) := by decide +kernel
theorem dX7_lots_72 : decode cX7_lots 72 = .ok (.getfield 79, 3) := by decide +kernel
theorem dX7_lots_75 : decode cX7_lots 75 = .ok (.invokestatic 352, 3) := by decide +kernel
theorem dX7_lots_78 : decode cX7_lots 78 = .ok (.istore 7, 2) := by decide +kernel
theorem dX7_lots_80 : decode cX7_lots 80 = .ok (.aload_n 0, 1) := by decide +kernel
theorem dX7_lots_81 : decode cX7_lots 81 = .ok (.invokevirtual 343, 3) := by decide +kernel
theorem dX7_lots_84 : decode cX7_lots 84 = .ok (.aload_n 0, 1) := by decide +kernel
theorem dX7_lots_85 : decode cX7_lots 85 = .ok (.invokevirtual 443, 3) := by decide +kernel
theorem dX7_lots_88 : decode cX7_lots 88 = .ok (.aload_n 0, 1) := by decide +kernel
theorem dX7_lots_89 : decode cX7_lots 89 = .ok (.bipush 12, 2) := by decide +kernel
theorem dX7_lots_91 : decode cX7_lots 91 = .ok (.invokevirtual 261, 3) := by decide +kernel
theorem dX7_lots_94 : decode cX7_lots 94 = .ok (.iload 5, 2) := by decide +kernel
theorem dX7_lots_96 : decode cX7_lots 96 = .ok (.iload_n 3, 1) := by decide +kernel
theorem dX7_lots_97 : decode cX7_lots 97 = .ok (.ifCond .ne 10, 3) := by decide +kernel
theorem dX7_lots_100 : decode cX7_lots 100 = .ok (.aload_n 0, 1) := by decide +kernel
theorem dX7_lots_101 : decode cX7_lots 101 = .ok (.getfield 127, 3) := by decide +kernel
theorem dX7_lots_104 : decode cX7_lots 104 = .ok (.goto 14, 3) := by decide +kernel
theorem dX7_lots_107 : decode cX7_lots 107 = .ok (.aload_n 0, 1) := by decide +kernel
theorem dX7_lots_108 : decode cX7_lots 108 = .ok (.getfield 40, 3) := by decide +kernel
theorem dX7_lots_111 : decode cX7_lots 111 = .ok (.aload_n 0, 1) := by decide +kernel
theorem dX7_lots_112 : decode cX7_lots 112 = .ok (.getfield 79, 3) := by decide +kernel
theorem dX7_lots_115 : decode cX7_lots 115 = .ok (.invokestatic 352, 3) := by decide +kernel
theorem dX7_lots_118 : decode cX7_lots 118 = .ok (.iload 7, 2) := by decide +kernel
theorem dX7_lots_120 : decode cX7_lots 120 = .ok (.isub, 1) := by decide +kernel
theorem dX7_lots_121 : decode cX7_lots 121 = .ok (.iadd, 1) := by decide +kernel
theorem dX7_lots_122 : decode cX7_lots 122 = .ok (.istore 5, 2) := by decide +kernel
theorem dX7_lots_124 : decode cX7_lots 124 = .ok (.aload_n 0, 1) := by decide +kernel
theorem dX7_lots_125 : decode cX7_lots 125 = .ok (.invokevirtual 346, 3) := by decide +kernel
theorem dX7_lots_128 : decode cX7_lots 128 = .ok (.iinc 6 1, 3) := by decide +kernel
theorem dX7_lots_131 : decode cX7_lots 131 = .ok (.goto (-81), 3) := by decide +kernel
theorem dX7_lots_134 : decode cX7_lots 134 = .ok (.iload 5, 2) := by decide +kernel
theorem dX7_lots_136 : decode cX7_lots 136 = .ok (.ireturn, 1) := by decide +kernel
theorem dX7_count_0 : decode cX7_count 0 = .ok (.iload_n 1, 1) := by decide +kernel
theorem dX7_count_1 : decode cX7_count 1 = .ok (.bipush 11, 2) := by decide +kernel
theorem dX7_count_3 : decode cX7_count 3 = .ok (.bipush 16, 2) := by decide +kernel
theorem dX7_count_5 : decode cX7_count 5 = .ok (.invokestatic 85, 3) := by decide +kernel
theorem dX7_count_8 : decode cX7_count 8 = .ok (.ifCond .eq 13, 3) := by decide +kernel
theorem dX7_count_11 : decode cX7_count 11 = .ok (.aload_n 0, 1) := by decide +kernel
theorem dX7_count_12 : decode cX7_count 12 = .ok (.getfield 7, 3) := by decide +kernel
theorem dX7_count_15 : decode cX7_count 15 = .ok (.iload_n 1, 1) := by decide +kernel
theorem dX7_count_16 : decode cX7_count 16 = .ok (.bipush 10, 2) := by decide +kernel
theorem dX7_count_18 : decode cX7_count 18 = .ok (.isub, 1) := by decide +kernel
theorem dX7_count_19 : decode cX7_count 19 = .ok (.iaload, 1) := by decide +kernel
theorem dX7_count_20 : decode cX7_count 20 = .ok (.ireturn, 1) := by decide +kernel
theorem dX7_count_21 : decode cX7_count 21 = .ok (.iload_n 1, 1) := by decide +kernel
theorem dX7_count_22 : decode cX7_count 22 = .ok (.tableswitch 121 0 9 #[54, 59, 64, 69, 74, 86, 96, 106, 111, 116], 54) := by decide +kernel
theorem dX7_count_76 : decode cX7_count 76 = .ok (.aload_n 0, 1) := by decide +kernel
theorem dX7_count_77 : decode cX7_count 77 = .ok (.getfield 79, 3) := by decide +kernel
theorem dX7_count_80 : decode cX7_count 80 = .ok (.ireturn, 1) := by decide +kernel
theorem dX7_count_81 : decode cX7_count 81 = .ok (.aload_n 0, 1) := by decide +kernel
theorem dX7_count_82 : decode cX7_count 82 = .ok (.getfield 136, 3) := by decide +kernel
theorem dX7_count_85 : decode cX7_count 85 = .ok (.ireturn, 1) := by decide +kernel
theorem dX7_count_86 : decode cX7_count 86 = .ok (.aload_n 0, 1) := by decide +kernel
theorem dX7_count_87 : decode cX7_count 87 = .ok (.getfield 127, 3) := by decide +kernel
theorem dX7_count_90 : decode cX7_count 90 = .ok (.ireturn, 1) := by decide +kernel
theorem dX7_count_91 : decode cX7_count 91 = .ok (.aload_n 0, 1) := by decide +kernel
theorem dX7_count_92 : decode cX7_count 92 = .ok (.invokevirtual 349, 3) := by decide +kernel
theorem dX7_count_95 : decode cX7_count 95 = .ok (.ireturn, 1) := by decide +kernel
theorem dX7_count_96 : decode cX7_count 96 = .ok (.aload_n 0, 1) := by decide +kernel
theorem dX7_count_97 : decode cX7_count 97 = .ok (.getfield 37, 3) := by decide +kernel
theorem dX7_count_100 : decode cX7_count 100 = .ok (.aload_n 0, 1) := by decide +kernel
theorem dX7_count_101 : decode cX7_count 101 = .ok (.getfield 79, 3) := by decide +kernel
theorem dX7_count_104 : decode cX7_count 104 = .ok (.invokestatic 352, 3) := by decide +kernel
theorem dX7_count_107 : decode cX7_count 107 = .ok (.ireturn, 1) := by decide +kernel
theorem dX7_count_108 : decode cX7_count 108 = .ok (.aload_n 0, 1) := by decide +kernel
theorem dX7_count_109 : decode cX7_count 109 = .ok (.getfield 16, 3) := by decide +kernel
theorem dX7_count_112 : decode cX7_count 112 = .ok (.bipush 48, 2) := by decide +kernel
theorem dX7_count_114 : decode cX7_count 114 = .ok (.invokestatic 352, 3) := by decide +kernel
theorem dX7_count_117 : decode cX7_count 117 = .ok (.ireturn, 1) := by decide +kernel
theorem dX7_count_118 : decode cX7_count 118 = .ok (.aload_n 0, 1) := by decide +kernel
theorem dX7_count_119 : decode cX7_count 119 = .ok (.getfield 13, 3) := by decide +kernel
theorem dX7_count_122 : decode cX7_count 122 = .ok (.bipush 48, 2) := by decide +kernel
theorem dX7_count_124 : decode cX7_count 124 = .ok (.invokestatic 352, 3) := by decide +kernel
theorem dX7_count_127 : decode cX7_count 127 = .ok (.ireturn, 1) := by decide +kernel
theorem dX7_count_128 : decode cX7_count 128 = .ok (.aload_n 0, 1) := by decide +kernel
theorem dX7_count_129 : decode cX7_count 129 = .ok (.getfield 167, 3) := by decide +kernel
theorem dX7_count_132 : decode cX7_count 132 = .ok (.ireturn, 1) := by decide +kernel
theorem dX7_count_133 : decode cX7_count 133 = .ok (.aload_n 0, 1) := by decide +kernel
theorem dX7_count_134 : decode cX7_count 134 = .ok (.getfield 374, 3) := by decide +kernel
theorem dX7_count_137 : decode cX7_count 137 = .ok (.ireturn, 1) := by decide +kernel
theorem dX7_count_138 : decode cX7_count 138 = .ok (.aload_n 0, 1) := by decide +kernel
theorem dX7_count_139 : decode cX7_count 139 = .ok (.getfield 310, 3) := by decide +kernel
theorem dX7_count_142 : decode cX7_count 142 = .ok (.ireturn, 1) := by decide +kernel
theorem dX7_count_143 : decode cX7_count 143 = .ok (.bipush (-9), 2) := by decide +kernel
theorem dX7_count_145 : decode cX7_count 145 = .ok (.ireturn, 1) := by decide +kernel
