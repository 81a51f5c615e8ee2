theorem dJ6_numberOfTrailingZeros_0f7a4_0 : decode cJ6_numberOfTrailingZeros_0f7a4 0 = .ok (.iload_n 0, 1) := by decide +kernel
theorem dJ6_numberOfTrailingZeros_0f7a4_1 : decode cJ6_numberOfTrailingZeros_0f7a4 1 = .ok (.iconst (-1), 1) := by decide +kernel
theorem dJ6_numberOfTrailingZeros_0f7a4_2 : decode cJ6_numberOfTrailingZeros_0f7a4 2 = .ok (.ixor, 1) := by decide +kernel
theorem dJ6_numberOfTrailingZeros_0f7a4_3 : decode cJ6_numberOfTrailingZeros_0f7a4 3 = .ok (.iload_n 0, 1) := by decide +kernel
theorem dJ6_numberOfTrailingZeros_0f7a4_4 : decode cJ6_numberOfTrailingZeros_0f7a4 4 = .ok (.iconst 1, 1) := by decide +kernel
theorem dJ6_numberOfTrailingZeros_0f7a4_5 : decode cJ6_numberOfTrailingZeros_0f7a4 5 = .ok (.isub, 1) := by decide +kernel
theorem dJ6_numberOfTrailingZeros_0f7a4_6 : decode cJ6_numberOfTrailingZeros_0f7a4 6 = .ok (.iand, 1) := by decide +kernel
theorem dJ6_numberOfTrailingZeros_0f7a4_7 : decode cJ6_numberOfTrailingZeros_0f7a4 7 = .ok (.istore_n 0, 1) := by decide +kernel
theorem dJ6_numberOfTrailingZeros_0f7a4_8 : decode cJ6_numberOfTrailingZeros_0f7a4 8 = .ok (.iload_n 0, 1) := by decide +kernel
theorem dJ6_numberOfTrailingZeros_0f7a4_9 : decode cJ6_numberOfTrailingZeros_0f7a4 9 = .ok (.ifCond .gt 8, 3) := by decide +kernel
theorem dJ6_numberOfTrailingZeros_0f7a4_12 : decode cJ6_numberOfTrailingZeros_0f7a4 12 = .ok (.iload_n 0, 1) := by decide +kernel
theorem dJ6_numberOfTrailingZeros_0f7a4_13 : decode cJ6_numberOfTrailingZeros_0f7a4 13 = .ok (.bipush 32, 2) := by decide +kernel
theorem dJ6_numberOfTrailingZeros_0f7a4_15 : decode cJ6_numberOfTrailingZeros_0f7a4 15 = .ok (.iand, 1) := by decide +kernel
theorem dJ6_numberOfTrailingZeros_0f7a4_16 : decode cJ6_numberOfTrailingZeros_0f7a4 16 = .ok (.ireturn, 1) := by decide +kernel
theorem dJ6_numberOfTrailingZeros_0f7a4_17 : decode cJ6_numberOfTrailingZeros_0f7a4 17 = .ok (.iconst 1, 1) := by decide +kernel
theorem dJ6_numberOfTrailingZeros_0f7a4_18 : decode cJ6_numberOfTrailingZeros_0f7a4 18 = .ok (.istore_n 1, 1) := by decide +kernel
theorem dJ6_numberOfTrailingZeros_0f7a4_19 : decode cJ6_numberOfTrailingZeros_0f7a4 19 = .ok (.iload_n 0, 1) := by decide +kernel
theorem dJ6_numberOfTrailingZeros_0f7a4_20 : decode cJ6_numberOfTrailingZeros_0f7a4 20 = .ok (.ldc_w 264, 3) := by decide +kernel
theorem dJ6_numberOfTrailingZeros_0f7a4_23 : decode cJ6_numberOfTrailingZeros_0f7a4 23 = .ok (.if_icmp .le 11, 3) := by decide +kernel
theorem dJ6_numberOfTrailingZeros_0f7a4_26 : decode cJ6_numberOfTrailingZeros_0f7a4 26 = .ok (.iinc 1 16, 3) := by decide +kernel
theorem dJ6_numberOfTrailingZeros_0f7a4_29 : decode cJ6_numberOfTrailingZeros_0f7a4 29 = .ok (.iload_n 0, 1) := by decide +kernel
theorem dJ6_numberOfTrailingZeros_0f7a4_30 : decode cJ6_numberOfTrailingZeros_0f7a4 30 = .ok (.bipush 16, 2) := by decide +kernel
theorem dJ6_numberOfTrailingZeros_0f7a4_32 : decode cJ6_numberOfTrailingZeros_0f7a4 32 = .ok (.iushr, 1) := by decide +kernel
theorem dJ6_numberOfTrailingZeros_0f7a4_33 : decode cJ6_numberOfTrailingZeros_0f7a4 33 = .ok (.istore_n 0, 1) := by decide +kernel
theorem dJ6_numberOfTrailingZeros_0f7a4_34 : decode cJ6_numberOfTrailingZeros_0f7a4 34 = .ok (.iload_n 0, 1) := by decide +kernel
theorem dJ6_numberOfTrailingZeros_0f7a4_35 : decode cJ6_numberOfTrailingZeros_0f7a4 35 = .ok (.sipush 256, 3) := by decide +kernel
theorem dJ6_numberOfTrailingZeros_0f7a4_38 : decode cJ6_numberOfTrailingZeros_0f7a4 38 = .ok (.if_icmp .le 11, 3) := by decide +kernel
theorem dJ6_numberOfTrailingZeros_0f7a4_41 : decode cJ6_numberOfTrailingZeros_0f7a4 41 = .ok (.iinc 1 8, 3) := by decide +kernel
theorem dJ6_numberOfTrailingZeros_0f7a4_44 : decode cJ6_numberOfTrailingZeros_0f7a4 44 = .ok (.iload_n 0, 1) := by decide +kernel
theorem dJ6_numberOfTrailingZeros_0f7a4_45 : decode cJ6_numberOfTrailingZeros_0f7a4 45 = .ok (.bipush 8, 2) := by decide +kernel
theorem dJ6_numberOfTrailingZeros_0f7a4_47 : decode cJ6_numberOfTrailingZeros_0f7a4 47 = .ok (.iushr, 1) := by decide +kernel
theorem dJ6_numberOfTrailingZeros_0f7a4_48 : decode cJ6_numberOfTrailingZeros_0f7a4 48 = .ok (.istore_n 0, 1) := by decide +kernel
theorem dJ6_numberOfTrailingZeros_0f7a4_49 : decode cJ6_numberOfTrailingZeros_0f7a4 49 = .ok (.iload_n 0, 1) := by decide +kernel
theorem dJ6_numberOfTrailingZeros_0f7a4_50 : decode cJ6_numberOfTrailingZeros_0f7a4 50 = .ok (.bipush 16, 2) := by decide +kernel
theorem dJ6_numberOfTrailingZeros_0f7a4_52 : decode cJ6_numberOfTrailingZeros_0f7a4 52 = .ok (.if_icmp .le 10, 3) := by decide +kernel
theorem dJ6_numberOfTrailingZeros_0f7a4_55 : decode cJ6_numberOfTrailingZeros_0f7a4 55 = .ok (.iinc 1 4, 3) := by decide +kernel
theorem dJ6_numberOfTrailingZeros_0f7a4_58 : decode cJ6_numberOfTrailingZeros_0f7a4 58 = .ok (.iload_n 0, 1) := by decide +kernel
theorem dJ6_numberOfTrailingZeros_0f7a4_59 : decode cJ6_numberOfTrailingZeros_0f7a4 59 = .ok (.iconst 4, 1) := by decide +kernel
theorem dJ6_numberOfTrailingZeros_0f7a4_60 : decode cJ6_numberOfTrailingZeros_0f7a4 60 = .ok (.iushr, 1) := by decide +kernel
theorem dJ6_numberOfTrailingZeros_0f7a4_61 : decode cJ6_numberOfTrailingZeros_0f7a4 61 = .ok (.istore_n 0, 1) := by decide +kernel
theorem dJ6_numberOfTrailingZeros_0f7a4_62 : decode cJ6_numberOfTrailingZeros_0f7a4 62 = .ok (.iload_n 0, 1) := by decide +kernel
theorem dJ6_numberOfTrailingZeros_0f7a4_63 : decode cJ6_numberOfTrailingZeros_0f7a4 63 = .ok (.iconst 4, 1) := by decide +kernel
theorem dJ6_numberOfTrailingZeros_0f7a4_64 : decode cJ6_numberOfTrailingZeros_0f7a4 64 = .ok (.if_icmp .le 10, 3) := by decide +kernel
theorem dJ6_numberOfTrailingZeros_0f7a4_67 : decode cJ6_numberOfTrailingZeros_0f7a4 67 = .ok (.iinc 1 2, 3) := by decide +kernel
theorem dJ6_numberOfTrailingZeros_0f7a4_70 : decode cJ6_numberOfTrailingZeros_0f7a4 70 = .ok (.iload_n 0, 1) := by decide +kernel
theorem dJ6_numberOfTrailingZeros_0f7a4_71 : decode cJ6_numberOfTrailingZeros_0f7a4 71 = .ok (.iconst 2, 1) := by decide +kernel
theorem dJ6_numberOfTrailingZeros_0f7a4_72 : decode cJ6_numberOfTrailingZeros_0f7a4 72 = .ok (.iushr, 1) := by decide +kernel
theorem dJ6_numberOfTrailingZeros_0f7a4_73 : decode cJ6_numberOfTrailingZeros_0f7a4 73 = .ok (.istore_n 0, 1) := by decide +kernel
theorem dJ6_numberOfTrailingZeros_0f7a4_74 : decode cJ6_numberOfTrailingZeros_0f7a4 74 = .ok (.iload_n 1, 1) := by decide +kernel
theorem dJ6_numberOfTrailingZeros_0f7a4_75 : decode cJ6_numberOfTrailingZeros_0f7a4 75 = .ok (.iload_n 0, 1) := by decide +kernel
theorem dJ6_numberOfTrailingZeros_0f7a4_76 : decode cJ6_numberOfTrailingZeros_0f7a4 76 = .ok (.iconst 1, 1) := by decide +kernel
theorem dJ6_numberOfTrailingZeros_0f7a4_77 : decode cJ6_numberOfTrailingZeros_0f7a4 77 = .ok (.iushr, 1) := by decide +kernel
theorem dJ6_numberOfTrailingZeros_0f7a4_78 : decode cJ6_numberOfTrailingZeros_0f7a4 78 = .ok (.iadd, 1) := by decide +kernel
theorem dJ6_numberOfTrailingZeros_0f7a4_79 : decode cJ6_numberOfTrailingZeros_0f7a4 79 = .ok (.ireturn, 1) := by decide +kernel
theorem dJ6_bitCount_0f7a4_0 : decode cJ6_bitCount_0f7a4 0 = .ok (.iload_n 0, 1) := by decide +kernel
theorem dJ6_bitCount_0f7a4_1 : decode cJ6_bitCount_0f7a4 1 = .ok (.iload_n 0, 1) := by decide +kernel
theorem dJ6_bitCount_0f7a4_2 : decode cJ6_bitCount_0f7a4 2 = .ok (.iconst 1, 1) := by decide +kernel
theorem dJ6_bitCount_0f7a4_3 : decode cJ6_bitCount_0f7a4 3 = .ok (.iushr, 1) := by decide +kernel
theorem dJ6_bitCount_0f7a4_4 : decode cJ6_bitCount_0f7a4 4 = .ok (.ldc_w 265, 3) := by decide +kernel
theorem dJ6_bitCount_0f7a4_7 : decode cJ6_bitCount_0f7a4 7 = .ok (.iand, 1) := by decide +kernel
theorem dJ6_bitCount_0f7a4_8 : decode cJ6_bitCount_0f7a4 8 = .ok (.isub, 1) := by decide +kernel
theorem dJ6_bitCount_0f7a4_9 : decode cJ6_bitCount_0f7a4 9 = .ok (.istore_n 0, 1) := by decide +kernel
theorem dJ6_bitCount_0f7a4_10 : decode cJ6_bitCount_0f7a4 10 = .ok (.iload_n 0, 1) := by decide +kernel
theorem dJ6_bitCount_0f7a4_11 : decode cJ6_bitCount_0f7a4 11 = .ok (.ldc_w 266, 3) := by decide +kernel
theorem dJ6_bitCount_0f7a4_14 : decode cJ6_bitCount_0f7a4 14 = .ok (.iand, 1) := by decide +kernel
theorem dJ6_bitCount_0f7a4_15 : decode cJ6_bitCount_0f7a4 15 = .ok (.iload_n 0, 1) := by decide +kernel
theorem dJ6_bitCount_0f7a4_16 : decode cJ6_bitCount_0f7a4 16 = .ok (.iconst 2, 1) := by decide +kernel
theorem dJ6_bitCount_0f7a4_17 : decode cJ6_bitCount_0f7a4 17 = .ok (.iushr, 1) := by decide +kernel
theorem dJ6_bitCount_0f7a4_18 : decode cJ6_bitCount_0f7a4 18 = .ok (.ldc_w 266, 3) := by decide +kernel
theorem dJ6_bitCount_0f7a4_21 : decode cJ6_bitCount_0f7a4 21 = .ok (.iand, 1) := by decide +kernel
theorem dJ6_bitCount_0f7a4_22 : decode cJ6_bitCount_0f7a4 22 = .ok (.iadd, 1) := by decide +kernel
theorem dJ6_bitCount_0f7a4_23 : decode cJ6_bitCount_0f7a4 23 = .ok (.istore_n 0, 1) := by decide +kernel
theorem dJ6_bitCount_0f7a4_24 : decode cJ6_bitCount_0f7a4 24 = .ok (.iload_n 0, 1) := by decide +kernel
theorem dJ6_bitCount_0f7a4_25 : decode cJ6_bitCount_0f7a4 25 = .ok (.iload_n 0, 1) := by decide +kernel
theorem dJ6_bitCount_0f7a4_26 : decode cJ6_bitCount_0f7a4 26 = .ok (.iconst 4, 1) := by decide +kernel
theorem dJ6_bitCount_0f7a4_27 : decode cJ6_bitCount_0f7a4 27 = .ok (.iushr, 1) := by decide +kernel
theorem dJ6_bitCount_0f7a4_28 : decode cJ6_bitCount_0f7a4 28 = .ok (.iadd, 1) := by decide +kernel
theorem dJ6_bitCount_0f7a4_29 : decode cJ6_bitCount_0f7a4 29 = .ok (.ldc_w 267, 3) := by decide +kernel
theorem dJ6_bitCount_0f7a4_32 : decode cJ6_bitCount_0f7a4 32 = .ok (.iand, 1) := by decide +kernel
theorem dJ6_bitCount_0f7a4_33 : decode cJ6_bitCount_0f7a4 33 = .ok (.istore_n 0, 1) := by decide +kernel
theorem dJ6_bitCount_0f7a4_34 : decode cJ6_bitCount_0f7a4 34 = .ok (.iload_n 0, 1) := by decide +kernel
theorem dJ6_bitCount_0f7a4_35 : decode cJ6_bitCount_0f7a4 35 = .ok (.iload_n 0, 1) := by decide +kernel
theorem dJ6_bitCount_0f7a4_36 : decode cJ6_bitCount_0f7a4 36 = .ok (.bipush 8, 2) := by decide +kernel
theorem dJ6_bitCount_0f7a4_38 : decode cJ6_bitCount_0f7a4 38 = .ok (.iushr, 1) := by decide +kernel
theorem dJ6_bitCount_0f7a4_39 : decode cJ6_bitCount_0f7a4 39 = .ok (.iadd, 1) := by decide +kernel
theorem dJ6_bitCount_0f7a4_40 : decode cJ6_bitCount_0f7a4 40 = .ok (.istore_n 0, 1) := by decide +kernel
theorem dJ6_bitCount_0f7a4_41 : decode cJ6_bitCount_0f7a4 41 = .ok (.iload_n 0, 1) := by decide +kernel
theorem dJ6_bitCount_0f7a4_42 : decode cJ6_bitCount_0f7a4 42 = .ok (.iload_n 0, 1) := by decide +kernel
theorem dJ6_bitCount_0f7a4_43 : decode cJ6_bitCount_0f7a4 43 = .ok (.bipush 16, 2) := by decide +kernel
theorem dJ6_bitCount_0f7a4_45 : decode cJ6_bitCount_0f7a4 45 = .ok (.iushr, 1) := by decide +kernel
theorem dJ6_bitCount_0f7a4_46 : decode cJ6_bitCount_0f7a4 46 = .ok (.iadd, 1) := by decide +kernel
theorem dJ6_bitCount_0f7a4_47 : decode cJ6_bitCount_0f7a4 47 = .ok (.istore_n 0, 1) := by decide +kernel
theorem dJ6_bitCount_0f7a4_48 : decode cJ6_bitCount_0f7a4 48 = .ok (.iload_n 0, 1) := by decide +kernel
theorem dJ6_bitCount_0f7a4_49 : decode cJ6_bitCount_0f7a4 49 = .ok (.bipush 63, 2) := by decide +kernel
theorem dJ6_bitCount_0f7a4_51 : decode cJ6_bitCount_0f7a4 51 = .ok (.iand, 1) := by decide +kernel
theorem dJ6_bitCount_0f7a4_52 : decode cJ6_bitCount_0f7a4 52 = .ok (.ireturn, 1) := by decide +kernel
theorem dX0_begin_0 : decode cX0_begin 0 = .ok (.aload_n 0, 1) := by decide +kernel
theorem dX0_begin_1 : decode cX0_begin 1 = .ok (.iload_n 1, 1) := by decide +kernel
theorem dX0_begin_2 : decode cX0_begin 2 = .ok (.putfield 15, 3) := by decide +kernel
theorem dX0_begin_5 : decode cX0_begin 5 = .ok (.aload_n 0, 1) := by decide +kernel
theorem dX0_begin_6 : decode cX0_begin 6 = .ok (.iload_n 2, 1) := by decide +kernel
theorem dX0_begin_7 : decode cX0_begin 7 = .ok (.putfield 19, 3) := by decide +kernel
theorem dX0_begin_10 : decode cX0_begin 10 = .ok (.aload_n 0, 1) := by decide +kernel
theorem dX0_begin_11 : decode cX0_begin 11 = .ok (.iconst 0, 1) := by decide +kernel
theorem dX0_begin_12 : decode cX0_begin 12 = .ok (.putfield 22, 3) := by decide +kernel
theorem dX0_begin_15 : decode cX0_begin 15 = .ok (.aload_n 0, 1) := by decide +kernel
theorem dX0_begin_16 : decode cX0_begin 16 = .ok (.iload_n 3, 1) := by decide +kernel
theorem dX0_begin_17 : decode cX0_begin 17 = .ok (.putfield 25, 3) := by decide +kernel
theorem dX0_begin_20 : decode cX0_begin 20 = .ok (.aload_n 0, 1) := by decide +kernel
theorem dX0_begin_21 : decode cX0_begin 21 = .ok (.iconst 0, 1) := by decide +kernel
theorem dX0_begin_22 : decode cX0_begin 22 = .ok (.putfield 28, 3) := by decide +kernel
theorem dX0_begin_25 : decode cX0_begin 25 = .ok (.aload_n 0, 1) := by decide +kernel
theorem dX0_begin_26 : decode cX0_begin 26 = .ok (.iconst 0, 1) := by decide +kernel
theorem dX0_begin_27 : decode cX0_begin 27 = .ok (.putfield 31, 3) := by decide +kernel
theorem dX0_begin_30 : decode cX0_begin 30 = .ok (.aload_n 0, 1) := by decide +kernel
theorem dX0_begin_31 : decode cX0_begin 31 = .ok (.iconst 0, 1) := by decide +kernel
theorem dX0_begin_32 : decode cX0_begin 32 = .ok (.putfield 34, 3) := by decide +kernel
theorem dX0_begin_35 : decode cX0_begin 35 = .ok (.aload_n 0, 1) := by decide +kernel
theorem dX0_begin_36 : decode cX0_begin 36 = .ok (.iconst 0, 1) := by decide +kernel
theorem dX0_begin_37 : decode cX0_begin 37 = .ok (.putfield 37, 3) := by decide +kernel
theorem dX0_begin_40 : decode cX0_begin 40 = .ok (.return_, 1) := by decide +kernel
theorem dX0_copyName_0 : decode cX0_copyName 0 = .ok (.aload_n 0, 1) := by decide +kernel
theorem dX0_copyName_1 : decode cX0_copyName 1 = .ok (.aload_n 1, 1) := by decide +kernel
theorem dX0_copyName_2 : decode cX0_copyName 2 = .ok (.getfield 22, 3) := by decide +kernel
theorem dX0_copyName_5 : decode cX0_copyName 5 = .ok (.putfield 22, 3) := by decide +kernel
theorem dX0_copyName_8 : decode cX0_copyName 8 = .ok (.aload_n 1, 1) := by decide +kernel
theorem dX0_copyName_9 : decode cX0_copyName 9 = .ok (.getfield 9, 3) := by decide +kernel
theorem dX0_copyName_12 : decode cX0_copyName 12 = .ok (.iconst 0, 1) := by decide +kernel
theorem dX0_copyName_13 : decode cX0_copyName 13 = .ok (.aload_n 0, 1) := by decide +kernel
theorem dX0_copyName_14 : decode cX0_copyName 14 = .ok (.getfield 9, 3) := by decide +kernel
theorem dX0_copyName_17 : decode cX0_copyName 17 = .ok (.iconst 0, 1) := by decide +kernel
theorem dX0_copyName_18 : decode cX0_copyName 18 = .ok (.bipush 6, 2) := by decide +kernel
theorem dX0_copyName_20 : decode cX0_copyName 20 = .ok (.invokestatic 45, 3) := by decide +kernel
theorem dX0_copyName_23 : decode cX0_copyName 23 = .ok (.return_, 1) := by decide +kernel
theorem dX0_become_0 : decode cX0_become 0 = .ok (.aload_n 0, 1) := by decide +kernel
theorem dX0_become_1 : decode cX0_become 1 = .ok (.aload_n 1, 1) := by decide +kernel
theorem dX0_become_2 : decode cX0_become 2 = .ok (.getfield 15, 3) := by decide +kernel
theorem dX0_become_5 : decode cX0_become 5 = .ok (.putfield 15, 3) := by decide +kernel
theorem dX0_become_8 : decode cX0_become 8 = .ok (.aload_n 0, 1) := by decide +kernel
theorem dX0_become_9 : decode cX0_become 9 = .ok (.aload_n 1, 1) := by decide +kernel
theorem dX0_become_10 : decode cX0_become 10 = .ok (.getfield 19, 3) := by decide +kernel
theorem dX0_become_13 : decode cX0_become 13 = .ok (.putfield 19, 3) := by decide +kernel
theorem dX0_become_16 : decode cX0_become 16 = .ok (.aload_n 0, 1) := by decide +kernel
theorem dX0_become_17 : decode cX0_become 17 = .ok (.aload_n 1, 1) := by decide +kernel
theorem dX0_become_18 : decode cX0_become 18 = .ok (.invokevirtual 41, 3) := by decide +kernel
theorem dX0_become_21 : decode cX0_become 21 = .ok (.aload_n 0, 1) := by decide +kernel
theorem dX0_become_22 : decode cX0_become 22 = .ok (.aload_n 1, 1) := by decide +kernel
theorem dX0_become_23 : decode cX0_become 23 = .ok (.getfield 25, 3) := by decide +kernel
theorem dX0_become_26 : decode cX0_become 26 = .ok (.putfield 25, 3) := by decide +kernel
theorem dX0_become_29 : decode cX0_become 29 = .ok (.aload_n 0, 1) := by decide +kernel
theorem dX0_become_30 : decode cX0_become 30 = .ok (.aload_n 1, 1) := by decide +kernel
theorem dX0_become_31 : decode cX0_become 31 = .ok (.getfield 28, 3) := by decide +kernel
theorem dX0_become_34 : decode cX0_become 34 = .ok (.putfield 28, 3) := by decide +kernel
theorem dX0_become_37 : decode cX0_become 37 = .ok (.aload_n 0, 1) := by decide +kernel
theorem dX0_become_38 : decode cX0_become 38 = .ok (.aload_n 1, 1) := by decide +kernel
theorem dX0_become_39 : decode cX0_become 39 = .ok (.getfield 31, 3) := by decide +kernel
theorem dX0_become_42 : decode cX0_become 42 = .ok (.putfield 31, 3) := by decide +kernel
theorem dX0_become_45 : decode cX0_become 45 = .ok (.aload_n 0, 1) := by decide +kernel
theorem dX0_become_46 : decode cX0_become 46 = .ok (.aload_n 1, 1) := by decide +kernel
theorem dX0_become_47 : decode cX0_become 47 = .ok (.getfield 34, 3) := by decide +kernel
theorem dX0_become_50 : decode cX0_become 50 = .ok (.putfield 34, 3) := by decide +kernel
theorem dX0_become_53 : decode cX0_become 53 = .ok (.aload_n 0, 1) := by decide +kernel
theorem dX0_become_54 : decode cX0_become 54 = .ok (.aload_n 1, 1) := by decide +kernel
theorem dX0_become_55 : decode cX0_become 55 = .ok (.getfield 37, 3) := by decide +kernel
theorem dX0_become_58 : decode cX0_become 58 = .ok (.putfield 37, 3) := by decide +kernel
theorem dX0_become_61 : decode cX0_become 61 = .ok (.return_, 1) := by decide +kernel
theorem dX0_steps_0 : decode cX0_steps 0 = .ok (.aload_n 0, 1) := by decide +kernel
theorem dX0_steps_1 : decode cX0_steps 1 = .ok (.getfield 15, 3) := by decide +kernel
theorem dX0_steps_4 : decode cX0_steps 4 = .ok (.tableswitch 73 1 7 #[44, 46, 73, 73, 55, 62, 71], 44) := by decide +kernel
theorem dX0_steps_48 : decode cX0_steps 48 = .ok (.iconst 2, 1) := by decide +kernel
theorem dX0_steps_49 : decode cX0_steps 49 = .ok (.ireturn, 1) := by decide +kernel
theorem dX0_steps_50 : decode cX0_steps 50 = .ok (.aload_n 0, 1) := by decide +kernel
theorem dX0_steps_51 : decode cX0_steps 51 = .ok (.getfield 19, 3) := by decide +kernel
theorem dX0_steps_54 : decode cX0_steps 54 = .ok (.iconst 3, 1) := by decide +kernel
theorem dX0_steps_55 : decode cX0_steps 55 = .ok (.idiv, 1) := by decide +kernel
theorem dX0_steps_56 : decode cX0_steps 56 = .ok (.iconst 1, 1) := by decide +kernel
theorem dX0_steps_57 : decode cX0_steps 57 = .ok (.iadd, 1) := by decide +kernel
theorem dX0_steps_58 : decode cX0_steps 58 = .ok (.ireturn, 1) := by decide +kernel
theorem dX0_steps_59 : decode cX0_steps 59 = .ok (.aload_n 0, 1) := by decide +kernel
theorem dX0_steps_60 : decode cX0_steps 60 = .ok (.getfield 22, 3) := by decide +kernel
theorem dX0_steps_63 : decode cX0_steps 63 = .ok (.iconst 2, 1) := by decide +kernel
theorem dX0_steps_64 : decode cX0_steps 64 = .ok (.idiv, 1) := by decide +kernel
theorem dX0_steps_65 : decode cX0_steps 65 = .ok (.ireturn, 1) := by decide +kernel
theorem dX0_steps_66 : decode cX0_steps 66 = .ok (.aload_n 0, 1) := by decide +kernel
theorem dX0_steps_67 : decode cX0_steps 67 = .ok (.getfield 19, 3) := by decide +kernel
theorem dX0_steps_70 : decode cX0_steps 70 = .ok (.iconst 3, 1) := by decide +kernel
theorem dX0_steps_71 : decode cX0_steps 71 = .ok (.idiv, 1) := by decide +kernel
theorem dX0_steps_72 : decode cX0_steps 72 = .ok (.iconst 2, 1) := by decide +kernel
theorem dX0_steps_73 : decode cX0_steps 73 = .ok (.iadd, 1) := by decide +kernel
theorem dX0_steps_74 : decode cX0_steps 74 = .ok (.ireturn, 1) := by decide +kernel
theorem dX0_steps_75 : decode cX0_steps 75 = .ok (.iconst 2, 1) := by decide +kernel
theorem dX0_steps_76 : decode cX0_steps 76 = .ok (.ireturn, 1) := by decide +kernel
theorem dX0_steps_77 : decode cX0_steps 77 = .ok (.iconst 1, 1) := by decide +kernel
theorem dX0_steps_78 : decode cX0_steps 78 = .ok (.ireturn, 1) := by decide +kernel
theorem dX0_weight_0 : decode cX0_weight 0 = .ok (.aload_n 0, 1) := by decide +kernel
theorem dX0_weight_1 : decode cX0_weight 1 = .ok (.getfield 19, 3) := by decide +kernel
theorem dX0_weight_4 : decode cX0_weight 4 = .ok (.iconst 1, 1) := by decide +kernel
theorem dX0_weight_5 : decode cX0_weight 5 = .ok (.iadd, 1) := by decide +kernel
theorem dX0_weight_6 : decode cX0_weight 6 = .ok (.istore_n 1, 1) := by decide +kernel
theorem dX0_weight_7 : decode cX0_weight 7 = .ok (.aload_n 0, 1) := by decide +kernel
theorem dX0_weight_8 : decode cX0_weight 8 = .ok (.getfield 15, 3) := by decide +kernel
theorem dX0_weight_11 : decode cX0_weight 11 = .ok (.tableswitch 78 1 7 #[41, 45, 48, 52, 58, 64, 72], 41) := by decide +kernel
theorem dX0_weight_52 : decode cX0_weight 52 = .ok (.iconst 2, 1) := by decide +kernel
theorem dX0_weight_53 : decode cX0_weight 53 = .ok (.iload_n 1, 1) := by decide +kernel
theorem dX0_weight_54 : decode cX0_weight 54 = .ok (.imul, 1) := by decide +kernel
theorem dX0_weight_55 : decode cX0_weight 55 = .ok (.ireturn, 1) := by decide +kernel
theorem dX0_weight_56 : decode cX0_weight 56 = .ok (.bipush 9, 2) := by decide +kernel
theorem dX0_weight_58 : decode cX0_weight 58 = .ok (.ireturn, 1) := by decide +kernel
theorem dX0_weight_59 : decode cX0_weight 59 = .ok (.iload_n 1, 1) := by decide +kernel
theorem dX0_weight_60 : decode cX0_weight 60 = .ok (.iconst 2, 1) := by decide +kernel
theorem dX0_weight_61 : decode cX0_weight 61 = .ok (.idiv, 1) := by decide +kernel
theorem dX0_weight_62 : decode cX0_weight 62 = .ok (.ireturn, 1) := by decide +kernel
theorem dX0_weight_63 : decode cX0_weight 63 = .ok (.iconst 2, 1) := by decide +kernel
theorem dX0_weight_64 : decode cX0_weight 64 = .ok (.iload_n 1, 1) := by decide +kernel
theorem dX0_weight_65 : decode cX0_weight 65 = .ok (.imul, 1) := by decide +kernel
theorem dX0_weight_66 : decode cX0_weight 66 = .ok (.iconst 3, 1) := by decide +kernel
theorem dX0_weight_67 : decode cX0_weight 67 = .ok (.iadd, 1) := by decide +kernel
theorem dX0_weight_68 : decode cX0_weight 68 = .ok (.ireturn, 1) := by decide +kernel
theorem dX0_weight_69 : decode cX0_weight 69 = .ok (.iload_n 1, 1) := by decide +kernel
theorem dX0_weight_70 : decode cX0_weight 70 = .ok (.iconst 2, 1) := by decide +kernel
theorem dX0_weight_71 : decode cX0_weight 71 = .ok (.idiv, 1) := by decide +kernel
theorem dX0_weight_72 : decode cX0_weight 72 = .ok (.iconst 2, 1) := by decide +kernel
theorem dX0_weight_73 : decode cX0_weight 73 = .ok (.iadd, 1) := by decide +kernel
theorem dX0_weight_74 : decode cX0_weight 74 = .ok (.ireturn, 1) := by decide +kernel
theorem dX0_weight_75 : decode cX0_weight 75 = .ok (.bipush 9, 2) := by decide +kernel
theorem dX0_weight_77 : decode cX0_weight 77 = .ok (.aload_n 0, 1) := by decide +kernel
theorem dX0_weight_78 : decode cX0_weight 78 = .ok (.getfield 19, 3) := by decide +kernel
theorem dX0_weight_81 : decode cX0_weight 81 = .ok (.isub, 1) := by decide +kernel
theorem dX0_weight_82 : decode cX0_weight 82 = .ok (.ireturn, 1) := by decide +kernel
theorem dX0_weight_83 : decode cX0_weight 83 = .ok (.iconst 2, 1) := by decide +kernel
theorem dX0_weight_84 : decode cX0_weight 84 = .ok (.iload_n 1, 1) := by decide +kernel
theorem dX0_weight_85 : decode cX0_weight 85 = .ok (.imul, 1) := by decide +kernel
theorem dX0_weight_86 : decode cX0_weight 86 = .ok (.iconst 3, 1) := by decide +kernel
theorem dX0_weight_87 : decode cX0_weight 87 = .ok (.iadd, 1) := by decide +kernel
theorem dX0_weight_88 : decode cX0_weight 88 = .ok (.ireturn, 1) := by decide +kernel
theorem dX0_weight_89 : decode cX0_weight 89 = .ok (.iload_n 1, 1) := by decide +kernel
theorem dX0_weight_90 : decode cX0_weight 90 = .ok (.ireturn, 1) := by decide +kernel
theorem dX0_isVowel_0 : decode cX0_isVowel 0 = .ok (.bipush 97, 2) := by decide +kernel
theorem dX0_isVowel_2 : decode cX0_isVowel 2 = .ok (.iload_n 0, 1) := by decide +kernel
theorem dX0_isVowel_3 : decode cX0_isVowel 3 = .ok (.iadd, 1) := by decide +kernel
theorem dX0_isVowel_4 : decode cX0_isVowel 4 = .ok (.lookupswitch 54 #[(97, 52), (101, 52), (105, 52), (111, 52), (117, 52)], 52) := by decide +kernel
theorem dX0_isVowel_56 : decode cX0_isVowel 56 = .ok (.iconst 1, 1) := by decide +kernel
theorem dX0_isVowel_57 : decode cX0_isVowel 57 = .ok (.ireturn, 1) := by decide +kernel
theorem dX0_isVowel_58 : decode cX0_isVowel 58 = .ok (.iconst 0, 1) := by decide +kernel
theorem dX0_isVowel_59 : decode cX0_isVowel 59 = .ok (.ireturn, 1) := by decide +kernel
theorem dX0_veers_0 : decode cX0_veers 0 = .ok (.iload_n 1, 1) := by decide +kernel
theorem dX0_veers_1 : decode cX0_veers 1 = .ok (.iconst 4, 1) := by decide +kernel
theorem dX0_veers_2 : decode cX0_veers 2 = .ok (.irem, 1) := by decide +kernel
theorem dX0_veers_3 : decode cX0_veers 3 = .ok (.ifCond .ne 7, 3) := by decide +kernel
theorem dX0_veers_6 : decode cX0_veers 6 = .ok (.iconst 1, 1) := by decide +kernel
theorem dX0_veers_7 : decode cX0_veers 7 = .ok (.goto 4, 3) := by decide +kernel
theorem dX0_veers_10 : decode cX0_veers 10 = .ok (.iconst 0, 1) := by decide +kernel
theorem dX0_veers_11 : decode cX0_veers 11 = .ok (.istore_n 2, 1) := by decide +kernel
theorem dX0_veers_12 : decode cX0_veers 12 = .ok (.iload_n 1, 1) := by decide +kernel
theorem dX0_veers_13 : decode cX0_veers 13 = .ok (.aload_n 0, 1) := by decide +kernel
theorem dX0_veers_14 : decode cX0_veers 14 = .ok (.getfield 19, 3) := by decide +kernel
theorem dX0_veers_17 : decode cX0_veers 17 = .ok (.iconst 2, 1) := by decide +kernel
theorem dX0_veers_18 : decode cX0_veers 18 = .ok (.iadd, 1) := by decide +kernel
theorem dX0_veers_19 : decode cX0_veers 19 = .ok (.irem, 1) := by decide +kernel
theorem dX0_veers_20 : decode cX0_veers 20 = .ok (.ifCond .ne 7, 3) := by decide +kernel
theorem dX0_veers_23 : decode cX0_veers 23 = .ok (.iconst 3, 1) := by decide +kernel
theorem dX0_veers_24 : decode cX0_veers 24 = .ok (.goto 4, 3) := by decide +kernel
theorem dX0_veers_27 : decode cX0_veers 27 = .ok (.iconst 0, 1) := by decide +kernel
theorem dX0_veers_28 : decode cX0_veers 28 = .ok (.istore_n 3, 1) := by decide +kernel
theorem dX0_veers_29 : decode cX0_veers 29 = .ok (.aload_n 0, 1) := by decide +kernel
theorem dX0_veers_30 : decode cX0_veers 30 = .ok (.getfield 34, 3) := by decide +kernel
theorem dX0_veers_33 : decode cX0_veers 33 = .ok (.ifCond .ne 7, 3) := by decide +kernel
theorem dX0_veers_36 : decode cX0_veers 36 = .ok (.iconst 2, 1) := by decide +kernel
theorem dX0_veers_37 : decode cX0_veers 37 = .ok (.goto 4, 3) := by decide +kernel
theorem dX0_veers_40 : decode cX0_veers 40 = .ok (.iload_n 2, 1) := by decide +kernel
theorem dX0_veers_41 : decode cX0_veers 41 = .ok (.istore 4, 2) := by decide +kernel
theorem dX0_veers_43 : decode cX0_veers 43 = .ok (.aload_n 0, 1) := by decide +kernel
theorem dX0_veers_44 : decode cX0_veers 44 = .ok (.getfield 15, 3) := by decide +kernel
theorem dX0_veers_47 : decode cX0_veers 47 = .ok (.tableswitch 90 1 7 #[41, 90, 43, 45, 48, 52, 64], 41) := by decide +kernel
theorem dX0_veers_88 : decode cX0_veers 88 = .ok (.iload_n 2, 1) := by decide +kernel
theorem dX0_veers_89 : decode cX0_veers 89 = .ok (.ireturn, 1) := by decide +kernel
theorem dX0_veers_90 : decode cX0_veers 90 = .ok (.iload_n 3, 1) := by decide +kernel
theorem dX0_veers_91 : decode cX0_veers 91 = .ok (.ireturn, 1) := by decide +kernel
theorem dX0_veers_92 : decode cX0_veers 92 = .ok (.iload 4, 2) := by decide +kernel
theorem dX0_veers_94 : decode cX0_veers 94 = .ok (.ireturn, 1) := by decide +kernel
theorem dX0_veers_95 : decode cX0_veers 95 = .ok (.iload_n 3, 1) := by decide +kernel
theorem dX0_veers_96 : decode cX0_veers 96 = .ok (.iconst 1, 1) := by decide +kernel
theorem dX0_veers_97 : decode cX0_veers 97 = .ok (.iadd, 1) := by decide +kernel
theorem dX0_veers_98 : decode cX0_veers 98 = .ok (.ireturn, 1) := by decide +kernel
theorem dX0_veers_99 : decode cX0_veers 99 = .ok (.iload_n 1, 1) := by decide +kernel
theorem dX0_veers_100 : decode cX0_veers 100 = .ok (.iconst 2, 1) := by decide +kernel
theorem dX0_veers_101 : decode cX0_veers 101 = .ok (.irem, 1) := by decide +kernel
theorem dX0_veers_102 : decode cX0_veers 102 = .ok (.ifCond .ne 7, 3) := by decide +kernel
theorem dX0_veers_105 : decode cX0_veers 105 = .ok (.iconst 0, 1) := by decide +kernel
theorem dX0_veers_106 : decode cX0_veers 106 = .ok (.goto 4, 3) := by decide +kernel
theorem dX0_veers_109 : decode cX0_veers 109 = .ok (.iconst 1, 1) := by decide +kernel
theorem dX0_veers_110 : decode cX0_veers 110 = .ok (.ireturn, 1) := by decide +kernel
theorem dX0_veers_111 : decode cX0_veers 111 = .ok (.aload_n 0, 1) := by decide +kernel
theorem dX0_veers_112 : decode cX0_veers 112 = .ok (.getfield 22, 3) := by decide +kernel
theorem dX0_veers_115 : decode cX0_veers 115 = .ok (.ifCond .le 19, 3) := by decide +kernel
theorem dX0_veers_118 : decode cX0_veers 118 = .ok (.aload_n 0, 1) := by decide +kernel
theorem dX0_veers_119 : decode cX0_veers 119 = .ok (.getfield 9, 3) := by decide +kernel
theorem dX0_veers_122 : decode cX0_veers 122 = .ok (.iconst 0, 1) := by decide +kernel
theorem dX0_veers_123 : decode cX0_veers 123 = .ok (.iaload, 1) := by decide +kernel
theorem dX0_veers_124 : decode cX0_veers 124 = .ok (.invokestatic 51, 3) := by decide +kernel
theorem dX0_veers_127 : decode cX0_veers 127 = .ok (.ifCond .eq 7, 3) := by decide +kernel
theorem dX0_veers_130 : decode cX0_veers 130 = .ok (.iconst 3, 1) := by decide +kernel
theorem dX0_veers_131 : decode cX0_veers 131 = .ok (.goto 5, 3) := by decide +kernel
theorem dX0_veers_134 : decode cX0_veers 134 = .ok (.iload 4, 2) := by decide +kernel
theorem dX0_veers_136 : decode cX0_veers 136 = .ok (.ireturn, 1) := by decide +kernel
theorem dX0_veers_137 : decode cX0_veers 137 = .ok (.iconst 0, 1) := by decide +kernel
theorem dX0_veers_138 : decode cX0_veers 138 = .ok (.ireturn, 1) := by decide +kernel
theorem dX0_enough_0 : decode cX0_enough 0 = .ok (.aload_n 0, 1) := by decide +kernel
theorem dX0_enough_1 : decode cX0_enough 1 = .ok (.getfield 15, 3) := by decide +kernel
theorem dX0_enough_4 : decode cX0_enough 4 = .ok (.tableswitch 73 0 7 #[48, 51, 54, 73, 57, 73, 60, 63], 48) := by decide +kernel
theorem dX0_enough_52 : decode cX0_enough 52 = .ok (.bipush 20, 2) := by decide +kernel
theorem dX0_enough_54 : decode cX0_enough 54 = .ok (.ireturn, 1) := by decide +kernel
theorem dX0_enough_55 : decode cX0_enough 55 = .ok (.bipush 40, 2) := by decide +kernel
theorem dX0_enough_57 : decode cX0_enough 57 = .ok (.ireturn, 1) := by decide +kernel
theorem dX0_enough_58 : decode cX0_enough 58 = .ok (.bipush 99, 2) := by decide +kernel
theorem dX0_enough_60 : decode cX0_enough 60 = .ok (.ireturn, 1) := by decide +kernel
theorem dX0_enough_61 : decode cX0_enough 61 = .ok (.bipush 35, 2) := by decide +kernel
theorem dX0_enough_63 : decode cX0_enough 63 = .ok (.ireturn, 1) := by decide +kernel
theorem dX0_enough_64 : decode cX0_enough 64 = .ok (.bipush 49, 2) := by decide +kernel
theorem dX0_enough_66 : decode cX0_enough 66 = .ok (.ireturn, 1) := by decide +kernel
theorem dX0_enough_67 : decode cX0_enough 67 = .ok (.bipush 35, 2) := by decide +kernel
theorem dX0_enough_69 : decode cX0_enough 69 = .ok (.aload_n 0, 1) := by decide +kernel
theorem dX0_enough_70 : decode cX0_enough 70 = .ok (.getfield 19, 3) := by decide +kernel
theorem dX0_enough_73 : decode cX0_enough 73 = .ok (.iconst 2, 1) := by decide +kernel
theorem dX0_enough_74 : decode cX0_enough 74 = .ok (.idiv, 1) := by decide +kernel
theorem dX0_enough_75 : decode cX0_enough 75 = .ok (.isub, 1) := by decide +kernel
theorem dX0_enough_76 : decode cX0_enough 76 = .ok (.ireturn, 1) := by decide +kernel
theorem dX0_enough_77 : decode cX0_enough 77 = .ok (.aload_n 0, 1) := by decide +kernel
theorem dX0_enough_78 : decode cX0_enough 78 = .ok (.getfield 19, 3) := by decide +kernel
theorem dX0_enough_81 : decode cX0_enough 81 = .ok (.iconst 5, 1) := by decide +kernel
theorem dX0_enough_82 : decode cX0_enough 82 = .ok (.iadd, 1) := by decide +kernel
theorem dX0_enough_83 : decode cX0_enough 83 = .ok (.ireturn, 1) := by decide +kernel
theorem dX0_goes_0 : decode cX0_goes 0 = .ok (.aload_n 0, 1) := by decide +kernel
theorem dX0_goes_1 : decode cX0_goes 1 = .ok (.getfield 37, 3) := by decide +kernel
theorem dX0_goes_4 : decode cX0_goes 4 = .ok (.ifCond .ne 15, 3) := by decide +kernel
theorem dX0_goes_7 : decode cX0_goes 7 = .ok (.aload_n 0, 1) := by decide +kernel
theorem dX0_goes_8 : decode cX0_goes 8 = .ok (.getfield 31, 3) := by decide +kernel
theorem dX0_goes_11 : decode cX0_goes 11 = .ok (.iconst 4, 1) := by decide +kernel
theorem dX0_goes_12 : decode cX0_goes 12 = .ok (.if_icmp .eq 7, 3) := by decide +kernel
theorem dX0_goes_15 : decode cX0_goes 15 = .ok (.iconst 1, 1) := by decide +kernel
theorem dX0_goes_16 : decode cX0_goes 16 = .ok (.goto 4, 3) := by decide +kernel
theorem dX0_goes_19 : decode cX0_goes 19 = .ok (.iconst 0, 1) := by decide +kernel
theorem dX0_goes_20 : decode cX0_goes 20 = .ok (.ireturn, 1) := by decide +kernel
theorem dX0_quartersByWord_0 : decode cX0_quartersByWord 0 = .ok (.aload_n 0, 1) := by decide +kernel
theorem dX0_quartersByWord_1 : decode cX0_quartersByWord 1 = .ok (.getfield 31, 3) := by decide +kernel
theorem dX0_quartersByWord_4 : decode cX0_quartersByWord 4 = .ok (.tableswitch 34 1 3 #[28, 30, 32], 28) := by decide +kernel
theorem dX0_quartersByWord_32 : decode cX0_quartersByWord 32 = .ok (.iconst 3, 1) := by decide +kernel
theorem dX0_quartersByWord_33 : decode cX0_quartersByWord 33 = .ok (.ireturn, 1) := by decide +kernel
theorem dX0_quartersByWord_34 : decode cX0_quartersByWord 34 = .ok (.iconst 1, 1) := by decide +kernel
theorem dX0_quartersByWord_35 : decode cX0_quartersByWord 35 = .ok (.ireturn, 1) := by decide +kernel
theorem dX0_quartersByWord_36 : decode cX0_quartersByWord 36 = .ok (.iconst 2, 1) := by decide +kernel
theorem dX0_quartersByWord_37 : decode cX0_quartersByWord 37 = .ok (.ireturn, 1) := by decide +kernel
theorem dX0_quartersByWord_38 : decode cX0_quartersByWord 38 = .ok (.iconst 0, 1) := by decide +kernel
theorem dX0_quartersByWord_39 : decode cX0_quartersByWord 39 = .ok (.ireturn, 1) := by decide +kernel
theorem dX0_turn_0 : decode cX0_turn 0 = .ok (.aload_n 0, 1) := by decide +kernel
theorem dX0_turn_1 : decode cX0_turn 1 = .ok (.aload_n 0, 1) := by decide +kernel
theorem dX0_turn_2 : decode cX0_turn 2 = .ok (.getfield 28, 3) := by decide +kernel
theorem dX0_turn_5 : decode cX0_turn 5 = .ok (.iload_n 1, 1) := by decide +kernel
theorem dX0_turn_6 : decode cX0_turn 6 = .ok (.iadd, 1) := by decide +kernel
theorem dX0_turn_7 : decode cX0_turn 7 = .ok (.iconst 4, 1) := by decide +kernel
theorem dX0_turn_8 : decode cX0_turn 8 = .ok (.irem, 1) := by decide +kernel
theorem dX0_turn_9 : decode cX0_turn 9 = .ok (.putfield 28, 3) := by decide +kernel
theorem dX0_turn_12 : decode cX0_turn 12 = .ok (.return_, 1) := by decide +kernel
theorem dX0_gain_0 : decode cX0_gain 0 = .ok (.aload_n 0, 1) := by decide +kernel
theorem dX0_gain_1 : decode cX0_gain 1 = .ok (.aload_n 0, 1) := by decide +kernel
theorem dX0_gain_2 : decode cX0_gain 2 = .ok (.getfield 34, 3) := by decide +kernel
theorem dX0_gain_5 : decode cX0_gain 5 = .ok (.iload_n 1, 1) := by decide +kernel
theorem dX0_gain_6 : decode cX0_gain 6 = .ok (.iadd, 1) := by decide +kernel
theorem dX0_gain_7 : decode cX0_gain 7 = .ok (.bipush 99, 2) := by decide +kernel
theorem dX0_gain_9 : decode cX0_gain 9 = .ok (.invokestatic 55, 3) := by decide +kernel
theorem dX0_gain_12 : decode cX0_gain 12 = .ok (.putfield 34, 3) := by decide +kernel
theorem dX0_gain_15 : decode cX0_gain 15 = .ok (.return_, 1) := by decide +kernel
theorem dX0_hasFullName_0 : decode cX0_hasFullName 0 = .ok (.aload_n 0, 1) := by decide +kernel
theorem dX0_hasFullName_1 : decode cX0_hasFullName 1 = .ok (.getfield 22, 3) := by decide +kernel
theorem dX0_hasFullName_4 : decode cX0_hasFullName 4 = .ok (.bipush 6, 2) := by decide +kernel
theorem dX0_hasFullName_6 : decode cX0_hasFullName 6 = .ok (.if_icmp .lt 7, 3) := by decide +kernel
theorem dX0_hasFullName_9 : decode cX0_hasFullName 9 = .ok (.iconst 1, 1) := by decide +kernel
theorem dX0_hasFullName_10 : decode cX0_hasFullName 10 = .ok (.goto 4, 3) := by decide +kernel
theorem dX0_hasFullName_13 : decode cX0_hasFullName 13 = .ok (.iconst 0, 1) := by decide +kernel
theorem dX0_hasFullName_14 : decode cX0_hasFullName 14 = .ok (.ireturn, 1) := by decide +kernel
theorem dX0_lengthenName_0 : decode cX0_lengthenName 0 = .ok (.aload_n 0, 1) := by decide +kernel
theorem dX0_lengthenName_1 : decode cX0_lengthenName 1 = .ok (.invokevirtual 61, 3) := by decide +kernel
theorem dX0_lengthenName_4 : decode cX0_lengthenName 4 = .ok (.ifCond .ne 23, 3) := by decide +kernel
theorem dX0_lengthenName_7 : decode cX0_lengthenName 7 = .ok (.aload_n 0, 1) := by decide +kernel
theorem dX0_lengthenName_8 : decode cX0_lengthenName 8 = .ok (.getfield 9, 3) := by decide +kernel
theorem dX0_lengthenName_11 : decode cX0_lengthenName 11 = .ok (.aload_n 0, 1) := by decide +kernel
theorem dX0_lengthenName_12 : decode cX0_lengthenName 12 = .ok (.getfield 22, 3) := by decide +kernel
theorem dX0_lengthenName_15 : decode cX0_lengthenName 15 = .ok (.iload_n 1, 1) := by decide +kernel
theorem dX0_lengthenName_16 : decode cX0_lengthenName 16 = .ok (.iastore, 1) := by decide +kernel
theorem dX0_lengthenName_17 : decode cX0_lengthenName 17 = .ok (.aload_n 0, 1) := by decide +kernel
theorem dX0_lengthenName_18 : decode cX0_lengthenName 18 = .ok (.dup, 1) := by decide +kernel
theorem dX0_lengthenName_19 : decode cX0_lengthenName 19 = .ok (.getfield 22, 3) := by decide +kernel
theorem dX0_lengthenName_22 : decode cX0_lengthenName 22 = .ok (.iconst 1, 1) := by decide +kernel
theorem dX0_lengthenName_23 : decode cX0_lengthenName 23 = .ok (.iadd, 1) := by decide +kernel
theorem dX0_lengthenName_24 : decode cX0_lengthenName 24 = .ok (.putfield 22, 3) := by decide +kernel
theorem dX0_lengthenName_27 : decode cX0_lengthenName 27 = .ok (.return_, 1) := by decide +kernel
theorem dX0_hasLetter_0 : decode cX0_hasLetter 0 = .ok (.iconst 0, 1) := by decide +kernel
theorem dX0_hasLetter_1 : decode cX0_hasLetter 1 = .ok (.istore_n 2, 1) := by decide +kernel
theorem dX0_hasLetter_2 : decode cX0_hasLetter 2 = .ok (.iload_n 2, 1) := by decide +kernel
theorem dX0_hasLetter_3 : decode cX0_hasLetter 3 = .ok (.aload_n 0, 1) := by decide +kernel
theorem dX0_hasLetter_4 : decode cX0_hasLetter 4 = .ok (.getfield 22, 3) := by decide +kernel
theorem dX0_hasLetter_7 : decode cX0_hasLetter 7 = .ok (.if_icmp .ge 21, 3) := by decide +kernel
theorem dX0_hasLetter_10 : decode cX0_hasLetter 10 = .ok (.aload_n 0, 1) := by decide +kernel
theorem dX0_hasLetter_11 : decode cX0_hasLetter 11 = .ok (.getfield 9, 3) := by decide +kernel
theorem dX0_hasLetter_14 : decode cX0_hasLetter 14 = .ok (.iload_n 2, 1) := by decide +kernel
theorem dX0_hasLetter_15 : decode cX0_hasLetter 15 = .ok (.iaload, 1) := by decide +kernel
theorem dX0_hasLetter_16 : decode cX0_hasLetter 16 = .ok (.iload_n 1, 1) := by decide +kernel
theorem dX0_hasLetter_17 : decode cX0_hasLetter 17 = .ok (.if_icmp .ne 5, 3) := by decide +kernel
theorem dX0_hasLetter_20 : decode cX0_hasLetter 20 = .ok (.iconst 1, 1) := by decide +kernel
theorem dX0_hasLetter_21 : decode cX0_hasLetter 21 = .ok (.ireturn, 1) := by decide +kernel
theorem dX0_hasLetter_22 : decode cX0_hasLetter 22 = .ok (.iinc 2 1, 3) := by decide +kernel
theorem dX0_hasLetter_25 : decode cX0_hasLetter 25 = .ok (.goto (-23), 3) := by decide +kernel
theorem dX0_hasLetter_28 : decode cX0_hasLetter 28 = .ok (.iconst 0, 1) := by decide +kernel
theorem dX0_hasLetter_29 : decode cX0_hasLetter 29 = .ok (.ireturn, 1) := by decide +kernel
theorem dX0_vowelsInName_0 : decode cX0_vowelsInName 0 = .ok (.iconst 0, 1) := by decide +kernel
theorem dX0_vowelsInName_1 : decode cX0_vowelsInName 1 = .ok (.istore_n 1, 1) := by decide +kernel
theorem dX0_vowelsInName_2 : decode cX0_vowelsInName 2 = .ok (.iconst 0, 1) := by decide +kernel
theorem dX0_vowelsInName_3 : decode cX0_vowelsInName 3 = .ok (.istore_n 2, 1) := by decide +kernel
theorem dX0_vowelsInName_4 : decode cX0_vowelsInName 4 = .ok (.iload_n 2, 1) := by decide +kernel
theorem dX0_vowelsInName_5 : decode cX0_vowelsInName 5 = .ok (.aload_n 0, 1) := by decide +kernel
theorem dX0_vowelsInName_6 : decode cX0_vowelsInName 6 = .ok (.getfield 22, 3) := by decide +kernel
theorem dX0_vowelsInName_9 : decode cX0_vowelsInName 9 = .ok (.if_icmp .ge 24, 3) := by decide +kernel
theorem dX0_vowelsInName_12 : decode cX0_vowelsInName 12 = .ok (.aload_n 0, 1) := by decide +kernel
theorem dX0_vowelsInName_13 : decode cX0_vowelsInName 13 = .ok (.getfield 9, 3) := by decide +kernel
theorem dX0_vowelsInName_16 : decode cX0_vowelsInName 16 = .ok (.iload_n 2, 1) := by decide +kernel
theorem dX0_vowelsInName_17 : decode cX0_vowelsInName 17 = .ok (.iaload, 1) := by decide +kernel
theorem dX0_vowelsInName_18 : decode cX0_vowelsInName 18 = .ok (.invokestatic 51, 3) := by decide +kernel
theorem dX0_vowelsInName_21 : decode cX0_vowelsInName 21 = .ok (.ifCond .eq 6, 3) := by decide +kernel
theorem dX0_vowelsInName_24 : decode cX0_vowelsInName 24 = .ok (.iinc 1 1, 3) := by decide +kernel
theorem dX0_vowelsInName_27 : decode cX0_vowelsInName 27 = .ok (.iinc 2 1, 3) := by decide +kernel
theorem dX0_vowelsInName_30 : decode cX0_vowelsInName 30 = .ok (.goto (-26), 3) := by decide +kernel
theorem dX0_vowelsInName_33 : decode cX0_vowelsInName 33 = .ok (.iload_n 1, 1) := by decide +kernel
theorem dX0_vowelsInName_34 : decode cX0_vowelsInName 34 = .ok (.ireturn, 1) := by decide +kernel
theorem dX0_nameAgainst_0 : decode cX0_nameAgainst 0 = .ok (.iconst 0, 1) := by decide +kernel
theorem dX0_nameAgainst_1 : decode cX0_nameAgainst 1 = .ok (.istore_n 2, 1) := by decide +kernel
theorem dX0_nameAgainst_2 : decode cX0_nameAgainst 2 = .ok (.iload_n 2, 1) := by decide +kernel
theorem dX0_nameAgainst_3 : decode cX0_nameAgainst 3 = .ok (.aload_n 0, 1) := by decide +kernel
theorem dX0_nameAgainst_4 : decode cX0_nameAgainst 4 = .ok (.getfield 22, 3) := by decide +kernel
theorem dX0_nameAgainst_7 : decode cX0_nameAgainst 7 = .ok (.if_icmp .ge 46, 3) := by decide +kernel
theorem dX0_nameAgainst_10 : decode cX0_nameAgainst 10 = .ok (.iload_n 2, 1) := by decide +kernel
theorem dX0_nameAgainst_11 : decode cX0_nameAgainst 11 = .ok (.aload_n 1, 1) := by decide +kernel
theorem dX0_nameAgainst_12 : decode cX0_nameAgainst 12 = .ok (.getfield 22, 3) := by decide +kernel
theorem dX0_nameAgainst_15 : decode cX0_nameAgainst 15 = .ok (.if_icmp .ge 38, 3) := by decide +kernel
theorem dX0_nameAgainst_18 : decode cX0_nameAgainst 18 = .ok (.aload_n 0, 1) := by decide +kernel
theorem dX0_nameAgainst_19 : decode cX0_nameAgainst 19 = .ok (.getfield 9, 3) := by decide +kernel
theorem dX0_nameAgainst_22 : decode cX0_nameAgainst 22 = .ok (.iload_n 2, 1) := by decide +kernel
theorem dX0_nameAgainst_23 : decode cX0_nameAgainst 23 = .ok (.iaload, 1) := by decide +kernel
theorem dX0_nameAgainst_24 : decode cX0_nameAgainst 24 = .ok (.aload_n 1, 1) := by decide +kernel
theorem dX0_nameAgainst_25 : decode cX0_nameAgainst 25 = .ok (.getfield 9, 3) := by decide +kernel
theorem dX0_nameAgainst_28 : decode cX0_nameAgainst 28 = .ok (.iload_n 2, 1) := by decide +kernel
theorem dX0_nameAgainst_29 : decode cX0_nameAgainst 29 = .ok (.iaload, 1) := by decide +kernel
theorem dX0_nameAgainst_30 : decode cX0_nameAgainst 30 = .ok (.if_icmp .eq 17, 3) := by decide +kernel
theorem dX0_nameAgainst_33 : decode cX0_nameAgainst 33 = .ok (.aload_n 0, 1) := by decide +kernel
theorem dX0_nameAgainst_34 : decode cX0_nameAgainst 34 = .ok (.getfield 9, 3) := by decide +kernel
theorem dX0_nameAgainst_37 : decode cX0_nameAgainst 37 = .ok (.iload_n 2, 1) := by decide +kernel
theorem dX0_nameAgainst_38 : decode cX0_nameAgainst 38 = .ok (.iaload, 1) := by decide +kernel
theorem dX0_nameAgainst_39 : decode cX0_nameAgainst 39 = .ok (.aload_n 1, 1) := by decide +kernel
theorem dX0_nameAgainst_40 : decode cX0_nameAgainst 40 = .ok (.getfield 9, 3) := by decide +kernel
theorem dX0_nameAgainst_43 : decode cX0_nameAgainst 43 = .ok (.iload_n 2, 1) := by decide +kernel
theorem dX0_nameAgainst_44 : decode cX0_nameAgainst 44 = .ok (.iaload, 1) := by decide +kernel
theorem dX0_nameAgainst_45 : decode cX0_nameAgainst 45 = .ok (.isub, 1) := by decide +kernel
theorem dX0_nameAgainst_46 : decode cX0_nameAgainst 46 = .ok (.ireturn, 1) := by decide +kernel
theorem dX0_nameAgainst_47 : decode cX0_nameAgainst 47 = .ok (.iinc 2 1, 3) := by decide +kernel
theorem dX0_nameAgainst_50 : decode cX0_nameAgainst 50 = .ok (.goto (-48), 3) := by decide +kernel
theorem dX0_nameAgainst_53 : decode cX0_nameAgainst 53 = .ok (.aload_n 0, 1) := by decide +kernel
theorem dX0_nameAgainst_54 : decode cX0_nameAgainst 54 = .ok (.getfield 22, 3) := by decide +kernel
theorem dX0_nameAgainst_57 : decode cX0_nameAgainst 57 = .ok (.aload_n 1, 1) := by decide +kernel
theorem dX0_nameAgainst_58 : decode cX0_nameAgainst 58 = .ok (.getfield 22, 3) := by decide +kernel
theorem dX0_nameAgainst_61 : decode cX0_nameAgainst 61 = .ok (.isub, 1) := by decide +kernel
theorem dX0_nameAgainst_62 : decode cX0_nameAgainst 62 = .ok (.ireturn, 1) := by decide +kernel
theorem dX0_placesAlike_0 : decode cX0_placesAlike 0 = .ok (.iconst 0, 1) := by decide +kernel
theorem dX0_placesAlike_1 : decode cX0_placesAlike 1 = .ok (.istore_n 2, 1) := by decide +kernel
theorem dX0_placesAlike_2 : decode cX0_placesAlike 2 = .ok (.iconst 0, 1) := by decide +kernel
theorem dX0_placesAlike_3 : decode cX0_placesAlike 3 = .ok (.istore_n 3, 1) := by decide +kernel
theorem dX0_placesAlike_4 : decode cX0_placesAlike 4 = .ok (.iload_n 3, 1) := by decide +kernel
theorem dX0_placesAlike_5 : decode cX0_placesAlike 5 = .ok (.aload_n 0, 1) := by decide +kernel
theorem dX0_placesAlike_6 : decode cX0_placesAlike 6 = .ok (.getfield 22, 3) := by decide +kernel
theorem dX0_placesAlike_9 : decode cX0_placesAlike 9 = .ok (.if_icmp .ge 35, 3) := by decide +kernel
theorem dX0_placesAlike_12 : decode cX0_placesAlike 12 = .ok (.iload_n 3, 1) := by decide +kernel
theorem dX0_placesAlike_13 : decode cX0_placesAlike 13 = .ok (.aload_n 1, 1) := by decide +kernel
theorem dX0_placesAlike_14 : decode cX0_placesAlike 14 = .ok (.getfield 22, 3) := by decide +kernel
theorem dX0_placesAlike_17 : decode cX0_placesAlike 17 = .ok (.if_icmp .ge 27, 3) := by decide +kernel
theorem dX0_placesAlike_20 : decode cX0_placesAlike 20 = .ok (.aload_n 0, 1) := by decide +kernel
theorem dX0_placesAlike_21 : decode cX0_placesAlike 21 = .ok (.getfield 9, 3) := by decide +kernel
theorem dX0_placesAlike_24 : decode cX0_placesAlike 24 = .ok (.iload_n 3, 1) := by decide +kernel
theorem dX0_placesAlike_25 : decode cX0_placesAlike 25 = .ok (.iaload, 1) := by decide +kernel
theorem dX0_placesAlike_26 : decode cX0_placesAlike 26 = .ok (.aload_n 1, 1) := by decide +kernel
theorem dX0_placesAlike_27 : decode cX0_placesAlike 27 = .ok (.getfield 9, 3) := by decide +kernel
theorem dX0_placesAlike_30 : decode cX0_placesAlike 30 = .ok (.iload_n 3, 1) := by decide +kernel
theorem dX0_placesAlike_31 : decode cX0_placesAlike 31 = .ok (.iaload, 1) := by decide +kernel
theorem dX0_placesAlike_32 : decode cX0_placesAlike 32 = .ok (.if_icmp .ne 6, 3) := by decide +kernel
theorem dX0_placesAlike_35 : decode cX0_placesAlike 35 = .ok (.iinc 2 1, 3) := by decide +kernel
theorem dX0_placesAlike_38 : decode cX0_placesAlike 38 = .ok (.iinc 3 1, 3) := by decide +kernel
theorem dX0_placesAlike_41 : decode cX0_placesAlike 41 = .ok (.goto (-37), 3) := by decide +kernel
theorem dX0_placesAlike_44 : decode cX0_placesAlike 44 = .ok (.iload_n 2, 1) := by decide +kernel
theorem dX0_placesAlike_45 : decode cX0_placesAlike 45 = .ok (.ireturn, 1) := by decide +kernel
theorem dX0_lettersAlikeAhead_0 : decode cX0_lettersAlikeAhead 0 = .ok (.iconst 0, 1) := by decide +kernel
theorem dX0_lettersAlikeAhead_1 : decode cX0_lettersAlikeAhead 1 = .ok (.istore_n 2, 1) := by decide +kernel
theorem dX0_lettersAlikeAhead_2 : decode cX0_lettersAlikeAhead 2 = .ok (.iload_n 2, 1) := by decide +kernel
theorem dX0_lettersAlikeAhead_3 : decode cX0_lettersAlikeAhead 3 = .ok (.aload_n 0, 1) := by decide +kernel
theorem dX0_lettersAlikeAhead_4 : decode cX0_lettersAlikeAhead 4 = .ok (.getfield 22, 3) := by decide +kernel
theorem dX0_lettersAlikeAhead_7 : decode cX0_lettersAlikeAhead 7 = .ok (.if_icmp .ge 32, 3) := by decide +kernel
theorem dX0_lettersAlikeAhead_10 : decode cX0_lettersAlikeAhead 10 = .ok (.iload_n 2, 1) := by decide +kernel
theorem dX0_lettersAlikeAhead_11 : decode cX0_lettersAlikeAhead 11 = .ok (.aload_n 1, 1) := by decide +kernel
theorem dX0_lettersAlikeAhead_12 : decode cX0_lettersAlikeAhead 12 = .ok (.getfield 22, 3) := by decide +kernel
theorem dX0_lettersAlikeAhead_15 : decode cX0_lettersAlikeAhead 15 = .ok (.if_icmp .ge 24, 3) := by decide +kernel
theorem dX0_lettersAlikeAhead_18 : decode cX0_lettersAlikeAhead 18 = .ok (.aload_n 0, 1) := by decide +kernel
theorem dX0_lettersAlikeAhead_19 : decode cX0_lettersAlikeAhead 19 = .ok (.getfield 9, 3) := by decide +kernel
theorem dX0_lettersAlikeAhead_22 : decode cX0_lettersAlikeAhead 22 = .ok (.iload_n 2, 1) := by decide +kernel
theorem dX0_lettersAlikeAhead_23 : decode cX0_lettersAlikeAhead 23 = .ok (.iaload, 1) := by decide +kernel
theorem dX0_lettersAlikeAhead_24 : decode cX0_lettersAlikeAhead 24 = .ok (.aload_n 1, 1) := by decide +kernel
theorem dX0_lettersAlikeAhead_25 : decode cX0_lettersAlikeAhead 25 = .ok (.getfield 9, 3) := by decide +kernel
theorem dX0_lettersAlikeAhead_28 : decode cX0_lettersAlikeAhead 28 = .ok (.iload_n 2, 1) := by decide +kernel
theorem dX0_lettersAlikeAhead_29 : decode cX0_lettersAlikeAhead 29 = .ok (.iaload, 1) := by decide +kernel
theorem dX0_lettersAlikeAhead_30 : decode cX0_lettersAlikeAhead 30 = .ok (.if_icmp .ne 9, 3) := by decide +kernel
theorem dX0_lettersAlikeAhead_33 : decode cX0_lettersAlikeAhead 33 = .ok (.iinc 2 1, 3) := by decide +kernel
theorem dX0_lettersAlikeAhead_36 : decode cX0_lettersAlikeAhead 36 = .ok (.goto (-34), 3) := by decide +kernel
theorem dX0_lettersAlikeAhead_39 : decode cX0_lettersAlikeAhead 39 = .ok (.iload_n 2, 1) := by decide +kernel
theorem dX0_lettersAlikeAhead_40 : decode cX0_lettersAlikeAhead 40 = .ok (.ireturn, 1) := by decide +kernel
theorem dX0_lettersShared_0 : decode cX0_lettersShared 0 = .ok (.iconst 0, 1) := by decide +kernel
theorem dX0_lettersShared_1 : decode cX0_lettersShared 1 = .ok (.istore_n 2, 1) := by decide +kernel
theorem dX0_lettersShared_2 : decode cX0_lettersShared 2 = .ok (.iconst 0, 1) := by decide +kernel
theorem dX0_lettersShared_3 : decode cX0_lettersShared 3 = .ok (.istore_n 3, 1) := by decide +kernel
theorem dX0_lettersShared_4 : decode cX0_lettersShared 4 = .ok (.iload_n 3, 1) := by decide +kernel
theorem dX0_lettersShared_5 : decode cX0_lettersShared 5 = .ok (.bipush 26, 2) := by decide +kernel
theorem dX0_lettersShared_7 : decode cX0_lettersShared 7 = .ok (.if_icmp .ge 28, 3) := by decide +kernel
theorem dX0_lettersShared_10 : decode cX0_lettersShared 10 = .ok (.aload_n 0, 1) := by decide +kernel
theorem dX0_lettersShared_11 : decode cX0_lettersShared 11 = .ok (.iload_n 3, 1) := by decide +kernel
theorem dX0_lettersShared_12 : decode cX0_lettersShared 12 = .ok (.invokevirtual 65, 3) := by decide +kernel
theorem dX0_lettersShared_15 : decode cX0_lettersShared 15 = .ok (.ifCond .eq 14, 3) := by decide +kernel
theorem dX0_lettersShared_18 : decode cX0_lettersShared 18 = .ok (.aload_n 1, 1) := by decide +kernel
theorem dX0_lettersShared_19 : decode cX0_lettersShared 19 = .ok (.iload_n 3, 1) := by decide +kernel
theorem dX0_lettersShared_20 : decode cX0_lettersShared 20 = .ok (.invokevirtual 65, 3) := by decide +kernel
theorem dX0_lettersShared_23 : decode cX0_lettersShared 23 = .ok (.ifCond .eq 6, 3) := by decide +kernel
theorem dX0_lettersShared_26 : decode cX0_lettersShared 26 = .ok (.iinc 2 1, 3) := by decide +kernel
theorem dX0_lettersShared_29 : decode cX0_lettersShared 29 = .ok (.iinc 3 1, 3) := by decide +kernel
theorem dX0_lettersShared_32 : decode cX0_lettersShared 32 = .ok (.goto (-28), 3) := by decide +kernel
theorem dX0_lettersShared_35 : decode cX0_lettersShared 35 = .ok (.iload_n 2, 1) := by decide +kernel
theorem dX0_lettersShared_36 : decode cX0_lettersShared 36 = .ok (.ireturn, 1) := by decide +kernel
theorem dX1_copy_0 : decode cX1_copy 0 = .ok (.aload_n 1, 1) := by decide +kernel
theorem dX1_copy_1 : decode cX1_copy 1 = .ok (.getfield 9, 3) := by decide +kernel
theorem dX1_copy_4 : decode cX1_copy 4 = .ok (.iconst 0, 1) := by decide +kernel
theorem dX1_copy_5 : decode cX1_copy 5 = .ok (.aload_n 0, 1) := by decide +kernel
theorem dX1_copy_6 : decode cX1_copy 6 = .ok (.getfield 9, 3) := by decide +kernel
theorem dX1_copy_9 : decode cX1_copy 9 = .ok (.iconst 0, 1) := by decide +kernel
theorem dX1_copy_10 : decode cX1_copy 10 = .ok (.bipush 48, 2) := by decide +kernel
theorem dX1_copy_12 : decode cX1_copy 12 = .ok (.invokestatic 28, 3) := by decide +kernel
theorem dX1_copy_15 : decode cX1_copy 15 = .ok (.aload_n 1, 1) := by decide +kernel
theorem dX1_copy_16 : decode cX1_copy 16 = .ok (.getfield 15, 3) := by decide +kernel
theorem dX1_copy_19 : decode cX1_copy 19 = .ok (.iconst 0, 1) := by decide +kernel
theorem dX1_copy_20 : decode cX1_copy 20 = .ok (.aload_n 0, 1) := by decide +kernel
theorem dX1_copy_21 : decode cX1_copy 21 = .ok (.getfield 15, 3) := by decide +kernel
theorem dX1_copy_24 : decode cX1_copy 24 = .ok (.iconst 0, 1) := by decide +kernel
theorem dX1_copy_25 : decode cX1_copy 25 = .ok (.bipush 48, 2) := by decide +kernel
theorem dX1_copy_27 : decode cX1_copy 27 = .ok (.invokestatic 28, 3) := by decide +kernel
theorem dX1_copy_30 : decode cX1_copy 30 = .ok (.aload_n 1, 1) := by decide +kernel
theorem dX1_copy_31 : decode cX1_copy 31 = .ok (.getfield 18, 3) := by decide +kernel
theorem dX1_copy_34 : decode cX1_copy 34 = .ok (.iconst 0, 1) := by decide +kernel
theorem dX1_copy_35 : decode cX1_copy 35 = .ok (.aload_n 0, 1) := by decide +kernel
theorem dX1_copy_36 : decode cX1_copy 36 = .ok (.getfield 18, 3) := by decide +kernel
theorem dX1_copy_39 : decode cX1_copy 39 = .ok (.iconst 0, 1) := by decide +kernel
theorem dX1_copy_40 : decode cX1_copy 40 = .ok (.bipush 48, 2) := by decide +kernel
theorem dX1_copy_42 : decode cX1_copy 42 = .ok (.invokestatic 28, 3) := by decide +kernel
theorem dX1_copy_45 : decode cX1_copy 45 = .ok (.iconst 0, 1) := by decide +kernel
theorem dX1_copy_46 : decode cX1_copy 46 = .ok (.istore_n 2, 1) := by decide +kernel
theorem dX1_copy_47 : decode cX1_copy 47 = .ok (.iload_n 2, 1) := by decide +kernel
theorem dX1_copy_48 : decode cX1_copy 48 = .ok (.aload_n 1, 1) := by decide +kernel
theorem dX1_copy_49 : decode cX1_copy 49 = .ok (.getfield 34, 3) := by decide +kernel
theorem dX1_copy_52 : decode cX1_copy 52 = .ok (.if_icmp .ge 24, 3) := by decide +kernel
theorem dX1_copy_55 : decode cX1_copy 55 = .ok (.aload_n 0, 1) := by decide +kernel
theorem dX1_copy_56 : decode cX1_copy 56 = .ok (.getfield 23, 3) := by decide +kernel
theorem dX1_copy_59 : decode cX1_copy 59 = .ok (.iload_n 2, 1) := by decide +kernel
theorem dX1_copy_60 : decode cX1_copy 60 = .ok (.aaload, 1) := by decide +kernel
theorem dX1_copy_61 : decode cX1_copy 61 = .ok (.aload_n 1, 1) := by decide +kernel
theorem dX1_copy_62 : decode cX1_copy 62 = .ok (.getfield 23, 3) := by decide +kernel
theorem dX1_copy_65 : decode cX1_copy 65 = .ok (.iload_n 2, 1) := by decide +kernel
theorem dX1_copy_66 : decode cX1_copy 66 = .ok (.aaload, 1) := by decide +kernel
theorem dX1_copy_67 : decode cX1_copy 67 = .ok (.invokevirtual 38, 3) := by decide +kernel
theorem dX1_copy_70 : decode cX1_copy 70 = .ok (.iinc 2 1, 3) := by decide +kernel
theorem dX1_copy_73 : decode cX1_copy 73 = .ok (.goto (-26), 3) := by decide +kernel
theorem dX1_copy_76 : decode cX1_copy 76 = .ok (.aload_n 0, 1) := by decide +kernel
theorem dX1_copy_77 : decode cX1_copy 77 = .ok (.aload_n 1, 1) := by decide +kernel
theorem dX1_copy_78 : decode cX1_copy 78 = .ok (.getfield 34, 3) := by decide +kernel
theorem dX1_copy_81 : decode cX1_copy 81 = .ok (.putfield 34, 3) := by decide +kernel
theorem dX1_copy_84 : decode cX1_copy 84 = .ok (.aload_n 0, 1) := by decide +kernel
theorem dX1_copy_85 : decode cX1_copy 85 = .ok (.aload_n 1, 1) := by decide +kernel
theorem dX1_copy_86 : decode cX1_copy 86 = .ok (.getfield 42, 3) := by decide +kernel
theorem dX1_copy_89 : decode cX1_copy 89 = .ok (.putfield 42, 3) := by decide +kernel
theorem dX1_copy_92 : decode cX1_copy 92 = .ok (.aload_n 0, 1) := by decide +kernel
theorem dX1_copy_93 : decode cX1_copy 93 = .ok (.aload_n 1, 1) := by decide +kernel
theorem dX1_copy_94 : decode cX1_copy 94 = .ok (.getfield 45, 3) := by decide +kernel
theorem dX1_copy_97 : decode cX1_copy 97 = .ok (.putfield 45, 3) := by decide +kernel
theorem dX1_copy_100 : decode cX1_copy 100 = .ok (.return_, 1) := by decide +kernel
theorem dX1_isFull_0 : decode cX1_isFull 0 = .ok (.aload_n 0, 1) := by decide +kernel
theorem dX1_isFull_1 : decode cX1_isFull 1 = .ok (.getfield 34, 3) := by decide +kernel
theorem dX1_isFull_4 : decode cX1_isFull 4 = .ok (.iconst 5, 1) := by decide +kernel
theorem dX1_isFull_5 : decode cX1_isFull 5 = .ok (.if_icmp .lt 7, 3) := by decide +kernel
theorem dX1_isFull_8 : decode cX1_isFull 8 = .ok (.iconst 1, 1) := by decide +kernel
theorem dX1_isFull_9 : decode cX1_isFull 9 = .ok (.goto 4, 3) := by decide +kernel
theorem dX1_isFull_12 : decode cX1_isFull 12 = .ok (.iconst 0, 1) := by decide +kernel
theorem dX1_isFull_13 : decode cX1_isFull 13 = .ok (.ireturn, 1) := by decide +kernel
theorem dX1_addHead_0 : decode cX1_addHead 0 = .ok (.aload_n 0, 1) := by decide +kernel
theorem dX1_addHead_1 : decode cX1_addHead 1 = .ok (.invokevirtual 48, 3) := by decide +kernel
theorem dX1_addHead_4 : decode cX1_addHead 4 = .ok (.ifCond .ne 28, 3) := by decide +kernel
theorem dX1_addHead_7 : decode cX1_addHead 7 = .ok (.aload_n 0, 1) := by decide +kernel
theorem dX1_addHead_8 : decode cX1_addHead 8 = .ok (.getfield 23, 3) := by decide +kernel
theorem dX1_addHead_11 : decode cX1_addHead 11 = .ok (.aload_n 0, 1) := by decide +kernel
theorem dX1_addHead_12 : decode cX1_addHead 12 = .ok (.getfield 34, 3) := by decide +kernel
theorem dX1_addHead_15 : decode cX1_addHead 15 = .ok (.aaload, 1) := by decide +kernel
theorem dX1_addHead_16 : decode cX1_addHead 16 = .ok (.iload_n 1, 1) := by decide +kernel
theorem dX1_addHead_17 : decode cX1_addHead 17 = .ok (.iload_n 2, 1) := by decide +kernel
theorem dX1_addHead_18 : decode cX1_addHead 18 = .ok (.iload_n 3, 1) := by decide +kernel
theorem dX1_addHead_19 : decode cX1_addHead 19 = .ok (.invokevirtual 52, 3) := by decide +kernel
theorem dX1_addHead_22 : decode cX1_addHead 22 = .ok (.aload_n 0, 1) := by decide +kernel
theorem dX1_addHead_23 : decode cX1_addHead 23 = .ok (.dup, 1) := by decide +kernel
theorem dX1_addHead_24 : decode cX1_addHead 24 = .ok (.getfield 34, 3) := by decide +kernel
theorem dX1_addHead_27 : decode cX1_addHead 27 = .ok (.iconst 1, 1) := by decide +kernel
theorem dX1_addHead_28 : decode cX1_addHead 28 = .ok (.iadd, 1) := by decide +kernel
theorem dX1_addHead_29 : decode cX1_addHead 29 = .ok (.putfield 34, 3) := by decide +kernel
theorem dX1_addHead_32 : decode cX1_addHead 32 = .ok (.return_, 1) := by decide +kernel
theorem dX1_lengthenNewestName_0 : decode cX1_lengthenNewestName 0 = .ok (.aload_n 0, 1) := by decide +kernel
theorem dX1_lengthenNewestName_1 : decode cX1_lengthenNewestName 1 = .ok (.getfield 34, 3) := by decide +kernel
theorem dX1_lengthenNewestName_4 : decode cX1_lengthenNewestName 4 = .ok (.ifCond .le 18, 3) := by decide +kernel
theorem dX1_lengthenNewestName_7 : decode cX1_lengthenNewestName 7 = .ok (.aload_n 0, 1) := by decide +kernel
theorem dX1_lengthenNewestName_8 : decode cX1_lengthenNewestName 8 = .ok (.getfield 23, 3) := by decide +kernel
theorem dX1_lengthenNewestName_11 : decode cX1_lengthenNewestName 11 = .ok (.aload_n 0, 1) := by decide +kernel
theorem dX1_lengthenNewestName_12 : decode cX1_lengthenNewestName 12 = .ok (.getfield 34, 3) := by decide +kernel
theorem dX1_lengthenNewestName_15 : decode cX1_lengthenNewestName 15 = .ok (.iconst 1, 1) := by decide +kernel
theorem dX1_lengthenNewestName_16 : decode cX1_lengthenNewestName 16 = .ok (.isub, 1) := by decide +kernel
theorem dX1_lengthenNewestName_17 : decode cX1_lengthenNewestName 17 = .ok (.aaload, 1) := by decide +kernel
theorem dX1_lengthenNewestName_18 : decode cX1_lengthenNewestName 18 = .ok (.iload_n 1, 1) := by decide +kernel
theorem dX1_lengthenNewestName_19 : decode cX1_lengthenNewestName 19 = .ok (.invokevirtual 56, 3) := by decide +kernel
theorem dX1_lengthenNewestName_22 : decode cX1_lengthenNewestName 22 = .ok (.return_, 1) := by decide +kernel
theorem dX1_beside_0 : decode cX1_beside 0 = .ok (.iload_n 0, 1) := by decide +kernel
theorem dX1_beside_1 : decode cX1_beside 1 = .ok (.bipush 8, 2) := by decide +kernel
theorem dX1_beside_3 : decode cX1_beside 3 = .ok (.irem, 1) := by decide +kernel
theorem dX1_beside_4 : decode cX1_beside 4 = .ok (.istore_n 2, 1) := by decide +kernel
theorem dX1_beside_5 : decode cX1_beside 5 = .ok (.iload_n 1, 1) := by decide +kernel
theorem dX1_beside_6 : decode cX1_beside 6 = .ok (.tableswitch 86 0 3 #[30, 45, 59, 74], 30) := by decide +kernel
theorem dX1_beside_36 : decode cX1_beside 36 = .ok (.iload_n 0, 1) := by decide +kernel
theorem dX1_beside_37 : decode cX1_beside 37 = .ok (.bipush 8, 2) := by decide +kernel
theorem dX1_beside_39 : decode cX1_beside 39 = .ok (.if_icmp .lt 10, 3) := by decide +kernel
theorem dX1_beside_42 : decode cX1_beside 42 = .ok (.iload_n 0, 1) := by decide +kernel
theorem dX1_beside_43 : decode cX1_beside 43 = .ok (.bipush 8, 2) := by decide +kernel
theorem dX1_beside_45 : decode cX1_beside 45 = .ok (.isub, 1) := by decide +kernel
theorem dX1_beside_46 : decode cX1_beside 46 = .ok (.goto 4, 3) := by decide +kernel
theorem dX1_beside_49 : decode cX1_beside 49 = .ok (.iconst (-1), 1) := by decide +kernel
theorem dX1_beside_50 : decode cX1_beside 50 = .ok (.ireturn, 1) := by decide +kernel
theorem dX1_beside_51 : decode cX1_beside 51 = .ok (.iload_n 2, 1) := by decide +kernel
theorem dX1_beside_52 : decode cX1_beside 52 = .ok (.bipush 7, 2) := by decide +kernel
theorem dX1_beside_54 : decode cX1_beside 54 = .ok (.if_icmp .ge 9, 3) := by decide +kernel
theorem dX1_beside_57 : decode cX1_beside 57 = .ok (.iload_n 0, 1) := by decide +kernel
theorem dX1_beside_58 : decode cX1_beside 58 = .ok (.iconst 1, 1) := by decide +kernel
theorem dX1_beside_59 : decode cX1_beside 59 = .ok (.iadd, 1) := by decide +kernel
theorem dX1_beside_60 : decode cX1_beside 60 = .ok (.goto 4, 3) := by decide +kernel
theorem dX1_beside_63 : decode cX1_beside 63 = .ok (.iconst (-1), 1) := by decide +kernel
theorem dX1_beside_64 : decode cX1_beside 64 = .ok (.ireturn, 1) := by decide +kernel
theorem dX1_beside_65 : decode cX1_beside 65 = .ok (.iload_n 0, 1) := by decide +kernel
theorem dX1_beside_66 : decode cX1_beside 66 = .ok (.bipush 40, 2) := by decide +kernel
theorem dX1_beside_68 : decode cX1_beside 68 = .ok (.if_icmp .ge 10, 3) := by decide +kernel
theorem dX1_beside_71 : decode cX1_beside 71 = .ok (.iload_n 0, 1) := by decide +kernel
theorem dX1_beside_72 : decode cX1_beside 72 = .ok (.bipush 8, 2) := by decide +kernel
theorem dX1_beside_74 : decode cX1_beside 74 = .ok (.iadd, 1) := by decide +kernel
theorem dX1_beside_75 : decode cX1_beside 75 = .ok (.goto 4, 3) := by decide +kernel
theorem dX1_beside_78 : decode cX1_beside 78 = .ok (.iconst (-1), 1) := by decide +kernel
theorem dX1_beside_79 : decode cX1_beside 79 = .ok (.ireturn, 1) := by decide +kernel
theorem dX1_beside_80 : decode cX1_beside 80 = .ok (.iload_n 2, 1) := by decide +kernel
theorem dX1_beside_81 : decode cX1_beside 81 = .ok (.ifCond .le 9, 3) := by decide +kernel
theorem dX1_beside_84 : decode cX1_beside 84 = .ok (.iload_n 0, 1) := by decide +kernel
theorem dX1_beside_85 : decode cX1_beside 85 = .ok (.iconst 1, 1) := by decide +kernel
theorem dX1_beside_86 : decode cX1_beside 86 = .ok (.isub, 1) := by decide +kernel
theorem dX1_beside_87 : decode cX1_beside 87 = .ok (.goto 4, 3) := by decide +kernel
theorem dX1_beside_90 : decode cX1_beside 90 = .ok (.iconst (-1), 1) := by decide +kernel
theorem dX1_beside_91 : decode cX1_beside 91 = .ok (.ireturn, 1) := by decide +kernel
theorem dX1_beside_92 : decode cX1_beside 92 = .ok (.iconst (-1), 1) := by decide +kernel
theorem dX1_beside_93 : decode cX1_beside 93 = .ok (.ireturn, 1) := by decide +kernel
theorem dX1_go_0 : decode cX1_go 0 = .ok (.aload_n 1, 1) := by decide +kernel
theorem dX1_go_1 : decode cX1_go 1 = .ok (.invokevirtual 96, 3) := by decide +kernel
theorem dX1_go_4 : decode cX1_go 4 = .ok (.istore_n 2, 1) := by decide +kernel
theorem dX1_go_5 : decode cX1_go 5 = .ok (.iconst 0, 1) := by decide +kernel
theorem dX1_go_6 : decode cX1_go 6 = .ok (.istore_n 3, 1) := by decide +kernel
theorem dX1_go_7 : decode cX1_go 7 = .ok (.iload_n 3, 1) := by decide +kernel
theorem dX1_go_8 : decode cX1_go 8 = .ok (.iload_n 2, 1) := by decide +kernel
theorem dX1_go_9 : decode cX1_go 9 = .ok (.if_icmp .ge 74, 3) := by decide +kernel
theorem dX1_go_12 : decode cX1_go 12 = .ok (.aload_n 1, 1) := by decide +kernel
theorem dX1_go_13 : decode cX1_go 13 = .ok (.getfield 99, 3) := by decide +kernel
theorem dX1_go_16 : decode cX1_go 16 = .ok (.aload_n 1, 1) := by decide +kernel
theorem dX1_go_17 : decode cX1_go 17 = .ok (.getfield 102, 3) := by decide +kernel
theorem dX1_go_20 : decode cX1_go 20 = .ok (.invokestatic 105, 3) := by decide +kernel
theorem dX1_go_23 : decode cX1_go 23 = .ok (.istore 4, 2) := by decide +kernel
theorem dX1_go_25 : decode cX1_go 25 = .ok (.iload 4, 2) := by decide +kernel
theorem dX1_go_27 : decode cX1_go 27 = .ok (.iconst (-1), 1) := by decide +kernel
theorem dX1_go_28 : decode cX1_go 28 = .ok (.if_icmp .ne 9, 3) := by decide +kernel
theorem dX1_go_31 : decode cX1_go 31 = .ok (.aload_n 1, 1) := by decide +kernel
theorem dX1_go_32 : decode cX1_go 32 = .ok (.iconst 2, 1) := by decide +kernel
theorem dX1_go_33 : decode cX1_go 33 = .ok (.invokevirtual 74, 3) := by decide +kernel
theorem dX1_go_36 : decode cX1_go 36 = .ok (.return_, 1) := by decide +kernel
theorem dX1_go_37 : decode cX1_go 37 = .ok (.aload_n 0, 1) := by decide +kernel
theorem dX1_go_38 : decode cX1_go 38 = .ok (.getfield 9, 3) := by decide +kernel
theorem dX1_go_41 : decode cX1_go 41 = .ok (.iload 4, 2) := by decide +kernel
theorem dX1_go_43 : decode cX1_go 43 = .ok (.iaload, 1) := by decide +kernel
theorem dX1_go_44 : decode cX1_go 44 = .ok (.ifCond .le 27, 3) := by decide +kernel
theorem dX1_go_47 : decode cX1_go 47 = .ok (.aload_n 0, 1) := by decide +kernel
theorem dX1_go_48 : decode cX1_go 48 = .ok (.getfield 9, 3) := by decide +kernel
theorem dX1_go_51 : decode cX1_go 51 = .ok (.iload 4, 2) := by decide +kernel
theorem dX1_go_53 : decode cX1_go 53 = .ok (.aload_n 0, 1) := by decide +kernel
theorem dX1_go_54 : decode cX1_go 54 = .ok (.getfield 9, 3) := by decide +kernel
theorem dX1_go_57 : decode cX1_go 57 = .ok (.iload 4, 2) := by decide +kernel
theorem dX1_go_59 : decode cX1_go 59 = .ok (.iaload, 1) := by decide +kernel
theorem dX1_go_60 : decode cX1_go 60 = .ok (.aload_n 1, 1) := by decide +kernel
theorem dX1_go_61 : decode cX1_go 61 = .ok (.invokevirtual 109, 3) := by decide +kernel
theorem dX1_go_64 : decode cX1_go 64 = .ok (.isub, 1) := by decide +kernel
theorem dX1_go_65 : decode cX1_go 65 = .ok (.iconst 0, 1) := by decide +kernel
theorem dX1_go_66 : decode cX1_go 66 = .ok (.invokestatic 112, 3) := by decide +kernel
theorem dX1_go_69 : decode cX1_go 69 = .ok (.iastore, 1) := by decide +kernel
theorem dX1_go_70 : decode cX1_go 70 = .ok (.return_, 1) := by decide +kernel
theorem dX1_go_71 : decode cX1_go 71 = .ok (.aload_n 1, 1) := by decide +kernel
theorem dX1_go_72 : decode cX1_go 72 = .ok (.iload 4, 2) := by decide +kernel
theorem dX1_go_74 : decode cX1_go 74 = .ok (.putfield 99, 3) := by decide +kernel
theorem dX1_go_77 : decode cX1_go 77 = .ok (.iinc 3 1, 3) := by decide +kernel
theorem dX1_go_80 : decode cX1_go 80 = .ok (.goto (-73), 3) := by decide +kernel
theorem dX1_go_83 : decode cX1_go 83 = .ok (.return_, 1) := by decide +kernel
theorem dX1_gather_0 : decode cX1_gather 0 = .ok (.aload_n 1, 1) := by decide +kernel
theorem dX1_gather_1 : decode cX1_gather 1 = .ok (.aload_n 0, 1) := by decide +kernel
theorem dX1_gather_2 : decode cX1_gather 2 = .ok (.getfield 18, 3) := by decide +kernel
theorem dX1_gather_5 : decode cX1_gather 5 = .ok (.aload_n 1, 1) := by decide +kernel
theorem dX1_gather_6 : decode cX1_gather 6 = .ok (.getfield 99, 3) := by decide +kernel
theorem dX1_gather_9 : decode cX1_gather 9 = .ok (.iaload, 1) := by decide +kernel
theorem dX1_gather_10 : decode cX1_gather 10 = .ok (.invokevirtual 117, 3) := by decide +kernel
theorem dX1_gather_13 : decode cX1_gather 13 = .ok (.ifCond .eq 26, 3) := by decide +kernel
theorem dX1_gather_16 : decode cX1_gather 16 = .ok (.aload_n 1, 1) := by decide +kernel
theorem dX1_gather_17 : decode cX1_gather 17 = .ok (.aload_n 0, 1) := by decide +kernel
theorem dX1_gather_18 : decode cX1_gather 18 = .ok (.getfield 15, 3) := by decide +kernel
theorem dX1_gather_21 : decode cX1_gather 21 = .ok (.aload_n 1, 1) := by decide +kernel
theorem dX1_gather_22 : decode cX1_gather 22 = .ok (.getfield 99, 3) := by decide +kernel
theorem dX1_gather_25 : decode cX1_gather 25 = .ok (.iaload, 1) := by decide +kernel
theorem dX1_gather_26 : decode cX1_gather 26 = .ok (.invokevirtual 121, 3) := by decide +kernel
theorem dX1_gather_29 : decode cX1_gather 29 = .ok (.aload_n 0, 1) := by decide +kernel
theorem dX1_gather_30 : decode cX1_gather 30 = .ok (.getfield 15, 3) := by decide +kernel
theorem dX1_gather_33 : decode cX1_gather 33 = .ok (.aload_n 1, 1) := by decide +kernel
theorem dX1_gather_34 : decode cX1_gather 34 = .ok (.getfield 99, 3) := by decide +kernel
theorem dX1_gather_37 : decode cX1_gather 37 = .ok (.iconst 0, 1) := by decide +kernel
theorem dX1_gather_38 : decode cX1_gather 38 = .ok (.iastore, 1) := by decide +kernel
theorem dX1_gather_39 : decode cX1_gather 39 = .ok (.return_, 1) := by decide +kernel
theorem dX1_leastAwakeBeside_0 : decode cX1_leastAwakeBeside 0 = .ok (.iconst 0, 1) := by decide +kernel
theorem dX1_leastAwakeBeside_1 : decode cX1_leastAwakeBeside 1 = .ok (.istore_n 2, 1) := by decide +kernel
theorem dX1_leastAwakeBeside_2 : decode cX1_leastAwakeBeside 2 = .ok (.iload_n 2, 1) := by decide +kernel
theorem dX1_leastAwakeBeside_3 : decode cX1_leastAwakeBeside 3 = .ok (.aload_n 0, 1) := by decide +kernel
theorem dX1_leastAwakeBeside_4 : decode cX1_leastAwakeBeside 4 = .ok (.getfield 34, 3) := by decide +kernel
theorem dX1_leastAwakeBeside_7 : decode cX1_leastAwakeBeside 7 = .ok (.if_icmp .ge 49, 3) := by decide +kernel
theorem dX1_leastAwakeBeside_10 : decode cX1_leastAwakeBeside 10 = .ok (.iload_n 2, 1) := by decide +kernel
theorem dX1_leastAwakeBeside_11 : decode cX1_leastAwakeBeside 11 = .ok (.iload_n 1, 1) := by decide +kernel
theorem dX1_leastAwakeBeside_12 : decode cX1_leastAwakeBeside 12 = .ok (.if_icmp .eq 38, 3) := by decide +kernel
theorem dX1_leastAwakeBeside_15 : decode cX1_leastAwakeBeside 15 = .ok (.aload_n 0, 1) := by decide +kernel
theorem dX1_leastAwakeBeside_16 : decode cX1_leastAwakeBeside 16 = .ok (.getfield 23, 3) := by decide +kernel
theorem dX1_leastAwakeBeside_19 : decode cX1_leastAwakeBeside 19 = .ok (.iload_n 2, 1) := by decide +kernel
theorem dX1_leastAwakeBeside_20 : decode cX1_leastAwakeBeside 20 = .ok (.aaload, 1) := by decide +kernel
theorem dX1_leastAwakeBeside_21 : decode cX1_leastAwakeBeside 21 = .ok (.getfield 99, 3) := by decide +kernel
theorem dX1_leastAwakeBeside_24 : decode cX1_leastAwakeBeside 24 = .ok (.aload_n 0, 1) := by decide +kernel
theorem dX1_leastAwakeBeside_25 : decode cX1_leastAwakeBeside 25 = .ok (.getfield 23, 3) := by decide +kernel
theorem dX1_leastAwakeBeside_28 : decode cX1_leastAwakeBeside 28 = .ok (.iload_n 1, 1) := by decide +kernel
theorem dX1_leastAwakeBeside_29 : decode cX1_leastAwakeBeside 29 = .ok (.aaload, 1) := by decide +kernel
theorem dX1_leastAwakeBeside_30 : decode cX1_leastAwakeBeside 30 = .ok (.getfield 99, 3) := by decide +kernel
theorem dX1_leastAwakeBeside_33 : decode cX1_leastAwakeBeside 33 = .ok (.if_icmp .ne 17, 3) := by decide +kernel
theorem dX1_leastAwakeBeside_36 : decode cX1_leastAwakeBeside 36 = .ok (.aload_n 0, 1) := by decide +kernel
theorem dX1_leastAwakeBeside_37 : decode cX1_leastAwakeBeside 37 = .ok (.getfield 23, 3) := by decide +kernel
theorem dX1_leastAwakeBeside_40 : decode cX1_leastAwakeBeside 40 = .ok (.iload_n 2, 1) := by decide +kernel
theorem dX1_leastAwakeBeside_41 : decode cX1_leastAwakeBeside 41 = .ok (.aaload, 1) := by decide +kernel
theorem dX1_leastAwakeBeside_42 : decode cX1_leastAwakeBeside 42 = .ok (.getfield 92, 3) := by decide +kernel
theorem dX1_leastAwakeBeside_45 : decode cX1_leastAwakeBeside 45 = .ok (.ifCond .ne 5, 3) := by decide +kernel
theorem dX1_leastAwakeBeside_48 : decode cX1_leastAwakeBeside 48 = .ok (.iload_n 2, 1) := by decide +kernel
theorem dX1_leastAwakeBeside_49 : decode cX1_leastAwakeBeside 49 = .ok (.ireturn, 1) := by decide +kernel
theorem dX1_leastAwakeBeside_50 : decode cX1_leastAwakeBeside 50 = .ok (.iinc 2 1, 3) := by decide +kernel
theorem dX1_leastAwakeBeside_53 : decode cX1_leastAwakeBeside 53 = .ok (.goto (-51), 3) := by decide +kernel
theorem dX1_leastAwakeBeside_56 : decode cX1_leastAwakeBeside 56 = .ok (.iconst (-1), 1) := by decide +kernel
theorem dX1_leastAwakeBeside_57 : decode cX1_leastAwakeBeside 57 = .ok (.ireturn, 1) := by decide +kernel
theorem dX1_meet_0 : decode cX1_meet 0 = .ok (.aload_n 0, 1) := by decide +kernel
theorem dX1_meet_1 : decode cX1_meet 1 = .ok (.iload_n 1, 1) := by decide +kernel
theorem dX1_meet_2 : decode cX1_meet 2 = .ok (.invokevirtual 124, 3) := by decide +kernel
theorem dX1_meet_5 : decode cX1_meet 5 = .ok (.istore_n 2, 1) := by decide +kernel
theorem dX1_meet_6 : decode cX1_meet 6 = .ok (.iload_n 2, 1) := by decide +kernel
theorem dX1_meet_7 : decode cX1_meet 7 = .ok (.iconst (-1), 1) := by decide +kernel
theorem dX1_meet_8 : decode cX1_meet 8 = .ok (.if_icmp .ne 4, 3) := by decide +kernel
theorem dX1_meet_11 : decode cX1_meet 11 = .ok (.return_, 1) := by decide +kernel
theorem dX1_meet_12 : decode cX1_meet 12 = .ok (.aload_n 0, 1) := by decide +kernel
theorem dX1_meet_13 : decode cX1_meet 13 = .ok (.aload_n 0, 1) := by decide +kernel
theorem dX1_meet_14 : decode cX1_meet 14 = .ok (.getfield 45, 3) := by decide +kernel
theorem dX1_meet_17 : decode cX1_meet 17 = .ok (.iconst 1, 1) := by decide +kernel
theorem dX1_meet_18 : decode cX1_meet 18 = .ok (.iadd, 1) := by decide +kernel
theorem dX1_meet_19 : decode cX1_meet 19 = .ok (.sipush 9999, 3) := by decide +kernel
theorem dX1_meet_22 : decode cX1_meet 22 = .ok (.invokestatic 127, 3) := by decide +kernel
theorem dX1_meet_25 : decode cX1_meet 25 = .ok (.putfield 45, 3) := by decide +kernel
theorem dX1_meet_28 : decode cX1_meet 28 = .ok (.aload_n 0, 1) := by decide +kernel
theorem dX1_meet_29 : decode cX1_meet 29 = .ok (.getfield 23, 3) := by decide +kernel
theorem dX1_meet_32 : decode cX1_meet 32 = .ok (.iload_n 1, 1) := by decide +kernel
theorem dX1_meet_33 : decode cX1_meet 33 = .ok (.aaload, 1) := by decide +kernel
theorem dX1_meet_34 : decode cX1_meet 34 = .ok (.astore_n 3, 1) := by decide +kernel
theorem dX1_meet_35 : decode cX1_meet 35 = .ok (.aload_n 0, 1) := by decide +kernel
theorem dX1_meet_36 : decode cX1_meet 36 = .ok (.getfield 23, 3) := by decide +kernel
theorem dX1_meet_39 : decode cX1_meet 39 = .ok (.iload_n 2, 1) := by decide +kernel
theorem dX1_meet_40 : decode cX1_meet 40 = .ok (.aaload, 1) := by decide +kernel
theorem dX1_meet_41 : decode cX1_meet 41 = .ok (.astore 4, 2) := by decide +kernel
theorem dX1_meet_43 : decode cX1_meet 43 = .ok (.aload_n 3, 1) := by decide +kernel
theorem dX1_meet_44 : decode cX1_meet 44 = .ok (.invokevirtual 109, 3) := by decide +kernel
theorem dX1_meet_47 : decode cX1_meet 47 = .ok (.aload 4, 2) := by decide +kernel
theorem dX1_meet_49 : decode cX1_meet 49 = .ok (.invokevirtual 109, 3) := by decide +kernel
theorem dX1_meet_52 : decode cX1_meet 52 = .ok (.isub, 1) := by decide +kernel
theorem dX1_meet_53 : decode cX1_meet 53 = .ok (.istore 5, 2) := by decide +kernel
theorem dX1_meet_55 : decode cX1_meet 55 = .ok (.iload 5, 2) := by decide +kernel
theorem dX1_meet_57 : decode cX1_meet 57 = .ok (.ifCond .ne 11, 3) := by decide +kernel
theorem dX1_meet_60 : decode cX1_meet 60 = .ok (.aload_n 3, 1) := by decide +kernel
theorem dX1_meet_61 : decode cX1_meet 61 = .ok (.aload 4, 2) := by decide +kernel
theorem dX1_meet_63 : decode cX1_meet 63 = .ok (.invokevirtual 130, 3) := by decide +kernel
theorem dX1_meet_66 : decode cX1_meet 66 = .ok (.istore 5, 2) := by decide +kernel
theorem dX1_meet_68 : decode cX1_meet 68 = .ok (.iload 5, 2) := by decide +kernel
theorem dX1_meet_70 : decode cX1_meet 70 = .ok (.ifCond .ne 8, 3) := by decide +kernel
theorem dX1_meet_73 : decode cX1_meet 73 = .ok (.iload_n 2, 1) := by decide +kernel
theorem dX1_meet_74 : decode cX1_meet 74 = .ok (.iload_n 1, 1) := by decide +kernel
theorem dX1_meet_75 : decode cX1_meet 75 = .ok (.isub, 1) := by decide +kernel
theorem dX1_meet_76 : decode cX1_meet 76 = .ok (.istore 5, 2) := by decide +kernel
theorem dX1_meet_78 : decode cX1_meet 78 = .ok (.iload 5, 2) := by decide +kernel
theorem dX1_meet_80 : decode cX1_meet 80 = .ok (.ifCond .ge 7, 3) := by decide +kernel
theorem dX1_meet_83 : decode cX1_meet 83 = .ok (.aload_n 3, 1) := by decide +kernel
theorem dX1_meet_84 : decode cX1_meet 84 = .ok (.goto 5, 3) := by decide +kernel
theorem dX1_meet_87 : decode cX1_meet 87 = .ok (.aload 4, 2) := by decide +kernel
theorem dX1_meet_89 : decode cX1_meet 89 = .ok (.astore 6, 2) := by decide +kernel
theorem dX1_meet_91 : decode cX1_meet 91 = .ok (.iload 5, 2) := by decide +kernel
theorem dX1_meet_93 : decode cX1_meet 93 = .ok (.ifCond .ge 8, 3) := by decide +kernel
theorem dX1_meet_96 : decode cX1_meet 96 = .ok (.aload 4, 2) := by decide +kernel
theorem dX1_meet_98 : decode cX1_meet 98 = .ok (.goto 4, 3) := by decide +kernel
theorem dX1_meet_101 : decode cX1_meet 101 = .ok (.aload_n 3, 1) := by decide +kernel
theorem dX1_meet_102 : decode cX1_meet 102 = .ok (.astore 7, 2) := by decide +kernel
theorem dX1_meet_104 : decode cX1_meet 104 = .ok (.aload 6, 2) := by decide +kernel
theorem dX1_meet_106 : decode cX1_meet 106 = .ok (.getfield 86, 3) := by decide +kernel
theorem dX1_meet_109 : decode cX1_meet 109 = .ok (.iconst 2, 1) := by decide +kernel
theorem dX1_meet_110 : decode cX1_meet 110 = .ok (.idiv, 1) := by decide +kernel
theorem dX1_meet_111 : decode cX1_meet 111 = .ok (.istore 8, 2) := by decide +kernel
theorem dX1_meet_113 : decode cX1_meet 113 = .ok (.aload 6, 2) := by decide +kernel
theorem dX1_meet_115 : decode cX1_meet 115 = .ok (.iconst 2, 1) := by decide +kernel
theorem dX1_meet_116 : decode cX1_meet 116 = .ok (.invokevirtual 74, 3) := by decide +kernel
theorem dX1_meet_119 : decode cX1_meet 119 = .ok (.aload 6, 2) := by decide +kernel
theorem dX1_meet_121 : decode cX1_meet 121 = .ok (.dup, 1) := by decide +kernel
theorem dX1_meet_122 : decode cX1_meet 122 = .ok (.getfield 86, 3) := by decide +kernel
theorem dX1_meet_125 : decode cX1_meet 125 = .ok (.iload 8, 2) := by decide +kernel
theorem dX1_meet_127 : decode cX1_meet 127 = .ok (.isub, 1) := by decide +kernel
theorem dX1_meet_128 : decode cX1_meet 128 = .ok (.putfield 86, 3) := by decide +kernel
theorem dX1_meet_131 : decode cX1_meet 131 = .ok (.aload 7, 2) := by decide +kernel
theorem dX1_meet_133 : decode cX1_meet 133 = .ok (.iload 8, 2) := by decide +kernel
theorem dX1_meet_135 : decode cX1_meet 135 = .ok (.invokevirtual 121, 3) := by decide +kernel
theorem dX1_meet_138 : decode cX1_meet 138 = .ok (.return_, 1) := by decide +kernel
theorem dX1_takeTurn_0 : decode cX1_takeTurn 0 = .ok (.aload_n 0, 1) := by decide +kernel
theorem dX1_takeTurn_1 : decode cX1_takeTurn 1 = .ok (.getfield 23, 3) := by decide +kernel
theorem dX1_takeTurn_4 : decode cX1_takeTurn 4 = .ok (.iload_n 1, 1) := by decide +kernel
theorem dX1_takeTurn_5 : decode cX1_takeTurn 5 = .ok (.aaload, 1) := by decide +kernel
theorem dX1_takeTurn_6 : decode cX1_takeTurn 6 = .ok (.astore_n 2, 1) := by decide +kernel
theorem dX1_takeTurn_7 : decode cX1_takeTurn 7 = .ok (.aload_n 2, 1) := by decide +kernel
theorem dX1_takeTurn_8 : decode cX1_takeTurn 8 = .ok (.aload_n 2, 1) := by decide +kernel
theorem dX1_takeTurn_9 : decode cX1_takeTurn 9 = .ok (.invokevirtual 66, 3) := by decide +kernel
theorem dX1_takeTurn_12 : decode cX1_takeTurn 12 = .ok (.aload_n 2, 1) := by decide +kernel
theorem dX1_takeTurn_13 : decode cX1_takeTurn 13 = .ok (.aload_n 0, 1) := by decide +kernel
theorem dX1_takeTurn_14 : decode cX1_takeTurn 14 = .ok (.getfield 42, 3) := by decide +kernel
theorem dX1_takeTurn_17 : decode cX1_takeTurn 17 = .ok (.invokevirtual 70, 3) := by decide +kernel
theorem dX1_takeTurn_20 : decode cX1_takeTurn 20 = .ok (.iadd, 1) := by decide +kernel
theorem dX1_takeTurn_21 : decode cX1_takeTurn 21 = .ok (.invokevirtual 74, 3) := by decide +kernel
theorem dX1_takeTurn_24 : decode cX1_takeTurn 24 = .ok (.aload_n 0, 1) := by decide +kernel
theorem dX1_takeTurn_25 : decode cX1_takeTurn 25 = .ok (.aload_n 2, 1) := by decide +kernel
theorem dX1_takeTurn_26 : decode cX1_takeTurn 26 = .ok (.invokevirtual 77, 3) := by decide +kernel
theorem dX1_takeTurn_29 : decode cX1_takeTurn 29 = .ok (.aload_n 0, 1) := by decide +kernel
theorem dX1_takeTurn_30 : decode cX1_takeTurn 30 = .ok (.aload_n 2, 1) := by decide +kernel
theorem dX1_takeTurn_31 : decode cX1_takeTurn 31 = .ok (.invokevirtual 80, 3) := by decide +kernel
theorem dX1_takeTurn_34 : decode cX1_takeTurn 34 = .ok (.aload_n 0, 1) := by decide +kernel
theorem dX1_takeTurn_35 : decode cX1_takeTurn 35 = .ok (.iload_n 1, 1) := by decide +kernel
theorem dX1_takeTurn_36 : decode cX1_takeTurn 36 = .ok (.invokevirtual 83, 3) := by decide +kernel
theorem dX1_takeTurn_39 : decode cX1_takeTurn 39 = .ok (.aload_n 2, 1) := by decide +kernel
theorem dX1_takeTurn_40 : decode cX1_takeTurn 40 = .ok (.getfield 86, 3) := by decide +kernel
theorem dX1_takeTurn_43 : decode cX1_takeTurn 43 = .ok (.aload_n 2, 1) := by decide +kernel
theorem dX1_takeTurn_44 : decode cX1_takeTurn 44 = .ok (.invokevirtual 89, 3) := by decide +kernel
theorem dX1_takeTurn_47 : decode cX1_takeTurn 47 = .ok (.if_icmp .lt 8, 3) := by decide +kernel
theorem dX1_takeTurn_50 : decode cX1_takeTurn 50 = .ok (.aload_n 2, 1) := by decide +kernel
theorem dX1_takeTurn_51 : decode cX1_takeTurn 51 = .ok (.iconst 1, 1) := by decide +kernel
theorem dX1_takeTurn_52 : decode cX1_takeTurn 52 = .ok (.putfield 92, 3) := by decide +kernel
theorem dX1_takeTurn_55 : decode cX1_takeTurn 55 = .ok (.return_, 1) := by decide +kernel
theorem dX1_passNights_0 : decode cX1_passNights 0 = .ok (.iconst 0, 1) := by decide +kernel
theorem dX1_passNights_1 : decode cX1_passNights 1 = .ok (.istore_n 2, 1) := by decide +kernel
theorem dX1_passNights_2 : decode cX1_passNights 2 = .ok (.iload_n 2, 1) := by decide +kernel
theorem dX1_passNights_3 : decode cX1_passNights 3 = .ok (.iload_n 1, 1) := by decide +kernel
theorem dX1_passNights_4 : decode cX1_passNights 4 = .ok (.if_icmp .ge 52, 3) := by decide +kernel
theorem dX1_passNights_7 : decode cX1_passNights 7 = .ok (.aload_n 0, 1) := by decide +kernel
theorem dX1_passNights_8 : decode cX1_passNights 8 = .ok (.dup, 1) := by decide +kernel
theorem dX1_passNights_9 : decode cX1_passNights 9 = .ok (.getfield 42, 3) := by decide +kernel
theorem dX1_passNights_12 : decode cX1_passNights 12 = .ok (.iconst 1, 1) := by decide +kernel
theorem dX1_passNights_13 : decode cX1_passNights 13 = .ok (.iadd, 1) := by decide +kernel
theorem dX1_passNights_14 : decode cX1_passNights 14 = .ok (.putfield 42, 3) := by decide +kernel
theorem dX1_passNights_17 : decode cX1_passNights 17 = .ok (.iconst 0, 1) := by decide +kernel
theorem dX1_passNights_18 : decode cX1_passNights 18 = .ok (.istore_n 3, 1) := by decide +kernel
theorem dX1_passNights_19 : decode cX1_passNights 19 = .ok (.iload_n 3, 1) := by decide +kernel
theorem dX1_passNights_20 : decode cX1_passNights 20 = .ok (.aload_n 0, 1) := by decide +kernel
theorem dX1_passNights_21 : decode cX1_passNights 21 = .ok (.getfield 34, 3) := by decide +kernel
theorem dX1_passNights_24 : decode cX1_passNights 24 = .ok (.if_icmp .ge 26, 3) := by decide +kernel
theorem dX1_passNights_27 : decode cX1_passNights 27 = .ok (.aload_n 0, 1) := by decide +kernel
theorem dX1_passNights_28 : decode cX1_passNights 28 = .ok (.getfield 23, 3) := by decide +kernel
theorem dX1_passNights_31 : decode cX1_passNights 31 = .ok (.iload_n 3, 1) := by decide +kernel
theorem dX1_passNights_32 : decode cX1_passNights 32 = .ok (.aaload, 1) := by decide +kernel
theorem dX1_passNights_33 : decode cX1_passNights 33 = .ok (.invokevirtual 60, 3) := by decide +kernel
theorem dX1_passNights_36 : decode cX1_passNights 36 = .ok (.ifCond .eq 8, 3) := by decide +kernel
theorem dX1_passNights_39 : decode cX1_passNights 39 = .ok (.aload_n 0, 1) := by decide +kernel
theorem dX1_passNights_40 : decode cX1_passNights 40 = .ok (.iload_n 3, 1) := by decide +kernel
theorem dX1_passNights_41 : decode cX1_passNights 41 = .ok (.invokevirtual 63, 3) := by decide +kernel
theorem dX1_passNights_44 : decode cX1_passNights 44 = .ok (.iinc 3 1, 3) := by decide +kernel
theorem dX1_passNights_47 : decode cX1_passNights 47 = .ok (.goto (-28), 3) := by decide +kernel
theorem dX1_passNights_50 : decode cX1_passNights 50 = .ok (.iinc 2 1, 3) := by decide +kernel
theorem dX1_passNights_53 : decode cX1_passNights 53 = .ok (.goto (-51), 3) := by decide +kernel
theorem dX1_passNights_56 : decode cX1_passNights 56 = .ok (.return_, 1) := by decide +kernel
theorem dX1_rainNight_0 : decode cX1_rainNight 0 = .ok (.aload_n 0, 1) := by decide +kernel
theorem dX1_rainNight_1 : decode cX1_rainNight 1 = .ok (.dup, 1) := by decide +kernel
theorem dX1_rainNight_2 : decode cX1_rainNight 2 = .ok (.getfield 42, 3) := by decide +kernel
theorem dX1_rainNight_5 : decode cX1_rainNight 5 = .ok (.iconst 1, 1) := by decide +kernel
theorem dX1_rainNight_6 : decode cX1_rainNight 6 = .ok (.iadd, 1) := by decide +kernel
theorem dX1_rainNight_7 : decode cX1_rainNight 7 = .ok (.putfield 42, 3) := by decide +kernel
theorem dX1_rainNight_10 : decode cX1_rainNight 10 = .ok (.return_, 1) := by decide +kernel
theorem dX1_headsOn_0 : decode cX1_headsOn 0 = .ok (.iconst 0, 1) := by decide +kernel
theorem dX1_headsOn_1 : decode cX1_headsOn 1 = .ok (.istore_n 2, 1) := by decide +kernel
theorem dX1_headsOn_2 : decode cX1_headsOn 2 = .ok (.iconst 0, 1) := by decide +kernel
theorem dX1_headsOn_3 : decode cX1_headsOn 3 = .ok (.istore_n 3, 1) := by decide +kernel
theorem dX1_headsOn_4 : decode cX1_headsOn 4 = .ok (.iload_n 3, 1) := by decide +kernel
theorem dX1_headsOn_5 : decode cX1_headsOn 5 = .ok (.aload_n 0, 1) := by decide +kernel
theorem dX1_headsOn_6 : decode cX1_headsOn 6 = .ok (.getfield 34, 3) := by decide +kernel
theorem dX1_headsOn_9 : decode cX1_headsOn 9 = .ok (.if_icmp .ge 28, 3) := by decide +kernel
theorem dX1_headsOn_12 : decode cX1_headsOn 12 = .ok (.aload_n 0, 1) := by decide +kernel
theorem dX1_headsOn_13 : decode cX1_headsOn 13 = .ok (.getfield 23, 3) := by decide +kernel
theorem dX1_headsOn_16 : decode cX1_headsOn 16 = .ok (.iload_n 3, 1) := by decide +kernel
theorem dX1_headsOn_17 : decode cX1_headsOn 17 = .ok (.aaload, 1) := by decide +kernel
theorem dX1_headsOn_18 : decode cX1_headsOn 18 = .ok (.getfield 99, 3) := by decide +kernel
theorem dX1_headsOn_21 : decode cX1_headsOn 21 = .ok (.iload_n 1, 1) := by decide +kernel
theorem dX1_headsOn_22 : decode cX1_headsOn 22 = .ok (.if_icmp .ne 9, 3) := by decide +kernel
theorem dX1_headsOn_25 : decode cX1_headsOn 25 = .ok (.iload_n 2, 1) := by decide +kernel
theorem dX1_headsOn_26 : decode cX1_headsOn 26 = .ok (.iconst 1, 1) := by decide +kernel
theorem dX1_headsOn_27 : decode cX1_headsOn 27 = .ok (.iload_n 3, 1) := by decide +kernel
theorem dX1_headsOn_28 : decode cX1_headsOn 28 = .ok (.ishl, 1) := by decide +kernel
theorem dX1_headsOn_29 : decode cX1_headsOn 29 = .ok (.ior, 1) := by decide +kernel
theorem dX1_headsOn_30 : decode cX1_headsOn 30 = .ok (.istore_n 2, 1) := by decide +kernel
theorem dX1_headsOn_31 : decode cX1_headsOn 31 = .ok (.iinc 3 1, 3) := by decide +kernel
theorem dX1_headsOn_34 : decode cX1_headsOn 34 = .ok (.goto (-30), 3) := by decide +kernel
theorem dX1_headsOn_37 : decode cX1_headsOn 37 = .ok (.iload_n 2, 1) := by decide +kernel
theorem dX1_headsOn_38 : decode cX1_headsOn 38 = .ok (.ireturn, 1) := by decide +kernel
theorem dX1_settledBits_0 : decode cX1_settledBits 0 = .ok (.iconst 0, 1) := by decide +kernel
theorem dX1_settledBits_1 : decode cX1_settledBits 1 = .ok (.istore_n 1, 1) := by decide +kernel
theorem dX1_settledBits_2 : decode cX1_settledBits 2 = .ok (.iconst 0, 1) := by decide +kernel
theorem dX1_settledBits_3 : decode cX1_settledBits 3 = .ok (.istore_n 2, 1) := by decide +kernel
theorem dX1_settledBits_4 : decode cX1_settledBits 4 = .ok (.iload_n 2, 1) := by decide +kernel
theorem dX1_settledBits_5 : decode cX1_settledBits 5 = .ok (.aload_n 0, 1) := by decide +kernel
theorem dX1_settledBits_6 : decode cX1_settledBits 6 = .ok (.getfield 34, 3) := by decide +kernel
theorem dX1_settledBits_9 : decode cX1_settledBits 9 = .ok (.if_icmp .ge 27, 3) := by decide +kernel
theorem dX1_settledBits_12 : decode cX1_settledBits 12 = .ok (.aload_n 0, 1) := by decide +kernel
theorem dX1_settledBits_13 : decode cX1_settledBits 13 = .ok (.getfield 23, 3) := by decide +kernel
theorem dX1_settledBits_16 : decode cX1_settledBits 16 = .ok (.iload_n 2, 1) := by decide +kernel
theorem dX1_settledBits_17 : decode cX1_settledBits 17 = .ok (.aaload, 1) := by decide +kernel
theorem dX1_settledBits_18 : decode cX1_settledBits 18 = .ok (.getfield 92, 3) := by decide +kernel
theorem dX1_settledBits_21 : decode cX1_settledBits 21 = .ok (.ifCond .eq 9, 3) := by decide +kernel
theorem dX1_settledBits_24 : decode cX1_settledBits 24 = .ok (.iload_n 1, 1) := by decide +kernel
theorem dX1_settledBits_25 : decode cX1_settledBits 25 = .ok (.iconst 1, 1) := by decide +kernel
theorem dX1_settledBits_26 : decode cX1_settledBits 26 = .ok (.iload_n 2, 1) := by decide +kernel
theorem dX1_settledBits_27 : decode cX1_settledBits 27 = .ok (.ishl, 1) := by decide +kernel
theorem dX1_settledBits_28 : decode cX1_settledBits 28 = .ok (.ior, 1) := by decide +kernel
theorem dX1_settledBits_29 : decode cX1_settledBits 29 = .ok (.istore_n 1, 1) := by decide +kernel
theorem dX1_settledBits_30 : decode cX1_settledBits 30 = .ok (.iinc 2 1, 3) := by decide +kernel
theorem dX1_settledBits_33 : decode cX1_settledBits 33 = .ok (.goto (-29), 3) := by decide +kernel
theorem dX1_settledBits_36 : decode cX1_settledBits 36 = .ok (.iload_n 1, 1) := by decide +kernel
theorem dX1_settledBits_37 : decode cX1_settledBits 37 = .ok (.ireturn, 1) := by decide +kernel
theorem dX1_followersOf_0 : decode cX1_followersOf 0 = .ok (.iconst 0, 1) := by decide +kernel
theorem dX1_followersOf_1 : decode cX1_followersOf 1 = .ok (.istore_n 2, 1) := by decide +kernel
theorem dX1_followersOf_2 : decode cX1_followersOf 2 = .ok (.iconst 0, 1) := by decide +kernel
theorem dX1_followersOf_3 : decode cX1_followersOf 3 = .ok (.istore_n 3, 1) := by decide +kernel
theorem dX1_followersOf_4 : decode cX1_followersOf 4 = .ok (.iload_n 3, 1) := by decide +kernel
theorem dX1_followersOf_5 : decode cX1_followersOf 5 = .ok (.aload_n 0, 1) := by decide +kernel
theorem dX1_followersOf_6 : decode cX1_followersOf 6 = .ok (.getfield 34, 3) := by decide +kernel
theorem dX1_followersOf_9 : decode cX1_followersOf 9 = .ok (.if_icmp .ge 30, 3) := by decide +kernel
theorem dX1_followersOf_12 : decode cX1_followersOf 12 = .ok (.iload_n 1, 1) := by decide +kernel
theorem dX1_followersOf_13 : decode cX1_followersOf 13 = .ok (.iload_n 3, 1) := by decide +kernel
theorem dX1_followersOf_14 : decode cX1_followersOf 14 = .ok (.ishr, 1) := by decide +kernel
theorem dX1_followersOf_15 : decode cX1_followersOf 15 = .ok (.iconst 1, 1) := by decide +kernel
theorem dX1_followersOf_16 : decode cX1_followersOf 16 = .ok (.iand, 1) := by decide +kernel
theorem dX1_followersOf_17 : decode cX1_followersOf 17 = .ok (.iconst 1, 1) := by decide +kernel
theorem dX1_followersOf_18 : decode cX1_followersOf 18 = .ok (.if_icmp .ne 15, 3) := by decide +kernel
theorem dX1_followersOf_21 : decode cX1_followersOf 21 = .ok (.iload_n 2, 1) := by decide +kernel
theorem dX1_followersOf_22 : decode cX1_followersOf 22 = .ok (.aload_n 0, 1) := by decide +kernel
theorem dX1_followersOf_23 : decode cX1_followersOf 23 = .ok (.getfield 23, 3) := by decide +kernel
theorem dX1_followersOf_26 : decode cX1_followersOf 26 = .ok (.iload_n 3, 1) := by decide +kernel
theorem dX1_followersOf_27 : decode cX1_followersOf 27 = .ok (.aaload, 1) := by decide +kernel
theorem dX1_followersOf_28 : decode cX1_followersOf 28 = .ok (.getfield 86, 3) := by decide +kernel
theorem dX1_followersOf_31 : decode cX1_followersOf 31 = .ok (.iadd, 1) := by decide +kernel
theorem dX1_followersOf_32 : decode cX1_followersOf 32 = .ok (.istore_n 2, 1) := by decide +kernel
theorem dX1_followersOf_33 : decode cX1_followersOf 33 = .ok (.iinc 3 1, 3) := by decide +kernel
theorem dX1_followersOf_36 : decode cX1_followersOf 36 = .ok (.goto (-32), 3) := by decide +kernel
theorem dX1_followersOf_39 : decode cX1_followersOf 39 = .ok (.iload_n 2, 1) := by decide +kernel
theorem dX1_followersOf_40 : decode cX1_followersOf 40 = .ok (.ireturn, 1) := by decide +kernel
theorem dX1_allFollowers_0 : decode cX1_allFollowers 0 = .ok (.aload_n 0, 1) := by decide +kernel
theorem dX1_allFollowers_1 : decode cX1_allFollowers 1 = .ok (.iconst 1, 1) := by decide +kernel
theorem dX1_allFollowers_2 : decode cX1_allFollowers 2 = .ok (.aload_n 0, 1) := by decide +kernel
theorem dX1_allFollowers_3 : decode cX1_allFollowers 3 = .ok (.getfield 34, 3) := by decide +kernel
theorem dX1_allFollowers_6 : decode cX1_allFollowers 6 = .ok (.ishl, 1) := by decide +kernel
theorem dX1_allFollowers_7 : decode cX1_allFollowers 7 = .ok (.iconst 1, 1) := by decide +kernel
theorem dX1_allFollowers_8 : decode cX1_allFollowers 8 = .ok (.isub, 1) := by decide +kernel
theorem dX1_allFollowers_9 : decode cX1_allFollowers 9 = .ok (.invokevirtual 134, 3) := by decide +kernel
theorem dX1_allFollowers_12 : decode cX1_allFollowers 12 = .ok (.ireturn, 1) := by decide +kernel
theorem dX1_sumOf_0 : decode cX1_sumOf 0 = .ok (.iconst 0, 1) := by decide +kernel
theorem dX1_sumOf_1 : decode cX1_sumOf 1 = .ok (.istore_n 1, 1) := by decide +kernel
theorem dX1_sumOf_2 : decode cX1_sumOf 2 = .ok (.iconst 0, 1) := by decide +kernel
theorem dX1_sumOf_3 : decode cX1_sumOf 3 = .ok (.istore_n 2, 1) := by decide +kernel
theorem dX1_sumOf_4 : decode cX1_sumOf 4 = .ok (.iload_n 2, 1) := by decide +kernel
theorem dX1_sumOf_5 : decode cX1_sumOf 5 = .ok (.aload_n 0, 1) := by decide +kernel
theorem dX1_sumOf_6 : decode cX1_sumOf 6 = .ok (.arraylength, 1) := by decide +kernel
theorem dX1_sumOf_7 : decode cX1_sumOf 7 = .ok (.if_icmp .ge 15, 3) := by decide +kernel
theorem dX1_sumOf_10 : decode cX1_sumOf 10 = .ok (.iload_n 1, 1) := by decide +kernel
theorem dX1_sumOf_11 : decode cX1_sumOf 11 = .ok (.aload_n 0, 1) := by decide +kernel
theorem dX1_sumOf_12 : decode cX1_sumOf 12 = .ok (.iload_n 2, 1) := by decide +kernel
theorem dX1_sumOf_13 : decode cX1_sumOf 13 = .ok (.iaload, 1) := by decide +kernel
theorem dX1_sumOf_14 : decode cX1_sumOf 14 = .ok (.iadd, 1) := by decide +kernel
theorem dX1_sumOf_15 : decode cX1_sumOf 15 = .ok (.istore_n 1, 1) := by decide +kernel
theorem dX1_sumOf_16 : decode cX1_sumOf 16 = .ok (.iinc 2 1, 3) := by decide +kernel
theorem dX1_sumOf_19 : decode cX1_sumOf 19 = .ok (.goto (-15), 3) := by decide +kernel
theorem dX1_sumOf_22 : decode cX1_sumOf 22 = .ok (.iload_n 1, 1) := by decide +kernel
theorem dX1_sumOf_23 : decode cX1_sumOf 23 = .ok (.ireturn, 1) := by decide +kernel
theorem dX1_allPeople_0 : decode cX1_allPeople 0 = .ok (.aload_n 0, 1) := by decide +kernel
theorem dX1_allPeople_1 : decode cX1_allPeople 1 = .ok (.getfield 15, 3) := by decide +kernel
theorem dX1_allPeople_4 : decode cX1_allPeople 4 = .ok (.invokestatic 137, 3) := by decide +kernel
theorem dX1_allPeople_7 : decode cX1_allPeople 7 = .ok (.ireturn, 1) := by decide +kernel
theorem dX1_allWalls_0 : decode cX1_allWalls 0 = .ok (.aload_n 0, 1) := by decide +kernel
theorem dX1_allWalls_1 : decode cX1_allWalls 1 = .ok (.getfield 9, 3) := by decide +kernel
theorem dX1_allWalls_4 : decode cX1_allWalls 4 = .ok (.invokestatic 137, 3) := by decide +kernel
theorem dX1_allWalls_7 : decode cX1_allWalls 7 = .ok (.ireturn, 1) := by decide +kernel
theorem dX1_vowels_0 : decode cX1_vowels 0 = .ok (.iconst 0, 1) := by decide +kernel
theorem dX1_vowels_1 : decode cX1_vowels 1 = .ok (.istore_n 1, 1) := by decide +kernel
theorem dX1_vowels_2 : decode cX1_vowels 2 = .ok (.iconst 0, 1) := by decide +kernel
theorem dX1_vowels_3 : decode cX1_vowels 3 = .ok (.istore_n 2, 1) := by decide +kernel
theorem dX1_vowels_4 : decode cX1_vowels 4 = .ok (.iload_n 2, 1) := by decide +kernel
theorem dX1_vowels_5 : decode cX1_vowels 5 = .ok (.aload_n 0, 1) := by decide +kernel
theorem dX1_vowels_6 : decode cX1_vowels 6 = .ok (.getfield 34, 3) := by decide +kernel
theorem dX1_vowels_9 : decode cX1_vowels 9 = .ok (.if_icmp .ge 21, 3) := by decide +kernel
theorem dX1_vowels_12 : decode cX1_vowels 12 = .ok (.iload_n 1, 1) := by decide +kernel
theorem dX1_vowels_13 : decode cX1_vowels 13 = .ok (.aload_n 0, 1) := by decide +kernel
theorem dX1_vowels_14 : decode cX1_vowels 14 = .ok (.getfield 23, 3) := by decide +kernel
theorem dX1_vowels_17 : decode cX1_vowels 17 = .ok (.iload_n 2, 1) := by decide +kernel
theorem dX1_vowels_18 : decode cX1_vowels 18 = .ok (.aaload, 1) := by decide +kernel
theorem dX1_vowels_19 : decode cX1_vowels 19 = .ok (.invokevirtual 141, 3) := by decide +kernel
theorem dX1_vowels_22 : decode cX1_vowels 22 = .ok (.iadd, 1) := by decide +kernel
theorem dX1_vowels_23 : decode cX1_vowels 23 = .ok (.istore_n 1, 1) := by decide +kernel
theorem dX1_vowels_24 : decode cX1_vowels 24 = .ok (.iinc 2 1, 3) := by decide +kernel
theorem dX1_vowels_27 : decode cX1_vowels 27 = .ok (.goto (-23), 3) := by decide +kernel
theorem dX1_vowels_30 : decode cX1_vowels 30 = .ok (.iload_n 1, 1) := by decide +kernel
theorem dX1_vowels_31 : decode cX1_vowels 31 = .ok (.ireturn, 1) := by decide +kernel
theorem dX1_isInSomeName_0 : decode cX1_isInSomeName 0 = .ok (.iconst 0, 1) := by decide +kernel
theorem dX1_isInSomeName_1 : decode cX1_isInSomeName 1 = .ok (.istore_n 2, 1) := by decide +kernel
theorem dX1_isInSomeName_2 : decode cX1_isInSomeName 2 = .ok (.iload_n 2, 1) := by decide +kernel
theorem dX1_isInSomeName_3 : decode cX1_isInSomeName 3 = .ok (.aload_n 0, 1) := by decide +kernel
theorem dX1_isInSomeName_4 : decode cX1_isInSomeName 4 = .ok (.getfield 34, 3) := by decide +kernel
theorem dX1_isInSomeName_7 : decode cX1_isInSomeName 7 = .ok (.if_icmp .ge 24, 3) := by decide +kernel
theorem dX1_isInSomeName_10 : decode cX1_isInSomeName 10 = .ok (.aload_n 0, 1) := by decide +kernel
theorem dX1_isInSomeName_11 : decode cX1_isInSomeName 11 = .ok (.getfield 23, 3) := by decide +kernel
theorem dX1_isInSomeName_14 : decode cX1_isInSomeName 14 = .ok (.iload_n 2, 1) := by decide +kernel
theorem dX1_isInSomeName_15 : decode cX1_isInSomeName 15 = .ok (.aaload, 1) := by decide +kernel
theorem dX1_isInSomeName_16 : decode cX1_isInSomeName 16 = .ok (.iload_n 1, 1) := by decide +kernel
theorem dX1_isInSomeName_17 : decode cX1_isInSomeName 17 = .ok (.invokevirtual 117, 3) := by decide +kernel
theorem dX1_isInSomeName_20 : decode cX1_isInSomeName 20 = .ok (.ifCond .eq 5, 3) := by decide +kernel
theorem dX1_isInSomeName_23 : decode cX1_isInSomeName 23 = .ok (.iconst 1, 1) := by decide +kernel
theorem dX1_isInSomeName_24 : decode cX1_isInSomeName 24 = .ok (.ireturn, 1) := by decide +kernel
theorem dX1_isInSomeName_25 : decode cX1_isInSomeName 25 = .ok (.iinc 2 1, 3) := by decide +kernel
theorem dX1_isInSomeName_28 : decode cX1_isInSomeName 28 = .ok (.goto (-26), 3) := by decide +kernel
theorem dX1_isInSomeName_31 : decode cX1_isInSomeName 31 = .ok (.iconst 0, 1) := by decide +kernel
theorem dX1_isInSomeName_32 : decode cX1_isInSomeName 32 = .ok (.ireturn, 1) := by decide +kernel
theorem dX1_hungry_0 : decode cX1_hungry 0 = .ok (.iconst 0, 1) := by decide +kernel
theorem dX1_hungry_1 : decode cX1_hungry 1 = .ok (.istore_n 1, 1) := by decide +kernel
theorem dX1_hungry_2 : decode cX1_hungry 2 = .ok (.iconst 0, 1) := by decide +kernel
theorem dX1_hungry_3 : decode cX1_hungry 3 = .ok (.istore_n 2, 1) := by decide +kernel
theorem dX1_hungry_4 : decode cX1_hungry 4 = .ok (.iload_n 2, 1) := by decide +kernel
theorem dX1_hungry_5 : decode cX1_hungry 5 = .ok (.bipush 48, 2) := by decide +kernel
theorem dX1_hungry_7 : decode cX1_hungry 7 = .ok (.if_icmp .ge 31, 3) := by decide +kernel
theorem dX1_hungry_10 : decode cX1_hungry 10 = .ok (.aload_n 0, 1) := by decide +kernel
theorem dX1_hungry_11 : decode cX1_hungry 11 = .ok (.aload_n 0, 1) := by decide +kernel
theorem dX1_hungry_12 : decode cX1_hungry 12 = .ok (.getfield 18, 3) := by decide +kernel
theorem dX1_hungry_15 : decode cX1_hungry 15 = .ok (.iload_n 2, 1) := by decide +kernel
theorem dX1_hungry_16 : decode cX1_hungry 16 = .ok (.iaload, 1) := by decide +kernel
theorem dX1_hungry_17 : decode cX1_hungry 17 = .ok (.invokevirtual 144, 3) := by decide +kernel
theorem dX1_hungry_20 : decode cX1_hungry 20 = .ok (.ifCond .ne 12, 3) := by decide +kernel
theorem dX1_hungry_23 : decode cX1_hungry 23 = .ok (.iload_n 1, 1) := by decide +kernel
theorem dX1_hungry_24 : decode cX1_hungry 24 = .ok (.aload_n 0, 1) := by decide +kernel
theorem dX1_hungry_25 : decode cX1_hungry 25 = .ok (.getfield 15, 3) := by decide +kernel
theorem dX1_hungry_28 : decode cX1_hungry 28 = .ok (.iload_n 2, 1) := by decide +kernel
theorem dX1_hungry_29 : decode cX1_hungry 29 = .ok (.iaload, 1) := by decide +kernel
theorem dX1_hungry_30 : decode cX1_hungry 30 = .ok (.iadd, 1) := by decide +kernel
theorem dX1_hungry_31 : decode cX1_hungry 31 = .ok (.istore_n 1, 1) := by decide +kernel
theorem dX1_hungry_32 : decode cX1_hungry 32 = .ok (.iinc 2 1, 3) := by decide +kernel
theorem dX1_hungry_35 : decode cX1_hungry 35 = .ok (.goto (-31), 3) := by decide +kernel
theorem dX1_hungry_38 : decode cX1_hungry 38 = .ok (.iload_n 1, 1) := by decide +kernel
theorem dX1_hungry_39 : decode cX1_hungry 39 = .ok (.ireturn, 1) := by decide +kernel
theorem dX1_alone_0 : decode cX1_alone 0 = .ok (.iconst 0, 1) := by decide +kernel
theorem dX1_alone_1 : decode cX1_alone 1 = .ok (.istore_n 1, 1) := by decide +kernel
theorem dX1_alone_2 : decode cX1_alone 2 = .ok (.iconst 0, 1) := by decide +kernel
theorem dX1_alone_3 : decode cX1_alone 3 = .ok (.istore_n 2, 1) := by decide +kernel
theorem dX1_alone_4 : decode cX1_alone 4 = .ok (.iload_n 2, 1) := by decide +kernel
theorem dX1_alone_5 : decode cX1_alone 5 = .ok (.aload_n 0, 1) := by decide +kernel
theorem dX1_alone_6 : decode cX1_alone 6 = .ok (.getfield 34, 3) := by decide +kernel
theorem dX1_alone_9 : decode cX1_alone 9 = .ok (.if_icmp .ge 34, 3) := by decide +kernel
theorem dX1_alone_12 : decode cX1_alone 12 = .ok (.aload_n 0, 1) := by decide +kernel
theorem dX1_alone_13 : decode cX1_alone 13 = .ok (.aload_n 0, 1) := by decide +kernel
theorem dX1_alone_14 : decode cX1_alone 14 = .ok (.getfield 23, 3) := by decide +kernel
theorem dX1_alone_17 : decode cX1_alone 17 = .ok (.iload_n 2, 1) := by decide +kernel
theorem dX1_alone_18 : decode cX1_alone 18 = .ok (.aaload, 1) := by decide +kernel
theorem dX1_alone_19 : decode cX1_alone 19 = .ok (.getfield 99, 3) := by decide +kernel
theorem dX1_alone_22 : decode cX1_alone 22 = .ok (.invokevirtual 147, 3) := by decide +kernel
theorem dX1_alone_25 : decode cX1_alone 25 = .ok (.iconst 1, 1) := by decide +kernel
theorem dX1_alone_26 : decode cX1_alone 26 = .ok (.iload_n 2, 1) := by decide +kernel
theorem dX1_alone_27 : decode cX1_alone 27 = .ok (.ishl, 1) := by decide +kernel
theorem dX1_alone_28 : decode cX1_alone 28 = .ok (.if_icmp .ne 9, 3) := by decide +kernel
theorem dX1_alone_31 : decode cX1_alone 31 = .ok (.iload_n 1, 1) := by decide +kernel
theorem dX1_alone_32 : decode cX1_alone 32 = .ok (.iconst 1, 1) := by decide +kernel
theorem dX1_alone_33 : decode cX1_alone 33 = .ok (.iload_n 2, 1) := by decide +kernel
theorem dX1_alone_34 : decode cX1_alone 34 = .ok (.ishl, 1) := by decide +kernel
theorem dX1_alone_35 : decode cX1_alone 35 = .ok (.ior, 1) := by decide +kernel
theorem dX1_alone_36 : decode cX1_alone 36 = .ok (.istore_n 1, 1) := by decide +kernel
theorem dX1_alone_37 : decode cX1_alone 37 = .ok (.iinc 2 1, 3) := by decide +kernel
theorem dX1_alone_40 : decode cX1_alone 40 = .ok (.goto (-36), 3) := by decide +kernel
theorem dX1_alone_43 : decode cX1_alone 43 = .ok (.iload_n 1, 1) := by decide +kernel
theorem dX1_alone_44 : decode cX1_alone 44 = .ok (.ireturn, 1) := by decide +kernel
theorem dX2_think_0 : decode cX2_think 0 = .ok (.aload_n 0, 1) := by decide +kernel
theorem dX2_think_1 : decode cX2_think 1 = .ok (.getfield 12, 3) := by decide +kernel
theorem dX2_think_4 : decode cX2_think 4 = .ok (.aload_n 1, 1) := by decide +kernel
theorem dX2_think_5 : decode cX2_think 5 = .ok (.invokevirtual 25, 3) := by decide +kernel
theorem dX2_think_8 : decode cX2_think 8 = .ok (.aload_n 0, 1) := by decide +kernel
theorem dX2_think_9 : decode cX2_think 9 = .ok (.getfield 12, 3) := by decide +kernel
theorem dX2_think_12 : decode cX2_think 12 = .ok (.areturn, 1) := by decide +kernel
theorem dX2_behindNights_0 : decode cX2_behindNights 0 = .ok (.aload_n 0, 1) := by decide +kernel
theorem dX2_behindNights_1 : decode cX2_behindNights 1 = .ok (.aload_n 1, 1) := by decide +kernel
theorem dX2_behindNights_2 : decode cX2_behindNights 2 = .ok (.invokevirtual 29, 3) := by decide +kernel
theorem dX2_behindNights_5 : decode cX2_behindNights 5 = .ok (.pop, 1) := by decide +kernel
theorem dX2_behindNights_6 : decode cX2_behindNights 6 = .ok (.aload_n 0, 1) := by decide +kernel
theorem dX2_behindNights_7 : decode cX2_behindNights 7 = .ok (.getfield 12, 3) := by decide +kernel
theorem dX2_behindNights_10 : decode cX2_behindNights 10 = .ok (.iload_n 2, 1) := by decide +kernel
theorem dX2_behindNights_11 : decode cX2_behindNights 11 = .ok (.invokevirtual 33, 3) := by decide +kernel
theorem dX2_behindNights_14 : decode cX2_behindNights 14 = .ok (.aload_n 0, 1) := by decide +kernel
theorem dX2_behindNights_15 : decode cX2_behindNights 15 = .ok (.getfield 12, 3) := by decide +kernel
theorem dX2_behindNights_18 : decode cX2_behindNights 18 = .ok (.areturn, 1) := by decide +kernel
theorem dX2_nightsUntilOn_0 : decode cX2_nightsUntilOn 0 = .ok (.aload_n 0, 1) := by decide +kernel
theorem dX2_nightsUntilOn_1 : decode cX2_nightsUntilOn 1 = .ok (.aload_n 1, 1) := by decide +kernel
theorem dX2_nightsUntilOn_2 : decode cX2_nightsUntilOn 2 = .ok (.invokevirtual 29, 3) := by decide +kernel
theorem dX2_nightsUntilOn_5 : decode cX2_nightsUntilOn 5 = .ok (.pop, 1) := by decide +kernel
theorem dX2_nightsUntilOn_6 : decode cX2_nightsUntilOn 6 = .ok (.iconst 0, 1) := by decide +kernel
theorem dX2_nightsUntilOn_7 : decode cX2_nightsUntilOn 7 = .ok (.istore 4, 2) := by decide +kernel
theorem dX2_nightsUntilOn_9 : decode cX2_nightsUntilOn 9 = .ok (.iload 4, 2) := by decide +kernel
theorem dX2_nightsUntilOn_11 : decode cX2_nightsUntilOn 11 = .ok (.bipush 60, 2) := by decide +kernel
theorem dX2_nightsUntilOn_13 : decode cX2_nightsUntilOn 13 = .ok (.if_icmp .gt 36, 3) := by decide +kernel
theorem dX2_nightsUntilOn_16 : decode cX2_nightsUntilOn 16 = .ok (.aload_n 0, 1) := by decide +kernel
theorem dX2_nightsUntilOn_17 : decode cX2_nightsUntilOn 17 = .ok (.getfield 12, 3) := by decide +kernel
theorem dX2_nightsUntilOn_20 : decode cX2_nightsUntilOn 20 = .ok (.getfield 37, 3) := by decide +kernel
theorem dX2_nightsUntilOn_23 : decode cX2_nightsUntilOn 23 = .ok (.iload_n 2, 1) := by decide +kernel
theorem dX2_nightsUntilOn_24 : decode cX2_nightsUntilOn 24 = .ok (.aaload, 1) := by decide +kernel
theorem dX2_nightsUntilOn_25 : decode cX2_nightsUntilOn 25 = .ok (.getfield 41, 3) := by decide +kernel
theorem dX2_nightsUntilOn_28 : decode cX2_nightsUntilOn 28 = .ok (.iload_n 3, 1) := by decide +kernel
theorem dX2_nightsUntilOn_29 : decode cX2_nightsUntilOn 29 = .ok (.if_icmp .ne 6, 3) := by decide +kernel
theorem dX2_nightsUntilOn_32 : decode cX2_nightsUntilOn 32 = .ok (.iload 4, 2) := by decide +kernel
theorem dX2_nightsUntilOn_34 : decode cX2_nightsUntilOn 34 = .ok (.ireturn, 1) := by decide +kernel
theorem dX2_nightsUntilOn_35 : decode cX2_nightsUntilOn 35 = .ok (.aload_n 0, 1) := by decide +kernel
theorem dX2_nightsUntilOn_36 : decode cX2_nightsUntilOn 36 = .ok (.getfield 12, 3) := by decide +kernel
theorem dX2_nightsUntilOn_39 : decode cX2_nightsUntilOn 39 = .ok (.iconst 1, 1) := by decide +kernel
theorem dX2_nightsUntilOn_40 : decode cX2_nightsUntilOn 40 = .ok (.invokevirtual 33, 3) := by decide +kernel
theorem dX2_nightsUntilOn_43 : decode cX2_nightsUntilOn 43 = .ok (.iinc 4 1, 3) := by decide +kernel
theorem dX2_nightsUntilOn_46 : decode cX2_nightsUntilOn 46 = .ok (.goto (-37), 3) := by decide +kernel
theorem dX2_nightsUntilOn_49 : decode cX2_nightsUntilOn 49 = .ok (.bipush (-9), 2) := by decide +kernel
theorem dX2_nightsUntilOn_51 : decode cX2_nightsUntilOn 51 = .ok (.ireturn, 1) := by decide +kernel
theorem dX2_nightsUntilSettled_0 : decode cX2_nightsUntilSettled 0 = .ok (.aload_n 0, 1) := by decide +kernel
theorem dX2_nightsUntilSettled_1 : decode cX2_nightsUntilSettled 1 = .ok (.aload_n 1, 1) := by decide +kernel
theorem dX2_nightsUntilSettled_2 : decode cX2_nightsUntilSettled 2 = .ok (.invokevirtual 29, 3) := by decide +kernel
theorem dX2_nightsUntilSettled_5 : decode cX2_nightsUntilSettled 5 = .ok (.pop, 1) := by decide +kernel
theorem dX2_nightsUntilSettled_6 : decode cX2_nightsUntilSettled 6 = .ok (.iconst 0, 1) := by decide +kernel
theorem dX2_nightsUntilSettled_7 : decode cX2_nightsUntilSettled 7 = .ok (.istore_n 3, 1) := by decide +kernel
theorem dX2_nightsUntilSettled_8 : decode cX2_nightsUntilSettled 8 = .ok (.iload_n 3, 1) := by decide +kernel
theorem dX2_nightsUntilSettled_9 : decode cX2_nightsUntilSettled 9 = .ok (.bipush 60, 2) := by decide +kernel
theorem dX2_nightsUntilSettled_11 : decode cX2_nightsUntilSettled 11 = .ok (.if_icmp .gt 34, 3) := by decide +kernel
theorem dX2_nightsUntilSettled_14 : decode cX2_nightsUntilSettled 14 = .ok (.aload_n 0, 1) := by decide +kernel
theorem dX2_nightsUntilSettled_15 : decode cX2_nightsUntilSettled 15 = .ok (.getfield 12, 3) := by decide +kernel
theorem dX2_nightsUntilSettled_18 : decode cX2_nightsUntilSettled 18 = .ok (.getfield 37, 3) := by decide +kernel
theorem dX2_nightsUntilSettled_21 : decode cX2_nightsUntilSettled 21 = .ok (.iload_n 2, 1) := by decide +kernel
theorem dX2_nightsUntilSettled_22 : decode cX2_nightsUntilSettled 22 = .ok (.aaload, 1) := by decide +kernel
theorem dX2_nightsUntilSettled_23 : decode cX2_nightsUntilSettled 23 = .ok (.getfield 47, 3) := by decide +kernel
theorem dX2_nightsUntilSettled_26 : decode cX2_nightsUntilSettled 26 = .ok (.ifCond .eq 5, 3) := by decide +kernel
theorem dX2_nightsUntilSettled_29 : decode cX2_nightsUntilSettled 29 = .ok (.iload_n 3, 1) := by decide +kernel
theorem dX2_nightsUntilSettled_30 : decode cX2_nightsUntilSettled 30 = .ok (.ireturn, 1) := by decide +kernel
theorem dX2_nightsUntilSettled_31 : decode cX2_nightsUntilSettled 31 = .ok (.aload_n 0, 1) := by decide +kernel
theorem dX2_nightsUntilSettled_32 : decode cX2_nightsUntilSettled 32 = .ok (.getfield 12, 3) := by decide +kernel
theorem dX2_nightsUntilSettled_35 : decode cX2_nightsUntilSettled 35 = .ok (.iconst 1, 1) := by decide +kernel
theorem dX2_nightsUntilSettled_36 : decode cX2_nightsUntilSettled 36 = .ok (.invokevirtual 33, 3) := by decide +kernel
theorem dX2_nightsUntilSettled_39 : decode cX2_nightsUntilSettled 39 = .ok (.iinc 3 1, 3) := by decide +kernel
theorem dX2_nightsUntilSettled_42 : decode cX2_nightsUntilSettled 42 = .ok (.goto (-34), 3) := by decide +kernel
theorem dX2_nightsUntilSettled_45 : decode cX2_nightsUntilSettled 45 = .ok (.bipush (-9), 2) := by decide +kernel
theorem dX2_nightsUntilSettled_47 : decode cX2_nightsUntilSettled 47 = .ok (.ireturn, 1) := by decide +kernel
theorem dX2_firstToSettle_0 : decode cX2_firstToSettle 0 = .ok (.aload_n 0, 1) := by decide +kernel
theorem dX2_firstToSettle_1 : decode cX2_firstToSettle 1 = .ok (.aload_n 1, 1) := by decide +kernel
theorem dX2_firstToSettle_2 : decode cX2_firstToSettle 2 = .ok (.invokevirtual 29, 3) := by decide +kernel
theorem dX2_firstToSettle_5 : decode cX2_firstToSettle 5 = .ok (.pop, 1) := by decide +kernel
theorem dX2_firstToSettle_6 : decode cX2_firstToSettle 6 = .ok (.iconst 0, 1) := by decide +kernel
theorem dX2_firstToSettle_7 : decode cX2_firstToSettle 7 = .ok (.istore_n 2, 1) := by decide +kernel
theorem dX2_firstToSettle_8 : decode cX2_firstToSettle 8 = .ok (.iload_n 2, 1) := by decide +kernel
theorem dX2_firstToSettle_9 : decode cX2_firstToSettle 9 = .ok (.bipush 60, 2) := by decide +kernel
theorem dX2_firstToSettle_11 : decode cX2_firstToSettle 11 = .ok (.if_icmp .ge 41, 3) := by decide +kernel
theorem dX2_firstToSettle_14 : decode cX2_firstToSettle 14 = .ok (.aload_n 0, 1) := by decide +kernel
theorem dX2_firstToSettle_15 : decode cX2_firstToSettle 15 = .ok (.getfield 12, 3) := by decide +kernel
theorem dX2_firstToSettle_18 : decode cX2_firstToSettle 18 = .ok (.iconst 1, 1) := by decide +kernel
theorem dX2_firstToSettle_19 : decode cX2_firstToSettle 19 = .ok (.invokevirtual 33, 3) := by decide +kernel
theorem dX2_firstToSettle_22 : decode cX2_firstToSettle 22 = .ok (.aload_n 0, 1) := by decide +kernel
theorem dX2_firstToSettle_23 : decode cX2_firstToSettle 23 = .ok (.getfield 12, 3) := by decide +kernel
theorem dX2_firstToSettle_26 : decode cX2_firstToSettle 26 = .ok (.invokevirtual 51, 3) := by decide +kernel
theorem dX2_firstToSettle_29 : decode cX2_firstToSettle 29 = .ok (.aload_n 1, 1) := by decide +kernel
theorem dX2_firstToSettle_30 : decode cX2_firstToSettle 30 = .ok (.invokevirtual 51, 3) := by decide +kernel
theorem dX2_firstToSettle_33 : decode cX2_firstToSettle 33 = .ok (.iconst (-1), 1) := by decide +kernel
theorem dX2_firstToSettle_34 : decode cX2_firstToSettle 34 = .ok (.ixor, 1) := by decide +kernel
theorem dX2_firstToSettle_35 : decode cX2_firstToSettle 35 = .ok (.iand, 1) := by decide +kernel
theorem dX2_firstToSettle_36 : decode cX2_firstToSettle 36 = .ok (.istore_n 3, 1) := by decide +kernel
theorem dX2_firstToSettle_37 : decode cX2_firstToSettle 37 = .ok (.iload_n 3, 1) := by decide +kernel
theorem dX2_firstToSettle_38 : decode cX2_firstToSettle 38 = .ok (.ifCond .eq 8, 3) := by decide +kernel
theorem dX2_firstToSettle_41 : decode cX2_firstToSettle 41 = .ok (.iload_n 3, 1) := by decide +kernel
theorem dX2_firstToSettle_42 : decode cX2_firstToSettle 42 = .ok (.invokestatic 55, 3) := by decide +kernel
theorem dX2_firstToSettle_45 : decode cX2_firstToSettle 45 = .ok (.ireturn, 1) := by decide +kernel
theorem dX2_firstToSettle_46 : decode cX2_firstToSettle 46 = .ok (.iinc 2 1, 3) := by decide +kernel
theorem dX2_firstToSettle_49 : decode cX2_firstToSettle 49 = .ok (.goto (-41), 3) := by decide +kernel
theorem dX2_firstToSettle_52 : decode cX2_firstToSettle 52 = .ok (.bipush (-9), 2) := by decide +kernel
theorem dX2_firstToSettle_54 : decode cX2_firstToSettle 54 = .ok (.ireturn, 1) := by decide +kernel
theorem dX2_nightsUntilTogether_0 : decode cX2_nightsUntilTogether 0 = .ok (.aload_n 0, 1) := by decide +kernel
theorem dX2_nightsUntilTogether_1 : decode cX2_nightsUntilTogether 1 = .ok (.aload_n 1, 1) := by decide +kernel
theorem dX2_nightsUntilTogether_2 : decode cX2_nightsUntilTogether 2 = .ok (.invokevirtual 29, 3) := by decide +kernel
theorem dX2_nightsUntilTogether_5 : decode cX2_nightsUntilTogether 5 = .ok (.pop, 1) := by decide +kernel
theorem dX2_nightsUntilTogether_6 : decode cX2_nightsUntilTogether 6 = .ok (.iconst 0, 1) := by decide +kernel
theorem dX2_nightsUntilTogether_7 : decode cX2_nightsUntilTogether 7 = .ok (.istore 4, 2) := by decide +kernel
theorem dX2_nightsUntilTogether_9 : decode cX2_nightsUntilTogether 9 = .ok (.iload 4, 2) := by decide +kernel
theorem dX2_nightsUntilTogether_11 : decode cX2_nightsUntilTogether 11 = .ok (.bipush 60, 2) := by decide +kernel
theorem dX2_nightsUntilTogether_13 : decode cX2_nightsUntilTogether 13 = .ok (.if_icmp .gt 47, 3) := by decide +kernel
theorem dX2_nightsUntilTogether_16 : decode cX2_nightsUntilTogether 16 = .ok (.aload_n 0, 1) := by decide +kernel
theorem dX2_nightsUntilTogether_17 : decode cX2_nightsUntilTogether 17 = .ok (.getfield 12, 3) := by decide +kernel
theorem dX2_nightsUntilTogether_20 : decode cX2_nightsUntilTogether 20 = .ok (.getfield 37, 3) := by decide +kernel
theorem dX2_nightsUntilTogether_23 : decode cX2_nightsUntilTogether 23 = .ok (.iload_n 2, 1) := by decide +kernel
theorem dX2_nightsUntilTogether_24 : decode cX2_nightsUntilTogether 24 = .ok (.aaload, 1) := by decide +kernel
theorem dX2_nightsUntilTogether_25 : decode cX2_nightsUntilTogether 25 = .ok (.getfield 41, 3) := by decide +kernel
theorem dX2_nightsUntilTogether_28 : decode cX2_nightsUntilTogether 28 = .ok (.aload_n 0, 1) := by decide +kernel
theorem dX2_nightsUntilTogether_29 : decode cX2_nightsUntilTogether 29 = .ok (.getfield 12, 3) := by decide +kernel
theorem dX2_nightsUntilTogether_32 : decode cX2_nightsUntilTogether 32 = .ok (.getfield 37, 3) := by decide +kernel
theorem dX2_nightsUntilTogether_35 : decode cX2_nightsUntilTogether 35 = .ok (.iload_n 3, 1) := by decide +kernel
theorem dX2_nightsUntilTogether_36 : decode cX2_nightsUntilTogether 36 = .ok (.aaload, 1) := by decide +kernel
theorem dX2_nightsUntilTogether_37 : decode cX2_nightsUntilTogether 37 = .ok (.getfield 41, 3) := by decide +kernel
theorem dX2_nightsUntilTogether_40 : decode cX2_nightsUntilTogether 40 = .ok (.if_icmp .ne 6, 3) := by decide +kernel
theorem dX2_nightsUntilTogether_43 : decode cX2_nightsUntilTogether 43 = .ok (.iload 4, 2) := by decide +kernel
theorem dX2_nightsUntilTogether_45 : decode cX2_nightsUntilTogether 45 = .ok (.ireturn, 1) := by decide +kernel
theorem dX2_nightsUntilTogether_46 : decode cX2_nightsUntilTogether 46 = .ok (.aload_n 0, 1) := by decide +kernel
theorem dX2_nightsUntilTogether_47 : decode cX2_nightsUntilTogether 47 = .ok (.getfield 12, 3) := by decide +kernel
theorem dX2_nightsUntilTogether_50 : decode cX2_nightsUntilTogether 50 = .ok (.iconst 1, 1) := by decide +kernel
theorem dX2_nightsUntilTogether_51 : decode cX2_nightsUntilTogether 51 = .ok (.invokevirtual 33, 3) := by decide +kernel
theorem dX2_nightsUntilTogether_54 : decode cX2_nightsUntilTogether 54 = .ok (.iinc 4 1, 3) := by decide +kernel
theorem dX2_nightsUntilTogether_57 : decode cX2_nightsUntilTogether 57 = .ok (.goto (-48), 3) := by decide +kernel
theorem dX2_nightsUntilTogether_60 : decode cX2_nightsUntilTogether 60 = .ok (.bipush (-9), 2) := by decide +kernel
theorem dX2_nightsUntilTogether_62 : decode cX2_nightsUntilTogether 62 = .ok (.ireturn, 1) := by decide +kernel
theorem dX2_choicesOf_0 : decode cX2_choicesOf 0 = .ok (.iload_n 0, 1) := by decide +kernel
theorem dX2_choicesOf_1 : decode cX2_choicesOf 1 = .ok (.tableswitch 35 0 2 #[27, 30, 33], 27) := by decide +kernel
theorem dX2_choicesOf_28 : decode cX2_choicesOf 28 = .ok (.bipush 8, 2) := by decide +kernel
theorem dX2_choicesOf_30 : decode cX2_choicesOf 30 = .ok (.ireturn, 1) := by decide +kernel
theorem dX2_choicesOf_31 : decode cX2_choicesOf 31 = .ok (.bipush 10, 2) := by decide +kernel
theorem dX2_choicesOf_33 : decode cX2_choicesOf 33 = .ok (.ireturn, 1) := by decide +kernel
theorem dX2_choicesOf_34 : decode cX2_choicesOf 34 = .ok (.iconst 5, 1) := by decide +kernel
theorem dX2_choicesOf_35 : decode cX2_choicesOf 35 = .ok (.ireturn, 1) := by decide +kernel
theorem dX2_choicesOf_36 : decode cX2_choicesOf 36 = .ok (.bipush 26, 2) := by decide +kernel
theorem dX2_choicesOf_38 : decode cX2_choicesOf 38 = .ok (.ireturn, 1) := by decide +kernel
theorem dX2_choose_0 : decode cX2_choose 0 = .ok (.iload_n 2, 1) := by decide +kernel
theorem dX2_choose_1 : decode cX2_choose 1 = .ok (.tableswitch 75 0 2 #[27, 43, 59], 27) := by decide +kernel
theorem dX2_choose_28 : decode cX2_choose 28 = .ok (.aload_n 0, 1) := by decide +kernel
theorem dX2_choose_29 : decode cX2_choose 29 = .ok (.getfield 12, 3) := by decide +kernel
theorem dX2_choose_32 : decode cX2_choose 32 = .ok (.getfield 37, 3) := by decide +kernel
theorem dX2_choose_35 : decode cX2_choose 35 = .ok (.iload_n 1, 1) := by decide +kernel
theorem dX2_choose_36 : decode cX2_choose 36 = .ok (.aaload, 1) := by decide +kernel
theorem dX2_choose_37 : decode cX2_choose 37 = .ok (.iload_n 3, 1) := by decide +kernel
theorem dX2_choose_38 : decode cX2_choose 38 = .ok (.putfield 61, 3) := by decide +kernel
theorem dX2_choose_41 : decode cX2_choose 41 = .ok (.goto 48, 3) := by decide +kernel
theorem dX2_choose_44 : decode cX2_choose 44 = .ok (.aload_n 0, 1) := by decide +kernel
theorem dX2_choose_45 : decode cX2_choose 45 = .ok (.getfield 12, 3) := by decide +kernel
theorem dX2_choose_48 : decode cX2_choose 48 = .ok (.getfield 37, 3) := by decide +kernel
theorem dX2_choose_51 : decode cX2_choose 51 = .ok (.iload_n 1, 1) := by decide +kernel
theorem dX2_choose_52 : decode cX2_choose 52 = .ok (.aaload, 1) := by decide +kernel
theorem dX2_choose_53 : decode cX2_choose 53 = .ok (.iload_n 3, 1) := by decide +kernel
theorem dX2_choose_54 : decode cX2_choose 54 = .ok (.putfield 64, 3) := by decide +kernel
theorem dX2_choose_57 : decode cX2_choose 57 = .ok (.goto 32, 3) := by decide +kernel
theorem dX2_choose_60 : decode cX2_choose 60 = .ok (.aload_n 0, 1) := by decide +kernel
theorem dX2_choose_61 : decode cX2_choose 61 = .ok (.getfield 12, 3) := by decide +kernel
theorem dX2_choose_64 : decode cX2_choose 64 = .ok (.getfield 37, 3) := by decide +kernel
theorem dX2_choose_67 : decode cX2_choose 67 = .ok (.iload_n 1, 1) := by decide +kernel
theorem dX2_choose_68 : decode cX2_choose 68 = .ok (.aaload, 1) := by decide +kernel
theorem dX2_choose_69 : decode cX2_choose 69 = .ok (.iload_n 3, 1) := by decide +kernel
theorem dX2_choose_70 : decode cX2_choose 70 = .ok (.putfield 67, 3) := by decide +kernel
theorem dX2_choose_73 : decode cX2_choose 73 = .ok (.goto 16, 3) := by decide +kernel
theorem dX2_choose_76 : decode cX2_choose 76 = .ok (.aload_n 0, 1) := by decide +kernel
theorem dX2_choose_77 : decode cX2_choose 77 = .ok (.getfield 12, 3) := by decide +kernel
theorem dX2_choose_80 : decode cX2_choose 80 = .ok (.getfield 37, 3) := by decide +kernel
theorem dX2_choose_83 : decode cX2_choose 83 = .ok (.iload_n 1, 1) := by decide +kernel
theorem dX2_choose_84 : decode cX2_choose 84 = .ok (.aaload, 1) := by decide +kernel
theorem dX2_choose_85 : decode cX2_choose 85 = .ok (.iload_n 3, 1) := by decide +kernel
theorem dX2_choose_86 : decode cX2_choose 86 = .ok (.invokevirtual 70, 3) := by decide +kernel
theorem dX2_choose_89 : decode cX2_choose 89 = .ok (.return_, 1) := by decide +kernel
theorem dX2_bestChoice_0 : decode cX2_bestChoice 0 = .ok (.iload 4, 2) := by decide +kernel
theorem dX2_bestChoice_2 : decode cX2_bestChoice 2 = .ok (.invokestatic 73, 3) := by decide +kernel
theorem dX2_bestChoice_5 : decode cX2_bestChoice 5 = .ok (.istore 6, 2) := by decide +kernel
theorem dX2_bestChoice_7 : decode cX2_bestChoice 7 = .ok (.bipush (-9), 2) := by decide +kernel
theorem dX2_bestChoice_9 : decode cX2_bestChoice 9 = .ok (.istore 7, 2) := by decide +kernel
theorem dX2_bestChoice_11 : decode cX2_bestChoice 11 = .ok (.bipush (-9), 2) := by decide +kernel
theorem dX2_bestChoice_13 : decode cX2_bestChoice 13 = .ok (.istore 8, 2) := by decide +kernel
theorem dX2_bestChoice_15 : decode cX2_bestChoice 15 = .ok (.iconst 0, 1) := by decide +kernel
theorem dX2_bestChoice_16 : decode cX2_bestChoice 16 = .ok (.istore 9, 2) := by decide +kernel
theorem dX2_bestChoice_18 : decode cX2_bestChoice 18 = .ok (.iload 9, 2) := by decide +kernel
theorem dX2_bestChoice_20 : decode cX2_bestChoice 20 = .ok (.iload 6, 2) := by decide +kernel
theorem dX2_bestChoice_22 : decode cX2_bestChoice 22 = .ok (.if_icmp .ge 67, 3) := by decide +kernel
theorem dX2_bestChoice_25 : decode cX2_bestChoice 25 = .ok (.aload_n 0, 1) := by decide +kernel
theorem dX2_bestChoice_26 : decode cX2_bestChoice 26 = .ok (.aload_n 1, 1) := by decide +kernel
theorem dX2_bestChoice_27 : decode cX2_bestChoice 27 = .ok (.invokevirtual 29, 3) := by decide +kernel
theorem dX2_bestChoice_30 : decode cX2_bestChoice 30 = .ok (.pop, 1) := by decide +kernel
theorem dX2_bestChoice_31 : decode cX2_bestChoice 31 = .ok (.aload_n 0, 1) := by decide +kernel
theorem dX2_bestChoice_32 : decode cX2_bestChoice 32 = .ok (.iload_n 2, 1) := by decide +kernel
theorem dX2_bestChoice_33 : decode cX2_bestChoice 33 = .ok (.iload 4, 2) := by decide +kernel
theorem dX2_bestChoice_35 : decode cX2_bestChoice 35 = .ok (.iload 9, 2) := by decide +kernel
theorem dX2_bestChoice_37 : decode cX2_bestChoice 37 = .ok (.invokevirtual 76, 3) := by decide +kernel
theorem dX2_bestChoice_40 : decode cX2_bestChoice 40 = .ok (.aload_n 0, 1) := by decide +kernel
theorem dX2_bestChoice_41 : decode cX2_bestChoice 41 = .ok (.getfield 12, 3) := by decide +kernel
theorem dX2_bestChoice_44 : decode cX2_bestChoice 44 = .ok (.iload_n 3, 1) := by decide +kernel
theorem dX2_bestChoice_45 : decode cX2_bestChoice 45 = .ok (.invokevirtual 33, 3) := by decide +kernel
theorem dX2_bestChoice_48 : decode cX2_bestChoice 48 = .ok (.aload_n 0, 1) := by decide +kernel
theorem dX2_bestChoice_49 : decode cX2_bestChoice 49 = .ok (.getfield 12, 3) := by decide +kernel
theorem dX2_bestChoice_52 : decode cX2_bestChoice 52 = .ok (.getfield 37, 3) := by decide +kernel
theorem dX2_bestChoice_55 : decode cX2_bestChoice 55 = .ok (.iload_n 2, 1) := by decide +kernel
theorem dX2_bestChoice_56 : decode cX2_bestChoice 56 = .ok (.aaload, 1) := by decide +kernel
theorem dX2_bestChoice_57 : decode cX2_bestChoice 57 = .ok (.getfield 80, 3) := by decide +kernel
theorem dX2_bestChoice_60 : decode cX2_bestChoice 60 = .ok (.iload 8, 2) := by decide +kernel
theorem dX2_bestChoice_62 : decode cX2_bestChoice 62 = .ok (.if_icmp .le 21, 3) := by decide +kernel
theorem dX2_bestChoice_65 : decode cX2_bestChoice 65 = .ok (.iload 9, 2) := by decide +kernel
theorem dX2_bestChoice_67 : decode cX2_bestChoice 67 = .ok (.istore 7, 2) := by decide +kernel
theorem dX2_bestChoice_69 : decode cX2_bestChoice 69 = .ok (.aload_n 0, 1) := by decide +kernel
theorem dX2_bestChoice_70 : decode cX2_bestChoice 70 = .ok (.getfield 12, 3) := by decide +kernel
theorem dX2_bestChoice_73 : decode cX2_bestChoice 73 = .ok (.getfield 37, 3) := by decide +kernel
theorem dX2_bestChoice_76 : decode cX2_bestChoice 76 = .ok (.iload_n 2, 1) := by decide +kernel
theorem dX2_bestChoice_77 : decode cX2_bestChoice 77 = .ok (.aaload, 1) := by decide +kernel
theorem dX2_bestChoice_78 : decode cX2_bestChoice 78 = .ok (.getfield 80, 3) := by decide +kernel
theorem dX2_bestChoice_81 : decode cX2_bestChoice 81 = .ok (.istore 8, 2) := by decide +kernel
theorem dX2_bestChoice_83 : decode cX2_bestChoice 83 = .ok (.iinc 9 1, 3) := by decide +kernel
theorem dX2_bestChoice_86 : decode cX2_bestChoice 86 = .ok (.goto (-68), 3) := by decide +kernel
theorem dX2_bestChoice_89 : decode cX2_bestChoice 89 = .ok (.iload 5, 2) := by decide +kernel
theorem dX2_bestChoice_91 : decode cX2_bestChoice 91 = .ok (.ifCond .eq 8, 3) := by decide +kernel
theorem dX2_bestChoice_94 : decode cX2_bestChoice 94 = .ok (.iload 8, 2) := by decide +kernel
theorem dX2_bestChoice_96 : decode cX2_bestChoice 96 = .ok (.goto 5, 3) := by decide +kernel
theorem dX2_bestChoice_99 : decode cX2_bestChoice 99 = .ok (.iload 7, 2) := by decide +kernel
theorem dX2_bestChoice_101 : decode cX2_bestChoice 101 = .ok (.ireturn, 1) := by decide +kernel
theorem dX2_leastWallThatHolds_0 : decode cX2_leastWallThatHolds 0 = .ok (.iconst 0, 1) := by decide +kernel
theorem dX2_leastWallThatHolds_1 : decode cX2_leastWallThatHolds 1 = .ok (.istore 5, 2) := by decide +kernel
theorem dX2_leastWallThatHolds_3 : decode cX2_leastWallThatHolds 3 = .ok (.iload 5, 2) := by decide +kernel
theorem dX2_leastWallThatHolds_5 : decode cX2_leastWallThatHolds 5 = .ok (.bipush 9, 2) := by decide +kernel
theorem dX2_leastWallThatHolds_7 : decode cX2_leastWallThatHolds 7 = .ok (.if_icmp .gt 89, 3) := by decide +kernel
theorem dX2_leastWallThatHolds_10 : decode cX2_leastWallThatHolds 10 = .ok (.aload_n 0, 1) := by decide +kernel
theorem dX2_leastWallThatHolds_11 : decode cX2_leastWallThatHolds 11 = .ok (.aload_n 1, 1) := by decide +kernel
theorem dX2_leastWallThatHolds_12 : decode cX2_leastWallThatHolds 12 = .ok (.invokevirtual 29, 3) := by decide +kernel
theorem dX2_leastWallThatHolds_15 : decode cX2_leastWallThatHolds 15 = .ok (.pop, 1) := by decide +kernel
theorem dX2_leastWallThatHolds_16 : decode cX2_leastWallThatHolds 16 = .ok (.aload_n 0, 1) := by decide +kernel
theorem dX2_leastWallThatHolds_17 : decode cX2_leastWallThatHolds 17 = .ok (.getfield 12, 3) := by decide +kernel
theorem dX2_leastWallThatHolds_20 : decode cX2_leastWallThatHolds 20 = .ok (.getfield 83, 3) := by decide +kernel
theorem dX2_leastWallThatHolds_23 : decode cX2_leastWallThatHolds 23 = .ok (.iload_n 3, 1) := by decide +kernel
theorem dX2_leastWallThatHolds_24 : decode cX2_leastWallThatHolds 24 = .ok (.iload 5, 2) := by decide +kernel
theorem dX2_leastWallThatHolds_26 : decode cX2_leastWallThatHolds 26 = .ok (.iastore, 1) := by decide +kernel
theorem dX2_leastWallThatHolds_27 : decode cX2_leastWallThatHolds 27 = .ok (.iconst 1, 1) := by decide +kernel
theorem dX2_leastWallThatHolds_28 : decode cX2_leastWallThatHolds 28 = .ok (.istore 6, 2) := by decide +kernel
theorem dX2_leastWallThatHolds_30 : decode cX2_leastWallThatHolds 30 = .ok (.iconst 0, 1) := by decide +kernel
theorem dX2_leastWallThatHolds_31 : decode cX2_leastWallThatHolds 31 = .ok (.istore 7, 2) := by decide +kernel
theorem dX2_leastWallThatHolds_33 : decode cX2_leastWallThatHolds 33 = .ok (.iload 7, 2) := by decide +kernel
theorem dX2_leastWallThatHolds_35 : decode cX2_leastWallThatHolds 35 = .ok (.iload 4, 2) := by decide +kernel
theorem dX2_leastWallThatHolds_37 : decode cX2_leastWallThatHolds 37 = .ok (.if_icmp .ge 45, 3) := by decide +kernel
theorem dX2_leastWallThatHolds_40 : decode cX2_leastWallThatHolds 40 = .ok (.iload 6, 2) := by decide +kernel
theorem dX2_leastWallThatHolds_42 : decode cX2_leastWallThatHolds 42 = .ok (.ifCond .eq 40, 3) := by decide +kernel
theorem dX2_leastWallThatHolds_45 : decode cX2_leastWallThatHolds 45 = .ok (.aload_n 0, 1) := by decide +kernel
theorem dX2_leastWallThatHolds_46 : decode cX2_leastWallThatHolds 46 = .ok (.getfield 12, 3) := by decide +kernel
theorem dX2_leastWallThatHolds_49 : decode cX2_leastWallThatHolds 49 = .ok (.iconst 1, 1) := by decide +kernel
theorem dX2_leastWallThatHolds_50 : decode cX2_leastWallThatHolds 50 = .ok (.invokevirtual 33, 3) := by decide +kernel
theorem dX2_leastWallThatHolds_53 : decode cX2_leastWallThatHolds 53 = .ok (.aload_n 0, 1) := by decide +kernel
theorem dX2_leastWallThatHolds_54 : decode cX2_leastWallThatHolds 54 = .ok (.getfield 12, 3) := by decide +kernel
theorem dX2_leastWallThatHolds_57 : decode cX2_leastWallThatHolds 57 = .ok (.getfield 37, 3) := by decide +kernel
theorem dX2_leastWallThatHolds_60 : decode cX2_leastWallThatHolds 60 = .ok (.iload_n 2, 1) := by decide +kernel
theorem dX2_leastWallThatHolds_61 : decode cX2_leastWallThatHolds 61 = .ok (.aaload, 1) := by decide +kernel
theorem dX2_leastWallThatHolds_62 : decode cX2_leastWallThatHolds 62 = .ok (.getfield 41, 3) := by decide +kernel
theorem dX2_leastWallThatHolds_65 : decode cX2_leastWallThatHolds 65 = .ok (.iload_n 3, 1) := by decide +kernel
theorem dX2_leastWallThatHolds_66 : decode cX2_leastWallThatHolds 66 = .ok (.if_icmp .eq 7, 3) := by decide +kernel
theorem dX2_leastWallThatHolds_69 : decode cX2_leastWallThatHolds 69 = .ok (.iconst 1, 1) := by decide +kernel
theorem dX2_leastWallThatHolds_70 : decode cX2_leastWallThatHolds 70 = .ok (.goto 4, 3) := by decide +kernel
theorem dX2_leastWallThatHolds_73 : decode cX2_leastWallThatHolds 73 = .ok (.iconst 0, 1) := by decide +kernel
theorem dX2_leastWallThatHolds_74 : decode cX2_leastWallThatHolds 74 = .ok (.istore 6, 2) := by decide +kernel
theorem dX2_leastWallThatHolds_76 : decode cX2_leastWallThatHolds 76 = .ok (.iinc 7 1, 3) := by decide +kernel
theorem dX2_leastWallThatHolds_79 : decode cX2_leastWallThatHolds 79 = .ok (.goto (-46), 3) := by decide +kernel
theorem dX2_leastWallThatHolds_82 : decode cX2_leastWallThatHolds 82 = .ok (.iload 6, 2) := by decide +kernel
theorem dX2_leastWallThatHolds_84 : decode cX2_leastWallThatHolds 84 = .ok (.ifCond .eq 6, 3) := by decide +kernel
theorem dX2_leastWallThatHolds_87 : decode cX2_leastWallThatHolds 87 = .ok (.iload 5, 2) := by decide +kernel
theorem dX2_leastWallThatHolds_89 : decode cX2_leastWallThatHolds 89 = .ok (.ireturn, 1) := by decide +kernel
theorem dX2_leastWallThatHolds_90 : decode cX2_leastWallThatHolds 90 = .ok (.iinc 5 1, 3) := by decide +kernel
theorem dX2_leastWallThatHolds_93 : decode cX2_leastWallThatHolds 93 = .ok (.goto (-90), 3) := by decide +kernel
theorem dX2_leastWallThatHolds_96 : decode cX2_leastWallThatHolds 96 = .ok (.bipush (-9), 2) := by decide +kernel
theorem dX2_leastWallThatHolds_98 : decode cX2_leastWallThatHolds 98 = .ok (.ireturn, 1) := by decide +kernel
theorem dX2_fieldToWall_0 : decode cX2_fieldToWall 0 = .ok (.iconst 0, 1) := by decide +kernel
theorem dX2_fieldToWall_1 : decode cX2_fieldToWall 1 = .ok (.istore 5, 2) := by decide +kernel
theorem dX2_fieldToWall_3 : decode cX2_fieldToWall 3 = .ok (.iload 5, 2) := by decide +kernel
theorem dX2_fieldToWall_5 : decode cX2_fieldToWall 5 = .ok (.bipush 48, 2) := by decide +kernel
theorem dX2_fieldToWall_7 : decode cX2_fieldToWall 7 = .ok (.if_icmp .ge 55, 3) := by decide +kernel
theorem dX2_fieldToWall_10 : decode cX2_fieldToWall 10 = .ok (.aload_n 0, 1) := by decide +kernel
theorem dX2_fieldToWall_11 : decode cX2_fieldToWall 11 = .ok (.aload_n 1, 1) := by decide +kernel
theorem dX2_fieldToWall_12 : decode cX2_fieldToWall 12 = .ok (.invokevirtual 29, 3) := by decide +kernel
theorem dX2_fieldToWall_15 : decode cX2_fieldToWall 15 = .ok (.pop, 1) := by decide +kernel
theorem dX2_fieldToWall_16 : decode cX2_fieldToWall 16 = .ok (.aload_n 0, 1) := by decide +kernel
theorem dX2_fieldToWall_17 : decode cX2_fieldToWall 17 = .ok (.getfield 12, 3) := by decide +kernel
theorem dX2_fieldToWall_20 : decode cX2_fieldToWall 20 = .ok (.getfield 83, 3) := by decide +kernel
theorem dX2_fieldToWall_23 : decode cX2_fieldToWall 23 = .ok (.iload 5, 2) := by decide +kernel
theorem dX2_fieldToWall_25 : decode cX2_fieldToWall 25 = .ok (.bipush 9, 2) := by decide +kernel
theorem dX2_fieldToWall_27 : decode cX2_fieldToWall 27 = .ok (.iastore, 1) := by decide +kernel
theorem dX2_fieldToWall_28 : decode cX2_fieldToWall 28 = .ok (.aload_n 0, 1) := by decide +kernel
theorem dX2_fieldToWall_29 : decode cX2_fieldToWall 29 = .ok (.getfield 12, 3) := by decide +kernel
theorem dX2_fieldToWall_32 : decode cX2_fieldToWall 32 = .ok (.iload 4, 2) := by decide +kernel
theorem dX2_fieldToWall_34 : decode cX2_fieldToWall 34 = .ok (.invokevirtual 33, 3) := by decide +kernel
theorem dX2_fieldToWall_37 : decode cX2_fieldToWall 37 = .ok (.aload_n 0, 1) := by decide +kernel
theorem dX2_fieldToWall_38 : decode cX2_fieldToWall 38 = .ok (.getfield 12, 3) := by decide +kernel
theorem dX2_fieldToWall_41 : decode cX2_fieldToWall 41 = .ok (.getfield 37, 3) := by decide +kernel
theorem dX2_fieldToWall_44 : decode cX2_fieldToWall 44 = .ok (.iload_n 2, 1) := by decide +kernel
theorem dX2_fieldToWall_45 : decode cX2_fieldToWall 45 = .ok (.aaload, 1) := by decide +kernel
theorem dX2_fieldToWall_46 : decode cX2_fieldToWall 46 = .ok (.getfield 41, 3) := by decide +kernel
theorem dX2_fieldToWall_49 : decode cX2_fieldToWall 49 = .ok (.iload_n 3, 1) := by decide +kernel
theorem dX2_fieldToWall_50 : decode cX2_fieldToWall 50 = .ok (.if_icmp .ne 6, 3) := by decide +kernel
theorem dX2_fieldToWall_53 : decode cX2_fieldToWall 53 = .ok (.iload 5, 2) := by decide +kernel
theorem dX2_fieldToWall_55 : decode cX2_fieldToWall 55 = .ok (.ireturn, 1) := by decide +kernel
theorem dX2_fieldToWall_56 : decode cX2_fieldToWall 56 = .ok (.iinc 5 1, 3) := by decide +kernel
theorem dX2_fieldToWall_59 : decode cX2_fieldToWall 59 = .ok (.goto (-56), 3) := by decide +kernel
theorem dX2_fieldToWall_62 : decode cX2_fieldToWall 62 = .ok (.bipush (-9), 2) := by decide +kernel
theorem dX2_fieldToWall_64 : decode cX2_fieldToWall 64 = .ok (.ireturn, 1) := by decide +kernel
theorem dX2_namesToChange_0 : decode cX2_namesToChange 0 = .ok (.bipush (-9), 2) := by decide +kernel
theorem dX2_namesToChange_2 : decode cX2_namesToChange 2 = .ok (.istore_n 3, 1) := by decide +kernel
theorem dX2_namesToChange_3 : decode cX2_namesToChange 3 = .ok (.aload_n 0, 1) := by decide +kernel
theorem dX2_namesToChange_4 : decode cX2_namesToChange 4 = .ok (.aload_n 1, 1) := by decide +kernel
theorem dX2_namesToChange_5 : decode cX2_namesToChange 5 = .ok (.iload_n 2, 1) := by decide +kernel
theorem dX2_namesToChange_6 : decode cX2_namesToChange 6 = .ok (.invokevirtual 86, 3) := by decide +kernel
theorem dX2_namesToChange_9 : decode cX2_namesToChange 9 = .ok (.invokevirtual 90, 3) := by decide +kernel
theorem dX2_namesToChange_12 : decode cX2_namesToChange 12 = .ok (.istore 4, 2) := by decide +kernel
theorem dX2_namesToChange_14 : decode cX2_namesToChange 14 = .ok (.iconst 0, 1) := by decide +kernel
theorem dX2_namesToChange_15 : decode cX2_namesToChange 15 = .ok (.istore 5, 2) := by decide +kernel
theorem dX2_namesToChange_17 : decode cX2_namesToChange 17 = .ok (.iload 5, 2) := by decide +kernel
theorem dX2_namesToChange_19 : decode cX2_namesToChange 19 = .ok (.aload_n 1, 1) := by decide +kernel
theorem dX2_namesToChange_20 : decode cX2_namesToChange 20 = .ok (.getfield 93, 3) := by decide +kernel
theorem dX2_namesToChange_23 : decode cX2_namesToChange 23 = .ok (.if_icmp .ge 114, 3) := by decide +kernel
theorem dX2_namesToChange_26 : decode cX2_namesToChange 26 = .ok (.iload 5, 2) := by decide +kernel
theorem dX2_namesToChange_28 : decode cX2_namesToChange 28 = .ok (.iconst 1, 1) := by decide +kernel
theorem dX2_namesToChange_29 : decode cX2_namesToChange 29 = .ok (.iadd, 1) := by decide +kernel
theorem dX2_namesToChange_30 : decode cX2_namesToChange 30 = .ok (.istore 6, 2) := by decide +kernel
theorem dX2_namesToChange_32 : decode cX2_namesToChange 32 = .ok (.iload 6, 2) := by decide +kernel
theorem dX2_namesToChange_34 : decode cX2_namesToChange 34 = .ok (.aload_n 1, 1) := by decide +kernel
theorem dX2_namesToChange_35 : decode cX2_namesToChange 35 = .ok (.getfield 93, 3) := by decide +kernel
theorem dX2_namesToChange_38 : decode cX2_namesToChange 38 = .ok (.if_icmp .ge 93, 3) := by decide +kernel
theorem dX2_namesToChange_41 : decode cX2_namesToChange 41 = .ok (.aload_n 0, 1) := by decide +kernel
theorem dX2_namesToChange_42 : decode cX2_namesToChange 42 = .ok (.aload_n 1, 1) := by decide +kernel
theorem dX2_namesToChange_43 : decode cX2_namesToChange 43 = .ok (.invokevirtual 29, 3) := by decide +kernel
theorem dX2_namesToChange_46 : decode cX2_namesToChange 46 = .ok (.pop, 1) := by decide +kernel
theorem dX2_namesToChange_47 : decode cX2_namesToChange 47 = .ok (.aload_n 0, 1) := by decide +kernel
theorem dX2_namesToChange_48 : decode cX2_namesToChange 48 = .ok (.getfield 12, 3) := by decide +kernel
theorem dX2_namesToChange_51 : decode cX2_namesToChange 51 = .ok (.getfield 37, 3) := by decide +kernel
theorem dX2_namesToChange_54 : decode cX2_namesToChange 54 = .ok (.iload 5, 2) := by decide +kernel
theorem dX2_namesToChange_56 : decode cX2_namesToChange 56 = .ok (.aaload, 1) := by decide +kernel
theorem dX2_namesToChange_57 : decode cX2_namesToChange 57 = .ok (.aload_n 1, 1) := by decide +kernel
theorem dX2_namesToChange_58 : decode cX2_namesToChange 58 = .ok (.getfield 37, 3) := by decide +kernel
theorem dX2_namesToChange_61 : decode cX2_namesToChange 61 = .ok (.iload 6, 2) := by decide +kernel
theorem dX2_namesToChange_63 : decode cX2_namesToChange 63 = .ok (.aaload, 1) := by decide +kernel
theorem dX2_namesToChange_64 : decode cX2_namesToChange 64 = .ok (.invokevirtual 96, 3) := by decide +kernel
theorem dX2_namesToChange_67 : decode cX2_namesToChange 67 = .ok (.aload_n 0, 1) := by decide +kernel
theorem dX2_namesToChange_68 : decode cX2_namesToChange 68 = .ok (.getfield 12, 3) := by decide +kernel
theorem dX2_namesToChange_71 : decode cX2_namesToChange 71 = .ok (.getfield 37, 3) := by decide +kernel
theorem dX2_namesToChange_74 : decode cX2_namesToChange 74 = .ok (.iload 6, 2) := by decide +kernel
theorem dX2_namesToChange_76 : decode cX2_namesToChange 76 = .ok (.aaload, 1) := by decide +kernel
theorem dX2_namesToChange_77 : decode cX2_namesToChange 77 = .ok (.aload_n 1, 1) := by decide +kernel
theorem dX2_namesToChange_78 : decode cX2_namesToChange 78 = .ok (.getfield 37, 3) := by decide +kernel
theorem dX2_namesToChange_81 : decode cX2_namesToChange 81 = .ok (.iload 5, 2) := by decide +kernel
theorem dX2_namesToChange_83 : decode cX2_namesToChange 83 = .ok (.aaload, 1) := by decide +kernel
theorem dX2_namesToChange_84 : decode cX2_namesToChange 84 = .ok (.invokevirtual 96, 3) := by decide +kernel
theorem dX2_namesToChange_87 : decode cX2_namesToChange 87 = .ok (.aload_n 0, 1) := by decide +kernel
theorem dX2_namesToChange_88 : decode cX2_namesToChange 88 = .ok (.getfield 12, 3) := by decide +kernel
theorem dX2_namesToChange_91 : decode cX2_namesToChange 91 = .ok (.iload_n 2, 1) := by decide +kernel
theorem dX2_namesToChange_92 : decode cX2_namesToChange 92 = .ok (.invokevirtual 33, 3) := by decide +kernel
theorem dX2_namesToChange_95 : decode cX2_namesToChange 95 = .ok (.aload_n 0, 1) := by decide +kernel
theorem dX2_namesToChange_96 : decode cX2_namesToChange 96 = .ok (.getfield 12, 3) := by decide +kernel
theorem dX2_namesToChange_99 : decode cX2_namesToChange 99 = .ok (.invokevirtual 90, 3) := by decide +kernel
theorem dX2_namesToChange_102 : decode cX2_namesToChange 102 = .ok (.iload 4, 2) := by decide +kernel
theorem dX2_namesToChange_104 : decode cX2_namesToChange 104 = .ok (.if_icmp .le 21, 3) := by decide +kernel
theorem dX2_namesToChange_107 : decode cX2_namesToChange 107 = .ok (.bipush 10, 2) := by decide +kernel
theorem dX2_namesToChange_109 : decode cX2_namesToChange 109 = .ok (.iload 5, 2) := by decide +kernel
theorem dX2_namesToChange_111 : decode cX2_namesToChange 111 = .ok (.imul, 1) := by decide +kernel
theorem dX2_namesToChange_112 : decode cX2_namesToChange 112 = .ok (.iload 6, 2) := by decide +kernel
theorem dX2_namesToChange_114 : decode cX2_namesToChange 114 = .ok (.iadd, 1) := by decide +kernel
theorem dX2_namesToChange_115 : decode cX2_namesToChange 115 = .ok (.istore_n 3, 1) := by decide +kernel
theorem dX2_namesToChange_116 : decode cX2_namesToChange 116 = .ok (.aload_n 0, 1) := by decide +kernel
theorem dX2_namesToChange_117 : decode cX2_namesToChange 117 = .ok (.getfield 12, 3) := by decide +kernel
theorem dX2_namesToChange_120 : decode cX2_namesToChange 120 = .ok (.invokevirtual 90, 3) := by decide +kernel
theorem dX2_namesToChange_123 : decode cX2_namesToChange 123 = .ok (.istore 4, 2) := by decide +kernel
theorem dX2_namesToChange_125 : decode cX2_namesToChange 125 = .ok (.iinc 6 1, 3) := by decide +kernel
theorem dX2_namesToChange_128 : decode cX2_namesToChange 128 = .ok (.goto (-96), 3) := by decide +kernel
theorem dX2_namesToChange_131 : decode cX2_namesToChange 131 = .ok (.iinc 5 1, 3) := by decide +kernel
theorem dX2_namesToChange_134 : decode cX2_namesToChange 134 = .ok (.goto (-117), 3) := by decide +kernel
theorem dX2_namesToChange_137 : decode cX2_namesToChange 137 = .ok (.iload_n 3, 1) := by decide +kernel
theorem dX2_namesToChange_138 : decode cX2_namesToChange 138 = .ok (.ireturn, 1) := by decide +kernel
theorem dX2_goesThatWay_0 : decode cX2_goesThatWay 0 = .ok (.iconst 0, 1) := by decide +kernel
theorem dX2_goesThatWay_1 : decode cX2_goesThatWay 1 = .ok (.istore 4, 2) := by decide +kernel
theorem dX2_goesThatWay_3 : decode cX2_goesThatWay 3 = .ok (.iload 4, 2) := by decide +kernel
theorem dX2_goesThatWay_5 : decode cX2_goesThatWay 5 = .ok (.iload_n 3, 1) := by decide +kernel
theorem dX2_goesThatWay_6 : decode cX2_goesThatWay 6 = .ok (.if_icmp .ge 50, 3) := by decide +kernel
theorem dX2_goesThatWay_9 : decode cX2_goesThatWay 9 = .ok (.iload 4, 2) := by decide +kernel
theorem dX2_goesThatWay_11 : decode cX2_goesThatWay 11 = .ok (.aload_n 2, 1) := by decide +kernel
theorem dX2_goesThatWay_12 : decode cX2_goesThatWay 12 = .ok (.arraylength, 1) := by decide +kernel
theorem dX2_goesThatWay_13 : decode cX2_goesThatWay 13 = .ok (.if_icmp .ge 43, 3) := by decide +kernel
theorem dX2_goesThatWay_16 : decode cX2_goesThatWay 16 = .ok (.iload 4, 2) := by decide +kernel
theorem dX2_goesThatWay_18 : decode cX2_goesThatWay 18 = .ok (.ifCond .le 11, 3) := by decide +kernel
theorem dX2_goesThatWay_21 : decode cX2_goesThatWay 21 = .ok (.aload_n 0, 1) := by decide +kernel
theorem dX2_goesThatWay_22 : decode cX2_goesThatWay 22 = .ok (.getfield 12, 3) := by decide +kernel
theorem dX2_goesThatWay_25 : decode cX2_goesThatWay 25 = .ok (.iconst 1, 1) := by decide +kernel
theorem dX2_goesThatWay_26 : decode cX2_goesThatWay 26 = .ok (.invokevirtual 33, 3) := by decide +kernel
theorem dX2_goesThatWay_29 : decode cX2_goesThatWay 29 = .ok (.aload_n 0, 1) := by decide +kernel
theorem dX2_goesThatWay_30 : decode cX2_goesThatWay 30 = .ok (.getfield 12, 3) := by decide +kernel
theorem dX2_goesThatWay_33 : decode cX2_goesThatWay 33 = .ok (.getfield 37, 3) := by decide +kernel
theorem dX2_goesThatWay_36 : decode cX2_goesThatWay 36 = .ok (.iload_n 1, 1) := by decide +kernel
theorem dX2_goesThatWay_37 : decode cX2_goesThatWay 37 = .ok (.aaload, 1) := by decide +kernel
theorem dX2_goesThatWay_38 : decode cX2_goesThatWay 38 = .ok (.getfield 41, 3) := by decide +kernel
theorem dX2_goesThatWay_41 : decode cX2_goesThatWay 41 = .ok (.aload_n 2, 1) := by decide +kernel
theorem dX2_goesThatWay_42 : decode cX2_goesThatWay 42 = .ok (.iload 4, 2) := by decide +kernel
theorem dX2_goesThatWay_44 : decode cX2_goesThatWay 44 = .ok (.iaload, 1) := by decide +kernel
theorem dX2_goesThatWay_45 : decode cX2_goesThatWay 45 = .ok (.if_icmp .eq 5, 3) := by decide +kernel
theorem dX2_goesThatWay_48 : decode cX2_goesThatWay 48 = .ok (.iconst 0, 1) := by decide +kernel
theorem dX2_goesThatWay_49 : decode cX2_goesThatWay 49 = .ok (.ireturn, 1) := by decide +kernel
theorem dX2_goesThatWay_50 : decode cX2_goesThatWay 50 = .ok (.iinc 4 1, 3) := by decide +kernel
theorem dX2_goesThatWay_53 : decode cX2_goesThatWay 53 = .ok (.goto (-50), 3) := by decide +kernel
theorem dX2_goesThatWay_56 : decode cX2_goesThatWay 56 = .ok (.iconst 1, 1) := by decide +kernel
theorem dX2_goesThatWay_57 : decode cX2_goesThatWay 57 = .ok (.ireturn, 1) := by decide +kernel
theorem dX2_choicesOfWay_0 : decode cX2_choicesOfWay 0 = .ok (.iload_n 3, 1) := by decide +kernel
theorem dX2_choicesOfWay_1 : decode cX2_choicesOfWay 1 = .ok (.invokestatic 73, 3) := by decide +kernel
theorem dX2_choicesOfWay_4 : decode cX2_choicesOfWay 4 = .ok (.istore 6, 2) := by decide +kernel
theorem dX2_choicesOfWay_6 : decode cX2_choicesOfWay 6 = .ok (.iconst 0, 1) := by decide +kernel
theorem dX2_choicesOfWay_7 : decode cX2_choicesOfWay 7 = .ok (.istore 7, 2) := by decide +kernel
theorem dX2_choicesOfWay_9 : decode cX2_choicesOfWay 9 = .ok (.iconst 0, 1) := by decide +kernel
theorem dX2_choicesOfWay_10 : decode cX2_choicesOfWay 10 = .ok (.istore 8, 2) := by decide +kernel
theorem dX2_choicesOfWay_12 : decode cX2_choicesOfWay 12 = .ok (.iload 8, 2) := by decide +kernel
theorem dX2_choicesOfWay_14 : decode cX2_choicesOfWay 14 = .ok (.iload 6, 2) := by decide +kernel
theorem dX2_choicesOfWay_16 : decode cX2_choicesOfWay 16 = .ok (.if_icmp .ge 44, 3) := by decide +kernel
theorem dX2_choicesOfWay_19 : decode cX2_choicesOfWay 19 = .ok (.aload_n 0, 1) := by decide +kernel
theorem dX2_choicesOfWay_20 : decode cX2_choicesOfWay 20 = .ok (.aload_n 1, 1) := by decide +kernel
theorem dX2_choicesOfWay_21 : decode cX2_choicesOfWay 21 = .ok (.invokevirtual 29, 3) := by decide +kernel
theorem dX2_choicesOfWay_24 : decode cX2_choicesOfWay 24 = .ok (.pop, 1) := by decide +kernel
theorem dX2_choicesOfWay_25 : decode cX2_choicesOfWay 25 = .ok (.aload_n 0, 1) := by decide +kernel
theorem dX2_choicesOfWay_26 : decode cX2_choicesOfWay 26 = .ok (.iload_n 2, 1) := by decide +kernel
theorem dX2_choicesOfWay_27 : decode cX2_choicesOfWay 27 = .ok (.iload_n 3, 1) := by decide +kernel
theorem dX2_choicesOfWay_28 : decode cX2_choicesOfWay 28 = .ok (.iload 8, 2) := by decide +kernel
theorem dX2_choicesOfWay_30 : decode cX2_choicesOfWay 30 = .ok (.invokevirtual 76, 3) := by decide +kernel
theorem dX2_choicesOfWay_33 : decode cX2_choicesOfWay 33 = .ok (.aload_n 0, 1) := by decide +kernel
theorem dX2_choicesOfWay_34 : decode cX2_choicesOfWay 34 = .ok (.iload_n 2, 1) := by decide +kernel
theorem dX2_choicesOfWay_35 : decode cX2_choicesOfWay 35 = .ok (.aload 4, 2) := by decide +kernel
theorem dX2_choicesOfWay_37 : decode cX2_choicesOfWay 37 = .ok (.iload 5, 2) := by decide +kernel
theorem dX2_choicesOfWay_39 : decode cX2_choicesOfWay 39 = .ok (.invokevirtual 100, 3) := by decide +kernel
theorem dX2_choicesOfWay_42 : decode cX2_choicesOfWay 42 = .ok (.ifCond .eq 12, 3) := by decide +kernel
theorem dX2_choicesOfWay_45 : decode cX2_choicesOfWay 45 = .ok (.iload 7, 2) := by decide +kernel
theorem dX2_choicesOfWay_47 : decode cX2_choicesOfWay 47 = .ok (.iconst 1, 1) := by decide +kernel
theorem dX2_choicesOfWay_48 : decode cX2_choicesOfWay 48 = .ok (.iload 8, 2) := by decide +kernel
theorem dX2_choicesOfWay_50 : decode cX2_choicesOfWay 50 = .ok (.ishl, 1) := by decide +kernel
theorem dX2_choicesOfWay_51 : decode cX2_choicesOfWay 51 = .ok (.ior, 1) := by decide +kernel
theorem dX2_choicesOfWay_52 : decode cX2_choicesOfWay 52 = .ok (.istore 7, 2) := by decide +kernel
theorem dX2_choicesOfWay_54 : decode cX2_choicesOfWay 54 = .ok (.iinc 8 1, 3) := by decide +kernel
theorem dX2_choicesOfWay_57 : decode cX2_choicesOfWay 57 = .ok (.goto (-45), 3) := by decide +kernel
theorem dX2_choicesOfWay_60 : decode cX2_choicesOfWay 60 = .ok (.iload 7, 2) := by decide +kernel
theorem dX2_choicesOfWay_62 : decode cX2_choicesOfWay 62 = .ok (.ireturn, 1) := by decide +kernel
theorem dX2_restIf_0 : decode cX2_restIf 0 = .ok (.iload_n 2, 1) := by decide +kernel
theorem dX2_restIf_1 : decode cX2_restIf 1 = .ok (.iconst 1, 1) := by decide +kernel
theorem dX2_restIf_2 : decode cX2_restIf 2 = .ok (.if_icmp .ne 10, 3) := by decide +kernel
theorem dX2_restIf_5 : decode cX2_restIf 5 = .ok (.aload_n 0, 1) := by decide +kernel
theorem dX2_restIf_6 : decode cX2_restIf 6 = .ok (.iload_n 1, 1) := by decide +kernel
theorem dX2_restIf_7 : decode cX2_restIf 7 = .ok (.iconst 2, 1) := by decide +kernel
theorem dX2_restIf_8 : decode cX2_restIf 8 = .ok (.iconst 4, 1) := by decide +kernel
theorem dX2_restIf_9 : decode cX2_restIf 9 = .ok (.invokevirtual 76, 3) := by decide +kernel
theorem dX2_restIf_12 : decode cX2_restIf 12 = .ok (.return_, 1) := by decide +kernel
theorem dX2_steadyPair_0 : decode cX2_steadyPair 0 = .ok (.iconst 0, 1) := by decide +kernel
theorem dX2_steadyPair_1 : decode cX2_steadyPair 1 = .ok (.istore 5, 2) := by decide +kernel
theorem dX2_steadyPair_3 : decode cX2_steadyPair 3 = .ok (.iload 5, 2) := by decide +kernel
theorem dX2_steadyPair_5 : decode cX2_steadyPair 5 = .ok (.iconst 4, 1) := by decide +kernel
theorem dX2_steadyPair_6 : decode cX2_steadyPair 6 = .ok (.if_icmp .ge 94, 3) := by decide +kernel
theorem dX2_steadyPair_9 : decode cX2_steadyPair 9 = .ok (.aload_n 0, 1) := by decide +kernel
theorem dX2_steadyPair_10 : decode cX2_steadyPair 10 = .ok (.aload_n 1, 1) := by decide +kernel
theorem dX2_steadyPair_11 : decode cX2_steadyPair 11 = .ok (.invokevirtual 29, 3) := by decide +kernel
theorem dX2_steadyPair_14 : decode cX2_steadyPair 14 = .ok (.pop, 1) := by decide +kernel
theorem dX2_steadyPair_15 : decode cX2_steadyPair 15 = .ok (.aload_n 0, 1) := by decide +kernel
theorem dX2_steadyPair_16 : decode cX2_steadyPair 16 = .ok (.iload_n 2, 1) := by decide +kernel
theorem dX2_steadyPair_17 : decode cX2_steadyPair 17 = .ok (.iload 5, 2) := by decide +kernel
theorem dX2_steadyPair_19 : decode cX2_steadyPair 19 = .ok (.iconst 1, 1) := by decide +kernel
theorem dX2_steadyPair_20 : decode cX2_steadyPair 20 = .ok (.ishr, 1) := by decide +kernel
theorem dX2_steadyPair_21 : decode cX2_steadyPair 21 = .ok (.invokevirtual 104, 3) := by decide +kernel
theorem dX2_steadyPair_24 : decode cX2_steadyPair 24 = .ok (.aload_n 0, 1) := by decide +kernel
theorem dX2_steadyPair_25 : decode cX2_steadyPair 25 = .ok (.iload_n 3, 1) := by decide +kernel
theorem dX2_steadyPair_26 : decode cX2_steadyPair 26 = .ok (.iload 5, 2) := by decide +kernel
theorem dX2_steadyPair_28 : decode cX2_steadyPair 28 = .ok (.iconst 1, 1) := by decide +kernel
theorem dX2_steadyPair_29 : decode cX2_steadyPair 29 = .ok (.iand, 1) := by decide +kernel
theorem dX2_steadyPair_30 : decode cX2_steadyPair 30 = .ok (.invokevirtual 104, 3) := by decide +kernel
theorem dX2_steadyPair_33 : decode cX2_steadyPair 33 = .ok (.aload_n 0, 1) := by decide +kernel
theorem dX2_steadyPair_34 : decode cX2_steadyPair 34 = .ok (.getfield 12, 3) := by decide +kernel
theorem dX2_steadyPair_37 : decode cX2_steadyPair 37 = .ok (.iload 4, 2) := by decide +kernel
theorem dX2_steadyPair_39 : decode cX2_steadyPair 39 = .ok (.invokevirtual 33, 3) := by decide +kernel
theorem dX2_steadyPair_42 : decode cX2_steadyPair 42 = .ok (.aload_n 0, 1) := by decide +kernel
theorem dX2_steadyPair_43 : decode cX2_steadyPair 43 = .ok (.getfield 18, 3) := by decide +kernel
theorem dX2_steadyPair_46 : decode cX2_steadyPair 46 = .ok (.iload 5, 2) := by decide +kernel
theorem dX2_steadyPair_48 : decode cX2_steadyPair 48 = .ok (.aload_n 0, 1) := by decide +kernel
theorem dX2_steadyPair_49 : decode cX2_steadyPair 49 = .ok (.getfield 12, 3) := by decide +kernel
theorem dX2_steadyPair_52 : decode cX2_steadyPair 52 = .ok (.getfield 37, 3) := by decide +kernel
theorem dX2_steadyPair_55 : decode cX2_steadyPair 55 = .ok (.iload_n 2, 1) := by decide +kernel
theorem dX2_steadyPair_56 : decode cX2_steadyPair 56 = .ok (.aaload, 1) := by decide +kernel
theorem dX2_steadyPair_57 : decode cX2_steadyPair 57 = .ok (.getfield 80, 3) := by decide +kernel
theorem dX2_steadyPair_60 : decode cX2_steadyPair 60 = .ok (.iconst 5, 1) := by decide +kernel
theorem dX2_steadyPair_61 : decode cX2_steadyPair 61 = .ok (.iload 5, 2) := by decide +kernel
theorem dX2_steadyPair_63 : decode cX2_steadyPair 63 = .ok (.iconst 1, 1) := by decide +kernel
theorem dX2_steadyPair_64 : decode cX2_steadyPair 64 = .ok (.ishr, 1) := by decide +kernel
theorem dX2_steadyPair_65 : decode cX2_steadyPair 65 = .ok (.imul, 1) := by decide +kernel
theorem dX2_steadyPair_66 : decode cX2_steadyPair 66 = .ok (.iadd, 1) := by decide +kernel
theorem dX2_steadyPair_67 : decode cX2_steadyPair 67 = .ok (.iastore, 1) := by decide +kernel
theorem dX2_steadyPair_68 : decode cX2_steadyPair 68 = .ok (.aload_n 0, 1) := by decide +kernel
theorem dX2_steadyPair_69 : decode cX2_steadyPair 69 = .ok (.getfield 22, 3) := by decide +kernel
theorem dX2_steadyPair_72 : decode cX2_steadyPair 72 = .ok (.iload 5, 2) := by decide +kernel
theorem dX2_steadyPair_74 : decode cX2_steadyPair 74 = .ok (.aload_n 0, 1) := by decide +kernel
theorem dX2_steadyPair_75 : decode cX2_steadyPair 75 = .ok (.getfield 12, 3) := by decide +kernel
theorem dX2_steadyPair_78 : decode cX2_steadyPair 78 = .ok (.getfield 37, 3) := by decide +kernel
theorem dX2_steadyPair_81 : decode cX2_steadyPair 81 = .ok (.iload_n 3, 1) := by decide +kernel
theorem dX2_steadyPair_82 : decode cX2_steadyPair 82 = .ok (.aaload, 1) := by decide +kernel
theorem dX2_steadyPair_83 : decode cX2_steadyPair 83 = .ok (.getfield 80, 3) := by decide +kernel
theorem dX2_steadyPair_86 : decode cX2_steadyPair 86 = .ok (.iconst 5, 1) := by decide +kernel
theorem dX2_steadyPair_87 : decode cX2_steadyPair 87 = .ok (.iload 5, 2) := by decide +kernel
theorem dX2_steadyPair_89 : decode cX2_steadyPair 89 = .ok (.iconst 1, 1) := by decide +kernel
theorem dX2_steadyPair_90 : decode cX2_steadyPair 90 = .ok (.iand, 1) := by decide +kernel
theorem dX2_steadyPair_91 : decode cX2_steadyPair 91 = .ok (.imul, 1) := by decide +kernel
theorem dX2_steadyPair_92 : decode cX2_steadyPair 92 = .ok (.iadd, 1) := by decide +kernel
theorem dX2_steadyPair_93 : decode cX2_steadyPair 93 = .ok (.iastore, 1) := by decide +kernel
theorem dX2_steadyPair_94 : decode cX2_steadyPair 94 = .ok (.iinc 5 1, 3) := by decide +kernel
theorem dX2_steadyPair_97 : decode cX2_steadyPair 97 = .ok (.goto (-94), 3) := by decide +kernel
theorem dX2_steadyPair_100 : decode cX2_steadyPair 100 = .ok (.iconst 0, 1) := by decide +kernel
theorem dX2_steadyPair_101 : decode cX2_steadyPair 101 = .ok (.istore 5, 2) := by decide +kernel
theorem dX2_steadyPair_103 : decode cX2_steadyPair 103 = .ok (.iload 5, 2) := by decide +kernel
theorem dX2_steadyPair_105 : decode cX2_steadyPair 105 = .ok (.iconst 4, 1) := by decide +kernel
theorem dX2_steadyPair_106 : decode cX2_steadyPair 106 = .ok (.if_icmp .ge 60, 3) := by decide +kernel
theorem dX2_steadyPair_109 : decode cX2_steadyPair 109 = .ok (.aload_n 0, 1) := by decide +kernel
theorem dX2_steadyPair_110 : decode cX2_steadyPair 110 = .ok (.getfield 18, 3) := by decide +kernel
theorem dX2_steadyPair_113 : decode cX2_steadyPair 113 = .ok (.iload 5, 2) := by decide +kernel
theorem dX2_steadyPair_115 : decode cX2_steadyPair 115 = .ok (.iconst 2, 1) := by decide +kernel
theorem dX2_steadyPair_116 : decode cX2_steadyPair 116 = .ok (.ixor, 1) := by decide +kernel
theorem dX2_steadyPair_117 : decode cX2_steadyPair 117 = .ok (.iaload, 1) := by decide +kernel
theorem dX2_steadyPair_118 : decode cX2_steadyPair 118 = .ok (.aload_n 0, 1) := by decide +kernel
theorem dX2_steadyPair_119 : decode cX2_steadyPair 119 = .ok (.getfield 18, 3) := by decide +kernel
theorem dX2_steadyPair_122 : decode cX2_steadyPair 122 = .ok (.iload 5, 2) := by decide +kernel
theorem dX2_steadyPair_124 : decode cX2_steadyPair 124 = .ok (.iaload, 1) := by decide +kernel
theorem dX2_steadyPair_125 : decode cX2_steadyPair 125 = .ok (.if_icmp .gt 35, 3) := by decide +kernel
theorem dX2_steadyPair_128 : decode cX2_steadyPair 128 = .ok (.aload_n 0, 1) := by decide +kernel
theorem dX2_steadyPair_129 : decode cX2_steadyPair 129 = .ok (.getfield 22, 3) := by decide +kernel
theorem dX2_steadyPair_132 : decode cX2_steadyPair 132 = .ok (.iload 5, 2) := by decide +kernel
theorem dX2_steadyPair_134 : decode cX2_steadyPair 134 = .ok (.iconst 1, 1) := by decide +kernel
theorem dX2_steadyPair_135 : decode cX2_steadyPair 135 = .ok (.ixor, 1) := by decide +kernel
theorem dX2_steadyPair_136 : decode cX2_steadyPair 136 = .ok (.iaload, 1) := by decide +kernel
theorem dX2_steadyPair_137 : decode cX2_steadyPair 137 = .ok (.aload_n 0, 1) := by decide +kernel
theorem dX2_steadyPair_138 : decode cX2_steadyPair 138 = .ok (.getfield 22, 3) := by decide +kernel
theorem dX2_steadyPair_141 : decode cX2_steadyPair 141 = .ok (.iload 5, 2) := by decide +kernel
theorem dX2_steadyPair_143 : decode cX2_steadyPair 143 = .ok (.iaload, 1) := by decide +kernel
theorem dX2_steadyPair_144 : decode cX2_steadyPair 144 = .ok (.if_icmp .gt 16, 3) := by decide +kernel
theorem dX2_steadyPair_147 : decode cX2_steadyPair 147 = .ok (.bipush 10, 2) := by decide +kernel
theorem dX2_steadyPair_149 : decode cX2_steadyPair 149 = .ok (.iload 5, 2) := by decide +kernel
theorem dX2_steadyPair_151 : decode cX2_steadyPair 151 = .ok (.iconst 1, 1) := by decide +kernel
theorem dX2_steadyPair_152 : decode cX2_steadyPair 152 = .ok (.ishr, 1) := by decide +kernel
theorem dX2_steadyPair_153 : decode cX2_steadyPair 153 = .ok (.imul, 1) := by decide +kernel
theorem dX2_steadyPair_154 : decode cX2_steadyPair 154 = .ok (.iload 5, 2) := by decide +kernel
theorem dX2_steadyPair_156 : decode cX2_steadyPair 156 = .ok (.iconst 1, 1) := by decide +kernel
theorem dX2_steadyPair_157 : decode cX2_steadyPair 157 = .ok (.iand, 1) := by decide +kernel
theorem dX2_steadyPair_158 : decode cX2_steadyPair 158 = .ok (.iadd, 1) := by decide +kernel
theorem dX2_steadyPair_159 : decode cX2_steadyPair 159 = .ok (.ireturn, 1) := by decide +kernel
theorem dX2_steadyPair_160 : decode cX2_steadyPair 160 = .ok (.iinc 5 1, 3) := by decide +kernel
theorem dX2_steadyPair_163 : decode cX2_steadyPair 163 = .ok (.goto (-60), 3) := by decide +kernel
theorem dX2_steadyPair_166 : decode cX2_steadyPair 166 = .ok (.bipush (-9), 2) := by decide +kernel
theorem dX2_steadyPair_168 : decode cX2_steadyPair 168 = .ok (.ireturn, 1) := by decide +kernel
theorem dX2_waysOnto_0 : decode cX2_waysOnto 0 = .ok (.lconst 0, 1) := by decide +kernel
theorem dX2_waysOnto_1 : decode cX2_waysOnto 1 = .ok (.lstore 6, 2) := by decide +kernel
theorem dX2_waysOnto_3 : decode cX2_waysOnto 3 = .ok (.iconst 0, 1) := by decide +kernel
theorem dX2_waysOnto_4 : decode cX2_waysOnto 4 = .ok (.istore 8, 2) := by decide +kernel
theorem dX2_waysOnto_6 : decode cX2_waysOnto 6 = .ok (.iload 8, 2) := by decide +kernel
theorem dX2_waysOnto_8 : decode cX2_waysOnto 8 = .ok (.iconst 1, 1) := by decide +kernel
theorem dX2_waysOnto_9 : decode cX2_waysOnto 9 = .ok (.iload 4, 2) := by decide +kernel
theorem dX2_waysOnto_11 : decode cX2_waysOnto 11 = .ok (.ishl, 1) := by decide +kernel
theorem dX2_waysOnto_12 : decode cX2_waysOnto 12 = .ok (.if_icmp .ge 96, 3) := by decide +kernel
theorem dX2_waysOnto_15 : decode cX2_waysOnto 15 = .ok (.aload_n 0, 1) := by decide +kernel
theorem dX2_waysOnto_16 : decode cX2_waysOnto 16 = .ok (.aload_n 1, 1) := by decide +kernel
theorem dX2_waysOnto_17 : decode cX2_waysOnto 17 = .ok (.invokevirtual 29, 3) := by decide +kernel
theorem dX2_waysOnto_20 : decode cX2_waysOnto 20 = .ok (.pop, 1) := by decide +kernel
theorem dX2_waysOnto_21 : decode cX2_waysOnto 21 = .ok (.lconst 1, 1) := by decide +kernel
theorem dX2_waysOnto_22 : decode cX2_waysOnto 22 = .ok (.lstore 9, 2) := by decide +kernel
theorem dX2_waysOnto_24 : decode cX2_waysOnto 24 = .ok (.iconst 0, 1) := by decide +kernel
theorem dX2_waysOnto_25 : decode cX2_waysOnto 25 = .ok (.istore 11, 2) := by decide +kernel
theorem dX2_waysOnto_27 : decode cX2_waysOnto 27 = .ok (.iload 11, 2) := by decide +kernel
theorem dX2_waysOnto_29 : decode cX2_waysOnto 29 = .ok (.iload 4, 2) := by decide +kernel
theorem dX2_waysOnto_31 : decode cX2_waysOnto 31 = .ok (.if_icmp .ge 48, 3) := by decide +kernel
theorem dX2_waysOnto_34 : decode cX2_waysOnto 34 = .ok (.iload 8, 2) := by decide +kernel
theorem dX2_waysOnto_36 : decode cX2_waysOnto 36 = .ok (.iload 11, 2) := by decide +kernel
theorem dX2_waysOnto_38 : decode cX2_waysOnto 38 = .ok (.ishr, 1) := by decide +kernel
theorem dX2_waysOnto_39 : decode cX2_waysOnto 39 = .ok (.iconst 1, 1) := by decide +kernel
theorem dX2_waysOnto_40 : decode cX2_waysOnto 40 = .ok (.iand, 1) := by decide +kernel
theorem dX2_waysOnto_41 : decode cX2_waysOnto 41 = .ok (.iconst 1, 1) := by decide +kernel
theorem dX2_waysOnto_42 : decode cX2_waysOnto 42 = .ok (.if_icmp .ne 13, 3) := by decide +kernel
theorem dX2_waysOnto_45 : decode cX2_waysOnto 45 = .ok (.aload_n 0, 1) := by decide +kernel
theorem dX2_waysOnto_46 : decode cX2_waysOnto 46 = .ok (.getfield 12, 3) := by decide +kernel
theorem dX2_waysOnto_49 : decode cX2_waysOnto 49 = .ok (.invokevirtual 108, 3) := by decide +kernel
theorem dX2_waysOnto_52 : decode cX2_waysOnto 52 = .ok (.goto 21, 3) := by decide +kernel
theorem dX2_waysOnto_55 : decode cX2_waysOnto 55 = .ok (.aload_n 0, 1) := by decide +kernel
theorem dX2_waysOnto_56 : decode cX2_waysOnto 56 = .ok (.getfield 12, 3) := by decide +kernel
theorem dX2_waysOnto_59 : decode cX2_waysOnto 59 = .ok (.iconst 1, 1) := by decide +kernel
theorem dX2_waysOnto_60 : decode cX2_waysOnto 60 = .ok (.invokevirtual 33, 3) := by decide +kernel
theorem dX2_waysOnto_63 : decode cX2_waysOnto 63 = .ok (.lload 9, 2) := by decide +kernel
theorem dX2_waysOnto_65 : decode cX2_waysOnto 65 = .ok (.iload 5, 2) := by decide +kernel
theorem dX2_waysOnto_67 : decode cX2_waysOnto 67 = .ok (.iconst 1, 1) := by decide +kernel
theorem dX2_waysOnto_68 : decode cX2_waysOnto 68 = .ok (.isub, 1) := by decide +kernel
theorem dX2_waysOnto_69 : decode cX2_waysOnto 69 = .ok (.i2l, 1) := by decide +kernel
theorem dX2_waysOnto_70 : decode cX2_waysOnto 70 = .ok (.lmul, 1) := by decide +kernel
theorem dX2_waysOnto_71 : decode cX2_waysOnto 71 = .ok (.lstore 9, 2) := by decide +kernel
theorem dX2_waysOnto_73 : decode cX2_waysOnto 73 = .ok (.iinc 11 1, 3) := by decide +kernel
theorem dX2_waysOnto_76 : decode cX2_waysOnto 76 = .ok (.goto (-49), 3) := by decide +kernel
theorem dX2_waysOnto_79 : decode cX2_waysOnto 79 = .ok (.aload_n 0, 1) := by decide +kernel
theorem dX2_waysOnto_80 : decode cX2_waysOnto 80 = .ok (.getfield 12, 3) := by decide +kernel
theorem dX2_waysOnto_83 : decode cX2_waysOnto 83 = .ok (.getfield 37, 3) := by decide +kernel
theorem dX2_waysOnto_86 : decode cX2_waysOnto 86 = .ok (.iload_n 2, 1) := by decide +kernel
theorem dX2_waysOnto_87 : decode cX2_waysOnto 87 = .ok (.aaload, 1) := by decide +kernel
theorem dX2_waysOnto_88 : decode cX2_waysOnto 88 = .ok (.getfield 41, 3) := by decide +kernel
theorem dX2_waysOnto_91 : decode cX2_waysOnto 91 = .ok (.iload_n 3, 1) := by decide +kernel
theorem dX2_waysOnto_92 : decode cX2_waysOnto 92 = .ok (.if_icmp .ne 10, 3) := by decide +kernel
theorem dX2_waysOnto_95 : decode cX2_waysOnto 95 = .ok (.lload 6, 2) := by decide +kernel
theorem dX2_waysOnto_97 : decode cX2_waysOnto 97 = .ok (.lload 9, 2) := by decide +kernel
theorem dX2_waysOnto_99 : decode cX2_waysOnto 99 = .ok (.ladd, 1) := by decide +kernel
theorem dX2_waysOnto_100 : decode cX2_waysOnto 100 = .ok (.lstore 6, 2) := by decide +kernel
theorem dX2_waysOnto_102 : decode cX2_waysOnto 102 = .ok (.iinc 8 1, 3) := by decide +kernel
theorem dX2_waysOnto_105 : decode cX2_waysOnto 105 = .ok (.goto (-99), 3) := by decide +kernel
theorem dX2_waysOnto_108 : decode cX2_waysOnto 108 = .ok (.lload 6, 2) := by decide +kernel
theorem dX2_waysOnto_110 : decode cX2_waysOnto 110 = .ok (.lreturn, 1) := by decide +kernel
theorem dX2_drawBelow_0 : decode cX2_drawBelow 0 = .ok (.aload_n 0, 1) := by decide +kernel
theorem dX2_drawBelow_1 : decode cX2_drawBelow 1 = .ok (.aload_n 0, 1) := by decide +kernel
theorem dX2_drawBelow_2 : decode cX2_drawBelow 2 = .ok (.getfield 111, 3) := by decide +kernel
theorem dX2_drawBelow_5 : decode cX2_drawBelow 5 = .ok (.ldc 129, 2) := by decide +kernel
theorem dX2_drawBelow_7 : decode cX2_drawBelow 7 = .ok (.imul, 1) := by decide +kernel
theorem dX2_drawBelow_8 : decode cX2_drawBelow 8 = .ok (.sipush 12345, 3) := by decide +kernel
theorem dX2_drawBelow_11 : decode cX2_drawBelow 11 = .ok (.iadd, 1) := by decide +kernel
theorem dX2_drawBelow_12 : decode cX2_drawBelow 12 = .ok (.putfield 111, 3) := by decide +kernel
theorem dX2_drawBelow_15 : decode cX2_drawBelow 15 = .ok (.aload_n 0, 1) := by decide +kernel
theorem dX2_drawBelow_16 : decode cX2_drawBelow 16 = .ok (.getfield 111, 3) := by decide +kernel
theorem dX2_drawBelow_19 : decode cX2_drawBelow 19 = .ok (.ldc 130, 2) := by decide +kernel
theorem dX2_drawBelow_21 : decode cX2_drawBelow 21 = .ok (.iand, 1) := by decide +kernel
theorem dX2_drawBelow_22 : decode cX2_drawBelow 22 = .ok (.ldc 131, 2) := by decide +kernel
theorem dX2_drawBelow_24 : decode cX2_drawBelow 24 = .ok (.idiv, 1) := by decide +kernel
theorem dX2_drawBelow_25 : decode cX2_drawBelow 25 = .ok (.istore_n 2, 1) := by decide +kernel
theorem dX2_drawBelow_26 : decode cX2_drawBelow 26 = .ok (.iload_n 1, 1) := by decide +kernel
theorem dX2_drawBelow_27 : decode cX2_drawBelow 27 = .ok (.ifCond .le 9, 3) := by decide +kernel
theorem dX2_drawBelow_30 : decode cX2_drawBelow 30 = .ok (.iload_n 2, 1) := by decide +kernel
theorem dX2_drawBelow_31 : decode cX2_drawBelow 31 = .ok (.iload_n 1, 1) := by decide +kernel
theorem dX2_drawBelow_32 : decode cX2_drawBelow 32 = .ok (.irem, 1) := by decide +kernel
theorem dX2_drawBelow_33 : decode cX2_drawBelow 33 = .ok (.goto 4, 3) := by decide +kernel
theorem dX2_drawBelow_36 : decode cX2_drawBelow 36 = .ok (.iconst 0, 1) := by decide +kernel
theorem dX2_drawBelow_37 : decode cX2_drawBelow 37 = .ok (.ireturn, 1) := by decide +kernel
theorem dX2_scatterHeads_0 : decode cX2_scatterHeads 0 = .ok (.iconst 0, 1) := by decide +kernel
theorem dX2_scatterHeads_1 : decode cX2_scatterHeads 1 = .ok (.istore_n 1, 1) := by decide +kernel
theorem dX2_scatterHeads_2 : decode cX2_scatterHeads 2 = .ok (.iload_n 1, 1) := by decide +kernel
theorem dX2_scatterHeads_3 : decode cX2_scatterHeads 3 = .ok (.aload_n 0, 1) := by decide +kernel
theorem dX2_scatterHeads_4 : decode cX2_scatterHeads 4 = .ok (.getfield 12, 3) := by decide +kernel
theorem dX2_scatterHeads_7 : decode cX2_scatterHeads 7 = .ok (.getfield 93, 3) := by decide +kernel
theorem dX2_scatterHeads_10 : decode cX2_scatterHeads 10 = .ok (.if_icmp .ge 44, 3) := by decide +kernel
theorem dX2_scatterHeads_13 : decode cX2_scatterHeads 13 = .ok (.aload_n 0, 1) := by decide +kernel
theorem dX2_scatterHeads_14 : decode cX2_scatterHeads 14 = .ok (.getfield 12, 3) := by decide +kernel
theorem dX2_scatterHeads_17 : decode cX2_scatterHeads 17 = .ok (.getfield 37, 3) := by decide +kernel
theorem dX2_scatterHeads_20 : decode cX2_scatterHeads 20 = .ok (.iload_n 1, 1) := by decide +kernel
theorem dX2_scatterHeads_21 : decode cX2_scatterHeads 21 = .ok (.aaload, 1) := by decide +kernel
theorem dX2_scatterHeads_22 : decode cX2_scatterHeads 22 = .ok (.aload_n 0, 1) := by decide +kernel
theorem dX2_scatterHeads_23 : decode cX2_scatterHeads 23 = .ok (.bipush 48, 2) := by decide +kernel
theorem dX2_scatterHeads_25 : decode cX2_scatterHeads 25 = .ok (.invokevirtual 123, 3) := by decide +kernel
theorem dX2_scatterHeads_28 : decode cX2_scatterHeads 28 = .ok (.putfield 41, 3) := by decide +kernel
theorem dX2_scatterHeads_31 : decode cX2_scatterHeads 31 = .ok (.aload_n 0, 1) := by decide +kernel
theorem dX2_scatterHeads_32 : decode cX2_scatterHeads 32 = .ok (.getfield 12, 3) := by decide +kernel
theorem dX2_scatterHeads_35 : decode cX2_scatterHeads 35 = .ok (.getfield 37, 3) := by decide +kernel
theorem dX2_scatterHeads_38 : decode cX2_scatterHeads 38 = .ok (.iload_n 1, 1) := by decide +kernel
theorem dX2_scatterHeads_39 : decode cX2_scatterHeads 39 = .ok (.aaload, 1) := by decide +kernel
theorem dX2_scatterHeads_40 : decode cX2_scatterHeads 40 = .ok (.aload_n 0, 1) := by decide +kernel
theorem dX2_scatterHeads_41 : decode cX2_scatterHeads 41 = .ok (.iconst 4, 1) := by decide +kernel
theorem dX2_scatterHeads_42 : decode cX2_scatterHeads 42 = .ok (.invokevirtual 123, 3) := by decide +kernel
theorem dX2_scatterHeads_45 : decode cX2_scatterHeads 45 = .ok (.putfield 126, 3) := by decide +kernel
theorem dX2_scatterHeads_48 : decode cX2_scatterHeads 48 = .ok (.iinc 1 1, 3) := by decide +kernel
theorem dX2_scatterHeads_51 : decode cX2_scatterHeads 51 = .ok (.goto (-49), 3) := by decide +kernel
theorem dX2_scatterHeads_54 : decode cX2_scatterHeads 54 = .ok (.return_, 1) := by decide +kernel
theorem dX2_playGames_0 : decode cX2_playGames 0 = .ok (.iconst 0, 1) := by decide +kernel
theorem dX2_playGames_1 : decode cX2_playGames 1 = .ok (.istore 5, 2) := by decide +kernel
theorem dX2_playGames_3 : decode cX2_playGames 3 = .ok (.iconst 0, 1) := by decide +kernel
theorem dX2_playGames_4 : decode cX2_playGames 4 = .ok (.istore 6, 2) := by decide +kernel
theorem dX2_playGames_6 : decode cX2_playGames 6 = .ok (.aload_n 0, 1) := by decide +kernel
theorem dX2_playGames_7 : decode cX2_playGames 7 = .ok (.iload_n 3, 1) := by decide +kernel
theorem dX2_playGames_8 : decode cX2_playGames 8 = .ok (.putfield 111, 3) := by decide +kernel
theorem dX2_playGames_11 : decode cX2_playGames 11 = .ok (.iconst 0, 1) := by decide +kernel
theorem dX2_playGames_12 : decode cX2_playGames 12 = .ok (.istore 7, 2) := by decide +kernel
theorem dX2_playGames_14 : decode cX2_playGames 14 = .ok (.iload 7, 2) := by decide +kernel
theorem dX2_playGames_16 : decode cX2_playGames 16 = .ok (.iload_n 2, 1) := by decide +kernel
theorem dX2_playGames_17 : decode cX2_playGames 17 = .ok (.if_icmp .ge 68, 3) := by decide +kernel
theorem dX2_playGames_20 : decode cX2_playGames 20 = .ok (.aload_n 0, 1) := by decide +kernel
theorem dX2_playGames_21 : decode cX2_playGames 21 = .ok (.aload_n 1, 1) := by decide +kernel
theorem dX2_playGames_22 : decode cX2_playGames 22 = .ok (.invokevirtual 29, 3) := by decide +kernel
theorem dX2_playGames_25 : decode cX2_playGames 25 = .ok (.pop, 1) := by decide +kernel
theorem dX2_playGames_26 : decode cX2_playGames 26 = .ok (.aload_n 0, 1) := by decide +kernel
theorem dX2_playGames_27 : decode cX2_playGames 27 = .ok (.invokevirtual 114, 3) := by decide +kernel
theorem dX2_playGames_30 : decode cX2_playGames 30 = .ok (.aload_n 0, 1) := by decide +kernel
theorem dX2_playGames_31 : decode cX2_playGames 31 = .ok (.getfield 12, 3) := by decide +kernel
theorem dX2_playGames_34 : decode cX2_playGames 34 = .ok (.bipush 12, 2) := by decide +kernel
theorem dX2_playGames_36 : decode cX2_playGames 36 = .ok (.invokevirtual 33, 3) := by decide +kernel
theorem dX2_playGames_39 : decode cX2_playGames 39 = .ok (.iload 5, 2) := by decide +kernel
theorem dX2_playGames_41 : decode cX2_playGames 41 = .ok (.aload_n 0, 1) := by decide +kernel
theorem dX2_playGames_42 : decode cX2_playGames 42 = .ok (.getfield 12, 3) := by decide +kernel
theorem dX2_playGames_45 : decode cX2_playGames 45 = .ok (.getfield 117, 3) := by decide +kernel
theorem dX2_playGames_48 : decode cX2_playGames 48 = .ok (.aload_n 1, 1) := by decide +kernel
theorem dX2_playGames_49 : decode cX2_playGames 49 = .ok (.getfield 117, 3) := by decide +kernel
theorem dX2_playGames_52 : decode cX2_playGames 52 = .ok (.isub, 1) := by decide +kernel
theorem dX2_playGames_53 : decode cX2_playGames 53 = .ok (.iadd, 1) := by decide +kernel
theorem dX2_playGames_54 : decode cX2_playGames 54 = .ok (.istore 5, 2) := by decide +kernel
theorem dX2_playGames_56 : decode cX2_playGames 56 = .ok (.iload 6, 2) := by decide +kernel
theorem dX2_playGames_58 : decode cX2_playGames 58 = .ok (.aload_n 0, 1) := by decide +kernel
theorem dX2_playGames_59 : decode cX2_playGames 59 = .ok (.getfield 12, 3) := by decide +kernel
theorem dX2_playGames_62 : decode cX2_playGames 62 = .ok (.invokevirtual 51, 3) := by decide +kernel
theorem dX2_playGames_65 : decode cX2_playGames 65 = .ok (.invokestatic 120, 3) := by decide +kernel
theorem dX2_playGames_68 : decode cX2_playGames 68 = .ok (.aload_n 1, 1) := by decide +kernel
theorem dX2_playGames_69 : decode cX2_playGames 69 = .ok (.invokevirtual 51, 3) := by decide +kernel
theorem dX2_playGames_72 : decode cX2_playGames 72 = .ok (.invokestatic 120, 3) := by decide +kernel
theorem dX2_playGames_75 : decode cX2_playGames 75 = .ok (.isub, 1) := by decide +kernel
theorem dX2_playGames_76 : decode cX2_playGames 76 = .ok (.iadd, 1) := by decide +kernel
theorem dX2_playGames_77 : decode cX2_playGames 77 = .ok (.istore 6, 2) := by decide +kernel
theorem dX2_playGames_79 : decode cX2_playGames 79 = .ok (.iinc 7 1, 3) := by decide +kernel
theorem dX2_playGames_82 : decode cX2_playGames 82 = .ok (.goto (-68), 3) := by decide +kernel
theorem dX2_playGames_85 : decode cX2_playGames 85 = .ok (.iload 4, 2) := by decide +kernel
theorem dX2_playGames_87 : decode cX2_playGames 87 = .ok (.ifCond .eq 8, 3) := by decide +kernel
theorem dX2_playGames_90 : decode cX2_playGames 90 = .ok (.iload 6, 2) := by decide +kernel
theorem dX2_playGames_92 : decode cX2_playGames 92 = .ok (.goto 5, 3) := by decide +kernel
theorem dX2_playGames_95 : decode cX2_playGames 95 = .ok (.iload 5, 2) := by decide +kernel
theorem dX2_playGames_97 : decode cX2_playGames 97 = .ok (.ireturn, 1) := by decide +kernel
theorem dX3_keep_0 : decode cX3_keep 0 = .ok (.aload_n 0, 1) := by decide +kernel
theorem dX3_keep_1 : decode cX3_keep 1 = .ok (.getfield 11, 3) := by decide +kernel
theorem dX3_keep_4 : decode cX3_keep 4 = .ok (.aload_n 0, 1) := by decide +kernel
theorem dX3_keep_5 : decode cX3_keep 5 = .ok (.getfield 16, 3) := by decide +kernel
theorem dX3_keep_8 : decode cX3_keep 8 = .ok (.aaload, 1) := by decide +kernel
theorem dX3_keep_9 : decode cX3_keep 9 = .ok (.aload_n 1, 1) := by decide +kernel
theorem dX3_keep_10 : decode cX3_keep 10 = .ok (.invokevirtual 20, 3) := by decide +kernel
theorem dX3_keep_13 : decode cX3_keep 13 = .ok (.aload_n 0, 1) := by decide +kernel
theorem dX3_keep_14 : decode cX3_keep 14 = .ok (.aload_n 0, 1) := by decide +kernel
theorem dX3_keep_15 : decode cX3_keep 15 = .ok (.getfield 16, 3) := by decide +kernel
theorem dX3_keep_18 : decode cX3_keep 18 = .ok (.iconst 1, 1) := by decide +kernel
theorem dX3_keep_19 : decode cX3_keep 19 = .ok (.iadd, 1) := by decide +kernel
theorem dX3_keep_20 : decode cX3_keep 20 = .ok (.bipush 8, 2) := by decide +kernel
theorem dX3_keep_22 : decode cX3_keep 22 = .ok (.irem, 1) := by decide +kernel
theorem dX3_keep_23 : decode cX3_keep 23 = .ok (.putfield 16, 3) := by decide +kernel
theorem dX3_keep_26 : decode cX3_keep 26 = .ok (.aload_n 0, 1) := by decide +kernel
theorem dX3_keep_27 : decode cX3_keep 27 = .ok (.aload_n 0, 1) := by decide +kernel
theorem dX3_keep_28 : decode cX3_keep 28 = .ok (.getfield 24, 3) := by decide +kernel
theorem dX3_keep_31 : decode cX3_keep 31 = .ok (.iconst 1, 1) := by decide +kernel
theorem dX3_keep_32 : decode cX3_keep 32 = .ok (.iadd, 1) := by decide +kernel
theorem dX3_keep_33 : decode cX3_keep 33 = .ok (.bipush 8, 2) := by decide +kernel
theorem dX3_keep_35 : decode cX3_keep 35 = .ok (.invokestatic 27, 3) := by decide +kernel
theorem dX3_keep_38 : decode cX3_keep 38 = .ok (.putfield 24, 3) := by decide +kernel
theorem dX3_keep_41 : decode cX3_keep 41 = .ok (.return_, 1) := by decide +kernel
theorem dX3_takeBack_0 : decode cX3_takeBack 0 = .ok (.aload_n 0, 1) := by decide +kernel
theorem dX3_takeBack_1 : decode cX3_takeBack 1 = .ok (.getfield 24, 3) := by decide +kernel
theorem dX3_takeBack_4 : decode cX3_takeBack 4 = .ok (.ifCond .le 42, 3) := by decide +kernel
theorem dX3_takeBack_7 : decode cX3_takeBack 7 = .ok (.aload_n 0, 1) := by decide +kernel
theorem dX3_takeBack_8 : decode cX3_takeBack 8 = .ok (.aload_n 0, 1) := by decide +kernel
theorem dX3_takeBack_9 : decode cX3_takeBack 9 = .ok (.getfield 16, 3) := by decide +kernel
theorem dX3_takeBack_12 : decode cX3_takeBack 12 = .ok (.bipush 8, 2) := by decide +kernel
theorem dX3_takeBack_14 : decode cX3_takeBack 14 = .ok (.iadd, 1) := by decide +kernel
theorem dX3_takeBack_15 : decode cX3_takeBack 15 = .ok (.iconst 1, 1) := by decide +kernel
theorem dX3_takeBack_16 : decode cX3_takeBack 16 = .ok (.isub, 1) := by decide +kernel
theorem dX3_takeBack_17 : decode cX3_takeBack 17 = .ok (.bipush 8, 2) := by decide +kernel
theorem dX3_takeBack_19 : decode cX3_takeBack 19 = .ok (.irem, 1) := by decide +kernel
theorem dX3_takeBack_20 : decode cX3_takeBack 20 = .ok (.putfield 16, 3) := by decide +kernel
theorem dX3_takeBack_23 : decode cX3_takeBack 23 = .ok (.aload_n 1, 1) := by decide +kernel
theorem dX3_takeBack_24 : decode cX3_takeBack 24 = .ok (.aload_n 0, 1) := by decide +kernel
theorem dX3_takeBack_25 : decode cX3_takeBack 25 = .ok (.getfield 11, 3) := by decide +kernel
theorem dX3_takeBack_28 : decode cX3_takeBack 28 = .ok (.aload_n 0, 1) := by decide +kernel
theorem dX3_takeBack_29 : decode cX3_takeBack 29 = .ok (.getfield 16, 3) := by decide +kernel
theorem dX3_takeBack_32 : decode cX3_takeBack 32 = .ok (.aaload, 1) := by decide +kernel
theorem dX3_takeBack_33 : decode cX3_takeBack 33 = .ok (.invokevirtual 20, 3) := by decide +kernel
theorem dX3_takeBack_36 : decode cX3_takeBack 36 = .ok (.aload_n 0, 1) := by decide +kernel
theorem dX3_takeBack_37 : decode cX3_takeBack 37 = .ok (.dup, 1) := by decide +kernel
theorem dX3_takeBack_38 : decode cX3_takeBack 38 = .ok (.getfield 24, 3) := by decide +kernel
theorem dX3_takeBack_41 : decode cX3_takeBack 41 = .ok (.iconst 1, 1) := by decide +kernel
theorem dX3_takeBack_42 : decode cX3_takeBack 42 = .ok (.isub, 1) := by decide +kernel
theorem dX3_takeBack_43 : decode cX3_takeBack 43 = .ok (.putfield 24, 3) := by decide +kernel
theorem dX3_takeBack_46 : decode cX3_takeBack 46 = .ok (.return_, 1) := by decide +kernel
theorem dX3_forget_0 : decode cX3_forget 0 = .ok (.aload_n 0, 1) := by decide +kernel
theorem dX3_forget_1 : decode cX3_forget 1 = .ok (.iconst 0, 1) := by decide +kernel
theorem dX3_forget_2 : decode cX3_forget 2 = .ok (.putfield 24, 3) := by decide +kernel
theorem dX3_forget_5 : decode cX3_forget 5 = .ok (.return_, 1) := by decide +kernel
theorem dX4_isFull_0 : decode cX4_isFull 0 = .ok (.aload_n 0, 1) := by decide +kernel
theorem dX4_isFull_1 : decode cX4_isFull 1 = .ok (.getfield 21, 3) := by decide +kernel
theorem dX4_isFull_4 : decode cX4_isFull 4 = .ok (.bipush 96, 2) := by decide +kernel
theorem dX4_isFull_6 : decode cX4_isFull 6 = .ok (.if_icmp .lt 7, 3) := by decide +kernel
theorem dX4_isFull_9 : decode cX4_isFull 9 = .ok (.iconst 1, 1) := by decide +kernel
theorem dX4_isFull_10 : decode cX4_isFull 10 = .ok (.goto 4, 3) := by decide +kernel
theorem dX4_isFull_13 : decode cX4_isFull 13 = .ok (.iconst 0, 1) := by decide +kernel
theorem dX4_isFull_14 : decode cX4_isFull 14 = .ok (.ireturn, 1) := by decide +kernel
theorem dX4_addLetter_0 : decode cX4_addLetter 0 = .ok (.aload_n 0, 1) := by decide +kernel
theorem dX4_addLetter_1 : decode cX4_addLetter 1 = .ok (.invokevirtual 25, 3) := by decide +kernel
theorem dX4_addLetter_4 : decode cX4_addLetter 4 = .ok (.ifCond .ne 23, 3) := by decide +kernel
theorem dX4_addLetter_7 : decode cX4_addLetter 7 = .ok (.aload_n 0, 1) := by decide +kernel
theorem dX4_addLetter_8 : decode cX4_addLetter 8 = .ok (.getfield 11, 3) := by decide +kernel
theorem dX4_addLetter_11 : decode cX4_addLetter 11 = .ok (.aload_n 0, 1) := by decide +kernel
theorem dX4_addLetter_12 : decode cX4_addLetter 12 = .ok (.getfield 21, 3) := by decide +kernel
theorem dX4_addLetter_15 : decode cX4_addLetter 15 = .ok (.iload_n 1, 1) := by decide +kernel
theorem dX4_addLetter_16 : decode cX4_addLetter 16 = .ok (.iastore, 1) := by decide +kernel
theorem dX4_addLetter_17 : decode cX4_addLetter 17 = .ok (.aload_n 0, 1) := by decide +kernel
theorem dX4_addLetter_18 : decode cX4_addLetter 18 = .ok (.dup, 1) := by decide +kernel
theorem dX4_addLetter_19 : decode cX4_addLetter 19 = .ok (.getfield 21, 3) := by decide +kernel
theorem dX4_addLetter_22 : decode cX4_addLetter 22 = .ok (.iconst 1, 1) := by decide +kernel
theorem dX4_addLetter_23 : decode cX4_addLetter 23 = .ok (.iadd, 1) := by decide +kernel
theorem dX4_addLetter_24 : decode cX4_addLetter 24 = .ok (.putfield 21, 3) := by decide +kernel
theorem dX4_addLetter_27 : decode cX4_addLetter 27 = .ok (.aload_n 0, 1) := by decide +kernel
theorem dX4_addLetter_28 : decode cX4_addLetter 28 = .ok (.getfield 21, 3) := by decide +kernel
theorem dX4_addLetter_31 : decode cX4_addLetter 31 = .ok (.ireturn, 1) := by decide +kernel
theorem dX4_forget_0 : decode cX4_forget 0 = .ok (.aload_n 0, 1) := by decide +kernel
theorem dX4_forget_1 : decode cX4_forget 1 = .ok (.iconst 0, 1) := by decide +kernel
theorem dX4_forget_2 : decode cX4_forget 2 = .ok (.putfield 21, 3) := by decide +kernel
theorem dX4_forget_5 : decode cX4_forget 5 = .ok (.return_, 1) := by decide +kernel
theorem dX4_isLetter_0 : decode cX4_isLetter 0 = .ok (.iload_n 0, 1) := by decide +kernel
theorem dX4_isLetter_1 : decode cX4_isLetter 1 = .ok (.bipush 97, 2) := by decide +kernel
theorem dX4_isLetter_3 : decode cX4_isLetter 3 = .ok (.if_icmp .lt 13, 3) := by decide +kernel
theorem dX4_isLetter_6 : decode cX4_isLetter 6 = .ok (.iload_n 0, 1) := by decide +kernel
theorem dX4_isLetter_7 : decode cX4_isLetter 7 = .ok (.bipush 122, 2) := by decide +kernel
theorem dX4_isLetter_9 : decode cX4_isLetter 9 = .ok (.if_icmp .gt 7, 3) := by decide +kernel
theorem dX4_isLetter_12 : decode cX4_isLetter 12 = .ok (.iconst 1, 1) := by decide +kernel
theorem dX4_isLetter_13 : decode cX4_isLetter 13 = .ok (.goto 4, 3) := by decide +kernel
theorem dX4_isLetter_16 : decode cX4_isLetter 16 = .ok (.iconst 0, 1) := by decide +kernel
theorem dX4_isLetter_17 : decode cX4_isLetter 17 = .ok (.ireturn, 1) := by decide +kernel
theorem dX4_isDigit_0 : decode cX4_isDigit 0 = .ok (.iload_n 0, 1) := by decide +kernel
theorem dX4_isDigit_1 : decode cX4_isDigit 1 = .ok (.bipush 48, 2) := by decide +kernel
theorem dX4_isDigit_3 : decode cX4_isDigit 3 = .ok (.if_icmp .lt 13, 3) := by decide +kernel
theorem dX4_isDigit_6 : decode cX4_isDigit 6 = .ok (.iload_n 0, 1) := by decide +kernel
theorem dX4_isDigit_7 : decode cX4_isDigit 7 = .ok (.bipush 57, 2) := by decide +kernel
theorem dX4_isDigit_9 : decode cX4_isDigit 9 = .ok (.if_icmp .gt 7, 3) := by decide +kernel
theorem dX4_isDigit_12 : decode cX4_isDigit 12 = .ok (.iconst 1, 1) := by decide +kernel
theorem dX4_isDigit_13 : decode cX4_isDigit 13 = .ok (.goto 4, 3) := by decide +kernel
theorem dX4_isDigit_16 : decode cX4_isDigit 16 = .ok (.iconst 0, 1) := by decide +kernel
theorem dX4_isDigit_17 : decode cX4_isDigit 17 = .ok (.ireturn, 1) := by decide +kernel
theorem dX4_placeOfBadForm_0 : decode cX4_placeOfBadForm 0 = .ok (.iconst 0, 1) := by decide +kernel
theorem dX4_placeOfBadForm_1 : decode cX4_placeOfBadForm 1 = .ok (.istore_n 1, 1) := by decide +kernel
theorem dX4_placeOfBadForm_2 : decode cX4_placeOfBadForm 2 = .ok (.iconst 0, 1) := by decide +kernel
theorem dX4_placeOfBadForm_3 : decode cX4_placeOfBadForm 3 = .ok (.istore_n 2, 1) := by decide +kernel
theorem dX4_placeOfBadForm_4 : decode cX4_placeOfBadForm 4 = .ok (.iconst 0, 1) := by decide +kernel
theorem dX4_placeOfBadForm_5 : decode cX4_placeOfBadForm 5 = .ok (.istore_n 3, 1) := by decide +kernel
theorem dX4_placeOfBadForm_6 : decode cX4_placeOfBadForm 6 = .ok (.iconst 0, 1) := by decide +kernel
theorem dX4_placeOfBadForm_7 : decode cX4_placeOfBadForm 7 = .ok (.istore 4, 2) := by decide +kernel
theorem dX4_placeOfBadForm_9 : decode cX4_placeOfBadForm 9 = .ok (.iload 4, 2) := by decide +kernel
theorem dX4_placeOfBadForm_11 : decode cX4_placeOfBadForm 11 = .ok (.aload_n 0, 1) := by decide +kernel
theorem dX4_placeOfBadForm_12 : decode cX4_placeOfBadForm 12 = .ok (.getfield 21, 3) := by decide +kernel
theorem dX4_placeOfBadForm_15 : decode cX4_placeOfBadForm 15 = .ok (.if_icmp .ge 130, 3) := by decide +kernel
theorem dX4_placeOfBadForm_18 : decode cX4_placeOfBadForm 18 = .ok (.aload_n 0, 1) := by decide +kernel
theorem dX4_placeOfBadForm_19 : decode cX4_placeOfBadForm 19 = .ok (.getfield 11, 3) := by decide +kernel
theorem dX4_placeOfBadForm_22 : decode cX4_placeOfBadForm 22 = .ok (.iload 4, 2) := by decide +kernel
theorem dX4_placeOfBadForm_24 : decode cX4_placeOfBadForm 24 = .ok (.iaload, 1) := by decide +kernel
theorem dX4_placeOfBadForm_25 : decode cX4_placeOfBadForm 25 = .ok (.istore 5, 2) := by decide +kernel
theorem dX4_placeOfBadForm_27 : decode cX4_placeOfBadForm 27 = .ok (.iload 5, 2) := by decide +kernel
theorem dX4_placeOfBadForm_29 : decode cX4_placeOfBadForm 29 = .ok (.invokestatic 29, 3) := by decide +kernel
theorem dX4_placeOfBadForm_32 : decode cX4_placeOfBadForm 32 = .ok (.ifCond .eq 25, 3) := by decide +kernel
theorem dX4_placeOfBadForm_35 : decode cX4_placeOfBadForm 35 = .ok (.iload_n 2, 1) := by decide +kernel
theorem dX4_placeOfBadForm_36 : decode cX4_placeOfBadForm 36 = .ok (.bipush 7, 2) := by decide +kernel
theorem dX4_placeOfBadForm_38 : decode cX4_placeOfBadForm 38 = .ok (.if_icmp .ge 19, 3) := by decide +kernel
theorem dX4_placeOfBadForm_41 : decode cX4_placeOfBadForm 41 = .ok (.iload_n 2, 1) := by decide +kernel
theorem dX4_placeOfBadForm_42 : decode cX4_placeOfBadForm 42 = .ok (.ifCond .eq 7, 3) := by decide +kernel
theorem dX4_placeOfBadForm_45 : decode cX4_placeOfBadForm 45 = .ok (.iload_n 3, 1) := by decide +kernel
theorem dX4_placeOfBadForm_46 : decode cX4_placeOfBadForm 46 = .ok (.ifCond .ne 11, 3) := by decide +kernel
theorem dX4_placeOfBadForm_49 : decode cX4_placeOfBadForm 49 = .ok (.iconst 0, 1) := by decide +kernel
theorem dX4_placeOfBadForm_50 : decode cX4_placeOfBadForm 50 = .ok (.istore_n 3, 1) := by decide +kernel
theorem dX4_placeOfBadForm_51 : decode cX4_placeOfBadForm 51 = .ok (.iinc 2 1, 3) := by decide +kernel
theorem dX4_placeOfBadForm_54 : decode cX4_placeOfBadForm 54 = .ok (.goto 85, 3) := by decide +kernel
theorem dX4_placeOfBadForm_57 : decode cX4_placeOfBadForm 57 = .ok (.iload 5, 2) := by decide +kernel
theorem dX4_placeOfBadForm_59 : decode cX4_placeOfBadForm 59 = .ok (.invokestatic 33, 3) := by decide +kernel
theorem dX4_placeOfBadForm_62 : decode cX4_placeOfBadForm 62 = .ok (.ifCond .eq 28, 3) := by decide +kernel
theorem dX4_placeOfBadForm_65 : decode cX4_placeOfBadForm 65 = .ok (.iload_n 1, 1) := by decide +kernel
theorem dX4_placeOfBadForm_66 : decode cX4_placeOfBadForm 66 = .ok (.ifCond .le 24, 3) := by decide +kernel
theorem dX4_placeOfBadForm_69 : decode cX4_placeOfBadForm 69 = .ok (.iload_n 2, 1) := by decide +kernel
theorem dX4_placeOfBadForm_70 : decode cX4_placeOfBadForm 70 = .ok (.iconst 2, 1) := by decide +kernel
theorem dX4_placeOfBadForm_71 : decode cX4_placeOfBadForm 71 = .ok (.if_icmp .ge 19, 3) := by decide +kernel
theorem dX4_placeOfBadForm_74 : decode cX4_placeOfBadForm 74 = .ok (.iload_n 2, 1) := by decide +kernel
theorem dX4_placeOfBadForm_75 : decode cX4_placeOfBadForm 75 = .ok (.ifCond .eq 7, 3) := by decide +kernel
theorem dX4_placeOfBadForm_78 : decode cX4_placeOfBadForm 78 = .ok (.iload_n 3, 1) := by decide +kernel
theorem dX4_placeOfBadForm_79 : decode cX4_placeOfBadForm 79 = .ok (.ifCond .eq 11, 3) := by decide +kernel
theorem dX4_placeOfBadForm_82 : decode cX4_placeOfBadForm 82 = .ok (.iconst 1, 1) := by decide +kernel
theorem dX4_placeOfBadForm_83 : decode cX4_placeOfBadForm 83 = .ok (.istore_n 3, 1) := by decide +kernel
theorem dX4_placeOfBadForm_84 : decode cX4_placeOfBadForm 84 = .ok (.iinc 2 1, 3) := by decide +kernel
theorem dX4_placeOfBadForm_87 : decode cX4_placeOfBadForm 87 = .ok (.goto 52, 3) := by decide +kernel
theorem dX4_placeOfBadForm_90 : decode cX4_placeOfBadForm 90 = .ok (.iload 5, 2) := by decide +kernel
theorem dX4_placeOfBadForm_92 : decode cX4_placeOfBadForm 92 = .ok (.bipush 32, 2) := by decide +kernel
theorem dX4_placeOfBadForm_94 : decode cX4_placeOfBadForm 94 = .ok (.if_icmp .ne 20, 3) := by decide +kernel
theorem dX4_placeOfBadForm_97 : decode cX4_placeOfBadForm 97 = .ok (.iload_n 2, 1) := by decide +kernel
theorem dX4_placeOfBadForm_98 : decode cX4_placeOfBadForm 98 = .ok (.ifCond .le 16, 3) := by decide +kernel
theorem dX4_placeOfBadForm_101 : decode cX4_placeOfBadForm 101 = .ok (.iload_n 1, 1) := by decide +kernel
theorem dX4_placeOfBadForm_102 : decode cX4_placeOfBadForm 102 = .ok (.iconst 3, 1) := by decide +kernel
theorem dX4_placeOfBadForm_103 : decode cX4_placeOfBadForm 103 = .ok (.if_icmp .ge 11, 3) := by decide +kernel
theorem dX4_placeOfBadForm_106 : decode cX4_placeOfBadForm 106 = .ok (.iinc 1 1, 3) := by decide +kernel
theorem dX4_placeOfBadForm_109 : decode cX4_placeOfBadForm 109 = .ok (.iconst 0, 1) := by decide +kernel
theorem dX4_placeOfBadForm_110 : decode cX4_placeOfBadForm 110 = .ok (.istore_n 2, 1) := by decide +kernel
theorem dX4_placeOfBadForm_111 : decode cX4_placeOfBadForm 111 = .ok (.goto 28, 3) := by decide +kernel
theorem dX4_placeOfBadForm_114 : decode cX4_placeOfBadForm 114 = .ok (.iload 5, 2) := by decide +kernel
theorem dX4_placeOfBadForm_116 : decode cX4_placeOfBadForm 116 = .ok (.bipush 59, 2) := by decide +kernel
theorem dX4_placeOfBadForm_118 : decode cX4_placeOfBadForm 118 = .ok (.if_icmp .ne 18, 3) := by decide +kernel
theorem dX4_placeOfBadForm_121 : decode cX4_placeOfBadForm 121 = .ok (.iload_n 2, 1) := by decide +kernel
theorem dX4_placeOfBadForm_122 : decode cX4_placeOfBadForm 122 = .ok (.ifCond .le 14, 3) := by decide +kernel
theorem dX4_placeOfBadForm_125 : decode cX4_placeOfBadForm 125 = .ok (.iload_n 1, 1) := by decide +kernel
theorem dX4_placeOfBadForm_126 : decode cX4_placeOfBadForm 126 = .ok (.ifCond .le 10, 3) := by decide +kernel
theorem dX4_placeOfBadForm_129 : decode cX4_placeOfBadForm 129 = .ok (.iconst 0, 1) := by decide +kernel
theorem dX4_placeOfBadForm_130 : decode cX4_placeOfBadForm 130 = .ok (.istore_n 1, 1) := by decide +kernel
theorem dX4_placeOfBadForm_131 : decode cX4_placeOfBadForm 131 = .ok (.iconst 0, 1) := by decide +kernel
theorem dX4_placeOfBadForm_132 : decode cX4_placeOfBadForm 132 = .ok (.istore_n 2, 1) := by decide +kernel
theorem dX4_placeOfBadForm_133 : decode cX4_placeOfBadForm 133 = .ok (.goto 6, 3) := by decide +kernel
theorem dX4_placeOfBadForm_136 : decode cX4_placeOfBadForm 136 = .ok (.iload 4, 2) := by decide +kernel
theorem dX4_placeOfBadForm_138 : decode cX4_placeOfBadForm 138 = .ok (.ireturn, 1) := by decide +kernel
theorem dX4_placeOfBadForm_139 : decode cX4_placeOfBadForm 139 = .ok (.iinc 4 1, 3) := by decide +kernel
theorem dX4_placeOfBadForm_142 : decode cX4_placeOfBadForm 142 = .ok (.goto (-133), 3) := by decide +kernel
theorem dX4_placeOfBadForm_145 : decode cX4_placeOfBadForm 145 = .ok (.aload_n 0, 1) := by decide +kernel
theorem dX4_placeOfBadForm_146 : decode cX4_placeOfBadForm 146 = .ok (.getfield 21, 3) := by decide +kernel
theorem dX4_placeOfBadForm_149 : decode cX4_placeOfBadForm 149 = .ok (.ifCond .le 15, 3) := by decide +kernel
theorem dX4_placeOfBadForm_152 : decode cX4_placeOfBadForm 152 = .ok (.iload_n 1, 1) := by decide +kernel
theorem dX4_placeOfBadForm_153 : decode cX4_placeOfBadForm 153 = .ok (.ifCond .ne 11, 3) := by decide +kernel
theorem dX4_placeOfBadForm_156 : decode cX4_placeOfBadForm 156 = .ok (.iload_n 2, 1) := by decide +kernel
theorem dX4_placeOfBadForm_157 : decode cX4_placeOfBadForm 157 = .ok (.ifCond .ne 7, 3) := by decide +kernel
theorem dX4_placeOfBadForm_160 : decode cX4_placeOfBadForm 160 = .ok (.iconst 1, 1) := by decide +kernel
theorem dX4_placeOfBadForm_161 : decode cX4_placeOfBadForm 161 = .ok (.goto 4, 3) := by decide +kernel
theorem dX4_placeOfBadForm_164 : decode cX4_placeOfBadForm 164 = .ok (.iconst 0, 1) := by decide +kernel
theorem dX4_placeOfBadForm_165 : decode cX4_placeOfBadForm 165 = .ok (.istore 4, 2) := by decide +kernel
theorem dX4_placeOfBadForm_167 : decode cX4_placeOfBadForm 167 = .ok (.iload 4, 2) := by decide +kernel
theorem dX4_placeOfBadForm_169 : decode cX4_placeOfBadForm 169 = .ok (.ifCond .eq 7, 3) := by decide +kernel
theorem dX4_placeOfBadForm_172 : decode cX4_placeOfBadForm 172 = .ok (.iconst (-1), 1) := by decide +kernel
theorem dX4_placeOfBadForm_173 : decode cX4_placeOfBadForm 173 = .ok (.goto 7, 3) := by decide +kernel
theorem dX4_placeOfBadForm_176 : decode cX4_placeOfBadForm 176 = .ok (.aload_n 0, 1) := by decide +kernel
theorem dX4_placeOfBadForm_177 : decode cX4_placeOfBadForm 177 = .ok (.getfield 21, 3) := by decide +kernel
theorem dX4_placeOfBadForm_180 : decode cX4_placeOfBadForm 180 = .ok (.ireturn, 1) := by decide +kernel
theorem dX4_readStatement_0 : decode cX4_readStatement 0 = .ok (.aload_n 0, 1) := by decide +kernel
theorem dX4_readStatement_1 : decode cX4_readStatement 1 = .ok (.iconst 0, 1) := by decide +kernel
theorem dX4_readStatement_2 : decode cX4_readStatement 2 = .ok (.putfield 36, 3) := by decide +kernel
theorem dX4_readStatement_5 : decode cX4_readStatement 5 = .ok (.aload_n 0, 1) := by decide +kernel
theorem dX4_readStatement_6 : decode cX4_readStatement 6 = .ok (.getfield 15, 3) := by decide +kernel
theorem dX4_readStatement_9 : decode cX4_readStatement 9 = .ok (.iconst 0, 1) := by decide +kernel
theorem dX4_readStatement_10 : decode cX4_readStatement 10 = .ok (.iload_n 1, 1) := by decide +kernel
theorem dX4_readStatement_11 : decode cX4_readStatement 11 = .ok (.iastore, 1) := by decide +kernel
theorem dX4_readStatement_12 : decode cX4_readStatement 12 = .ok (.aload_n 0, 1) := by decide +kernel
theorem dX4_readStatement_13 : decode cX4_readStatement 13 = .ok (.getfield 18, 3) := by decide +kernel
theorem dX4_readStatement_16 : decode cX4_readStatement 16 = .ok (.iconst 0, 1) := by decide +kernel
theorem dX4_readStatement_17 : decode cX4_readStatement 17 = .ok (.iconst 0, 1) := by decide +kernel
theorem dX4_readStatement_18 : decode cX4_readStatement 18 = .ok (.iastore, 1) := by decide +kernel
theorem dX4_readStatement_19 : decode cX4_readStatement 19 = .ok (.iload_n 1, 1) := by decide +kernel
theorem dX4_readStatement_20 : decode cX4_readStatement 20 = .ok (.istore_n 2, 1) := by decide +kernel
theorem dX4_readStatement_21 : decode cX4_readStatement 21 = .ok (.iload_n 2, 1) := by decide +kernel
theorem dX4_readStatement_22 : decode cX4_readStatement 22 = .ok (.aload_n 0, 1) := by decide +kernel
theorem dX4_readStatement_23 : decode cX4_readStatement 23 = .ok (.getfield 21, 3) := by decide +kernel
theorem dX4_readStatement_26 : decode cX4_readStatement 26 = .ok (.if_icmp .ge 91, 3) := by decide +kernel
theorem dX4_readStatement_29 : decode cX4_readStatement 29 = .ok (.aload_n 0, 1) := by decide +kernel
theorem dX4_readStatement_30 : decode cX4_readStatement 30 = .ok (.getfield 11, 3) := by decide +kernel
theorem dX4_readStatement_33 : decode cX4_readStatement 33 = .ok (.iload_n 2, 1) := by decide +kernel
theorem dX4_readStatement_34 : decode cX4_readStatement 34 = .ok (.iaload, 1) := by decide +kernel
theorem dX4_readStatement_35 : decode cX4_readStatement 35 = .ok (.bipush 59, 2) := by decide +kernel
theorem dX4_readStatement_37 : decode cX4_readStatement 37 = .ok (.if_icmp .ne 7, 3) := by decide +kernel
theorem dX4_readStatement_40 : decode cX4_readStatement 40 = .ok (.iload_n 2, 1) := by decide +kernel
theorem dX4_readStatement_41 : decode cX4_readStatement 41 = .ok (.iconst 1, 1) := by decide +kernel
theorem dX4_readStatement_42 : decode cX4_readStatement 42 = .ok (.iadd, 1) := by decide +kernel
theorem dX4_readStatement_43 : decode cX4_readStatement 43 = .ok (.ireturn, 1) := by decide +kernel
theorem dX4_readStatement_44 : decode cX4_readStatement 44 = .ok (.aload_n 0, 1) := by decide +kernel
theorem dX4_readStatement_45 : decode cX4_readStatement 45 = .ok (.getfield 11, 3) := by decide +kernel
theorem dX4_readStatement_48 : decode cX4_readStatement 48 = .ok (.iload_n 2, 1) := by decide +kernel
theorem dX4_readStatement_49 : decode cX4_readStatement 49 = .ok (.iaload, 1) := by decide +kernel
theorem dX4_readStatement_50 : decode cX4_readStatement 50 = .ok (.bipush 32, 2) := by decide +kernel
theorem dX4_readStatement_52 : decode cX4_readStatement 52 = .ok (.if_icmp .eq 19, 3) := by decide +kernel
theorem dX4_readStatement_55 : decode cX4_readStatement 55 = .ok (.aload_n 0, 1) := by decide +kernel
theorem dX4_readStatement_56 : decode cX4_readStatement 56 = .ok (.getfield 18, 3) := by decide +kernel
theorem dX4_readStatement_59 : decode cX4_readStatement 59 = .ok (.aload_n 0, 1) := by decide +kernel
theorem dX4_readStatement_60 : decode cX4_readStatement 60 = .ok (.getfield 36, 3) := by decide +kernel
theorem dX4_readStatement_63 : decode cX4_readStatement 63 = .ok (.dup2, 1) := by decide +kernel
theorem dX4_readStatement_64 : decode cX4_readStatement 64 = .ok (.iaload, 1) := by decide +kernel
theorem dX4_readStatement_65 : decode cX4_readStatement 65 = .ok (.iconst 1, 1) := by decide +kernel
theorem dX4_readStatement_66 : decode cX4_readStatement 66 = .ok (.iadd, 1) := by decide +kernel
theorem dX4_readStatement_67 : decode cX4_readStatement 67 = .ok (.iastore, 1) := by decide +kernel
theorem dX4_readStatement_68 : decode cX4_readStatement 68 = .ok (.goto 43, 3) := by decide +kernel
theorem dX4_readStatement_71 : decode cX4_readStatement 71 = .ok (.aload_n 0, 1) := by decide +kernel
theorem dX4_readStatement_72 : decode cX4_readStatement 72 = .ok (.getfield 36, 3) := by decide +kernel
theorem dX4_readStatement_75 : decode cX4_readStatement 75 = .ok (.iconst 3, 1) := by decide +kernel
theorem dX4_readStatement_76 : decode cX4_readStatement 76 = .ok (.if_icmp .ge 35, 3) := by decide +kernel
theorem dX4_readStatement_79 : decode cX4_readStatement 79 = .ok (.aload_n 0, 1) := by decide +kernel
theorem dX4_readStatement_80 : decode cX4_readStatement 80 = .ok (.dup, 1) := by decide +kernel
theorem dX4_readStatement_81 : decode cX4_readStatement 81 = .ok (.getfield 36, 3) := by decide +kernel
theorem dX4_readStatement_84 : decode cX4_readStatement 84 = .ok (.iconst 1, 1) := by decide +kernel
theorem dX4_readStatement_85 : decode cX4_readStatement 85 = .ok (.iadd, 1) := by decide +kernel
theorem dX4_readStatement_86 : decode cX4_readStatement 86 = .ok (.putfield 36, 3) := by decide +kernel
theorem dX4_readStatement_89 : decode cX4_readStatement 89 = .ok (.aload_n 0, 1) := by decide +kernel
theorem dX4_readStatement_90 : decode cX4_readStatement 90 = .ok (.getfield 15, 3) := by decide +kernel
theorem dX4_readStatement_93 : decode cX4_readStatement 93 = .ok (.aload_n 0, 1) := by decide +kernel
theorem dX4_readStatement_94 : decode cX4_readStatement 94 = .ok (.getfield 36, 3) := by decide +kernel
theorem dX4_readStatement_97 : decode cX4_readStatement 97 = .ok (.iload_n 2, 1) := by decide +kernel
theorem dX4_readStatement_98 : decode cX4_readStatement 98 = .ok (.iconst 1, 1) := by decide +kernel
theorem dX4_readStatement_99 : decode cX4_readStatement 99 = .ok (.iadd, 1) := by decide +kernel
theorem dX4_readStatement_100 : decode cX4_readStatement 100 = .ok (.iastore, 1) := by decide +kernel
theorem dX4_readStatement_101 : decode cX4_readStatement 101 = .ok (.aload_n 0, 1) := by decide +kernel
theorem dX4_readStatement_102 : decode cX4_readStatement 102 = .ok (.getfield 18, 3) := by decide +kernel
theorem dX4_readStatement_105 : decode cX4_readStatement 105 = .ok (.aload_n 0, 1) := by decide +kernel
theorem dX4_readStatement_106 : decode cX4_readStatement 106 = .ok (.getfield 36, 3) := by decide +kernel
theorem dX4_readStatement_109 : decode cX4_readStatement 109 = .ok (.iconst 0, 1) := by decide +kernel
theorem dX4_readStatement_110 : decode cX4_readStatement 110 = .ok (.iastore, 1) := by decide +kernel
theorem dX4_readStatement_111 : decode cX4_readStatement 111 = .ok (.iinc 2 1, 3) := by decide +kernel
theorem dX4_readStatement_114 : decode cX4_readStatement 114 = .ok (.goto (-93), 3) := by decide +kernel
theorem dX4_readStatement_117 : decode cX4_readStatement 117 = .ok (.aload_n 0, 1) := by decide +kernel
theorem dX4_readStatement_118 : decode cX4_readStatement 118 = .ok (.getfield 21, 3) := by decide +kernel
theorem dX4_readStatement_121 : decode cX4_readStatement 121 = .ok (.ireturn, 1) := by decide +kernel
theorem dX4_signAt_0 : decode cX4_signAt 0 = .ok (.aload_n 0, 1) := by decide +kernel
theorem dX4_signAt_1 : decode cX4_signAt 1 = .ok (.getfield 15, 3) := by decide +kernel
theorem dX4_signAt_4 : decode cX4_signAt 4 = .ok (.iload_n 1, 1) := by decide +kernel
theorem dX4_signAt_5 : decode cX4_signAt 5 = .ok (.iaload, 1) := by decide +kernel
theorem dX4_signAt_6 : decode cX4_signAt 6 = .ok (.iload_n 2, 1) := by decide +kernel
theorem dX4_signAt_7 : decode cX4_signAt 7 = .ok (.iadd, 1) := by decide +kernel
theorem dX4_signAt_8 : decode cX4_signAt 8 = .ok (.istore_n 3, 1) := by decide +kernel
theorem dX4_signAt_9 : decode cX4_signAt 9 = .ok (.iload_n 3, 1) := by decide +kernel
theorem dX4_signAt_10 : decode cX4_signAt 10 = .ok (.aload_n 0, 1) := by decide +kernel
theorem dX4_signAt_11 : decode cX4_signAt 11 = .ok (.getfield 21, 3) := by decide +kernel
theorem dX4_signAt_14 : decode cX4_signAt 14 = .ok (.if_icmp .ge 12, 3) := by decide +kernel
theorem dX4_signAt_17 : decode cX4_signAt 17 = .ok (.aload_n 0, 1) := by decide +kernel
theorem dX4_signAt_18 : decode cX4_signAt 18 = .ok (.getfield 11, 3) := by decide +kernel
theorem dX4_signAt_21 : decode cX4_signAt 21 = .ok (.iload_n 3, 1) := by decide +kernel
theorem dX4_signAt_22 : decode cX4_signAt 22 = .ok (.iaload, 1) := by decide +kernel
theorem dX4_signAt_23 : decode cX4_signAt 23 = .ok (.goto 4, 3) := by decide +kernel
theorem dX4_signAt_26 : decode cX4_signAt 26 = .ok (.iconst 0, 1) := by decide +kernel
theorem dX4_signAt_27 : decode cX4_signAt 27 = .ok (.ireturn, 1) := by decide +kernel
theorem dX4_number_0 : decode cX4_number 0 = .ok (.iload_n 1, 1) := by decide +kernel
theorem dX4_number_1 : decode cX4_number 1 = .ok (.aload_n 0, 1) := by decide +kernel
theorem dX4_number_2 : decode cX4_number 2 = .ok (.getfield 36, 3) := by decide +kernel
theorem dX4_number_5 : decode cX4_number 5 = .ok (.if_icmp .gt 13, 3) := by decide +kernel
theorem dX4_number_8 : decode cX4_number 8 = .ok (.aload_n 0, 1) := by decide +kernel
theorem dX4_number_9 : decode cX4_number 9 = .ok (.getfield 18, 3) := by decide +kernel
theorem dX4_number_12 : decode cX4_number 12 = .ok (.iload_n 1, 1) := by decide +kernel
theorem dX4_number_13 : decode cX4_number 13 = .ok (.iaload, 1) := by decide +kernel
theorem dX4_number_14 : decode cX4_number 14 = .ok (.iconst 1, 1) := by decide +kernel
theorem dX4_number_15 : decode cX4_number 15 = .ok (.if_icmp .ge 5, 3) := by decide +kernel
theorem dX4_number_18 : decode cX4_number 18 = .ok (.iconst (-1), 1) := by decide +kernel
theorem dX4_number_19 : decode cX4_number 19 = .ok (.ireturn, 1) := by decide +kernel
theorem dX4_number_20 : decode cX4_number 20 = .ok (.iconst 0, 1) := by decide +kernel
theorem dX4_number_21 : decode cX4_number 21 = .ok (.istore_n 3, 1) := by decide +kernel
theorem dX4_number_22 : decode cX4_number 22 = .ok (.iconst 0, 1) := by decide +kernel
theorem dX4_number_23 : decode cX4_number 23 = .ok (.istore 4, 2) := by decide +kernel
theorem dX4_number_25 : decode cX4_number 25 = .ok (.iload 4, 2) := by decide +kernel
theorem dX4_number_27 : decode cX4_number 27 = .ok (.aload_n 0, 1) := by decide +kernel
theorem dX4_number_28 : decode cX4_number 28 = .ok (.getfield 18, 3) := by decide +kernel
theorem dX4_number_31 : decode cX4_number 31 = .ok (.iload_n 1, 1) := by decide +kernel
theorem dX4_number_32 : decode cX4_number 32 = .ok (.iaload, 1) := by decide +kernel
theorem dX4_number_33 : decode cX4_number 33 = .ok (.if_icmp .ge 39, 3) := by decide +kernel
theorem dX4_number_36 : decode cX4_number 36 = .ok (.aload_n 0, 1) := by decide +kernel
theorem dX4_number_37 : decode cX4_number 37 = .ok (.iload_n 1, 1) := by decide +kernel
theorem dX4_number_38 : decode cX4_number 38 = .ok (.iload 4, 2) := by decide +kernel
theorem dX4_number_40 : decode cX4_number 40 = .ok (.invokevirtual 128, 3) := by decide +kernel
theorem dX4_number_43 : decode cX4_number 43 = .ok (.istore 5, 2) := by decide +kernel
theorem dX4_number_45 : decode cX4_number 45 = .ok (.iload 5, 2) := by decide +kernel
theorem dX4_number_47 : decode cX4_number 47 = .ok (.invokestatic 33, 3) := by decide +kernel
theorem dX4_number_50 : decode cX4_number 50 = .ok (.ifCond .ne 5, 3) := by decide +kernel
theorem dX4_number_53 : decode cX4_number 53 = .ok (.iconst (-1), 1) := by decide +kernel
theorem dX4_number_54 : decode cX4_number 54 = .ok (.ireturn, 1) := by decide +kernel
theorem dX4_number_55 : decode cX4_number 55 = .ok (.bipush 10, 2) := by decide +kernel
theorem dX4_number_57 : decode cX4_number 57 = .ok (.iload_n 3, 1) := by decide +kernel
theorem dX4_number_58 : decode cX4_number 58 = .ok (.imul, 1) := by decide +kernel
theorem dX4_number_59 : decode cX4_number 59 = .ok (.iload 5, 2) := by decide +kernel
theorem dX4_number_61 : decode cX4_number 61 = .ok (.iadd, 1) := by decide +kernel
theorem dX4_number_62 : decode cX4_number 62 = .ok (.bipush 48, 2) := by decide +kernel
theorem dX4_number_64 : decode cX4_number 64 = .ok (.isub, 1) := by decide +kernel
theorem dX4_number_65 : decode cX4_number 65 = .ok (.istore_n 3, 1) := by decide +kernel
