theorem dJ3_checkIndex_8e157_0 : decode cJ3_checkIndex_8e157 0 = .ok (.iload_n 0, 1) := by decide +kernel
theorem dJ3_checkIndex_8e157_1 : decode cJ3_checkIndex_8e157 1 = .ok (.ifCond .lt 8, 3) := by decide +kernel
theorem dJ3_checkIndex_8e157_4 : decode cJ3_checkIndex_8e157 4 = .ok (.iload_n 0, 1) := by decide +kernel
theorem dJ3_checkIndex_8e157_5 : decode cJ3_checkIndex_8e157 5 = .ok (.iload_n 1, 1) := by decide +kernel
theorem dJ3_checkIndex_8e157_6 : decode cJ3_checkIndex_8e157 6 = .ok (.if_icmp .lt 10, 3) := by decide +kernel
theorem dJ3_checkIndex_8e157_9 : decode cJ3_checkIndex_8e157 9 = .ok (.aload_n 2, 1) := by decide +kernel
theorem dJ3_checkIndex_8e157_10 : decode cJ3_checkIndex_8e157 10 = .ok (.iload_n 0, 1) := by decide +kernel
theorem dJ3_checkIndex_8e157_11 : decode cJ3_checkIndex_8e157 11 = .ok (.iload_n 1, 1) := by decide +kernel
theorem dJ3_checkIndex_8e157_12 : decode cJ3_checkIndex_8e157 12 = .ok (.invokestatic 95, 3) := by decide +kernel
theorem dJ3_checkIndex_8e157_15 : decode cJ3_checkIndex_8e157 15 = .ok (.athrow, 1) := by decide +kernel
theorem dJ3_checkIndex_8e157_16 : decode cJ3_checkIndex_8e157 16 = .ok (.iload_n 0, 1) := by decide +kernel
theorem dJ3_checkIndex_8e157_17 : decode cJ3_checkIndex_8e157 17 = .ok (.ireturn, 1) := by decide +kernel
theorem dJ0_checkIndex_df160_0 : decode cJ0_checkIndex_df160 0 = .ok (.iload_n 0, 1) := by decide +kernel
theorem dJ0_checkIndex_df160_1 : decode cJ0_checkIndex_df160 1 = .ok (.iload_n 1, 1) := by decide +kernel
theorem dJ0_checkIndex_df160_2 : decode cJ0_checkIndex_df160 2 = .ok (.getstatic 1053, 3) := by decide +kernel
theorem dJ0_checkIndex_df160_5 : decode cJ0_checkIndex_df160 5 = .ok (.invokestatic 1059, 3) := by decide +kernel
theorem dJ0_checkIndex_df160_8 : decode cJ0_checkIndex_df160 8 = .ok (.pop, 1) := by decide +kernel
theorem dJ0_checkIndex_df160_9 : decode cJ0_checkIndex_df160 9 = .ok (.return_, 1) := by decide +kernel
theorem dJ0_coder_7d493_0 : decode cJ0_coder_7d493 0 = .ok (.getstatic 38, 3) := by decide +kernel
theorem dJ0_coder_7d493_3 : decode cJ0_coder_7d493 3 = .ok (.ifCond .eq 10, 3) := by decide +kernel
theorem dJ0_coder_7d493_6 : decode cJ0_coder_7d493 6 = .ok (.aload_n 0, 1) := by decide +kernel
theorem dJ0_coder_7d493_7 : decode cJ0_coder_7d493 7 = .ok (.getfield 15, 3) := by decide +kernel
theorem dJ0_coder_7d493_10 : decode cJ0_coder_7d493 10 = .ok (.goto 4, 3) := by decide +kernel
theorem dJ0_coder_7d493_13 : decode cJ0_coder_7d493 13 = .ok (.iconst 1, 1) := by decide +kernel
theorem dJ0_coder_7d493_14 : decode cJ0_coder_7d493 14 = .ok (.ireturn, 1) := by decide +kernel
theorem dJ0_isLatin1_aae02_0 : decode cJ0_isLatin1_aae02 0 = .ok (.getstatic 38, 3) := by decide +kernel
theorem dJ0_isLatin1_aae02_3 : decode cJ0_isLatin1_aae02 3 = .ok (.ifCond .eq 14, 3) := by decide +kernel
theorem dJ0_isLatin1_aae02_6 : decode cJ0_isLatin1_aae02 6 = .ok (.aload_n 0, 1) := by decide +kernel
theorem dJ0_isLatin1_aae02_7 : decode cJ0_isLatin1_aae02 7 = .ok (.getfield 15, 3) := by decide +kernel
theorem dJ0_isLatin1_aae02_10 : decode cJ0_isLatin1_aae02 10 = .ok (.ifCond .ne 7, 3) := by decide +kernel
theorem dJ0_isLatin1_aae02_13 : decode cJ0_isLatin1_aae02 13 = .ok (.iconst 1, 1) := by decide +kernel
theorem dJ0_isLatin1_aae02_14 : decode cJ0_isLatin1_aae02 14 = .ok (.goto 4, 3) := by decide +kernel
theorem dJ0_isLatin1_aae02_17 : decode cJ0_isLatin1_aae02 17 = .ok (.iconst 0, 1) := by decide +kernel
theorem dJ0_isLatin1_aae02_18 : decode cJ0_isLatin1_aae02 18 = .ok (.ireturn, 1) := by decide +kernel
theorem dJ0_length_8abf5_0 : decode cJ0_length_8abf5 0 = .ok (.aload_n 0, 1) := by decide +kernel
theorem dJ0_length_8abf5_1 : decode cJ0_length_8abf5 1 = .ok (.getfield 9, 3) := by decide +kernel
theorem dJ0_length_8abf5_4 : decode cJ0_length_8abf5 4 = .ok (.arraylength, 1) := by decide +kernel
theorem dJ0_length_8abf5_5 : decode cJ0_length_8abf5 5 = .ok (.aload_n 0, 1) := by decide +kernel
theorem dJ0_length_8abf5_6 : decode cJ0_length_8abf5 6 = .ok (.invokevirtual 335, 3) := by decide +kernel
theorem dJ0_length_8abf5_9 : decode cJ0_length_8abf5 9 = .ok (.ishr, 1) := by decide +kernel
theorem dJ0_length_8abf5_10 : decode cJ0_length_8abf5 10 = .ok (.ireturn, 1) := by decide +kernel
theorem dJ1_charAt_3b067_0 : decode cJ1_charAt_3b067 0 = .ok (.iload_n 1, 1) := by decide +kernel
theorem dJ1_charAt_3b067_1 : decode cJ1_charAt_3b067 1 = .ok (.aload_n 0, 1) := by decide +kernel
theorem dJ1_charAt_3b067_2 : decode cJ1_charAt_3b067 2 = .ok (.arraylength, 1) := by decide +kernel
theorem dJ1_charAt_3b067_3 : decode cJ1_charAt_3b067 3 = .ok (.invokestatic 9, 3) := by decide +kernel
theorem dJ1_charAt_3b067_6 : decode cJ1_charAt_3b067 6 = .ok (.aload_n 0, 1) := by decide +kernel
theorem dJ1_charAt_3b067_7 : decode cJ1_charAt_3b067 7 = .ok (.iload_n 1, 1) := by decide +kernel
theorem dJ1_charAt_3b067_8 : decode cJ1_charAt_3b067 8 = .ok (.baload, 1) := by decide +kernel
theorem dJ1_charAt_3b067_9 : decode cJ1_charAt_3b067 9 = .ok (.sipush 255, 3) := by decide +kernel
theorem dJ1_charAt_3b067_12 : decode cJ1_charAt_3b067 12 = .ok (.iand, 1) := by decide +kernel
theorem dJ1_charAt_3b067_13 : decode cJ1_charAt_3b067 13 = .ok (.i2c, 1) := by decide +kernel
theorem dJ1_charAt_3b067_14 : decode cJ1_charAt_3b067 14 = .ok (.ireturn, 1) := by decide +kernel
theorem dJ0_charAt_5068e_0 : decode cJ0_charAt_5068e 0 = .ok (.aload_n 0, 1) := by decide +kernel
theorem dJ0_charAt_5068e_1 : decode cJ0_charAt_5068e 1 = .ok (.invokevirtual 492, 3) := by decide +kernel
theorem dJ0_charAt_5068e_4 : decode cJ0_charAt_5068e 4 = .ok (.ifCond .eq 12, 3) := by decide +kernel
theorem dJ0_charAt_5068e_7 : decode cJ0_charAt_5068e 7 = .ok (.aload_n 0, 1) := by decide +kernel
theorem dJ0_charAt_5068e_8 : decode cJ0_charAt_5068e 8 = .ok (.getfield 9, 3) := by decide +kernel
theorem dJ0_charAt_5068e_11 : decode cJ0_charAt_5068e 11 = .ok (.iload_n 1, 1) := by decide +kernel
theorem dJ0_charAt_5068e_12 : decode cJ0_charAt_5068e 12 = .ok (.invokestatic 495, 3) := by decide +kernel
theorem dJ0_charAt_5068e_15 : decode cJ0_charAt_5068e 15 = .ok (.ireturn, 1) := by decide +kernel
theorem dJ0_charAt_5068e_16 : decode cJ0_charAt_5068e 16 = .ok (.aload_n 0, 1) := by decide +kernel
theorem dJ0_charAt_5068e_17 : decode cJ0_charAt_5068e 17 = .ok (.getfield 9, 3) := by decide +kernel
theorem dJ0_charAt_5068e_20 : decode cJ0_charAt_5068e 20 = .ok (.iload_n 1, 1) := by decide +kernel
theorem dJ0_charAt_5068e_21 : decode cJ0_charAt_5068e 21 = .ok (.invokestatic 498, 3) := by decide +kernel
theorem dJ0_charAt_5068e_24 : decode cJ0_charAt_5068e 24 = .ok (.ireturn, 1) := by decide +kernel
theorem dX4_isAt_0 : decode cX4_isAt 0 = .ok (.iconst 0, 1) := by decide +kernel
theorem dX4_isAt_1 : decode cX4_isAt 1 = .ok (.istore 4, 2) := by decide +kernel
theorem dX4_isAt_3 : decode cX4_isAt 3 = .ok (.iload 4, 2) := by decide +kernel
theorem dX4_isAt_5 : decode cX4_isAt 5 = .ok (.aload_n 0, 1) := by decide +kernel
theorem dX4_isAt_6 : decode cX4_isAt 6 = .ok (.getfield 18, 3) := by decide +kernel
theorem dX4_isAt_9 : decode cX4_isAt 9 = .ok (.iload_n 1, 1) := by decide +kernel
theorem dX4_isAt_10 : decode cX4_isAt 10 = .ok (.iaload, 1) := by decide +kernel
theorem dX4_isAt_11 : decode cX4_isAt 11 = .ok (.if_icmp .ge 40, 3) := by decide +kernel
theorem dX4_isAt_14 : decode cX4_isAt 14 = .ok (.iload_n 3, 1) := by decide +kernel
theorem dX4_isAt_15 : decode cX4_isAt 15 = .ok (.iload 4, 2) := by decide +kernel
theorem dX4_isAt_17 : decode cX4_isAt 17 = .ok (.iadd, 1) := by decide +kernel
theorem dX4_isAt_18 : decode cX4_isAt 18 = .ok (.aload_n 2, 1) := by decide +kernel
theorem dX4_isAt_19 : decode cX4_isAt 19 = .ok (.invokevirtual 131, 3) := by decide +kernel
theorem dX4_isAt_22 : decode cX4_isAt 22 = .ok (.if_icmp .ge 29, 3) := by decide +kernel
theorem dX4_isAt_25 : decode cX4_isAt 25 = .ok (.aload_n 0, 1) := by decide +kernel
theorem dX4_isAt_26 : decode cX4_isAt 26 = .ok (.iload_n 1, 1) := by decide +kernel
theorem dX4_isAt_27 : decode cX4_isAt 27 = .ok (.iload 4, 2) := by decide +kernel
theorem dX4_isAt_29 : decode cX4_isAt 29 = .ok (.invokevirtual 128, 3) := by decide +kernel
theorem dX4_isAt_32 : decode cX4_isAt 32 = .ok (.aload_n 2, 1) := by decide +kernel
theorem dX4_isAt_33 : decode cX4_isAt 33 = .ok (.iload_n 3, 1) := by decide +kernel
theorem dX4_isAt_34 : decode cX4_isAt 34 = .ok (.iload 4, 2) := by decide +kernel
theorem dX4_isAt_36 : decode cX4_isAt 36 = .ok (.iadd, 1) := by decide +kernel
theorem dX4_isAt_37 : decode cX4_isAt 37 = .ok (.invokevirtual 136, 3) := by decide +kernel
theorem dX4_isAt_40 : decode cX4_isAt 40 = .ok (.if_icmp .eq 5, 3) := by decide +kernel
theorem dX4_isAt_43 : decode cX4_isAt 43 = .ok (.iconst 0, 1) := by decide +kernel
theorem dX4_isAt_44 : decode cX4_isAt 44 = .ok (.ireturn, 1) := by decide +kernel
theorem dX4_isAt_45 : decode cX4_isAt 45 = .ok (.iinc 4 1, 3) := by decide +kernel
theorem dX4_isAt_48 : decode cX4_isAt 48 = .ok (.goto (-45), 3) := by decide +kernel
theorem dX4_isAt_51 : decode cX4_isAt 51 = .ok (.iconst 1, 1) := by decide +kernel
theorem dX4_isAt_52 : decode cX4_isAt 52 = .ok (.ireturn, 1) := by decide +kernel
theorem dX4_placeAmong_0 : decode cX4_placeAmong 0 = .ok (.iconst 0, 1) := by decide +kernel
theorem dX4_placeAmong_1 : decode cX4_placeAmong 1 = .ok (.istore_n 3, 1) := by decide +kernel
theorem dX4_placeAmong_2 : decode cX4_placeAmong 2 = .ok (.iconst 0, 1) := by decide +kernel
theorem dX4_placeAmong_3 : decode cX4_placeAmong 3 = .ok (.istore 4, 2) := by decide +kernel
theorem dX4_placeAmong_5 : decode cX4_placeAmong 5 = .ok (.iconst 0, 1) := by decide +kernel
theorem dX4_placeAmong_6 : decode cX4_placeAmong 6 = .ok (.istore 5, 2) := by decide +kernel
theorem dX4_placeAmong_8 : decode cX4_placeAmong 8 = .ok (.iload 5, 2) := by decide +kernel
theorem dX4_placeAmong_10 : decode cX4_placeAmong 10 = .ok (.aload_n 2, 1) := by decide +kernel
theorem dX4_placeAmong_11 : decode cX4_placeAmong 11 = .ok (.invokevirtual 131, 3) := by decide +kernel
theorem dX4_placeAmong_14 : decode cX4_placeAmong 14 = .ok (.if_icmp .gt 73, 3) := by decide +kernel
theorem dX4_placeAmong_17 : decode cX4_placeAmong 17 = .ok (.iload 5, 2) := by decide +kernel
theorem dX4_placeAmong_19 : decode cX4_placeAmong 19 = .ok (.aload_n 2, 1) := by decide +kernel
theorem dX4_placeAmong_20 : decode cX4_placeAmong 20 = .ok (.invokevirtual 131, 3) := by decide +kernel
theorem dX4_placeAmong_23 : decode cX4_placeAmong 23 = .ok (.if_icmp .eq 14, 3) := by decide +kernel
theorem dX4_placeAmong_26 : decode cX4_placeAmong 26 = .ok (.aload_n 2, 1) := by decide +kernel
theorem dX4_placeAmong_27 : decode cX4_placeAmong 27 = .ok (.iload 5, 2) := by decide +kernel
theorem dX4_placeAmong_29 : decode cX4_placeAmong 29 = .ok (.invokevirtual 136, 3) := by decide +kernel
theorem dX4_placeAmong_32 : decode cX4_placeAmong 32 = .ok (.bipush 32, 2) := by decide +kernel
theorem dX4_placeAmong_34 : decode cX4_placeAmong 34 = .ok (.if_icmp .ne 47, 3) := by decide +kernel
theorem dX4_placeAmong_37 : decode cX4_placeAmong 37 = .ok (.iload_n 1, 1) := by decide +kernel
theorem dX4_placeAmong_38 : decode cX4_placeAmong 38 = .ok (.aload_n 0, 1) := by decide +kernel
theorem dX4_placeAmong_39 : decode cX4_placeAmong 39 = .ok (.getfield 36, 3) := by decide +kernel
theorem dX4_placeAmong_42 : decode cX4_placeAmong 42 = .ok (.if_icmp .gt 30, 3) := by decide +kernel
theorem dX4_placeAmong_45 : decode cX4_placeAmong 45 = .ok (.aload_n 0, 1) := by decide +kernel
theorem dX4_placeAmong_46 : decode cX4_placeAmong 46 = .ok (.getfield 18, 3) := by decide +kernel
theorem dX4_placeAmong_49 : decode cX4_placeAmong 49 = .ok (.iload_n 1, 1) := by decide +kernel
theorem dX4_placeAmong_50 : decode cX4_placeAmong 50 = .ok (.iaload, 1) := by decide +kernel
theorem dX4_placeAmong_51 : decode cX4_placeAmong 51 = .ok (.iload 5, 2) := by decide +kernel
theorem dX4_placeAmong_53 : decode cX4_placeAmong 53 = .ok (.iload 4, 2) := by decide +kernel
theorem dX4_placeAmong_55 : decode cX4_placeAmong 55 = .ok (.isub, 1) := by decide +kernel
theorem dX4_placeAmong_56 : decode cX4_placeAmong 56 = .ok (.if_icmp .ne 16, 3) := by decide +kernel
theorem dX4_placeAmong_59 : decode cX4_placeAmong 59 = .ok (.aload_n 0, 1) := by decide +kernel
theorem dX4_placeAmong_60 : decode cX4_placeAmong 60 = .ok (.iload_n 1, 1) := by decide +kernel
theorem dX4_placeAmong_61 : decode cX4_placeAmong 61 = .ok (.aload_n 2, 1) := by decide +kernel
theorem dX4_placeAmong_62 : decode cX4_placeAmong 62 = .ok (.iload 4, 2) := by decide +kernel
theorem dX4_placeAmong_64 : decode cX4_placeAmong 64 = .ok (.invokevirtual 140, 3) := by decide +kernel
theorem dX4_placeAmong_67 : decode cX4_placeAmong 67 = .ok (.ifCond .eq 5, 3) := by decide +kernel
theorem dX4_placeAmong_70 : decode cX4_placeAmong 70 = .ok (.iload_n 3, 1) := by decide +kernel
theorem dX4_placeAmong_71 : decode cX4_placeAmong 71 = .ok (.ireturn, 1) := by decide +kernel
theorem dX4_placeAmong_72 : decode cX4_placeAmong 72 = .ok (.iinc 3 1, 3) := by decide +kernel
theorem dX4_placeAmong_75 : decode cX4_placeAmong 75 = .ok (.iload 5, 2) := by decide +kernel
theorem dX4_placeAmong_77 : decode cX4_placeAmong 77 = .ok (.iconst 1, 1) := by decide +kernel
theorem dX4_placeAmong_78 : decode cX4_placeAmong 78 = .ok (.iadd, 1) := by decide +kernel
theorem dX4_placeAmong_79 : decode cX4_placeAmong 79 = .ok (.istore 4, 2) := by decide +kernel
theorem dX4_placeAmong_81 : decode cX4_placeAmong 81 = .ok (.iinc 5 1, 3) := by decide +kernel
theorem dX4_placeAmong_84 : decode cX4_placeAmong 84 = .ok (.goto (-76), 3) := by decide +kernel
theorem dX4_placeAmong_87 : decode cX4_placeAmong 87 = .ok (.iconst (-1), 1) := by decide +kernel
theorem dX4_placeAmong_88 : decode cX4_placeAmong 88 = .ok (.ireturn, 1) := by decide +kernel
theorem dX4_headTurns_0 : decode cX4_headTurns 0 = .ok (.aload_n 0, 1) := by decide +kernel
theorem dX4_headTurns_1 : decode cX4_headTurns 1 = .ok (.iconst 1, 1) := by decide +kernel
theorem dX4_headTurns_2 : decode cX4_headTurns 2 = .ok (.aload_n 1, 1) := by decide +kernel
theorem dX4_headTurns_3 : decode cX4_headTurns 3 = .ok (.getfield 100, 3) := by decide +kernel
theorem dX4_headTurns_6 : decode cX4_headTurns 6 = .ok (.iconst 1, 1) := by decide +kernel
theorem dX4_headTurns_7 : decode cX4_headTurns 7 = .ok (.isub, 1) := by decide +kernel
theorem dX4_headTurns_8 : decode cX4_headTurns 8 = .ok (.invokevirtual 70, 3) := by decide +kernel
theorem dX4_headTurns_11 : decode cX4_headTurns 11 = .ok (.istore_n 2, 1) := by decide +kernel
theorem dX4_headTurns_12 : decode cX4_headTurns 12 = .ok (.aload_n 0, 1) := by decide +kernel
theorem dX4_headTurns_13 : decode cX4_headTurns 13 = .ok (.iconst 2, 1) := by decide +kernel
theorem dX4_headTurns_14 : decode cX4_headTurns 14 = .ok (.ldc 103, 2) := by decide +kernel
theorem dX4_headTurns_16 : decode cX4_headTurns 16 = .ok (.invokevirtual 41, 3) := by decide +kernel
theorem dX4_headTurns_19 : decode cX4_headTurns 19 = .ok (.istore_n 3, 1) := by decide +kernel
theorem dX4_headTurns_20 : decode cX4_headTurns 20 = .ok (.aload_n 0, 1) := by decide +kernel
theorem dX4_headTurns_21 : decode cX4_headTurns 21 = .ok (.getfield 36, 3) := by decide +kernel
theorem dX4_headTurns_24 : decode cX4_headTurns 24 = .ok (.iconst 2, 1) := by decide +kernel
theorem dX4_headTurns_25 : decode cX4_headTurns 25 = .ok (.if_icmp .ne 11, 3) := by decide +kernel
theorem dX4_headTurns_28 : decode cX4_headTurns 28 = .ok (.iload_n 2, 1) := by decide +kernel
theorem dX4_headTurns_29 : decode cX4_headTurns 29 = .ok (.ifCond .lt 7, 3) := by decide +kernel
theorem dX4_headTurns_32 : decode cX4_headTurns 32 = .ok (.iload_n 3, 1) := by decide +kernel
theorem dX4_headTurns_33 : decode cX4_headTurns 33 = .ok (.ifCond .ge 5, 3) := by decide +kernel
theorem dX4_headTurns_36 : decode cX4_headTurns 36 = .ok (.iconst 0, 1) := by decide +kernel
theorem dX4_headTurns_37 : decode cX4_headTurns 37 = .ok (.ireturn, 1) := by decide +kernel
theorem dX4_headTurns_38 : decode cX4_headTurns 38 = .ok (.aload_n 1, 1) := by decide +kernel
theorem dX4_headTurns_39 : decode cX4_headTurns 39 = .ok (.getfield 105, 3) := by decide +kernel
theorem dX4_headTurns_42 : decode cX4_headTurns 42 = .ok (.iload_n 2, 1) := by decide +kernel
theorem dX4_headTurns_43 : decode cX4_headTurns 43 = .ok (.aaload, 1) := by decide +kernel
theorem dX4_headTurns_44 : decode cX4_headTurns 44 = .ok (.iload_n 3, 1) := by decide +kernel
theorem dX4_headTurns_45 : decode cX4_headTurns 45 = .ok (.putfield 109, 3) := by decide +kernel
theorem dX4_headTurns_48 : decode cX4_headTurns 48 = .ok (.iconst 1, 1) := by decide +kernel
theorem dX4_headTurns_49 : decode cX4_headTurns 49 = .ok (.ireturn, 1) := by decide +kernel
theorem dX4_wordComes_0 : decode cX4_wordComes 0 = .ok (.aload_n 0, 1) := by decide +kernel
theorem dX4_wordComes_1 : decode cX4_wordComes 1 = .ok (.iconst 1, 1) := by decide +kernel
theorem dX4_wordComes_2 : decode cX4_wordComes 2 = .ok (.aload_n 1, 1) := by decide +kernel
theorem dX4_wordComes_3 : decode cX4_wordComes 3 = .ok (.getfield 100, 3) := by decide +kernel
theorem dX4_wordComes_6 : decode cX4_wordComes 6 = .ok (.iconst 1, 1) := by decide +kernel
theorem dX4_wordComes_7 : decode cX4_wordComes 7 = .ok (.isub, 1) := by decide +kernel
theorem dX4_wordComes_8 : decode cX4_wordComes 8 = .ok (.invokevirtual 70, 3) := by decide +kernel
theorem dX4_wordComes_11 : decode cX4_wordComes 11 = .ok (.istore_n 2, 1) := by decide +kernel
theorem dX4_wordComes_12 : decode cX4_wordComes 12 = .ok (.aload_n 0, 1) := by decide +kernel
theorem dX4_wordComes_13 : decode cX4_wordComes 13 = .ok (.iconst 2, 1) := by decide +kernel
theorem dX4_wordComes_14 : decode cX4_wordComes 14 = .ok (.ldc 114, 2) := by decide +kernel
theorem dX4_wordComes_16 : decode cX4_wordComes 16 = .ok (.invokevirtual 41, 3) := by decide +kernel
theorem dX4_wordComes_19 : decode cX4_wordComes 19 = .ok (.istore_n 3, 1) := by decide +kernel
theorem dX4_wordComes_20 : decode cX4_wordComes 20 = .ok (.aload_n 0, 1) := by decide +kernel
theorem dX4_wordComes_21 : decode cX4_wordComes 21 = .ok (.getfield 36, 3) := by decide +kernel
theorem dX4_wordComes_24 : decode cX4_wordComes 24 = .ok (.iconst 2, 1) := by decide +kernel
theorem dX4_wordComes_25 : decode cX4_wordComes 25 = .ok (.if_icmp .ne 11, 3) := by decide +kernel
theorem dX4_wordComes_28 : decode cX4_wordComes 28 = .ok (.iload_n 2, 1) := by decide +kernel
theorem dX4_wordComes_29 : decode cX4_wordComes 29 = .ok (.ifCond .lt 7, 3) := by decide +kernel
theorem dX4_wordComes_32 : decode cX4_wordComes 32 = .ok (.iload_n 3, 1) := by decide +kernel
theorem dX4_wordComes_33 : decode cX4_wordComes 33 = .ok (.ifCond .ge 5, 3) := by decide +kernel
theorem dX4_wordComes_36 : decode cX4_wordComes 36 = .ok (.iconst 0, 1) := by decide +kernel
theorem dX4_wordComes_37 : decode cX4_wordComes 37 = .ok (.ireturn, 1) := by decide +kernel
theorem dX4_wordComes_38 : decode cX4_wordComes 38 = .ok (.aload_n 1, 1) := by decide +kernel
theorem dX4_wordComes_39 : decode cX4_wordComes 39 = .ok (.getfield 105, 3) := by decide +kernel
theorem dX4_wordComes_42 : decode cX4_wordComes 42 = .ok (.iload_n 2, 1) := by decide +kernel
theorem dX4_wordComes_43 : decode cX4_wordComes 43 = .ok (.aaload, 1) := by decide +kernel
theorem dX4_wordComes_44 : decode cX4_wordComes 44 = .ok (.iload_n 3, 1) := by decide +kernel
theorem dX4_wordComes_45 : decode cX4_wordComes 45 = .ok (.putfield 116, 3) := by decide +kernel
theorem dX4_wordComes_48 : decode cX4_wordComes 48 = .ok (.iconst 1, 1) := by decide +kernel
theorem dX4_wordComes_49 : decode cX4_wordComes 49 = .ok (.ireturn, 1) := by decide +kernel
theorem dX4_comesTo_0 : decode cX4_comesTo 0 = .ok (.aload_n 0, 1) := by decide +kernel
theorem dX4_comesTo_1 : decode cX4_comesTo 1 = .ok (.iconst 0, 1) := by decide +kernel
theorem dX4_comesTo_2 : decode cX4_comesTo 2 = .ok (.ldc 39, 2) := by decide +kernel
theorem dX4_comesTo_4 : decode cX4_comesTo 4 = .ok (.invokevirtual 41, 3) := by decide +kernel
theorem dX4_comesTo_7 : decode cX4_comesTo 7 = .ok (.istore_n 2, 1) := by decide +kernel
theorem dX4_comesTo_8 : decode cX4_comesTo 8 = .ok (.iload_n 2, 1) := by decide +kernel
theorem dX4_comesTo_9 : decode cX4_comesTo 9 = .ok (.ifCond .lt 10, 3) := by decide +kernel
theorem dX4_comesTo_12 : decode cX4_comesTo 12 = .ok (.aload_n 0, 1) := by decide +kernel
theorem dX4_comesTo_13 : decode cX4_comesTo 13 = .ok (.aload_n 1, 1) := by decide +kernel
theorem dX4_comesTo_14 : decode cX4_comesTo 14 = .ok (.iload_n 2, 1) := by decide +kernel
theorem dX4_comesTo_15 : decode cX4_comesTo 15 = .ok (.invokevirtual 45, 3) := by decide +kernel
theorem dX4_comesTo_18 : decode cX4_comesTo 18 = .ok (.ireturn, 1) := by decide +kernel
theorem dX4_comesTo_19 : decode cX4_comesTo 19 = .ok (.aload_n 0, 1) := by decide +kernel
theorem dX4_comesTo_20 : decode cX4_comesTo 20 = .ok (.iconst 0, 1) := by decide +kernel
theorem dX4_comesTo_21 : decode cX4_comesTo 21 = .ok (.ldc 49, 2) := by decide +kernel
theorem dX4_comesTo_23 : decode cX4_comesTo 23 = .ok (.invokevirtual 41, 3) := by decide +kernel
theorem dX4_comesTo_26 : decode cX4_comesTo 26 = .ok (.tableswitch 74 0 5 #[38, 44, 50, 56, 62, 68], 38) := by decide +kernel
theorem dX4_comesTo_64 : decode cX4_comesTo 64 = .ok (.aload_n 0, 1) := by decide +kernel
theorem dX4_comesTo_65 : decode cX4_comesTo 65 = .ok (.aload_n 1, 1) := by decide +kernel
theorem dX4_comesTo_66 : decode cX4_comesTo 66 = .ok (.invokevirtual 51, 3) := by decide +kernel
theorem dX4_comesTo_69 : decode cX4_comesTo 69 = .ok (.ireturn, 1) := by decide +kernel
theorem dX4_comesTo_70 : decode cX4_comesTo 70 = .ok (.aload_n 0, 1) := by decide +kernel
theorem dX4_comesTo_71 : decode cX4_comesTo 71 = .ok (.aload_n 1, 1) := by decide +kernel
theorem dX4_comesTo_72 : decode cX4_comesTo 72 = .ok (.invokevirtual 55, 3) := by decide +kernel
theorem dX4_comesTo_75 : decode cX4_comesTo 75 = .ok (.ireturn, 1) := by decide +kernel
theorem dX4_comesTo_76 : decode cX4_comesTo 76 = .ok (.aload_n 0, 1) := by decide +kernel
theorem dX4_comesTo_77 : decode cX4_comesTo 77 = .ok (.aload_n 1, 1) := by decide +kernel
theorem dX4_comesTo_78 : decode cX4_comesTo 78 = .ok (.invokevirtual 58, 3) := by decide +kernel
theorem dX4_comesTo_81 : decode cX4_comesTo 81 = .ok (.ireturn, 1) := by decide +kernel
theorem dX4_comesTo_82 : decode cX4_comesTo 82 = .ok (.aload_n 0, 1) := by decide +kernel
theorem dX4_comesTo_83 : decode cX4_comesTo 83 = .ok (.aload_n 1, 1) := by decide +kernel
theorem dX4_comesTo_84 : decode cX4_comesTo 84 = .ok (.invokevirtual 61, 3) := by decide +kernel
theorem dX4_comesTo_87 : decode cX4_comesTo 87 = .ok (.ireturn, 1) := by decide +kernel
theorem dX4_comesTo_88 : decode cX4_comesTo 88 = .ok (.aload_n 0, 1) := by decide +kernel
theorem dX4_comesTo_89 : decode cX4_comesTo 89 = .ok (.aload_n 1, 1) := by decide +kernel
theorem dX4_comesTo_90 : decode cX4_comesTo 90 = .ok (.invokevirtual 64, 3) := by decide +kernel
theorem dX4_comesTo_93 : decode cX4_comesTo 93 = .ok (.ireturn, 1) := by decide +kernel
theorem dX4_comesTo_94 : decode cX4_comesTo 94 = .ok (.aload_n 0, 1) := by decide +kernel
theorem dX4_comesTo_95 : decode cX4_comesTo 95 = .ok (.aload_n 1, 1) := by decide +kernel
theorem dX4_comesTo_96 : decode cX4_comesTo 96 = .ok (.invokevirtual 67, 3) := by decide +kernel
theorem dX4_comesTo_99 : decode cX4_comesTo 99 = .ok (.ireturn, 1) := by decide +kernel
theorem dX4_comesTo_100 : decode cX4_comesTo 100 = .ok (.iconst 0, 1) := by decide +kernel
theorem dX4_comesTo_101 : decode cX4_comesTo 101 = .ok (.ireturn, 1) := by decide +kernel
theorem dX6_land_0 : decode cX6_land 0 = .ok (.aload_n 0, 1) := by decide +kernel
theorem dX6_land_1 : decode cX6_land 1 = .ok (.getfield 29, 3) := by decide +kernel
theorem dX6_land_4 : decode cX6_land 4 = .ok (.invokevirtual 79, 3) := by decide +kernel
theorem dX6_land_7 : decode cX6_land 7 = .ok (.istore_n 1, 1) := by decide +kernel
theorem dX6_land_8 : decode cX6_land 8 = .ok (.iload_n 1, 1) := by decide +kernel
theorem dX6_land_9 : decode cX6_land 9 = .ok (.ifCond .ge 7, 3) := by decide +kernel
theorem dX6_land_12 : decode cX6_land 12 = .ok (.iconst 0, 1) := by decide +kernel
theorem dX6_land_13 : decode cX6_land 13 = .ok (.goto 8, 3) := by decide +kernel
theorem dX6_land_16 : decode cX6_land 16 = .ok (.sipush (-1000), 3) := by decide +kernel
theorem dX6_land_19 : decode cX6_land 19 = .ok (.iload_n 1, 1) := by decide +kernel
theorem dX6_land_20 : decode cX6_land 20 = .ok (.isub, 1) := by decide +kernel
theorem dX6_land_21 : decode cX6_land 21 = .ok (.istore_n 2, 1) := by decide +kernel
theorem dX6_land_22 : decode cX6_land 22 = .ok (.aload_n 0, 1) := by decide +kernel
theorem dX6_land_23 : decode cX6_land 23 = .ok (.getfield 36, 3) := by decide +kernel
theorem dX6_land_26 : decode cX6_land 26 = .ok (.aload_n 0, 1) := by decide +kernel
theorem dX6_land_27 : decode cX6_land 27 = .ok (.getfield 10, 3) := by decide +kernel
theorem dX6_land_30 : decode cX6_land 30 = .ok (.invokevirtual 83, 3) := by decide +kernel
theorem dX6_land_33 : decode cX6_land 33 = .ok (.astore_n 3, 1) := by decide +kernel
theorem dX6_land_34 : decode cX6_land 34 = .ok (.iconst 0, 1) := by decide +kernel
theorem dX6_land_35 : decode cX6_land 35 = .ok (.istore 4, 2) := by decide +kernel
theorem dX6_land_37 : decode cX6_land 37 = .ok (.iconst 0, 1) := by decide +kernel
theorem dX6_land_38 : decode cX6_land 38 = .ok (.istore 5, 2) := by decide +kernel
theorem dX6_land_40 : decode cX6_land 40 = .ok (.iload 5, 2) := by decide +kernel
theorem dX6_land_42 : decode cX6_land 42 = .ok (.aload_n 0, 1) := by decide +kernel
theorem dX6_land_43 : decode cX6_land 43 = .ok (.getfield 29, 3) := by decide +kernel
theorem dX6_land_46 : decode cX6_land 46 = .ok (.getfield 87, 3) := by decide +kernel
theorem dX6_land_49 : decode cX6_land 49 = .ok (.if_icmp .ge 64, 3) := by decide +kernel
theorem dX6_land_52 : decode cX6_land 52 = .ok (.iload 4, 2) := by decide +kernel
theorem dX6_land_54 : decode cX6_land 54 = .ok (.aload_n 0, 1) := by decide +kernel
theorem dX6_land_55 : decode cX6_land 55 = .ok (.getfield 29, 3) := by decide +kernel
theorem dX6_land_58 : decode cX6_land 58 = .ok (.getfield 87, 3) := by decide +kernel
theorem dX6_land_61 : decode cX6_land 61 = .ok (.if_icmp .ge 52, 3) := by decide +kernel
theorem dX6_land_64 : decode cX6_land 64 = .ok (.iload_n 2, 1) := by decide +kernel
theorem dX6_land_65 : decode cX6_land 65 = .ok (.ifCond .lt 48, 3) := by decide +kernel
theorem dX6_land_68 : decode cX6_land 68 = .ok (.aload_n 0, 1) := by decide +kernel
theorem dX6_land_69 : decode cX6_land 69 = .ok (.getfield 29, 3) := by decide +kernel
theorem dX6_land_72 : decode cX6_land 72 = .ok (.iload 4, 2) := by decide +kernel
theorem dX6_land_74 : decode cX6_land 74 = .ok (.invokevirtual 90, 3) := by decide +kernel
theorem dX6_land_77 : decode cX6_land 77 = .ok (.istore 6, 2) := by decide +kernel
theorem dX6_land_79 : decode cX6_land 79 = .ok (.aload_n 0, 1) := by decide +kernel
theorem dX6_land_80 : decode cX6_land 80 = .ok (.getfield 29, 3) := by decide +kernel
theorem dX6_land_83 : decode cX6_land 83 = .ok (.aload_n 3, 1) := by decide +kernel
theorem dX6_land_84 : decode cX6_land 84 = .ok (.invokevirtual 93, 3) := by decide +kernel
theorem dX6_land_87 : decode cX6_land 87 = .ok (.ifCond .eq 9, 3) := by decide +kernel
theorem dX6_land_90 : decode cX6_land 90 = .ok (.iload_n 2, 1) := by decide +kernel
theorem dX6_land_91 : decode cX6_land 91 = .ok (.iconst 1, 1) := by decide +kernel
theorem dX6_land_92 : decode cX6_land 92 = .ok (.iadd, 1) := by decide +kernel
theorem dX6_land_93 : decode cX6_land 93 = .ok (.goto 9, 3) := by decide +kernel
theorem dX6_land_96 : decode cX6_land 96 = .ok (.sipush (-2000), 3) := by decide +kernel
theorem dX6_land_99 : decode cX6_land 99 = .ok (.iload 4, 2) := by decide +kernel
theorem dX6_land_101 : decode cX6_land 101 = .ok (.isub, 1) := by decide +kernel
theorem dX6_land_102 : decode cX6_land 102 = .ok (.istore_n 2, 1) := by decide +kernel
theorem dX6_land_103 : decode cX6_land 103 = .ok (.iload 6, 2) := by decide +kernel
theorem dX6_land_105 : decode cX6_land 105 = .ok (.istore 4, 2) := by decide +kernel
theorem dX6_land_107 : decode cX6_land 107 = .ok (.iinc 5 1, 3) := by decide +kernel
theorem dX6_land_110 : decode cX6_land 110 = .ok (.goto (-70), 3) := by decide +kernel
theorem dX6_land_113 : decode cX6_land 113 = .ok (.aload_n 0, 1) := by decide +kernel
theorem dX6_land_114 : decode cX6_land 114 = .ok (.getfield 29, 3) := by decide +kernel
theorem dX6_land_117 : decode cX6_land 117 = .ok (.invokevirtual 97, 3) := by decide +kernel
theorem dX6_land_120 : decode cX6_land 120 = .ok (.iload_n 2, 1) := by decide +kernel
theorem dX6_land_121 : decode cX6_land 121 = .ok (.ifCond .le 18, 3) := by decide +kernel
theorem dX6_land_124 : decode cX6_land 124 = .ok (.aload_n 0, 1) := by decide +kernel
theorem dX6_land_125 : decode cX6_land 125 = .ok (.getfield 10, 3) := by decide +kernel
theorem dX6_land_128 : decode cX6_land 128 = .ok (.aload_n 3, 1) := by decide +kernel
theorem dX6_land_129 : decode cX6_land 129 = .ok (.invokevirtual 100, 3) := by decide +kernel
theorem dX6_land_132 : decode cX6_land 132 = .ok (.aload_n 0, 1) := by decide +kernel
theorem dX6_land_133 : decode cX6_land 133 = .ok (.getfield 22, 3) := by decide +kernel
theorem dX6_land_136 : decode cX6_land 136 = .ok (.invokevirtual 104, 3) := by decide +kernel
theorem dX6_land_139 : decode cX6_land 139 = .ok (.iload_n 2, 1) := by decide +kernel
theorem dX6_land_140 : decode cX6_land 140 = .ok (.ireturn, 1) := by decide +kernel
theorem dJ5_isLatin1_aae02_0 : decode cJ5_isLatin1_aae02 0 = .ok (.getstatic 18, 3) := by decide +kernel
theorem dJ5_isLatin1_aae02_3 : decode cJ5_isLatin1_aae02 3 = .ok (.ifCond .eq 14, 3) := by decide +kernel
theorem dJ5_isLatin1_aae02_6 : decode cJ5_isLatin1_aae02 6 = .ok (.aload_n 0, 1) := by decide +kernel
theorem dJ5_isLatin1_aae02_7 : decode cJ5_isLatin1_aae02 7 = .ok (.getfield 22, 3) := by decide +kernel
theorem dJ5_isLatin1_aae02_10 : decode cJ5_isLatin1_aae02 10 = .ok (.ifCond .ne 7, 3) := by decide +kernel
theorem dJ5_isLatin1_aae02_13 : decode cJ5_isLatin1_aae02 13 = .ok (.iconst 1, 1) := by decide +kernel
theorem dJ5_isLatin1_aae02_14 : decode cJ5_isLatin1_aae02 14 = .ok (.goto 4, 3) := by decide +kernel
theorem dJ5_isLatin1_aae02_17 : decode cJ5_isLatin1_aae02 17 = .ok (.iconst 0, 1) := by decide +kernel
theorem dJ5_isLatin1_aae02_18 : decode cJ5_isLatin1_aae02 18 = .ok (.ireturn, 1) := by decide +kernel
theorem dJ1_canEncode_fc78d_0 : decode cJ1_canEncode_fc78d 0 = .ok (.iload_n 0, 1) := by decide +kernel
theorem dJ1_canEncode_fc78d_1 : decode cJ1_canEncode_fc78d 1 = .ok (.sipush 255, 3) := by decide +kernel
theorem dJ1_canEncode_fc78d_4 : decode cJ1_canEncode_fc78d 4 = .ok (.if_icmp .gt 7, 3) := by decide +kernel
theorem dJ1_canEncode_fc78d_7 : decode cJ1_canEncode_fc78d 7 = .ok (.iconst 1, 1) := by decide +kernel
theorem dJ1_canEncode_fc78d_8 : decode cJ1_canEncode_fc78d 8 = .ok (.goto 4, 3) := by decide +kernel
theorem dJ1_canEncode_fc78d_11 : decode cJ1_canEncode_fc78d 11 = .ok (.iconst 0, 1) := by decide +kernel
theorem dJ1_canEncode_fc78d_12 : decode cJ1_canEncode_fc78d 12 = .ok (.ireturn, 1) := by decide +kernel
theorem dJ5_ensureCapacityInternal_d00df_0 : decode cJ5_ensureCapacityInternal_d00df 0 = .ok (.aload_n 0, 1) := by decide +kernel
theorem dJ5_ensureCapacityInternal_d00df_1 : decode cJ5_ensureCapacityInternal_d00df 1 = .ok (.getfield 15, 3) := by decide +kernel
theorem dJ5_ensureCapacityInternal_d00df_4 : decode cJ5_ensureCapacityInternal_d00df 4 = .ok (.arraylength, 1) := by decide +kernel
theorem dJ5_ensureCapacityInternal_d00df_5 : decode cJ5_ensureCapacityInternal_d00df 5 = .ok (.aload_n 0, 1) := by decide +kernel
theorem dJ5_ensureCapacityInternal_d00df_6 : decode cJ5_ensureCapacityInternal_d00df 6 = .ok (.getfield 22, 3) := by decide +kernel
theorem dJ5_ensureCapacityInternal_d00df_9 : decode cJ5_ensureCapacityInternal_d00df 9 = .ok (.ishr, 1) := by decide +kernel
theorem dJ5_ensureCapacityInternal_d00df_10 : decode cJ5_ensureCapacityInternal_d00df 10 = .ok (.istore_n 2, 1) := by decide +kernel
theorem dJ5_ensureCapacityInternal_d00df_11 : decode cJ5_ensureCapacityInternal_d00df 11 = .ok (.iload_n 1, 1) := by decide +kernel
theorem dJ5_ensureCapacityInternal_d00df_12 : decode cJ5_ensureCapacityInternal_d00df 12 = .ok (.iload_n 2, 1) := by decide +kernel
theorem dJ5_ensureCapacityInternal_d00df_13 : decode cJ5_ensureCapacityInternal_d00df 13 = .ok (.isub, 1) := by decide +kernel
theorem dJ5_ensureCapacityInternal_d00df_14 : decode cJ5_ensureCapacityInternal_d00df 14 = .ok (.ifCond .le 24, 3) := by decide +kernel
theorem dJ5_ensureCapacityInternal_d00df_17 : decode cJ5_ensureCapacityInternal_d00df 17 = .ok (.aload_n 0, 1) := by decide +kernel
theorem dJ5_ensureCapacityInternal_d00df_18 : decode cJ5_ensureCapacityInternal_d00df 18 = .ok (.aload_n 0, 1) := by decide +kernel
theorem dJ5_ensureCapacityInternal_d00df_19 : decode cJ5_ensureCapacityInternal_d00df 19 = .ok (.getfield 15, 3) := by decide +kernel
theorem dJ5_ensureCapacityInternal_d00df_22 : decode cJ5_ensureCapacityInternal_d00df 22 = .ok (.aload_n 0, 1) := by decide +kernel
theorem dJ5_ensureCapacityInternal_d00df_23 : decode cJ5_ensureCapacityInternal_d00df 23 = .ok (.iload_n 1, 1) := by decide +kernel
theorem dJ5_ensureCapacityInternal_d00df_24 : decode cJ5_ensureCapacityInternal_d00df 24 = .ok (.invokevirtual 104, 3) := by decide +kernel
theorem dJ5_ensureCapacityInternal_d00df_27 : decode cJ5_ensureCapacityInternal_d00df 27 = .ok (.aload_n 0, 1) := by decide +kernel
theorem dJ5_ensureCapacityInternal_d00df_28 : decode cJ5_ensureCapacityInternal_d00df 28 = .ok (.getfield 22, 3) := by decide +kernel
theorem dJ5_ensureCapacityInternal_d00df_31 : decode cJ5_ensureCapacityInternal_d00df 31 = .ok (.ishl, 1) := by decide +kernel
theorem dJ5_ensureCapacityInternal_d00df_32 : decode cJ5_ensureCapacityInternal_d00df 32 = .ok (.invokestatic 108, 3) := by decide +kernel
theorem dJ5_ensureCapacityInternal_d00df_35 : decode cJ5_ensureCapacityInternal_d00df 35 = .ok (.putfield 15, 3) := by decide +kernel
theorem dJ5_ensureCapacityInternal_d00df_38 : decode cJ5_ensureCapacityInternal_d00df 38 = .ok (.return_, 1) := by decide +kernel
theorem dJ5_append_3fe6f_0 : decode cJ5_append_3fe6f 0 = .ok (.aload_n 0, 1) := by decide +kernel
theorem dJ5_append_3fe6f_1 : decode cJ5_append_3fe6f 1 = .ok (.aload_n 0, 1) := by decide +kernel
theorem dJ5_append_3fe6f_2 : decode cJ5_append_3fe6f 2 = .ok (.getfield 79, 3) := by decide +kernel
theorem dJ5_append_3fe6f_5 : decode cJ5_append_3fe6f 5 = .ok (.iconst 1, 1) := by decide +kernel
theorem dJ5_append_3fe6f_6 : decode cJ5_append_3fe6f 6 = .ok (.iadd, 1) := by decide +kernel
theorem dJ5_append_3fe6f_7 : decode cJ5_append_3fe6f 7 = .ok (.invokevirtual 100, 3) := by decide +kernel
theorem dJ5_append_3fe6f_10 : decode cJ5_append_3fe6f 10 = .ok (.aload_n 0, 1) := by decide +kernel
theorem dJ5_append_3fe6f_11 : decode cJ5_append_3fe6f 11 = .ok (.invokevirtual 83, 3) := by decide +kernel
theorem dJ5_append_3fe6f_14 : decode cJ5_append_3fe6f 14 = .ok (.ifCond .eq 31, 3) := by decide +kernel
theorem dJ5_append_3fe6f_17 : decode cJ5_append_3fe6f 17 = .ok (.iload_n 1, 1) := by decide +kernel
theorem dJ5_append_3fe6f_18 : decode cJ5_append_3fe6f 18 = .ok (.invokestatic 191, 3) := by decide +kernel
theorem dJ5_append_3fe6f_21 : decode cJ5_append_3fe6f 21 = .ok (.ifCond .eq 24, 3) := by decide +kernel
theorem dJ5_append_3fe6f_24 : decode cJ5_append_3fe6f 24 = .ok (.aload_n 0, 1) := by decide +kernel
theorem dJ5_append_3fe6f_25 : decode cJ5_append_3fe6f 25 = .ok (.getfield 15, 3) := by decide +kernel
theorem dJ5_append_3fe6f_28 : decode cJ5_append_3fe6f 28 = .ok (.aload_n 0, 1) := by decide +kernel
theorem dJ5_append_3fe6f_29 : decode cJ5_append_3fe6f 29 = .ok (.dup, 1) := by decide +kernel
theorem dJ5_append_3fe6f_30 : decode cJ5_append_3fe6f 30 = .ok (.getfield 79, 3) := by decide +kernel
theorem dJ5_append_3fe6f_33 : decode cJ5_append_3fe6f 33 = .ok (.dup_x1, 1) := by decide +kernel
theorem dJ5_append_3fe6f_34 : decode cJ5_append_3fe6f 34 = .ok (.iconst 1, 1) := by decide +kernel
theorem dJ5_append_3fe6f_35 : decode cJ5_append_3fe6f 35 = .ok (.iadd, 1) := by decide +kernel
theorem dJ5_append_3fe6f_36 : decode cJ5_append_3fe6f 36 = .ok (.putfield 79, 3) := by decide +kernel
theorem dJ5_append_3fe6f_39 : decode cJ5_append_3fe6f 39 = .ok (.iload_n 1, 1) := by decide +kernel
theorem dJ5_append_3fe6f_40 : decode cJ5_append_3fe6f 40 = .ok (.i2b, 1) := by decide +kernel
theorem dJ5_append_3fe6f_41 : decode cJ5_append_3fe6f 41 = .ok (.bastore, 1) := by decide +kernel
theorem dJ5_append_3fe6f_42 : decode cJ5_append_3fe6f 42 = .ok (.goto 33, 3) := by decide +kernel
theorem dJ5_append_3fe6f_45 : decode cJ5_append_3fe6f 45 = .ok (.aload_n 0, 1) := by decide +kernel
theorem dJ5_append_3fe6f_46 : decode cJ5_append_3fe6f 46 = .ok (.invokevirtual 83, 3) := by decide +kernel
theorem dJ5_append_3fe6f_49 : decode cJ5_append_3fe6f 49 = .ok (.ifCond .eq 7, 3) := by decide +kernel
theorem dJ5_append_3fe6f_52 : decode cJ5_append_3fe6f 52 = .ok (.aload_n 0, 1) := by decide +kernel
theorem dJ5_append_3fe6f_53 : decode cJ5_append_3fe6f 53 = .ok (.invokevirtual 195, 3) := by decide +kernel
theorem dJ5_append_3fe6f_56 : decode cJ5_append_3fe6f 56 = .ok (.aload_n 0, 1) := by decide +kernel
theorem dJ5_append_3fe6f_57 : decode cJ5_append_3fe6f 57 = .ok (.getfield 15, 3) := by decide +kernel
theorem dJ5_append_3fe6f_60 : decode cJ5_append_3fe6f 60 = .ok (.aload_n 0, 1) := by decide +kernel
theorem dJ5_append_3fe6f_61 : decode cJ5_append_3fe6f 61 = .ok (.dup, 1) := by decide +kernel
theorem dJ5_append_3fe6f_62 : decode cJ5_append_3fe6f 62 = .ok (.getfield 79, 3) := by decide +kernel
theorem dJ5_append_3fe6f_65 : decode cJ5_append_3fe6f 65 = .ok (.dup_x1, 1) := by decide +kernel
theorem dJ5_append_3fe6f_66 : decode cJ5_append_3fe6f 66 = .ok (.iconst 1, 1) := by decide +kernel
theorem dJ5_append_3fe6f_67 : decode cJ5_append_3fe6f 67 = .ok (.iadd, 1) := by decide +kernel
theorem dJ5_append_3fe6f_68 : decode cJ5_append_3fe6f 68 = .ok (.putfield 79, 3) := by decide +kernel
theorem dJ5_append_3fe6f_71 : decode cJ5_append_3fe6f 71 = .ok (.iload_n 1, 1) := by decide +kernel
theorem dJ5_append_3fe6f_72 : decode cJ5_append_3fe6f 72 = .ok (.invokestatic 197, 3) := by decide +kernel
theorem dJ5_append_3fe6f_75 : decode cJ5_append_3fe6f 75 = .ok (.aload_n 0, 1) := by decide +kernel
theorem dJ5_append_3fe6f_76 : decode cJ5_append_3fe6f 76 = .ok (.areturn, 1) := by decide +kernel
theorem dJ4_append_cf468_0 : decode cJ4_append_cf468 0 = .ok (.aload_n 0, 1) := by decide +kernel
theorem dJ4_append_cf468_1 : decode cJ4_append_cf468 1 = .ok (.iload_n 1, 1) := by decide +kernel
theorem dJ4_append_cf468_2 : decode cJ4_append_cf468 2 = .ok (.invokespecial 50, 3) := by decide +kernel
theorem dJ4_append_cf468_5 : decode cJ4_append_cf468 5 = .ok (.pop, 1) := by decide +kernel
theorem dJ4_append_cf468_6 : decode cJ4_append_cf468 6 = .ok (.aload_n 0, 1) := by decide +kernel
theorem dJ4_append_cf468_7 : decode cJ4_append_cf468 7 = .ok (.areturn, 1) := by decide +kernel
theorem dJ6_stringSize_0f7a4_0 : decode cJ6_stringSize_0f7a4 0 = .ok (.iconst 1, 1) := by decide +kernel
theorem dJ6_stringSize_0f7a4_1 : decode cJ6_stringSize_0f7a4 1 = .ok (.istore_n 1, 1) := by decide +kernel
theorem dJ6_stringSize_0f7a4_2 : decode cJ6_stringSize_0f7a4 2 = .ok (.iload_n 0, 1) := by decide +kernel
theorem dJ6_stringSize_0f7a4_3 : decode cJ6_stringSize_0f7a4 3 = .ok (.ifCond .lt 8, 3) := by decide +kernel
theorem dJ6_stringSize_0f7a4_6 : decode cJ6_stringSize_0f7a4 6 = .ok (.iconst 0, 1) := by decide +kernel
theorem dJ6_stringSize_0f7a4_7 : decode cJ6_stringSize_0f7a4 7 = .ok (.istore_n 1, 1) := by decide +kernel
theorem dJ6_stringSize_0f7a4_8 : decode cJ6_stringSize_0f7a4 8 = .ok (.iload_n 0, 1) := by decide +kernel
theorem dJ6_stringSize_0f7a4_9 : decode cJ6_stringSize_0f7a4 9 = .ok (.ineg, 1) := by decide +kernel
theorem dJ6_stringSize_0f7a4_10 : decode cJ6_stringSize_0f7a4 10 = .ok (.istore_n 0, 1) := by decide +kernel
theorem dJ6_stringSize_0f7a4_11 : decode cJ6_stringSize_0f7a4 11 = .ok (.bipush (-10), 2) := by decide +kernel
theorem dJ6_stringSize_0f7a4_13 : decode cJ6_stringSize_0f7a4 13 = .ok (.istore_n 2, 1) := by decide +kernel
theorem dJ6_stringSize_0f7a4_14 : decode cJ6_stringSize_0f7a4 14 = .ok (.iconst 1, 1) := by decide +kernel
theorem dJ6_stringSize_0f7a4_15 : decode cJ6_stringSize_0f7a4 15 = .ok (.istore_n 3, 1) := by decide +kernel
theorem dJ6_stringSize_0f7a4_16 : decode cJ6_stringSize_0f7a4 16 = .ok (.iload_n 3, 1) := by decide +kernel
theorem dJ6_stringSize_0f7a4_17 : decode cJ6_stringSize_0f7a4 17 = .ok (.bipush 10, 2) := by decide +kernel
theorem dJ6_stringSize_0f7a4_19 : decode cJ6_stringSize_0f7a4 19 = .ok (.if_icmp .ge 23, 3) := by decide +kernel
theorem dJ6_stringSize_0f7a4_22 : decode cJ6_stringSize_0f7a4 22 = .ok (.iload_n 0, 1) := by decide +kernel
theorem dJ6_stringSize_0f7a4_23 : decode cJ6_stringSize_0f7a4 23 = .ok (.iload_n 2, 1) := by decide +kernel
theorem dJ6_stringSize_0f7a4_24 : decode cJ6_stringSize_0f7a4 24 = .ok (.if_icmp .le 7, 3) := by decide +kernel
theorem dJ6_stringSize_0f7a4_27 : decode cJ6_stringSize_0f7a4 27 = .ok (.iload_n 3, 1) := by decide +kernel
theorem dJ6_stringSize_0f7a4_28 : decode cJ6_stringSize_0f7a4 28 = .ok (.iload_n 1, 1) := by decide +kernel
theorem dJ6_stringSize_0f7a4_29 : decode cJ6_stringSize_0f7a4 29 = .ok (.iadd, 1) := by decide +kernel
theorem dJ6_stringSize_0f7a4_30 : decode cJ6_stringSize_0f7a4 30 = .ok (.ireturn, 1) := by decide +kernel
theorem dJ6_stringSize_0f7a4_31 : decode cJ6_stringSize_0f7a4 31 = .ok (.bipush 10, 2) := by decide +kernel
theorem dJ6_stringSize_0f7a4_33 : decode cJ6_stringSize_0f7a4 33 = .ok (.iload_n 2, 1) := by decide +kernel
theorem dJ6_stringSize_0f7a4_34 : decode cJ6_stringSize_0f7a4 34 = .ok (.imul, 1) := by decide +kernel
theorem dJ6_stringSize_0f7a4_35 : decode cJ6_stringSize_0f7a4 35 = .ok (.istore_n 2, 1) := by decide +kernel
theorem dJ6_stringSize_0f7a4_36 : decode cJ6_stringSize_0f7a4 36 = .ok (.iinc 3 1, 3) := by decide +kernel
theorem dJ6_stringSize_0f7a4_39 : decode cJ6_stringSize_0f7a4 39 = .ok (.goto (-23), 3) := by decide +kernel
theorem dJ6_stringSize_0f7a4_42 : decode cJ6_stringSize_0f7a4 42 = .ok (.bipush 10, 2) := by decide +kernel
theorem dJ6_stringSize_0f7a4_44 : decode cJ6_stringSize_0f7a4 44 = .ok (.iload_n 1, 1) := by decide +kernel
theorem dJ6_stringSize_0f7a4_45 : decode cJ6_stringSize_0f7a4 45 = .ok (.iadd, 1) := by decide +kernel
theorem dJ6_stringSize_0f7a4_46 : decode cJ6_stringSize_0f7a4 46 = .ok (.ireturn, 1) := by decide +kernel
theorem dJ6_getChars_ba4f3_0 : decode cJ6_getChars_ba4f3 0 = .ok (.iload_n 1, 1) := by decide +kernel
theorem dJ6_getChars_ba4f3_1 : decode cJ6_getChars_ba4f3 1 = .ok (.istore 5, 2) := by decide +kernel
theorem dJ6_getChars_ba4f3_3 : decode cJ6_getChars_ba4f3 3 = .ok (.iload_n 0, 1) := by decide +kernel
theorem dJ6_getChars_ba4f3_4 : decode cJ6_getChars_ba4f3 4 = .ok (.ifCond .ge 7, 3) := by decide +kernel
theorem dJ6_getChars_ba4f3_7 : decode cJ6_getChars_ba4f3 7 = .ok (.iconst 1, 1) := by decide +kernel
theorem dJ6_getChars_ba4f3_8 : decode cJ6_getChars_ba4f3 8 = .ok (.goto 4, 3) := by decide +kernel
theorem dJ6_getChars_ba4f3_11 : decode cJ6_getChars_ba4f3 11 = .ok (.iconst 0, 1) := by decide +kernel
theorem dJ6_getChars_ba4f3_12 : decode cJ6_getChars_ba4f3 12 = .ok (.istore 6, 2) := by decide +kernel
theorem dJ6_getChars_ba4f3_14 : decode cJ6_getChars_ba4f3 14 = .ok (.iload 6, 2) := by decide +kernel
theorem dJ6_getChars_ba4f3_16 : decode cJ6_getChars_ba4f3 16 = .ok (.ifCond .ne 6, 3) := by decide +kernel
theorem dJ6_getChars_ba4f3_19 : decode cJ6_getChars_ba4f3 19 = .ok (.iload_n 0, 1) := by decide +kernel
theorem dJ6_getChars_ba4f3_20 : decode cJ6_getChars_ba4f3 20 = .ok (.ineg, 1) := by decide +kernel
theorem dJ6_getChars_ba4f3_21 : decode cJ6_getChars_ba4f3 21 = .ok (.istore_n 0, 1) := by decide +kernel
theorem dJ6_getChars_ba4f3_22 : decode cJ6_getChars_ba4f3 22 = .ok (.iload_n 0, 1) := by decide +kernel
theorem dJ6_getChars_ba4f3_23 : decode cJ6_getChars_ba4f3 23 = .ok (.bipush (-100), 2) := by decide +kernel
theorem dJ6_getChars_ba4f3_25 : decode cJ6_getChars_ba4f3 25 = .ok (.if_icmp .gt 47, 3) := by decide +kernel
theorem dJ6_getChars_ba4f3_28 : decode cJ6_getChars_ba4f3 28 = .ok (.iload_n 0, 1) := by decide +kernel
theorem dJ6_getChars_ba4f3_29 : decode cJ6_getChars_ba4f3 29 = .ok (.bipush 100, 2) := by decide +kernel
theorem dJ6_getChars_ba4f3_31 : decode cJ6_getChars_ba4f3 31 = .ok (.idiv, 1) := by decide +kernel
theorem dJ6_getChars_ba4f3_32 : decode cJ6_getChars_ba4f3 32 = .ok (.istore_n 3, 1) := by decide +kernel
theorem dJ6_getChars_ba4f3_33 : decode cJ6_getChars_ba4f3 33 = .ok (.iload_n 3, 1) := by decide +kernel
theorem dJ6_getChars_ba4f3_34 : decode cJ6_getChars_ba4f3 34 = .ok (.bipush 100, 2) := by decide +kernel
theorem dJ6_getChars_ba4f3_36 : decode cJ6_getChars_ba4f3 36 = .ok (.imul, 1) := by decide +kernel
theorem dJ6_getChars_ba4f3_37 : decode cJ6_getChars_ba4f3 37 = .ok (.iload_n 0, 1) := by decide +kernel
theorem dJ6_getChars_ba4f3_38 : decode cJ6_getChars_ba4f3 38 = .ok (.isub, 1) := by decide +kernel
theorem dJ6_getChars_ba4f3_39 : decode cJ6_getChars_ba4f3 39 = .ok (.istore 4, 2) := by decide +kernel
theorem dJ6_getChars_ba4f3_41 : decode cJ6_getChars_ba4f3 41 = .ok (.iload_n 3, 1) := by decide +kernel
theorem dJ6_getChars_ba4f3_42 : decode cJ6_getChars_ba4f3 42 = .ok (.istore_n 0, 1) := by decide +kernel
theorem dJ6_getChars_ba4f3_43 : decode cJ6_getChars_ba4f3 43 = .ok (.aload_n 2, 1) := by decide +kernel
theorem dJ6_getChars_ba4f3_44 : decode cJ6_getChars_ba4f3 44 = .ok (.iinc 5 (-1), 3) := by decide +kernel
theorem dJ6_getChars_ba4f3_47 : decode cJ6_getChars_ba4f3 47 = .ok (.iload 5, 2) := by decide +kernel
theorem dJ6_getChars_ba4f3_49 : decode cJ6_getChars_ba4f3 49 = .ok (.getstatic 83, 3) := by decide +kernel
theorem dJ6_getChars_ba4f3_52 : decode cJ6_getChars_ba4f3 52 = .ok (.iload 4, 2) := by decide +kernel
theorem dJ6_getChars_ba4f3_54 : decode cJ6_getChars_ba4f3 54 = .ok (.baload, 1) := by decide +kernel
theorem dJ6_getChars_ba4f3_55 : decode cJ6_getChars_ba4f3 55 = .ok (.bastore, 1) := by decide +kernel
theorem dJ6_getChars_ba4f3_56 : decode cJ6_getChars_ba4f3 56 = .ok (.aload_n 2, 1) := by decide +kernel
theorem dJ6_getChars_ba4f3_57 : decode cJ6_getChars_ba4f3 57 = .ok (.iinc 5 (-1), 3) := by decide +kernel
theorem dJ6_getChars_ba4f3_60 : decode cJ6_getChars_ba4f3 60 = .ok (.iload 5, 2) := by decide +kernel
theorem dJ6_getChars_ba4f3_62 : decode cJ6_getChars_ba4f3 62 = .ok (.getstatic 87, 3) := by decide +kernel
theorem dJ6_getChars_ba4f3_65 : decode cJ6_getChars_ba4f3 65 = .ok (.iload 4, 2) := by decide +kernel
theorem dJ6_getChars_ba4f3_67 : decode cJ6_getChars_ba4f3 67 = .ok (.baload, 1) := by decide +kernel
theorem dJ6_getChars_ba4f3_68 : decode cJ6_getChars_ba4f3 68 = .ok (.bastore, 1) := by decide +kernel
theorem dJ6_getChars_ba4f3_69 : decode cJ6_getChars_ba4f3 69 = .ok (.goto (-47), 3) := by decide +kernel
theorem dJ6_getChars_ba4f3_72 : decode cJ6_getChars_ba4f3 72 = .ok (.aload_n 2, 1) := by decide +kernel
theorem dJ6_getChars_ba4f3_73 : decode cJ6_getChars_ba4f3 73 = .ok (.iinc 5 (-1), 3) := by decide +kernel
theorem dJ6_getChars_ba4f3_76 : decode cJ6_getChars_ba4f3 76 = .ok (.iload 5, 2) := by decide +kernel
theorem dJ6_getChars_ba4f3_78 : decode cJ6_getChars_ba4f3 78 = .ok (.getstatic 83, 3) := by decide +kernel
theorem dJ6_getChars_ba4f3_81 : decode cJ6_getChars_ba4f3 81 = .ok (.iload_n 0, 1) := by decide +kernel
theorem dJ6_getChars_ba4f3_82 : decode cJ6_getChars_ba4f3 82 = .ok (.ineg, 1) := by decide +kernel
theorem dJ6_getChars_ba4f3_83 : decode cJ6_getChars_ba4f3 83 = .ok (.baload, 1) := by decide +kernel
theorem dJ6_getChars_ba4f3_84 : decode cJ6_getChars_ba4f3 84 = .ok (.bastore, 1) := by decide +kernel
theorem dJ6_getChars_ba4f3_85 : decode cJ6_getChars_ba4f3 85 = .ok (.iload_n 0, 1) := by decide +kernel
theorem dJ6_getChars_ba4f3_86 : decode cJ6_getChars_ba4f3 86 = .ok (.bipush (-9), 2) := by decide +kernel
theorem dJ6_getChars_ba4f3_88 : decode cJ6_getChars_ba4f3 88 = .ok (.if_icmp .ge 16, 3) := by decide +kernel
theorem dJ6_getChars_ba4f3_91 : decode cJ6_getChars_ba4f3 91 = .ok (.aload_n 2, 1) := by decide +kernel
theorem dJ6_getChars_ba4f3_92 : decode cJ6_getChars_ba4f3 92 = .ok (.iinc 5 (-1), 3) := by decide +kernel
theorem dJ6_getChars_ba4f3_95 : decode cJ6_getChars_ba4f3 95 = .ok (.iload 5, 2) := by decide +kernel
theorem dJ6_getChars_ba4f3_97 : decode cJ6_getChars_ba4f3 97 = .ok (.getstatic 87, 3) := by decide +kernel
theorem dJ6_getChars_ba4f3_100 : decode cJ6_getChars_ba4f3 100 = .ok (.iload_n 0, 1) := by decide +kernel
theorem dJ6_getChars_ba4f3_101 : decode cJ6_getChars_ba4f3 101 = .ok (.ineg, 1) := by decide +kernel
theorem dJ6_getChars_ba4f3_102 : decode cJ6_getChars_ba4f3 102 = .ok (.baload, 1) := by decide +kernel
theorem dJ6_getChars_ba4f3_103 : decode cJ6_getChars_ba4f3 103 = .ok (.bastore, 1) := by decide +kernel
theorem dJ6_getChars_ba4f3_104 : decode cJ6_getChars_ba4f3 104 = .ok (.iload 6, 2) := by decide +kernel
theorem dJ6_getChars_ba4f3_106 : decode cJ6_getChars_ba4f3 106 = .ok (.ifCond .eq 12, 3) := by decide +kernel
theorem dJ6_getChars_ba4f3_109 : decode cJ6_getChars_ba4f3 109 = .ok (.aload_n 2, 1) := by decide +kernel
theorem dJ6_getChars_ba4f3_110 : decode cJ6_getChars_ba4f3 110 = .ok (.iinc 5 (-1), 3) := by decide +kernel
theorem dJ6_getChars_ba4f3_113 : decode cJ6_getChars_ba4f3 113 = .ok (.iload 5, 2) := by decide +kernel
theorem dJ6_getChars_ba4f3_115 : decode cJ6_getChars_ba4f3 115 = .ok (.bipush 45, 2) := by decide +kernel
theorem dJ6_getChars_ba4f3_117 : decode cJ6_getChars_ba4f3 117 = .ok (.bastore, 1) := by decide +kernel
theorem dJ6_getChars_ba4f3_118 : decode cJ6_getChars_ba4f3 118 = .ok (.iload 5, 2) := by decide +kernel
theorem dJ6_getChars_ba4f3_120 : decode cJ6_getChars_ba4f3 120 = .ok (.ireturn, 1) := by decide +kernel
theorem dJ5_append_c97b9_0 : decode cJ5_append_c97b9 0 = .ok (.aload_n 0, 1) := by decide +kernel
theorem dJ5_append_c97b9_1 : decode cJ5_append_c97b9 1 = .ok (.getfield 79, 3) := by decide +kernel
theorem dJ5_append_c97b9_4 : decode cJ5_append_c97b9 4 = .ok (.istore_n 2, 1) := by decide +kernel
theorem dJ5_append_c97b9_5 : decode cJ5_append_c97b9 5 = .ok (.iload_n 2, 1) := by decide +kernel
theorem dJ5_append_c97b9_6 : decode cJ5_append_c97b9 6 = .ok (.iload_n 1, 1) := by decide +kernel
theorem dJ5_append_c97b9_7 : decode cJ5_append_c97b9 7 = .ok (.invokestatic 245, 3) := by decide +kernel
theorem dJ5_append_c97b9_10 : decode cJ5_append_c97b9 10 = .ok (.iadd, 1) := by decide +kernel
theorem dJ5_append_c97b9_11 : decode cJ5_append_c97b9 11 = .ok (.istore_n 3, 1) := by decide +kernel
theorem dJ5_append_c97b9_12 : decode cJ5_append_c97b9 12 = .ok (.aload_n 0, 1) := by decide +kernel
theorem dJ5_append_c97b9_13 : decode cJ5_append_c97b9 13 = .ok (.iload_n 3, 1) := by decide +kernel
theorem dJ5_append_c97b9_14 : decode cJ5_append_c97b9 14 = .ok (.invokevirtual 100, 3) := by decide +kernel
theorem dJ5_append_c97b9_17 : decode cJ5_append_c97b9 17 = .ok (.aload_n 0, 1) := by decide +kernel
theorem dJ5_append_c97b9_18 : decode cJ5_append_c97b9 18 = .ok (.invokevirtual 83, 3) := by decide +kernel
theorem dJ5_append_c97b9_21 : decode cJ5_append_c97b9 21 = .ok (.ifCond .eq 16, 3) := by decide +kernel
theorem dJ5_append_c97b9_24 : decode cJ5_append_c97b9 24 = .ok (.iload_n 1, 1) := by decide +kernel
theorem dJ5_append_c97b9_25 : decode cJ5_append_c97b9 25 = .ok (.iload_n 3, 1) := by decide +kernel
theorem dJ5_append_c97b9_26 : decode cJ5_append_c97b9 26 = .ok (.aload_n 0, 1) := by decide +kernel
theorem dJ5_append_c97b9_27 : decode cJ5_append_c97b9 27 = .ok (.getfield 15, 3) := by decide +kernel
theorem dJ5_append_c97b9_30 : decode cJ5_append_c97b9 30 = .ok (.invokestatic 248, 3) := by decide +kernel
theorem dJ5_append_c97b9_33 : decode cJ5_append_c97b9 33 = .ok (.pop, 1) := by decide +kernel
theorem dJ5_append_c97b9_34 : decode cJ5_append_c97b9 34 = .ok (.goto 14, 3) := by decide +kernel
theorem dJ5_append_c97b9_37 : decode cJ5_append_c97b9 37 = .ok (.iload_n 1, 1) := by decide +kernel
theorem dJ5_append_c97b9_38 : decode cJ5_append_c97b9 38 = .ok (.iload_n 2, 1) := by decide +kernel
theorem dJ5_append_c97b9_39 : decode cJ5_append_c97b9 39 = .ok (.iload_n 3, 1) := by decide +kernel
theorem dJ5_append_c97b9_40 : decode cJ5_append_c97b9 40 = .ok (.aload_n 0, 1) := by decide +kernel
theorem dJ5_append_c97b9_41 : decode cJ5_append_c97b9 41 = .ok (.getfield 15, 3) := by decide +kernel
theorem dJ5_append_c97b9_44 : decode cJ5_append_c97b9 44 = .ok (.invokestatic 251, 3) := by decide +kernel
theorem dJ5_append_c97b9_47 : decode cJ5_append_c97b9 47 = .ok (.pop, 1) := by decide +kernel
theorem dJ5_append_c97b9_48 : decode cJ5_append_c97b9 48 = .ok (.aload_n 0, 1) := by decide +kernel
theorem dJ5_append_c97b9_49 : decode cJ5_append_c97b9 49 = .ok (.iload_n 3, 1) := by decide +kernel
theorem dJ5_append_c97b9_50 : decode cJ5_append_c97b9 50 = .ok (.putfield 79, 3) := by decide +kernel
theorem dJ5_append_c97b9_53 : decode cJ5_append_c97b9 53 = .ok (.aload_n 0, 1) := by decide +kernel
theorem dJ5_append_c97b9_54 : decode cJ5_append_c97b9 54 = .ok (.areturn, 1) := by decide +kernel
theorem dJ4_append_bf812_0 : decode cJ4_append_bf812 0 = .ok (.aload_n 0, 1) := by decide +kernel
theorem dJ4_append_bf812_1 : decode cJ4_append_bf812 1 = .ok (.iload_n 1, 1) := by decide +kernel
theorem dJ4_append_bf812_2 : decode cJ4_append_bf812 2 = .ok (.invokespecial 53, 3) := by decide +kernel
theorem dJ4_append_bf812_5 : decode cJ4_append_bf812 5 = .ok (.pop, 1) := by decide +kernel
theorem dJ4_append_bf812_6 : decode cJ4_append_bf812 6 = .ok (.aload_n 0, 1) := by decide +kernel
theorem dJ4_append_bf812_7 : decode cJ4_append_bf812 7 = .ok (.areturn, 1) := by decide +kernel
theorem dJ5_length_8abf5_0 : decode cJ5_length_8abf5 0 = .ok (.aload_n 0, 1) := by decide +kernel
theorem dJ5_length_8abf5_1 : decode cJ5_length_8abf5 1 = .ok (.getfield 79, 3) := by decide +kernel
theorem dJ5_length_8abf5_4 : decode cJ5_length_8abf5 4 = .ok (.ireturn, 1) := by decide +kernel
theorem dJ4_length_8abf5_0 : decode cJ4_length_8abf5 0 = .ok (.aload_n 0, 1) := by decide +kernel
theorem dJ4_length_8abf5_1 : decode cJ4_length_8abf5 1 = .ok (.invokespecial 343, 3) := by decide +kernel
theorem dJ4_length_8abf5_4 : decode cJ4_length_8abf5 4 = .ok (.ireturn, 1) := by decide +kernel
theorem dJ5_charAt_5068e_0 : decode cJ5_charAt_5068e 0 = .ok (.aload_n 0, 1) := by decide +kernel
theorem dJ5_charAt_5068e_1 : decode cJ5_charAt_5068e 1 = .ok (.getfield 22, 3) := by decide +kernel
theorem dJ5_charAt_5068e_4 : decode cJ5_charAt_5068e 4 = .ok (.istore_n 2, 1) := by decide +kernel
theorem dJ5_charAt_5068e_5 : decode cJ5_charAt_5068e 5 = .ok (.aload_n 0, 1) := by decide +kernel
theorem dJ5_charAt_5068e_6 : decode cJ5_charAt_5068e 6 = .ok (.getfield 15, 3) := by decide +kernel
theorem dJ5_charAt_5068e_9 : decode cJ5_charAt_5068e 9 = .ok (.astore_n 3, 1) := by decide +kernel
theorem dJ5_charAt_5068e_10 : decode cJ5_charAt_5068e 10 = .ok (.aload_n 0, 1) := by decide +kernel
theorem dJ5_charAt_5068e_11 : decode cJ5_charAt_5068e 11 = .ok (.getfield 79, 3) := by decide +kernel
theorem dJ5_charAt_5068e_14 : decode cJ5_charAt_5068e 14 = .ok (.aload_n 3, 1) := by decide +kernel
theorem dJ5_charAt_5068e_15 : decode cJ5_charAt_5068e 15 = .ok (.arraylength, 1) := by decide +kernel
theorem dJ5_charAt_5068e_16 : decode cJ5_charAt_5068e 16 = .ok (.iload_n 2, 1) := by decide +kernel
theorem dJ5_charAt_5068e_17 : decode cJ5_charAt_5068e 17 = .ok (.ishr, 1) := by decide +kernel
theorem dJ5_charAt_5068e_18 : decode cJ5_charAt_5068e 18 = .ok (.invokestatic 138, 3) := by decide +kernel
theorem dJ5_charAt_5068e_21 : decode cJ5_charAt_5068e 21 = .ok (.istore 4, 2) := by decide +kernel
theorem dJ5_charAt_5068e_23 : decode cJ5_charAt_5068e 23 = .ok (.iload_n 1, 1) := by decide +kernel
theorem dJ5_charAt_5068e_24 : decode cJ5_charAt_5068e 24 = .ok (.iload 4, 2) := by decide +kernel
theorem dJ5_charAt_5068e_26 : decode cJ5_charAt_5068e 26 = .ok (.invokestatic 144, 3) := by decide +kernel
theorem dJ5_charAt_5068e_29 : decode cJ5_charAt_5068e 29 = .ok (.iload_n 2, 1) := by decide +kernel
theorem dJ5_charAt_5068e_30 : decode cJ5_charAt_5068e 30 = .ok (.ifCond .ne 12, 3) := by decide +kernel
theorem dJ5_charAt_5068e_33 : decode cJ5_charAt_5068e 33 = .ok (.aload_n 3, 1) := by decide +kernel
theorem dJ5_charAt_5068e_34 : decode cJ5_charAt_5068e 34 = .ok (.iload_n 1, 1) := by decide +kernel
theorem dJ5_charAt_5068e_35 : decode cJ5_charAt_5068e 35 = .ok (.baload, 1) := by decide +kernel
theorem dJ5_charAt_5068e_36 : decode cJ5_charAt_5068e 36 = .ok (.sipush 255, 3) := by decide +kernel
theorem dJ5_charAt_5068e_39 : decode cJ5_charAt_5068e 39 = .ok (.iand, 1) := by decide +kernel
theorem dJ5_charAt_5068e_40 : decode cJ5_charAt_5068e 40 = .ok (.i2c, 1) := by decide +kernel
theorem dJ5_charAt_5068e_41 : decode cJ5_charAt_5068e 41 = .ok (.ireturn, 1) := by decide +kernel
theorem dJ5_charAt_5068e_42 : decode cJ5_charAt_5068e 42 = .ok (.aload_n 3, 1) := by decide +kernel
theorem dJ5_charAt_5068e_43 : decode cJ5_charAt_5068e 43 = .ok (.iload_n 1, 1) := by decide +kernel
theorem dJ5_charAt_5068e_44 : decode cJ5_charAt_5068e 44 = .ok (.invokestatic 148, 3) := by decide +kernel
theorem dJ5_charAt_5068e_47 : decode cJ5_charAt_5068e 47 = .ok (.ireturn, 1) := by decide +kernel
theorem dJ4_charAt_5068e_0 : decode cJ4_charAt_5068e 0 = .ok (.aload_n 0, 1) := by decide +kernel
theorem dJ4_charAt_5068e_1 : decode cJ4_charAt_5068e 1 = .ok (.iload_n 1, 1) := by decide +kernel
theorem dJ4_charAt_5068e_2 : decode cJ4_charAt_5068e 2 = .ok (.invokespecial 329, 3) := by decide +kernel
theorem dJ4_charAt_5068e_5 : decode cJ4_charAt_5068e 5 = .ok (.ireturn, 1) := by decide +kernel
theorem dX0_tell_0 : decode cX0_tell 0 = .ok (.iconst 0, 1) := by decide +kernel
theorem dX0_tell_1 : decode cX0_tell 1 = .ok (.istore_n 2, 1) := by decide +kernel
theorem dX0_tell_2 : decode cX0_tell 2 = .ok (.iload_n 2, 1) := by decide +kernel
theorem dX0_tell_3 : decode cX0_tell 3 = .ok (.aload_n 0, 1) := by decide +kernel
theorem dX0_tell_4 : decode cX0_tell 4 = .ok (.getfield 22, 3) := by decide +kernel
theorem dX0_tell_7 : decode cX0_tell 7 = .ok (.if_icmp .ge 24, 3) := by decide +kernel
theorem dX0_tell_10 : decode cX0_tell 10 = .ok (.aload_n 1, 1) := by decide +kernel
theorem dX0_tell_11 : decode cX0_tell 11 = .ok (.bipush 97, 2) := by decide +kernel
theorem dX0_tell_13 : decode cX0_tell 13 = .ok (.aload_n 0, 1) := by decide +kernel
theorem dX0_tell_14 : decode cX0_tell 14 = .ok (.getfield 9, 3) := by decide +kernel
theorem dX0_tell_17 : decode cX0_tell 17 = .ok (.iload_n 2, 1) := by decide +kernel
theorem dX0_tell_18 : decode cX0_tell 18 = .ok (.iaload, 1) := by decide +kernel
theorem dX0_tell_19 : decode cX0_tell 19 = .ok (.iadd, 1) := by decide +kernel
theorem dX0_tell_20 : decode cX0_tell 20 = .ok (.i2c, 1) := by decide +kernel
theorem dX0_tell_21 : decode cX0_tell 21 = .ok (.invokevirtual 68, 3) := by decide +kernel
theorem dX0_tell_24 : decode cX0_tell 24 = .ok (.pop, 1) := by decide +kernel
theorem dX0_tell_25 : decode cX0_tell 25 = .ok (.iinc 2 1, 3) := by decide +kernel
theorem dX0_tell_28 : decode cX0_tell 28 = .ok (.goto (-26), 3) := by decide +kernel
theorem dX0_tell_31 : decode cX0_tell 31 = .ok (.aload_n 1, 1) := by decide +kernel
theorem dX0_tell_32 : decode cX0_tell 32 = .ok (.bipush 32, 2) := by decide +kernel
theorem dX0_tell_34 : decode cX0_tell 34 = .ok (.invokevirtual 68, 3) := by decide +kernel
theorem dX0_tell_37 : decode cX0_tell 37 = .ok (.aload_n 0, 1) := by decide +kernel
theorem dX0_tell_38 : decode cX0_tell 38 = .ok (.getfield 25, 3) := by decide +kernel
theorem dX0_tell_41 : decode cX0_tell 41 = .ok (.invokevirtual 74, 3) := by decide +kernel
theorem dX0_tell_44 : decode cX0_tell 44 = .ok (.ldc 77, 2) := by decide +kernel
theorem dX0_tell_46 : decode cX0_tell 46 = .ok (.aload_n 0, 1) := by decide +kernel
theorem dX0_tell_47 : decode cX0_tell 47 = .ok (.getfield 28, 3) := by decide +kernel
theorem dX0_tell_50 : decode cX0_tell 50 = .ok (.invokevirtual 79, 3) := by decide +kernel
theorem dX0_tell_53 : decode cX0_tell 53 = .ok (.invokevirtual 68, 3) := by decide +kernel
theorem dX0_tell_56 : decode cX0_tell 56 = .ok (.pop, 1) := by decide +kernel
theorem dX0_tell_57 : decode cX0_tell 57 = .ok (.aload_n 0, 1) := by decide +kernel
theorem dX0_tell_58 : decode cX0_tell 58 = .ok (.getfield 37, 3) := by decide +kernel
theorem dX0_tell_61 : decode cX0_tell 61 = .ok (.ifCond .eq 13, 3) := by decide +kernel
theorem dX0_tell_64 : decode cX0_tell 64 = .ok (.aload_n 1, 1) := by decide +kernel
theorem dX0_tell_65 : decode cX0_tell 65 = .ok (.bipush 33, 2) := by decide +kernel
theorem dX0_tell_67 : decode cX0_tell 67 = .ok (.invokevirtual 68, 3) := by decide +kernel
theorem dX0_tell_70 : decode cX0_tell 70 = .ok (.pop, 1) := by decide +kernel
theorem dX0_tell_71 : decode cX0_tell 71 = .ok (.goto 12, 3) := by decide +kernel
theorem dX0_tell_74 : decode cX0_tell 74 = .ok (.aload_n 1, 1) := by decide +kernel
theorem dX0_tell_75 : decode cX0_tell 75 = .ok (.aload_n 0, 1) := by decide +kernel
theorem dX0_tell_76 : decode cX0_tell 76 = .ok (.getfield 34, 3) := by decide +kernel
theorem dX0_tell_79 : decode cX0_tell 79 = .ok (.invokevirtual 74, 3) := by decide +kernel
theorem dX0_tell_82 : decode cX0_tell 82 = .ok (.pop, 1) := by decide +kernel
theorem dX0_tell_83 : decode cX0_tell 83 = .ok (.return_, 1) := by decide +kernel
