theorem dX7_veers_132 : decode cX7_veers 132 = .ok (.ireturn, 1) := by decide +kernel
theorem dX7_veers_133 : decode cX7_veers 133 = .ok (.iconst 0, 1) := by decide +kernel
theorem dX7_veers_134 : decode cX7_veers 134 = .ok (.ireturn, 1) := by decide +kernel
theorem dX7_enough_0 : decode cX7_enough 0 = .ok (.aload_n 0, 1) := by decide +kernel
theorem dX7_enough_1 : decode cX7_enough 1 = .ok (.getfield 25, 3) := by decide +kernel
theorem dX7_enough_4 : decode cX7_enough 4 = .ok (.iload_n 1, 1) := by decide +kernel
theorem dX7_enough_5 : decode cX7_enough 5 = .ok (.iaload, 1) := by decide +kernel
theorem dX7_enough_6 : decode cX7_enough 6 = .ok (.istore_n 2, 1) := by decide +kernel
theorem dX7_enough_7 : decode cX7_enough 7 = .ok (.aload_n 0, 1) := by decide +kernel
theorem dX7_enough_8 : decode cX7_enough 8 = .ok (.getfield 22, 3) := by decide +kernel
theorem dX7_enough_11 : decode cX7_enough 11 = .ok (.iload_n 1, 1) := by decide +kernel
theorem dX7_enough_12 : decode cX7_enough 12 = .ok (.iaload, 1) := by decide +kernel
theorem dX7_enough_13 : decode cX7_enough 13 = .ok (.tableswitch 66 1 7 #[43, 46, 49, 53, 49, 56, 59], 43) := by decide +kernel
theorem dX7_enough_56 : decode cX7_enough 56 = .ok (.bipush 40, 2) := by decide +kernel
theorem dX7_enough_58 : decode cX7_enough 58 = .ok (.ireturn, 1) := by decide +kernel
theorem dX7_enough_59 : decode cX7_enough 59 = .ok (.bipush 99, 2) := by decide +kernel
theorem dX7_enough_61 : decode cX7_enough 61 = .ok (.ireturn, 1) := by decide +kernel
theorem dX7_enough_62 : decode cX7_enough 62 = .ok (.iload_n 2, 1) := by decide +kernel
theorem dX7_enough_63 : decode cX7_enough 63 = .ok (.iconst 5, 1) := by decide +kernel
theorem dX7_enough_64 : decode cX7_enough 64 = .ok (.iadd, 1) := by decide +kernel
theorem dX7_enough_65 : decode cX7_enough 65 = .ok (.ireturn, 1) := by decide +kernel
theorem dX7_enough_66 : decode cX7_enough 66 = .ok (.bipush 35, 2) := by decide +kernel
theorem dX7_enough_68 : decode cX7_enough 68 = .ok (.ireturn, 1) := by decide +kernel
theorem dX7_enough_69 : decode cX7_enough 69 = .ok (.bipush 49, 2) := by decide +kernel
theorem dX7_enough_71 : decode cX7_enough 71 = .ok (.ireturn, 1) := by decide +kernel
theorem dX7_enough_72 : decode cX7_enough 72 = .ok (.bipush 35, 2) := by decide +kernel
theorem dX7_enough_74 : decode cX7_enough 74 = .ok (.iload_n 2, 1) := by decide +kernel
theorem dX7_enough_75 : decode cX7_enough 75 = .ok (.iconst 2, 1) := by decide +kernel
theorem dX7_enough_76 : decode cX7_enough 76 = .ok (.idiv, 1) := by decide +kernel
theorem dX7_enough_77 : decode cX7_enough 77 = .ok (.isub, 1) := by decide +kernel
theorem dX7_enough_78 : decode cX7_enough 78 = .ok (.ireturn, 1) := by decide +kernel
theorem dX7_enough_79 : decode cX7_enough 79 = .ok (.bipush 20, 2) := by decide +kernel
theorem dX7_enough_81 : decode cX7_enough 81 = .ok (.ireturn, 1) := by decide +kernel
theorem dX7_beside_0 : decode cX7_beside 0 = .ok (.iload_n 1, 1) := by decide +kernel
theorem dX7_beside_1 : decode cX7_beside 1 = .ok (.tableswitch 77 0 2 #[27, 43, 61], 27) := by decide +kernel
theorem dX7_beside_28 : decode cX7_beside 28 = .ok (.iload_n 0, 1) := by decide +kernel
theorem dX7_beside_29 : decode cX7_beside 29 = .ok (.bipush 8, 2) := by decide +kernel
theorem dX7_beside_31 : decode cX7_beside 31 = .ok (.if_icmp .ge 8, 3) := by decide +kernel
theorem dX7_beside_34 : decode cX7_beside 34 = .ok (.bipush (-9), 2) := by decide +kernel
theorem dX7_beside_36 : decode cX7_beside 36 = .ok (.goto 7, 3) := by decide +kernel
theorem dX7_beside_39 : decode cX7_beside 39 = .ok (.iload_n 0, 1) := by decide +kernel
theorem dX7_beside_40 : decode cX7_beside 40 = .ok (.bipush 8, 2) := by decide +kernel
theorem dX7_beside_42 : decode cX7_beside 42 = .ok (.isub, 1) := by decide +kernel
theorem dX7_beside_43 : decode cX7_beside 43 = .ok (.ireturn, 1) := by decide +kernel
theorem dX7_beside_44 : decode cX7_beside 44 = .ok (.iload_n 0, 1) := by decide +kernel
theorem dX7_beside_45 : decode cX7_beside 45 = .ok (.bipush 8, 2) := by decide +kernel
theorem dX7_beside_47 : decode cX7_beside 47 = .ok (.irem, 1) := by decide +kernel
theorem dX7_beside_48 : decode cX7_beside 48 = .ok (.bipush 7, 2) := by decide +kernel
theorem dX7_beside_50 : decode cX7_beside 50 = .ok (.if_icmp .ne 8, 3) := by decide +kernel
theorem dX7_beside_53 : decode cX7_beside 53 = .ok (.bipush (-9), 2) := by decide +kernel
theorem dX7_beside_55 : decode cX7_beside 55 = .ok (.goto 6, 3) := by decide +kernel
theorem dX7_beside_58 : decode cX7_beside 58 = .ok (.iload_n 0, 1) := by decide +kernel
theorem dX7_beside_59 : decode cX7_beside 59 = .ok (.iconst 1, 1) := by decide +kernel
theorem dX7_beside_60 : decode cX7_beside 60 = .ok (.iadd, 1) := by decide +kernel
theorem dX7_beside_61 : decode cX7_beside 61 = .ok (.ireturn, 1) := by decide +kernel
theorem dX7_beside_62 : decode cX7_beside 62 = .ok (.iload_n 0, 1) := by decide +kernel
theorem dX7_beside_63 : decode cX7_beside 63 = .ok (.bipush 40, 2) := by decide +kernel
theorem dX7_beside_65 : decode cX7_beside 65 = .ok (.if_icmp .lt 8, 3) := by decide +kernel
theorem dX7_beside_68 : decode cX7_beside 68 = .ok (.bipush (-9), 2) := by decide +kernel
theorem dX7_beside_70 : decode cX7_beside 70 = .ok (.goto 7, 3) := by decide +kernel
theorem dX7_beside_73 : decode cX7_beside 73 = .ok (.iload_n 0, 1) := by decide +kernel
theorem dX7_beside_74 : decode cX7_beside 74 = .ok (.bipush 8, 2) := by decide +kernel
theorem dX7_beside_76 : decode cX7_beside 76 = .ok (.iadd, 1) := by decide +kernel
theorem dX7_beside_77 : decode cX7_beside 77 = .ok (.ireturn, 1) := by decide +kernel
theorem dX7_beside_78 : decode cX7_beside 78 = .ok (.iload_n 0, 1) := by decide +kernel
theorem dX7_beside_79 : decode cX7_beside 79 = .ok (.bipush 8, 2) := by decide +kernel
theorem dX7_beside_81 : decode cX7_beside 81 = .ok (.irem, 1) := by decide +kernel
theorem dX7_beside_82 : decode cX7_beside 82 = .ok (.ifCond .ne 8, 3) := by decide +kernel
theorem dX7_beside_85 : decode cX7_beside 85 = .ok (.bipush (-9), 2) := by decide +kernel
theorem dX7_beside_87 : decode cX7_beside 87 = .ok (.goto 6, 3) := by decide +kernel
theorem dX7_beside_90 : decode cX7_beside 90 = .ok (.iload_n 0, 1) := by decide +kernel
theorem dX7_beside_91 : decode cX7_beside 91 = .ok (.iconst 1, 1) := by decide +kernel
theorem dX7_beside_92 : decode cX7_beside 92 = .ok (.isub, 1) := by decide +kernel
theorem dX7_beside_93 : decode cX7_beside 93 = .ok (.ireturn, 1) := by decide +kernel
theorem dX7_quarters_0 : decode cX7_quarters 0 = .ok (.iload_n 0, 1) := by decide +kernel
theorem dX7_quarters_1 : decode cX7_quarters 1 = .ok (.iconst 1, 1) := by decide +kernel
theorem dX7_quarters_2 : decode cX7_quarters 2 = .ok (.if_icmp .ne 7, 3) := by decide +kernel
theorem dX7_quarters_5 : decode cX7_quarters 5 = .ok (.iconst 3, 1) := by decide +kernel
theorem dX7_quarters_6 : decode cX7_quarters 6 = .ok (.goto 14, 3) := by decide +kernel
theorem dX7_quarters_9 : decode cX7_quarters 9 = .ok (.iload_n 0, 1) := by decide +kernel
theorem dX7_quarters_10 : decode cX7_quarters 10 = .ok (.ifCond .ne 7, 3) := by decide +kernel
theorem dX7_quarters_13 : decode cX7_quarters 13 = .ok (.iconst 0, 1) := by decide +kernel
theorem dX7_quarters_14 : decode cX7_quarters 14 = .ok (.goto 6, 3) := by decide +kernel
theorem dX7_quarters_17 : decode cX7_quarters 17 = .ok (.iload_n 0, 1) := by decide +kernel
theorem dX7_quarters_18 : decode cX7_quarters 18 = .ok (.iconst 1, 1) := by decide +kernel
theorem dX7_quarters_19 : decode cX7_quarters 19 = .ok (.isub, 1) := by decide +kernel
theorem dX7_quarters_20 : decode cX7_quarters 20 = .ok (.ireturn, 1) := by decide +kernel
theorem dX7_turnsBack_0 : decode cX7_turnsBack 0 = .ok (.aload_n 0, 1) := by decide +kernel
theorem dX7_turnsBack_1 : decode cX7_turnsBack 1 = .ok (.getfield 31, 3) := by decide +kernel
theorem dX7_turnsBack_4 : decode cX7_turnsBack 4 = .ok (.iload_n 1, 1) := by decide +kernel
theorem dX7_turnsBack_5 : decode cX7_turnsBack 5 = .ok (.aload_n 0, 1) := by decide +kernel
theorem dX7_turnsBack_6 : decode cX7_turnsBack 6 = .ok (.getfield 31, 3) := by decide +kernel
theorem dX7_turnsBack_9 : decode cX7_turnsBack 9 = .ok (.iload_n 1, 1) := by decide +kernel
theorem dX7_turnsBack_10 : decode cX7_turnsBack 10 = .ok (.iaload, 1) := by decide +kernel
theorem dX7_turnsBack_11 : decode cX7_turnsBack 11 = .ok (.iconst 2, 1) := by decide +kernel
theorem dX7_turnsBack_12 : decode cX7_turnsBack 12 = .ok (.iadd, 1) := by decide +kernel
theorem dX7_turnsBack_13 : decode cX7_turnsBack 13 = .ok (.iconst 4, 1) := by decide +kernel
theorem dX7_turnsBack_14 : decode cX7_turnsBack 14 = .ok (.irem, 1) := by decide +kernel
theorem dX7_turnsBack_15 : decode cX7_turnsBack 15 = .ok (.iastore, 1) := by decide +kernel
theorem dX7_turnsBack_16 : decode cX7_turnsBack 16 = .ok (.return_, 1) := by decide +kernel
theorem dX7_takesStep_0 : decode cX7_takesStep 0 = .ok (.aload_n 0, 1) := by decide +kernel
theorem dX7_takesStep_1 : decode cX7_takesStep 1 = .ok (.getfield 28, 3) := by decide +kernel
theorem dX7_takesStep_4 : decode cX7_takesStep 4 = .ok (.iload_n 1, 1) := by decide +kernel
theorem dX7_takesStep_5 : decode cX7_takesStep 5 = .ok (.iaload, 1) := by decide +kernel
theorem dX7_takesStep_6 : decode cX7_takesStep 6 = .ok (.aload_n 0, 1) := by decide +kernel
theorem dX7_takesStep_7 : decode cX7_takesStep 7 = .ok (.getfield 31, 3) := by decide +kernel
theorem dX7_takesStep_10 : decode cX7_takesStep 10 = .ok (.iload_n 1, 1) := by decide +kernel
theorem dX7_takesStep_11 : decode cX7_takesStep 11 = .ok (.iaload, 1) := by decide +kernel
theorem dX7_takesStep_12 : decode cX7_takesStep 12 = .ok (.invokestatic 100, 3) := by decide +kernel
theorem dX7_takesStep_15 : decode cX7_takesStep 15 = .ok (.istore_n 2, 1) := by decide +kernel
theorem dX7_takesStep_16 : decode cX7_takesStep 16 = .ok (.iload_n 2, 1) := by decide +kernel
theorem dX7_takesStep_17 : decode cX7_takesStep 17 = .ok (.ifCond .ge 10, 3) := by decide +kernel
theorem dX7_takesStep_20 : decode cX7_takesStep 20 = .ok (.aload_n 0, 1) := by decide +kernel
theorem dX7_takesStep_21 : decode cX7_takesStep 21 = .ok (.iload_n 1, 1) := by decide +kernel
theorem dX7_takesStep_22 : decode cX7_takesStep 22 = .ok (.invokevirtual 103, 3) := by decide +kernel
theorem dX7_takesStep_25 : decode cX7_takesStep 25 = .ok (.iconst 0, 1) := by decide +kernel
theorem dX7_takesStep_26 : decode cX7_takesStep 26 = .ok (.ireturn, 1) := by decide +kernel
theorem dX7_takesStep_27 : decode cX7_takesStep 27 = .ok (.aload_n 0, 1) := by decide +kernel
theorem dX7_takesStep_28 : decode cX7_takesStep 28 = .ok (.getfield 13, 3) := by decide +kernel
theorem dX7_takesStep_31 : decode cX7_takesStep 31 = .ok (.iload_n 2, 1) := by decide +kernel
theorem dX7_takesStep_32 : decode cX7_takesStep 32 = .ok (.iaload, 1) := by decide +kernel
theorem dX7_takesStep_33 : decode cX7_takesStep 33 = .ok (.ifCond .le 41, 3) := by decide +kernel
theorem dX7_takesStep_36 : decode cX7_takesStep 36 = .ok (.aload_n 0, 1) := by decide +kernel
theorem dX7_takesStep_37 : decode cX7_takesStep 37 = .ok (.getfield 13, 3) := by decide +kernel
theorem dX7_takesStep_40 : decode cX7_takesStep 40 = .ok (.iload_n 2, 1) := by decide +kernel
theorem dX7_takesStep_41 : decode cX7_takesStep 41 = .ok (.aload_n 0, 1) := by decide +kernel
theorem dX7_takesStep_42 : decode cX7_takesStep 42 = .ok (.getfield 13, 3) := by decide +kernel
theorem dX7_takesStep_45 : decode cX7_takesStep 45 = .ok (.iload_n 2, 1) := by decide +kernel
theorem dX7_takesStep_46 : decode cX7_takesStep 46 = .ok (.iaload, 1) := by decide +kernel
theorem dX7_takesStep_47 : decode cX7_takesStep 47 = .ok (.aload_n 0, 1) := by decide +kernel
theorem dX7_takesStep_48 : decode cX7_takesStep 48 = .ok (.iload_n 1, 1) := by decide +kernel
theorem dX7_takesStep_49 : decode cX7_takesStep 49 = .ok (.invokevirtual 107, 3) := by decide +kernel
theorem dX7_takesStep_52 : decode cX7_takesStep 52 = .ok (.if_icmp .le 18, 3) := by decide +kernel
theorem dX7_takesStep_55 : decode cX7_takesStep 55 = .ok (.aload_n 0, 1) := by decide +kernel
theorem dX7_takesStep_56 : decode cX7_takesStep 56 = .ok (.getfield 13, 3) := by decide +kernel
theorem dX7_takesStep_59 : decode cX7_takesStep 59 = .ok (.iload_n 2, 1) := by decide +kernel
theorem dX7_takesStep_60 : decode cX7_takesStep 60 = .ok (.iaload, 1) := by decide +kernel
theorem dX7_takesStep_61 : decode cX7_takesStep 61 = .ok (.aload_n 0, 1) := by decide +kernel
theorem dX7_takesStep_62 : decode cX7_takesStep 62 = .ok (.iload_n 1, 1) := by decide +kernel
theorem dX7_takesStep_63 : decode cX7_takesStep 63 = .ok (.invokevirtual 107, 3) := by decide +kernel
theorem dX7_takesStep_66 : decode cX7_takesStep 66 = .ok (.isub, 1) := by decide +kernel
theorem dX7_takesStep_67 : decode cX7_takesStep 67 = .ok (.goto 4, 3) := by decide +kernel
theorem dX7_takesStep_70 : decode cX7_takesStep 70 = .ok (.iconst 0, 1) := by decide +kernel
theorem dX7_takesStep_71 : decode cX7_takesStep 71 = .ok (.iastore, 1) := by decide +kernel
theorem dX7_takesStep_72 : decode cX7_takesStep 72 = .ok (.iconst 0, 1) := by decide +kernel
theorem dX7_takesStep_73 : decode cX7_takesStep 73 = .ok (.ireturn, 1) := by decide +kernel
theorem dX7_takesStep_74 : decode cX7_takesStep 74 = .ok (.aload_n 0, 1) := by decide +kernel
theorem dX7_takesStep_75 : decode cX7_takesStep 75 = .ok (.getfield 28, 3) := by decide +kernel
theorem dX7_takesStep_78 : decode cX7_takesStep 78 = .ok (.iload_n 1, 1) := by decide +kernel
theorem dX7_takesStep_79 : decode cX7_takesStep 79 = .ok (.iload_n 2, 1) := by decide +kernel
theorem dX7_takesStep_80 : decode cX7_takesStep 80 = .ok (.iastore, 1) := by decide +kernel
theorem dX7_takesStep_81 : decode cX7_takesStep 81 = .ok (.iconst 1, 1) := by decide +kernel
theorem dX7_takesStep_82 : decode cX7_takesStep 82 = .ok (.ireturn, 1) := by decide +kernel
theorem dX7_hasLetter_0 : decode cX7_hasLetter 0 = .ok (.iconst 0, 1) := by decide +kernel
theorem dX7_hasLetter_1 : decode cX7_hasLetter 1 = .ok (.istore_n 3, 1) := by decide +kernel
theorem dX7_hasLetter_2 : decode cX7_hasLetter 2 = .ok (.iload_n 3, 1) := by decide +kernel
theorem dX7_hasLetter_3 : decode cX7_hasLetter 3 = .ok (.aload_n 0, 1) := by decide +kernel
theorem dX7_hasLetter_4 : decode cX7_hasLetter 4 = .ok (.getfield 43, 3) := by decide +kernel
theorem dX7_hasLetter_7 : decode cX7_hasLetter 7 = .ok (.iload_n 1, 1) := by decide +kernel
theorem dX7_hasLetter_8 : decode cX7_hasLetter 8 = .ok (.iaload, 1) := by decide +kernel
theorem dX7_hasLetter_9 : decode cX7_hasLetter 9 = .ok (.if_icmp .ge 26, 3) := by decide +kernel
theorem dX7_hasLetter_12 : decode cX7_hasLetter 12 = .ok (.aload_n 0, 1) := by decide +kernel
theorem dX7_hasLetter_13 : decode cX7_hasLetter 13 = .ok (.getfield 46, 3) := by decide +kernel
theorem dX7_hasLetter_16 : decode cX7_hasLetter 16 = .ok (.bipush 6, 2) := by decide +kernel
theorem dX7_hasLetter_18 : decode cX7_hasLetter 18 = .ok (.iload_n 1, 1) := by decide +kernel
theorem dX7_hasLetter_19 : decode cX7_hasLetter 19 = .ok (.imul, 1) := by decide +kernel
theorem dX7_hasLetter_20 : decode cX7_hasLetter 20 = .ok (.iload_n 3, 1) := by decide +kernel
theorem dX7_hasLetter_21 : decode cX7_hasLetter 21 = .ok (.iadd, 1) := by decide +kernel
theorem dX7_hasLetter_22 : decode cX7_hasLetter 22 = .ok (.iaload, 1) := by decide +kernel
theorem dX7_hasLetter_23 : decode cX7_hasLetter 23 = .ok (.iload_n 2, 1) := by decide +kernel
theorem dX7_hasLetter_24 : decode cX7_hasLetter 24 = .ok (.if_icmp .ne 5, 3) := by decide +kernel
theorem dX7_hasLetter_27 : decode cX7_hasLetter 27 = .ok (.iconst 1, 1) := by decide +kernel
theorem dX7_hasLetter_28 : decode cX7_hasLetter 28 = .ok (.ireturn, 1) := by decide +kernel
theorem dX7_hasLetter_29 : decode cX7_hasLetter 29 = .ok (.iinc 3 1, 3) := by decide +kernel
theorem dX7_hasLetter_32 : decode cX7_hasLetter 32 = .ok (.goto (-30), 3) := by decide +kernel
theorem dX7_hasLetter_35 : decode cX7_hasLetter 35 = .ok (.iconst 0, 1) := by decide +kernel
theorem dX7_hasLetter_36 : decode cX7_hasLetter 36 = .ok (.ireturn, 1) := by decide +kernel
theorem dX7_isFollowed_0 : decode cX7_isFollowed 0 = .ok (.aload_n 0, 1) := by decide +kernel
theorem dX7_isFollowed_1 : decode cX7_isFollowed 1 = .ok (.getfield 28, 3) := by decide +kernel
theorem dX7_isFollowed_4 : decode cX7_isFollowed 4 = .ok (.iload_n 1, 1) := by decide +kernel
theorem dX7_isFollowed_5 : decode cX7_isFollowed 5 = .ok (.iaload, 1) := by decide +kernel
theorem dX7_isFollowed_6 : decode cX7_isFollowed 6 = .ok (.istore_n 2, 1) := by decide +kernel
theorem dX7_isFollowed_7 : decode cX7_isFollowed 7 = .ok (.aload_n 0, 1) := by decide +kernel
theorem dX7_isFollowed_8 : decode cX7_isFollowed 8 = .ok (.iload_n 1, 1) := by decide +kernel
theorem dX7_isFollowed_9 : decode cX7_isFollowed 9 = .ok (.aload_n 0, 1) := by decide +kernel
theorem dX7_isFollowed_10 : decode cX7_isFollowed 10 = .ok (.getfield 19, 3) := by decide +kernel
theorem dX7_isFollowed_13 : decode cX7_isFollowed 13 = .ok (.iload_n 2, 1) := by decide +kernel
theorem dX7_isFollowed_14 : decode cX7_isFollowed 14 = .ok (.iaload, 1) := by decide +kernel
theorem dX7_isFollowed_15 : decode cX7_isFollowed 15 = .ok (.invokevirtual 111, 3) := by decide +kernel
theorem dX7_isFollowed_18 : decode cX7_isFollowed 18 = .ok (.ifCond .ne 4, 3) := by decide +kernel
theorem dX7_isFollowed_21 : decode cX7_isFollowed 21 = .ok (.return_, 1) := by decide +kernel
theorem dX7_isFollowed_22 : decode cX7_isFollowed 22 = .ok (.aload_n 0, 1) := by decide +kernel
theorem dX7_isFollowed_23 : decode cX7_isFollowed 23 = .ok (.getfield 37, 3) := by decide +kernel
theorem dX7_isFollowed_26 : decode cX7_isFollowed 26 = .ok (.iload_n 1, 1) := by decide +kernel
theorem dX7_isFollowed_27 : decode cX7_isFollowed 27 = .ok (.aload_n 0, 1) := by decide +kernel
theorem dX7_isFollowed_28 : decode cX7_isFollowed 28 = .ok (.getfield 37, 3) := by decide +kernel
theorem dX7_isFollowed_31 : decode cX7_isFollowed 31 = .ok (.iload_n 1, 1) := by decide +kernel
theorem dX7_isFollowed_32 : decode cX7_isFollowed 32 = .ok (.iaload, 1) := by decide +kernel
theorem dX7_isFollowed_33 : decode cX7_isFollowed 33 = .ok (.aload_n 0, 1) := by decide +kernel
theorem dX7_isFollowed_34 : decode cX7_isFollowed 34 = .ok (.getfield 16, 3) := by decide +kernel
theorem dX7_isFollowed_37 : decode cX7_isFollowed 37 = .ok (.iload_n 2, 1) := by decide +kernel
theorem dX7_isFollowed_38 : decode cX7_isFollowed 38 = .ok (.iaload, 1) := by decide +kernel
theorem dX7_isFollowed_39 : decode cX7_isFollowed 39 = .ok (.iadd, 1) := by decide +kernel
theorem dX7_isFollowed_40 : decode cX7_isFollowed 40 = .ok (.bipush 99, 2) := by decide +kernel
theorem dX7_isFollowed_42 : decode cX7_isFollowed 42 = .ok (.invokestatic 115, 3) := by decide +kernel
theorem dX7_isFollowed_45 : decode cX7_isFollowed 45 = .ok (.iastore, 1) := by decide +kernel
theorem dX7_isFollowed_46 : decode cX7_isFollowed 46 = .ok (.aload_n 0, 1) := by decide +kernel
theorem dX7_isFollowed_47 : decode cX7_isFollowed 47 = .ok (.getfield 16, 3) := by decide +kernel
theorem dX7_isFollowed_50 : decode cX7_isFollowed 50 = .ok (.iload_n 2, 1) := by decide +kernel
theorem dX7_isFollowed_51 : decode cX7_isFollowed 51 = .ok (.iconst 0, 1) := by decide +kernel
theorem dX7_isFollowed_52 : decode cX7_isFollowed 52 = .ok (.iastore, 1) := by decide +kernel
theorem dX7_isFollowed_53 : decode cX7_isFollowed 53 = .ok (.return_, 1) := by decide +kernel
theorem dX7_sameFrom_0 : decode cX7_sameFrom 0 = .ok (.iconst 0, 1) := by decide +kernel
theorem dX7_sameFrom_1 : decode cX7_sameFrom 1 = .ok (.istore_n 3, 1) := by decide +kernel
theorem dX7_sameFrom_2 : decode cX7_sameFrom 2 = .ok (.iload_n 3, 1) := by decide +kernel
theorem dX7_sameFrom_3 : decode cX7_sameFrom 3 = .ok (.aload_n 0, 1) := by decide +kernel
theorem dX7_sameFrom_4 : decode cX7_sameFrom 4 = .ok (.getfield 43, 3) := by decide +kernel
theorem dX7_sameFrom_7 : decode cX7_sameFrom 7 = .ok (.iload_n 1, 1) := by decide +kernel
theorem dX7_sameFrom_8 : decode cX7_sameFrom 8 = .ok (.iaload, 1) := by decide +kernel
theorem dX7_sameFrom_9 : decode cX7_sameFrom 9 = .ok (.if_icmp .ge 44, 3) := by decide +kernel
theorem dX7_sameFrom_12 : decode cX7_sameFrom 12 = .ok (.iload_n 3, 1) := by decide +kernel
theorem dX7_sameFrom_13 : decode cX7_sameFrom 13 = .ok (.aload_n 0, 1) := by decide +kernel
theorem dX7_sameFrom_14 : decode cX7_sameFrom 14 = .ok (.getfield 43, 3) := by decide +kernel
theorem dX7_sameFrom_17 : decode cX7_sameFrom 17 = .ok (.iload_n 2, 1) := by decide +kernel
theorem dX7_sameFrom_18 : decode cX7_sameFrom 18 = .ok (.iaload, 1) := by decide +kernel
theorem dX7_sameFrom_19 : decode cX7_sameFrom 19 = .ok (.if_icmp .ge 34, 3) := by decide +kernel
theorem dX7_sameFrom_22 : decode cX7_sameFrom 22 = .ok (.aload_n 0, 1) := by decide +kernel
theorem dX7_sameFrom_23 : decode cX7_sameFrom 23 = .ok (.getfield 46, 3) := by decide +kernel
theorem dX7_sameFrom_26 : decode cX7_sameFrom 26 = .ok (.bipush 6, 2) := by decide +kernel
theorem dX7_sameFrom_28 : decode cX7_sameFrom 28 = .ok (.iload_n 1, 1) := by decide +kernel
theorem dX7_sameFrom_29 : decode cX7_sameFrom 29 = .ok (.imul, 1) := by decide +kernel
theorem dX7_sameFrom_30 : decode cX7_sameFrom 30 = .ok (.iload_n 3, 1) := by decide +kernel
theorem dX7_sameFrom_31 : decode cX7_sameFrom 31 = .ok (.iadd, 1) := by decide +kernel
theorem dX7_sameFrom_32 : decode cX7_sameFrom 32 = .ok (.iaload, 1) := by decide +kernel
theorem dX7_sameFrom_33 : decode cX7_sameFrom 33 = .ok (.aload_n 0, 1) := by decide +kernel
theorem dX7_sameFrom_34 : decode cX7_sameFrom 34 = .ok (.getfield 46, 3) := by decide +kernel
theorem dX7_sameFrom_37 : decode cX7_sameFrom 37 = .ok (.bipush 6, 2) := by decide +kernel
theorem dX7_sameFrom_39 : decode cX7_sameFrom 39 = .ok (.iload_n 2, 1) := by decide +kernel
theorem dX7_sameFrom_40 : decode cX7_sameFrom 40 = .ok (.imul, 1) := by decide +kernel
theorem dX7_sameFrom_41 : decode cX7_sameFrom 41 = .ok (.iload_n 3, 1) := by decide +kernel
theorem dX7_sameFrom_42 : decode cX7_sameFrom 42 = .ok (.iadd, 1) := by decide +kernel
theorem dX7_sameFrom_43 : decode cX7_sameFrom 43 = .ok (.iaload, 1) := by decide +kernel
theorem dX7_sameFrom_44 : decode cX7_sameFrom 44 = .ok (.if_icmp .ne 9, 3) := by decide +kernel
theorem dX7_sameFrom_47 : decode cX7_sameFrom 47 = .ok (.iinc 3 1, 3) := by decide +kernel
theorem dX7_sameFrom_50 : decode cX7_sameFrom 50 = .ok (.goto (-48), 3) := by decide +kernel
theorem dX7_sameFrom_53 : decode cX7_sameFrom 53 = .ok (.iload_n 3, 1) := by decide +kernel
theorem dX7_sameFrom_54 : decode cX7_sameFrom 54 = .ok (.ireturn, 1) := by decide +kernel
theorem dX7_compares_0 : decode cX7_compares 0 = .ok (.aload_n 0, 1) := by decide +kernel
theorem dX7_compares_1 : decode cX7_compares 1 = .ok (.iload_n 1, 1) := by decide +kernel
theorem dX7_compares_2 : decode cX7_compares 2 = .ok (.iload_n 2, 1) := by decide +kernel
theorem dX7_compares_3 : decode cX7_compares 3 = .ok (.invokevirtual 118, 3) := by decide +kernel
theorem dX7_compares_6 : decode cX7_compares 6 = .ok (.istore_n 3, 1) := by decide +kernel
theorem dX7_compares_7 : decode cX7_compares 7 = .ok (.iload_n 3, 1) := by decide +kernel
theorem dX7_compares_8 : decode cX7_compares 8 = .ok (.aload_n 0, 1) := by decide +kernel
theorem dX7_compares_9 : decode cX7_compares 9 = .ok (.getfield 43, 3) := by decide +kernel
theorem dX7_compares_12 : decode cX7_compares 12 = .ok (.iload_n 1, 1) := by decide +kernel
theorem dX7_compares_13 : decode cX7_compares 13 = .ok (.iaload, 1) := by decide +kernel
theorem dX7_compares_14 : decode cX7_compares 14 = .ok (.if_icmp .ge 17, 3) := by decide +kernel
theorem dX7_compares_17 : decode cX7_compares 17 = .ok (.aload_n 0, 1) := by decide +kernel
theorem dX7_compares_18 : decode cX7_compares 18 = .ok (.getfield 46, 3) := by decide +kernel
theorem dX7_compares_21 : decode cX7_compares 21 = .ok (.bipush 6, 2) := by decide +kernel
theorem dX7_compares_23 : decode cX7_compares 23 = .ok (.iload_n 1, 1) := by decide +kernel
theorem dX7_compares_24 : decode cX7_compares 24 = .ok (.imul, 1) := by decide +kernel
theorem dX7_compares_25 : decode cX7_compares 25 = .ok (.iload_n 3, 1) := by decide +kernel
theorem dX7_compares_26 : decode cX7_compares 26 = .ok (.iadd, 1) := by decide +kernel
theorem dX7_compares_27 : decode cX7_compares 27 = .ok (.iaload, 1) := by decide +kernel
theorem dX7_compares_28 : decode cX7_compares 28 = .ok (.goto 4, 3) := by decide +kernel
theorem dX7_compares_31 : decode cX7_compares 31 = .ok (.iconst (-1), 1) := by decide +kernel
theorem dX7_compares_32 : decode cX7_compares 32 = .ok (.istore 4, 2) := by decide +kernel
theorem dX7_compares_34 : decode cX7_compares 34 = .ok (.iload_n 3, 1) := by decide +kernel
theorem dX7_compares_35 : decode cX7_compares 35 = .ok (.aload_n 0, 1) := by decide +kernel
theorem dX7_compares_36 : decode cX7_compares 36 = .ok (.getfield 43, 3) := by decide +kernel
theorem dX7_compares_39 : decode cX7_compares 39 = .ok (.iload_n 2, 1) := by decide +kernel
theorem dX7_compares_40 : decode cX7_compares 40 = .ok (.iaload, 1) := by decide +kernel
theorem dX7_compares_41 : decode cX7_compares 41 = .ok (.if_icmp .ge 17, 3) := by decide +kernel
theorem dX7_compares_44 : decode cX7_compares 44 = .ok (.aload_n 0, 1) := by decide +kernel
theorem dX7_compares_45 : decode cX7_compares 45 = .ok (.getfield 46, 3) := by decide +kernel
theorem dX7_compares_48 : decode cX7_compares 48 = .ok (.bipush 6, 2) := by decide +kernel
theorem dX7_compares_50 : decode cX7_compares 50 = .ok (.iload_n 2, 1) := by decide +kernel
theorem dX7_compares_51 : decode cX7_compares 51 = .ok (.imul, 1) := by decide +kernel
theorem dX7_compares_52 : decode cX7_compares 52 = .ok (.iload_n 3, 1) := by decide +kernel
theorem dX7_compares_53 : decode cX7_compares 53 = .ok (.iadd, 1) := by decide +kernel
theorem dX7_compares_54 : decode cX7_compares 54 = .ok (.iaload, 1) := by decide +kernel
theorem dX7_compares_55 : decode cX7_compares 55 = .ok (.goto 4, 3) := by decide +kernel
theorem dX7_compares_58 : decode cX7_compares 58 = .ok (.iconst (-1), 1) := by decide +kernel
theorem dX7_compares_59 : decode cX7_compares 59 = .ok (.istore 5, 2) := by decide +kernel
theorem dX7_compares_61 : decode cX7_compares 61 = .ok (.iload 4, 2) := by decide +kernel
theorem dX7_compares_63 : decode cX7_compares 63 = .ok (.iload 5, 2) := by decide +kernel
theorem dX7_compares_65 : decode cX7_compares 65 = .ok (.isub, 1) := by decide +kernel
theorem dX7_compares_66 : decode cX7_compares 66 = .ok (.ireturn, 1) := by decide +kernel
theorem dX7_lesserOf_0 : decode cX7_lesserOf 0 = .ok (.aload_n 0, 1) := by decide +kernel
theorem dX7_lesserOf_1 : decode cX7_lesserOf 1 = .ok (.iload_n 1, 1) := by decide +kernel
theorem dX7_lesserOf_2 : decode cX7_lesserOf 2 = .ok (.invokevirtual 107, 3) := by decide +kernel
theorem dX7_lesserOf_5 : decode cX7_lesserOf 5 = .ok (.aload_n 0, 1) := by decide +kernel
theorem dX7_lesserOf_6 : decode cX7_lesserOf 6 = .ok (.iload_n 2, 1) := by decide +kernel
theorem dX7_lesserOf_7 : decode cX7_lesserOf 7 = .ok (.invokevirtual 107, 3) := by decide +kernel
theorem dX7_lesserOf_10 : decode cX7_lesserOf 10 = .ok (.if_icmp .eq 22, 3) := by decide +kernel
theorem dX7_lesserOf_13 : decode cX7_lesserOf 13 = .ok (.aload_n 0, 1) := by decide +kernel
theorem dX7_lesserOf_14 : decode cX7_lesserOf 14 = .ok (.iload_n 1, 1) := by decide +kernel
theorem dX7_lesserOf_15 : decode cX7_lesserOf 15 = .ok (.invokevirtual 107, 3) := by decide +kernel
theorem dX7_lesserOf_18 : decode cX7_lesserOf 18 = .ok (.aload_n 0, 1) := by decide +kernel
theorem dX7_lesserOf_19 : decode cX7_lesserOf 19 = .ok (.iload_n 2, 1) := by decide +kernel
theorem dX7_lesserOf_20 : decode cX7_lesserOf 20 = .ok (.invokevirtual 107, 3) := by decide +kernel
theorem dX7_lesserOf_23 : decode cX7_lesserOf 23 = .ok (.if_icmp .ge 7, 3) := by decide +kernel
theorem dX7_lesserOf_26 : decode cX7_lesserOf 26 = .ok (.iload_n 1, 1) := by decide +kernel
theorem dX7_lesserOf_27 : decode cX7_lesserOf 27 = .ok (.goto 4, 3) := by decide +kernel
theorem dX7_lesserOf_30 : decode cX7_lesserOf 30 = .ok (.iload_n 2, 1) := by decide +kernel
theorem dX7_lesserOf_31 : decode cX7_lesserOf 31 = .ok (.ireturn, 1) := by decide +kernel
theorem dX7_lesserOf_32 : decode cX7_lesserOf 32 = .ok (.aload_n 0, 1) := by decide +kernel
theorem dX7_lesserOf_33 : decode cX7_lesserOf 33 = .ok (.iload_n 1, 1) := by decide +kernel
theorem dX7_lesserOf_34 : decode cX7_lesserOf 34 = .ok (.iload_n 2, 1) := by decide +kernel
theorem dX7_lesserOf_35 : decode cX7_lesserOf 35 = .ok (.invokevirtual 121, 3) := by decide +kernel
theorem dX7_lesserOf_38 : decode cX7_lesserOf 38 = .ok (.istore_n 3, 1) := by decide +kernel
theorem dX7_lesserOf_39 : decode cX7_lesserOf 39 = .ok (.iload_n 3, 1) := by decide +kernel
theorem dX7_lesserOf_40 : decode cX7_lesserOf 40 = .ok (.ifCond .eq 13, 3) := by decide +kernel
theorem dX7_lesserOf_43 : decode cX7_lesserOf 43 = .ok (.iload_n 3, 1) := by decide +kernel
theorem dX7_lesserOf_44 : decode cX7_lesserOf 44 = .ok (.ifCond .ge 7, 3) := by decide +kernel
theorem dX7_lesserOf_47 : decode cX7_lesserOf 47 = .ok (.iload_n 1, 1) := by decide +kernel
theorem dX7_lesserOf_48 : decode cX7_lesserOf 48 = .ok (.goto 4, 3) := by decide +kernel
theorem dX7_lesserOf_51 : decode cX7_lesserOf 51 = .ok (.iload_n 2, 1) := by decide +kernel
theorem dX7_lesserOf_52 : decode cX7_lesserOf 52 = .ok (.ireturn, 1) := by decide +kernel
theorem dX7_lesserOf_53 : decode cX7_lesserOf 53 = .ok (.iload_n 1, 1) := by decide +kernel
theorem dX7_lesserOf_54 : decode cX7_lesserOf 54 = .ok (.iload_n 2, 1) := by decide +kernel
theorem dX7_lesserOf_55 : decode cX7_lesserOf 55 = .ok (.if_icmp .le 7, 3) := by decide +kernel
theorem dX7_lesserOf_58 : decode cX7_lesserOf 58 = .ok (.iload_n 1, 1) := by decide +kernel
theorem dX7_lesserOf_59 : decode cX7_lesserOf 59 = .ok (.goto 4, 3) := by decide +kernel
theorem dX7_lesserOf_62 : decode cX7_lesserOf 62 = .ok (.iload_n 2, 1) := by decide +kernel
theorem dX7_lesserOf_63 : decode cX7_lesserOf 63 = .ok (.ireturn, 1) := by decide +kernel
theorem dX7_metBy_0 : decode cX7_metBy 0 = .ok (.iconst 0, 1) := by decide +kernel
theorem dX7_metBy_1 : decode cX7_metBy 1 = .ok (.istore_n 2, 1) := by decide +kernel
theorem dX7_metBy_2 : decode cX7_metBy 2 = .ok (.iload_n 2, 1) := by decide +kernel
theorem dX7_metBy_3 : decode cX7_metBy 3 = .ok (.aload_n 0, 1) := by decide +kernel
theorem dX7_metBy_4 : decode cX7_metBy 4 = .ok (.getfield 79, 3) := by decide +kernel
theorem dX7_metBy_7 : decode cX7_metBy 7 = .ok (.if_icmp .ge 40, 3) := by decide +kernel
theorem dX7_metBy_10 : decode cX7_metBy 10 = .ok (.iload_n 2, 1) := by decide +kernel
theorem dX7_metBy_11 : decode cX7_metBy 11 = .ok (.iload_n 1, 1) := by decide +kernel
theorem dX7_metBy_12 : decode cX7_metBy 12 = .ok (.if_icmp .eq 29, 3) := by decide +kernel
theorem dX7_metBy_15 : decode cX7_metBy 15 = .ok (.aload_n 0, 1) := by decide +kernel
theorem dX7_metBy_16 : decode cX7_metBy 16 = .ok (.getfield 40, 3) := by decide +kernel
theorem dX7_metBy_19 : decode cX7_metBy 19 = .ok (.iload_n 2, 1) := by decide +kernel
theorem dX7_metBy_20 : decode cX7_metBy 20 = .ok (.iaload, 1) := by decide +kernel
theorem dX7_metBy_21 : decode cX7_metBy 21 = .ok (.ifCond .ne 20, 3) := by decide +kernel
theorem dX7_metBy_24 : decode cX7_metBy 24 = .ok (.aload_n 0, 1) := by decide +kernel
theorem dX7_metBy_25 : decode cX7_metBy 25 = .ok (.getfield 28, 3) := by decide +kernel
theorem dX7_metBy_28 : decode cX7_metBy 28 = .ok (.iload_n 2, 1) := by decide +kernel
theorem dX7_metBy_29 : decode cX7_metBy 29 = .ok (.iaload, 1) := by decide +kernel
theorem dX7_metBy_30 : decode cX7_metBy 30 = .ok (.aload_n 0, 1) := by decide +kernel
theorem dX7_metBy_31 : decode cX7_metBy 31 = .ok (.getfield 28, 3) := by decide +kernel
theorem dX7_metBy_34 : decode cX7_metBy 34 = .ok (.iload_n 1, 1) := by decide +kernel
theorem dX7_metBy_35 : decode cX7_metBy 35 = .ok (.iaload, 1) := by decide +kernel
theorem dX7_metBy_36 : decode cX7_metBy 36 = .ok (.if_icmp .ne 5, 3) := by decide +kernel
theorem dX7_metBy_39 : decode cX7_metBy 39 = .ok (.iload_n 2, 1) := by decide +kernel
theorem dX7_metBy_40 : decode cX7_metBy 40 = .ok (.ireturn, 1) := by decide +kernel
theorem dX7_metBy_41 : decode cX7_metBy 41 = .ok (.iinc 2 1, 3) := by decide +kernel
theorem dX7_metBy_44 : decode cX7_metBy 44 = .ok (.goto (-42), 3) := by decide +kernel
theorem dX7_metBy_47 : decode cX7_metBy 47 = .ok (.bipush (-9), 2) := by decide +kernel
theorem dX7_metBy_49 : decode cX7_metBy 49 = .ok (.ireturn, 1) := by decide +kernel
theorem dX7_meets_0 : decode cX7_meets 0 = .ok (.aload_n 0, 1) := by decide +kernel
theorem dX7_meets_1 : decode cX7_meets 1 = .ok (.iload_n 1, 1) := by decide +kernel
theorem dX7_meets_2 : decode cX7_meets 2 = .ok (.invokevirtual 124, 3) := by decide +kernel
theorem dX7_meets_5 : decode cX7_meets 5 = .ok (.istore_n 2, 1) := by decide +kernel
theorem dX7_meets_6 : decode cX7_meets 6 = .ok (.iload_n 2, 1) := by decide +kernel
theorem dX7_meets_7 : decode cX7_meets 7 = .ok (.ifCond .ge 4, 3) := by decide +kernel
theorem dX7_meets_10 : decode cX7_meets 10 = .ok (.return_, 1) := by decide +kernel
theorem dX7_meets_11 : decode cX7_meets 11 = .ok (.aload_n 0, 1) := by decide +kernel
theorem dX7_meets_12 : decode cX7_meets 12 = .ok (.aload_n 0, 1) := by decide +kernel
theorem dX7_meets_13 : decode cX7_meets 13 = .ok (.getfield 127, 3) := by decide +kernel
theorem dX7_meets_16 : decode cX7_meets 16 = .ok (.iconst 1, 1) := by decide +kernel
theorem dX7_meets_17 : decode cX7_meets 17 = .ok (.iadd, 1) := by decide +kernel
theorem dX7_meets_18 : decode cX7_meets 18 = .ok (.sipush 9999, 3) := by decide +kernel
theorem dX7_meets_21 : decode cX7_meets 21 = .ok (.invokestatic 115, 3) := by decide +kernel
theorem dX7_meets_24 : decode cX7_meets 24 = .ok (.putfield 127, 3) := by decide +kernel
theorem dX7_meets_27 : decode cX7_meets 27 = .ok (.aload_n 0, 1) := by decide +kernel
theorem dX7_meets_28 : decode cX7_meets 28 = .ok (.iload_n 1, 1) := by decide +kernel
theorem dX7_meets_29 : decode cX7_meets 29 = .ok (.iload_n 2, 1) := by decide +kernel
theorem dX7_meets_30 : decode cX7_meets 30 = .ok (.invokevirtual 130, 3) := by decide +kernel
theorem dX7_meets_33 : decode cX7_meets 33 = .ok (.istore_n 3, 1) := by decide +kernel
theorem dX7_meets_34 : decode cX7_meets 34 = .ok (.iload_n 1, 1) := by decide +kernel
theorem dX7_meets_35 : decode cX7_meets 35 = .ok (.iload_n 2, 1) := by decide +kernel
theorem dX7_meets_36 : decode cX7_meets 36 = .ok (.iadd, 1) := by decide +kernel
theorem dX7_meets_37 : decode cX7_meets 37 = .ok (.iload_n 3, 1) := by decide +kernel
theorem dX7_meets_38 : decode cX7_meets 38 = .ok (.isub, 1) := by decide +kernel
theorem dX7_meets_39 : decode cX7_meets 39 = .ok (.istore 4, 2) := by decide +kernel
theorem dX7_meets_41 : decode cX7_meets 41 = .ok (.aload_n 0, 1) := by decide +kernel
theorem dX7_meets_42 : decode cX7_meets 42 = .ok (.getfield 37, 3) := by decide +kernel
theorem dX7_meets_45 : decode cX7_meets 45 = .ok (.iload_n 3, 1) := by decide +kernel
theorem dX7_meets_46 : decode cX7_meets 46 = .ok (.iaload, 1) := by decide +kernel
theorem dX7_meets_47 : decode cX7_meets 47 = .ok (.iconst 2, 1) := by decide +kernel
theorem dX7_meets_48 : decode cX7_meets 48 = .ok (.idiv, 1) := by decide +kernel
theorem dX7_meets_49 : decode cX7_meets 49 = .ok (.istore 5, 2) := by decide +kernel
theorem dX7_meets_51 : decode cX7_meets 51 = .ok (.aload_n 0, 1) := by decide +kernel
theorem dX7_meets_52 : decode cX7_meets 52 = .ok (.iload_n 3, 1) := by decide +kernel
theorem dX7_meets_53 : decode cX7_meets 53 = .ok (.invokevirtual 103, 3) := by decide +kernel
theorem dX7_meets_56 : decode cX7_meets 56 = .ok (.aload_n 0, 1) := by decide +kernel
theorem dX7_meets_57 : decode cX7_meets 57 = .ok (.getfield 37, 3) := by decide +kernel
theorem dX7_meets_60 : decode cX7_meets 60 = .ok (.iload_n 3, 1) := by decide +kernel
theorem dX7_meets_61 : decode cX7_meets 61 = .ok (.dup2, 1) := by decide +kernel
theorem dX7_meets_62 : decode cX7_meets 62 = .ok (.iaload, 1) := by decide +kernel
theorem dX7_meets_63 : decode cX7_meets 63 = .ok (.iload 5, 2) := by decide +kernel
theorem dX7_meets_65 : decode cX7_meets 65 = .ok (.isub, 1) := by decide +kernel
theorem dX7_meets_66 : decode cX7_meets 66 = .ok (.iastore, 1) := by decide +kernel
theorem dX7_meets_67 : decode cX7_meets 67 = .ok (.aload_n 0, 1) := by decide +kernel
theorem dX7_meets_68 : decode cX7_meets 68 = .ok (.getfield 37, 3) := by decide +kernel
theorem dX7_meets_71 : decode cX7_meets 71 = .ok (.iload 4, 2) := by decide +kernel
theorem dX7_meets_73 : decode cX7_meets 73 = .ok (.aload_n 0, 1) := by decide +kernel
theorem dX7_meets_74 : decode cX7_meets 74 = .ok (.getfield 37, 3) := by decide +kernel
theorem dX7_meets_77 : decode cX7_meets 77 = .ok (.iload 4, 2) := by decide +kernel
theorem dX7_meets_79 : decode cX7_meets 79 = .ok (.iaload, 1) := by decide +kernel
theorem dX7_meets_80 : decode cX7_meets 80 = .ok (.iload 5, 2) := by decide +kernel
theorem dX7_meets_82 : decode cX7_meets 82 = .ok (.iadd, 1) := by decide +kernel
theorem dX7_meets_83 : decode cX7_meets 83 = .ok (.bipush 99, 2) := by decide +kernel
theorem dX7_meets_85 : decode cX7_meets 85 = .ok (.invokestatic 115, 3) := by decide +kernel
theorem dX7_meets_88 : decode cX7_meets 88 = .ok (.iastore, 1) := by decide +kernel
theorem dX7_meets_89 : decode cX7_meets 89 = .ok (.return_, 1) := by decide +kernel
theorem dX7_goesHead_0 : decode cX7_goesHead 0 = .ok (.aload_n 0, 1) := by decide +kernel
theorem dX7_goesHead_1 : decode cX7_goesHead 1 = .ok (.getfield 40, 3) := by decide +kernel
theorem dX7_goesHead_4 : decode cX7_goesHead 4 = .ok (.iload_n 1, 1) := by decide +kernel
theorem dX7_goesHead_5 : decode cX7_goesHead 5 = .ok (.iaload, 1) := by decide +kernel
theorem dX7_goesHead_6 : decode cX7_goesHead 6 = .ok (.iconst 1, 1) := by decide +kernel
theorem dX7_goesHead_7 : decode cX7_goesHead 7 = .ok (.if_icmp .eq 13, 3) := by decide +kernel
theorem dX7_goesHead_10 : decode cX7_goesHead 10 = .ok (.aload_n 0, 1) := by decide +kernel
theorem dX7_goesHead_11 : decode cX7_goesHead 11 = .ok (.getfield 34, 3) := by decide +kernel
theorem dX7_goesHead_14 : decode cX7_goesHead 14 = .ok (.iload_n 1, 1) := by decide +kernel
theorem dX7_goesHead_15 : decode cX7_goesHead 15 = .ok (.iaload, 1) := by decide +kernel
theorem dX7_goesHead_16 : decode cX7_goesHead 16 = .ok (.iconst 4, 1) := by decide +kernel
theorem dX7_goesHead_17 : decode cX7_goesHead 17 = .ok (.if_icmp .ne 4, 3) := by decide +kernel
theorem dX7_goesHead_20 : decode cX7_goesHead 20 = .ok (.return_, 1) := by decide +kernel
theorem dX7_goesHead_21 : decode cX7_goesHead 21 = .ok (.aload_n 0, 1) := by decide +kernel
theorem dX7_goesHead_22 : decode cX7_goesHead 22 = .ok (.getfield 31, 3) := by decide +kernel
theorem dX7_goesHead_25 : decode cX7_goesHead 25 = .ok (.iload_n 1, 1) := by decide +kernel
theorem dX7_goesHead_26 : decode cX7_goesHead 26 = .ok (.aload_n 0, 1) := by decide +kernel
theorem dX7_goesHead_27 : decode cX7_goesHead 27 = .ok (.getfield 31, 3) := by decide +kernel
theorem dX7_goesHead_30 : decode cX7_goesHead 30 = .ok (.iload_n 1, 1) := by decide +kernel
theorem dX7_goesHead_31 : decode cX7_goesHead 31 = .ok (.iaload, 1) := by decide +kernel
theorem dX7_goesHead_32 : decode cX7_goesHead 32 = .ok (.aload_n 0, 1) := by decide +kernel
theorem dX7_goesHead_33 : decode cX7_goesHead 33 = .ok (.getfield 34, 3) := by decide +kernel
theorem dX7_goesHead_36 : decode cX7_goesHead 36 = .ok (.iload_n 1, 1) := by decide +kernel
theorem dX7_goesHead_37 : decode cX7_goesHead 37 = .ok (.iaload, 1) := by decide +kernel
theorem dX7_goesHead_38 : decode cX7_goesHead 38 = .ok (.invokestatic 133, 3) := by decide +kernel
theorem dX7_goesHead_41 : decode cX7_goesHead 41 = .ok (.iadd, 1) := by decide +kernel
theorem dX7_goesHead_42 : decode cX7_goesHead 42 = .ok (.aload_n 0, 1) := by decide +kernel
theorem dX7_goesHead_43 : decode cX7_goesHead 43 = .ok (.iload_n 1, 1) := by decide +kernel
theorem dX7_goesHead_44 : decode cX7_goesHead 44 = .ok (.aload_n 0, 1) := by decide +kernel
theorem dX7_goesHead_45 : decode cX7_goesHead 45 = .ok (.getfield 136, 3) := by decide +kernel
theorem dX7_goesHead_48 : decode cX7_goesHead 48 = .ok (.invokevirtual 139, 3) := by decide +kernel
theorem dX7_goesHead_51 : decode cX7_goesHead 51 = .ok (.iadd, 1) := by decide +kernel
theorem dX7_goesHead_52 : decode cX7_goesHead 52 = .ok (.iconst 4, 1) := by decide +kernel
theorem dX7_goesHead_53 : decode cX7_goesHead 53 = .ok (.irem, 1) := by decide +kernel
theorem dX7_goesHead_54 : decode cX7_goesHead 54 = .ok (.iastore, 1) := by decide +kernel
theorem dX7_goesHead_55 : decode cX7_goesHead 55 = .ok (.aload_n 0, 1) := by decide +kernel
theorem dX7_goesHead_56 : decode cX7_goesHead 56 = .ok (.iload_n 1, 1) := by decide +kernel
theorem dX7_goesHead_57 : decode cX7_goesHead 57 = .ok (.invokevirtual 142, 3) := by decide +kernel
theorem dX7_goesHead_60 : decode cX7_goesHead 60 = .ok (.istore_n 2, 1) := by decide +kernel
theorem dX7_goesHead_61 : decode cX7_goesHead 61 = .ok (.iload_n 2, 1) := by decide +kernel
theorem dX7_goesHead_62 : decode cX7_goesHead 62 = .ok (.ifCond .le 17, 3) := by decide +kernel
theorem dX7_goesHead_65 : decode cX7_goesHead 65 = .ok (.aload_n 0, 1) := by decide +kernel
theorem dX7_goesHead_66 : decode cX7_goesHead 66 = .ok (.iload_n 1, 1) := by decide +kernel
theorem dX7_goesHead_67 : decode cX7_goesHead 67 = .ok (.invokevirtual 145, 3) := by decide +kernel
theorem dX7_goesHead_70 : decode cX7_goesHead 70 = .ok (.ifCond .eq 9, 3) := by decide +kernel
theorem dX7_goesHead_73 : decode cX7_goesHead 73 = .ok (.iinc 2 (-1), 3) := by decide +kernel
theorem dX7_goesHead_76 : decode cX7_goesHead 76 = .ok (.goto (-15), 3) := by decide +kernel
theorem dX7_goesHead_79 : decode cX7_goesHead 79 = .ok (.aload_n 0, 1) := by decide +kernel
theorem dX7_goesHead_80 : decode cX7_goesHead 80 = .ok (.iload_n 1, 1) := by decide +kernel
theorem dX7_goesHead_81 : decode cX7_goesHead 81 = .ok (.invokevirtual 148, 3) := by decide +kernel
theorem dX7_goesHead_84 : decode cX7_goesHead 84 = .ok (.aload_n 0, 1) := by decide +kernel
theorem dX7_goesHead_85 : decode cX7_goesHead 85 = .ok (.iload_n 1, 1) := by decide +kernel
theorem dX7_goesHead_86 : decode cX7_goesHead 86 = .ok (.invokevirtual 151, 3) := by decide +kernel
theorem dX7_goesHead_89 : decode cX7_goesHead 89 = .ok (.aload_n 0, 1) := by decide +kernel
theorem dX7_goesHead_90 : decode cX7_goesHead 90 = .ok (.getfield 37, 3) := by decide +kernel
theorem dX7_goesHead_93 : decode cX7_goesHead 93 = .ok (.iload_n 1, 1) := by decide +kernel
theorem dX7_goesHead_94 : decode cX7_goesHead 94 = .ok (.iaload, 1) := by decide +kernel
theorem dX7_goesHead_95 : decode cX7_goesHead 95 = .ok (.aload_n 0, 1) := by decide +kernel
theorem dX7_goesHead_96 : decode cX7_goesHead 96 = .ok (.iload_n 1, 1) := by decide +kernel
theorem dX7_goesHead_97 : decode cX7_goesHead 97 = .ok (.invokevirtual 154, 3) := by decide +kernel
theorem dX7_goesHead_100 : decode cX7_goesHead 100 = .ok (.if_icmp .lt 10, 3) := by decide +kernel
theorem dX7_goesHead_103 : decode cX7_goesHead 103 = .ok (.aload_n 0, 1) := by decide +kernel
theorem dX7_goesHead_104 : decode cX7_goesHead 104 = .ok (.getfield 40, 3) := by decide +kernel
theorem dX7_goesHead_107 : decode cX7_goesHead 107 = .ok (.iload_n 1, 1) := by decide +kernel
theorem dX7_goesHead_108 : decode cX7_goesHead 108 = .ok (.iconst 1, 1) := by decide +kernel
theorem dX7_goesHead_109 : decode cX7_goesHead 109 = .ok (.iastore, 1) := by decide +kernel
theorem dX7_goesHead_110 : decode cX7_goesHead 110 = .ok (.return_, 1) := by decide +kernel
theorem dX7_goesNight_0 : decode cX7_goesNight 0 = .ok (.aload_n 0, 1) := by decide +kernel
theorem dX7_goesNight_1 : decode cX7_goesNight 1 = .ok (.dup, 1) := by decide +kernel
theorem dX7_goesNight_2 : decode cX7_goesNight 2 = .ok (.getfield 136, 3) := by decide +kernel
theorem dX7_goesNight_5 : decode cX7_goesNight 5 = .ok (.iconst 1, 1) := by decide +kernel
theorem dX7_goesNight_6 : decode cX7_goesNight 6 = .ok (.iadd, 1) := by decide +kernel
theorem dX7_goesNight_7 : decode cX7_goesNight 7 = .ok (.putfield 136, 3) := by decide +kernel
theorem dX7_goesNight_10 : decode cX7_goesNight 10 = .ok (.iconst 0, 1) := by decide +kernel
theorem dX7_goesNight_11 : decode cX7_goesNight 11 = .ok (.istore_n 1, 1) := by decide +kernel
theorem dX7_goesNight_12 : decode cX7_goesNight 12 = .ok (.iload_n 1, 1) := by decide +kernel
theorem dX7_goesNight_13 : decode cX7_goesNight 13 = .ok (.aload_n 0, 1) := by decide +kernel
theorem dX7_goesNight_14 : decode cX7_goesNight 14 = .ok (.getfield 79, 3) := by decide +kernel
theorem dX7_goesNight_17 : decode cX7_goesNight 17 = .ok (.if_icmp .ge 14, 3) := by decide +kernel
theorem dX7_goesNight_20 : decode cX7_goesNight 20 = .ok (.aload_n 0, 1) := by decide +kernel
theorem dX7_goesNight_21 : decode cX7_goesNight 21 = .ok (.iload_n 1, 1) := by decide +kernel
theorem dX7_goesNight_22 : decode cX7_goesNight 22 = .ok (.invokevirtual 157, 3) := by decide +kernel
theorem dX7_goesNight_25 : decode cX7_goesNight 25 = .ok (.iinc 1 1, 3) := by decide +kernel
theorem dX7_goesNight_28 : decode cX7_goesNight 28 = .ok (.goto (-16), 3) := by decide +kernel
theorem dX7_goesNight_31 : decode cX7_goesNight 31 = .ok (.return_, 1) := by decide +kernel
theorem dX7_goes_0 : decode cX7_goes 0 = .ok (.iconst 0, 1) := by decide +kernel
theorem dX7_goes_1 : decode cX7_goes 1 = .ok (.istore_n 2, 1) := by decide +kernel
theorem dX7_goes_2 : decode cX7_goes 2 = .ok (.iload_n 2, 1) := by decide +kernel
theorem dX7_goes_3 : decode cX7_goes 3 = .ok (.iload_n 1, 1) := by decide +kernel
theorem dX7_goes_4 : decode cX7_goes 4 = .ok (.if_icmp .ge 13, 3) := by decide +kernel
theorem dX7_goes_7 : decode cX7_goes 7 = .ok (.aload_n 0, 1) := by decide +kernel
theorem dX7_goes_8 : decode cX7_goes 8 = .ok (.invokevirtual 160, 3) := by decide +kernel
theorem dX7_goes_11 : decode cX7_goes 11 = .ok (.iinc 2 1, 3) := by decide +kernel
theorem dX7_goes_14 : decode cX7_goes 14 = .ok (.goto (-12), 3) := by decide +kernel
theorem dX7_goes_17 : decode cX7_goes 17 = .ok (.return_, 1) := by decide +kernel
theorem dX7_feed_0 : decode cX7_feed 0 = .ok (.iload_n 1, 1) := by decide +kernel
theorem dX7_feed_1 : decode cX7_feed 1 = .ok (.iconst 0, 1) := by decide +kernel
theorem dX7_feed_2 : decode cX7_feed 2 = .ok (.sipush 255, 3) := by decide +kernel
theorem dX7_feed_5 : decode cX7_feed 5 = .ok (.invokestatic 163, 3) := by decide +kernel
theorem dX7_feed_8 : decode cX7_feed 8 = .ok (.istore_n 2, 1) := by decide +kernel
theorem dX7_feed_9 : decode cX7_feed 9 = .ok (.iload_n 2, 1) := by decide +kernel
theorem dX7_feed_10 : decode cX7_feed 10 = .ok (.ifCond .ne 15, 3) := by decide +kernel
theorem dX7_feed_13 : decode cX7_feed 13 = .ok (.aload_n 0, 1) := by decide +kernel
theorem dX7_feed_14 : decode cX7_feed 14 = .ok (.getfield 167, 3) := by decide +kernel
theorem dX7_feed_17 : decode cX7_feed 17 = .ok (.bipush 96, 2) := by decide +kernel
theorem dX7_feed_19 : decode cX7_feed 19 = .ok (.if_icmp .ne 6, 3) := by decide +kernel
theorem dX7_feed_22 : decode cX7_feed 22 = .ok (.bipush (-6), 2) := by decide +kernel
theorem dX7_feed_24 : decode cX7_feed 24 = .ok (.istore_n 2, 1) := by decide +kernel
theorem dX7_feed_25 : decode cX7_feed 25 = .ok (.iload_n 2, 1) := by decide +kernel
theorem dX7_feed_26 : decode cX7_feed 26 = .ok (.ifCond .eq 9, 3) := by decide +kernel
theorem dX7_feed_29 : decode cX7_feed 29 = .ok (.aload_n 0, 1) := by decide +kernel
theorem dX7_feed_30 : decode cX7_feed 30 = .ok (.iload_n 2, 1) := by decide +kernel
theorem dX7_feed_31 : decode cX7_feed 31 = .ok (.invokevirtual 170, 3) := by decide +kernel
theorem dX7_feed_34 : decode cX7_feed 34 = .ok (.ireturn, 1) := by decide +kernel
theorem dX7_feed_35 : decode cX7_feed 35 = .ok (.aload_n 0, 1) := by decide +kernel
theorem dX7_feed_36 : decode cX7_feed 36 = .ok (.getfield 49, 3) := by decide +kernel
theorem dX7_feed_39 : decode cX7_feed 39 = .ok (.aload_n 0, 1) := by decide +kernel
theorem dX7_feed_40 : decode cX7_feed 40 = .ok (.getfield 167, 3) := by decide +kernel
theorem dX7_feed_43 : decode cX7_feed 43 = .ok (.iload_n 1, 1) := by decide +kernel
theorem dX7_feed_44 : decode cX7_feed 44 = .ok (.iastore, 1) := by decide +kernel
theorem dX7_feed_45 : decode cX7_feed 45 = .ok (.aload_n 0, 1) := by decide +kernel
theorem dX7_feed_46 : decode cX7_feed 46 = .ok (.dup, 1) := by decide +kernel
theorem dX7_feed_47 : decode cX7_feed 47 = .ok (.getfield 167, 3) := by decide +kernel
theorem dX7_feed_50 : decode cX7_feed 50 = .ok (.iconst 1, 1) := by decide +kernel
theorem dX7_feed_51 : decode cX7_feed 51 = .ok (.iadd, 1) := by decide +kernel
theorem dX7_feed_52 : decode cX7_feed 52 = .ok (.putfield 167, 3) := by decide +kernel
theorem dX7_feed_55 : decode cX7_feed 55 = .ok (.aload_n 0, 1) := by decide +kernel
theorem dX7_feed_56 : decode cX7_feed 56 = .ok (.getfield 167, 3) := by decide +kernel
theorem dX7_feed_59 : decode cX7_feed 59 = .ok (.ireturn, 1) := by decide +kernel
theorem dX7_sign_0 : decode cX7_sign 0 = .ok (.aload_n 0, 1) := by decide +kernel
theorem dX7_sign_1 : decode cX7_sign 1 = .ok (.getfield 173, 3) := by decide +kernel
theorem dX7_sign_4 : decode cX7_sign 4 = .ok (.aload_n 0, 1) := by decide +kernel
theorem dX7_sign_5 : decode cX7_sign 5 = .ok (.getfield 167, 3) := by decide +kernel
theorem dX7_sign_8 : decode cX7_sign 8 = .ok (.if_icmp .ge 15, 3) := by decide +kernel
theorem dX7_sign_11 : decode cX7_sign 11 = .ok (.aload_n 0, 1) := by decide +kernel
theorem dX7_sign_12 : decode cX7_sign 12 = .ok (.getfield 49, 3) := by decide +kernel
theorem dX7_sign_15 : decode cX7_sign 15 = .ok (.aload_n 0, 1) := by decide +kernel
theorem dX7_sign_16 : decode cX7_sign 16 = .ok (.getfield 173, 3) := by decide +kernel
theorem dX7_sign_19 : decode cX7_sign 19 = .ok (.iaload, 1) := by decide +kernel
theorem dX7_sign_20 : decode cX7_sign 20 = .ok (.goto 4, 3) := by decide +kernel
theorem dX7_sign_23 : decode cX7_sign 23 = .ok (.iconst (-1), 1) := by decide +kernel
theorem dX7_sign_24 : decode cX7_sign 24 = .ok (.ireturn, 1) := by decide +kernel
theorem dX7_readsSome_0 : decode cX7_readsSome 0 = .ok (.iconst 0, 1) := by decide +kernel
theorem dX7_readsSome_1 : decode cX7_readsSome 1 = .ok (.istore 4, 2) := by decide +kernel
theorem dX7_readsSome_3 : decode cX7_readsSome 3 = .ok (.iload 4, 2) := by decide +kernel
theorem dX7_readsSome_5 : decode cX7_readsSome 5 = .ok (.iload_n 3, 1) := by decide +kernel
theorem dX7_readsSome_6 : decode cX7_readsSome 6 = .ok (.if_icmp .ge 31, 3) := by decide +kernel
theorem dX7_readsSome_9 : decode cX7_readsSome 9 = .ok (.aload_n 0, 1) := by decide +kernel
theorem dX7_readsSome_10 : decode cX7_readsSome 10 = .ok (.invokevirtual 176, 3) := by decide +kernel
theorem dX7_readsSome_13 : decode cX7_readsSome 13 = .ok (.iload_n 1, 1) := by decide +kernel
theorem dX7_readsSome_14 : decode cX7_readsSome 14 = .ok (.iload_n 2, 1) := by decide +kernel
theorem dX7_readsSome_15 : decode cX7_readsSome 15 = .ok (.invokestatic 85, 3) := by decide +kernel
theorem dX7_readsSome_18 : decode cX7_readsSome 18 = .ok (.ifCond .eq 19, 3) := by decide +kernel
theorem dX7_readsSome_21 : decode cX7_readsSome 21 = .ok (.aload_n 0, 1) := by decide +kernel
theorem dX7_readsSome_22 : decode cX7_readsSome 22 = .ok (.dup, 1) := by decide +kernel
theorem dX7_readsSome_23 : decode cX7_readsSome 23 = .ok (.getfield 173, 3) := by decide +kernel
theorem dX7_readsSome_26 : decode cX7_readsSome 26 = .ok (.iconst 1, 1) := by decide +kernel
theorem dX7_readsSome_27 : decode cX7_readsSome 27 = .ok (.iadd, 1) := by decide +kernel
theorem dX7_readsSome_28 : decode cX7_readsSome 28 = .ok (.putfield 173, 3) := by decide +kernel
theorem dX7_readsSome_31 : decode cX7_readsSome 31 = .ok (.iinc 4 1, 3) := by decide +kernel
theorem dX7_readsSome_34 : decode cX7_readsSome 34 = .ok (.goto (-31), 3) := by decide +kernel
theorem dX7_readsSome_37 : decode cX7_readsSome 37 = .ok (.iload 4, 2) := by decide +kernel
theorem dX7_readsSome_39 : decode cX7_readsSome 39 = .ok (.ireturn, 1) := by decide +kernel
theorem dX7_readsPart_0 : decode cX7_readsPart 0 = .ok (.iconst 3, 1) := by decide +kernel
theorem dX7_readsPart_1 : decode cX7_readsPart 1 = .ok (.aload_n 0, 1) := by decide +kernel
theorem dX7_readsPart_2 : decode cX7_readsPart 2 = .ok (.getfield 180, 3) := by decide +kernel
theorem dX7_readsPart_5 : decode cX7_readsPart 5 = .ok (.imul, 1) := by decide +kernel
theorem dX7_readsPart_6 : decode cX7_readsPart 6 = .ok (.aload_n 0, 1) := by decide +kernel
theorem dX7_readsPart_7 : decode cX7_readsPart 7 = .ok (.getfield 58, 3) := by decide +kernel
theorem dX7_readsPart_10 : decode cX7_readsPart 10 = .ok (.aload_n 0, 1) := by decide +kernel
theorem dX7_readsPart_11 : decode cX7_readsPart 11 = .ok (.getfield 180, 3) := by decide +kernel
theorem dX7_readsPart_14 : decode cX7_readsPart 14 = .ok (.iaload, 1) := by decide +kernel
theorem dX7_readsPart_15 : decode cX7_readsPart 15 = .ok (.iadd, 1) := by decide +kernel
theorem dX7_readsPart_16 : decode cX7_readsPart 16 = .ok (.istore_n 1, 1) := by decide +kernel
theorem dX7_readsPart_17 : decode cX7_readsPart 17 = .ok (.aload_n 0, 1) := by decide +kernel
theorem dX7_readsPart_18 : decode cX7_readsPart 18 = .ok (.getfield 61, 3) := by decide +kernel
theorem dX7_readsPart_21 : decode cX7_readsPart 21 = .ok (.iload_n 1, 1) := by decide +kernel
theorem dX7_readsPart_22 : decode cX7_readsPart 22 = .ok (.aload_n 0, 1) := by decide +kernel
theorem dX7_readsPart_23 : decode cX7_readsPart 23 = .ok (.getfield 173, 3) := by decide +kernel
theorem dX7_readsPart_26 : decode cX7_readsPart 26 = .ok (.iastore, 1) := by decide +kernel
theorem dX7_readsPart_27 : decode cX7_readsPart 27 = .ok (.aload_n 0, 1) := by decide +kernel
theorem dX7_readsPart_28 : decode cX7_readsPart 28 = .ok (.bipush 97, 2) := by decide +kernel
theorem dX7_readsPart_30 : decode cX7_readsPart 30 = .ok (.bipush 122, 2) := by decide +kernel
theorem dX7_readsPart_32 : decode cX7_readsPart 32 = .ok (.bipush 7, 2) := by decide +kernel
theorem dX7_readsPart_34 : decode cX7_readsPart 34 = .ok (.invokevirtual 183, 3) := by decide +kernel
theorem dX7_readsPart_37 : decode cX7_readsPart 37 = .ok (.istore_n 2, 1) := by decide +kernel
theorem dX7_readsPart_38 : decode cX7_readsPart 38 = .ok (.iload_n 2, 1) := by decide +kernel
theorem dX7_readsPart_39 : decode cX7_readsPart 39 = .ok (.ifCond .ne 13, 3) := by decide +kernel
theorem dX7_readsPart_42 : decode cX7_readsPart 42 = .ok (.aload_n 0, 1) := by decide +kernel
theorem dX7_readsPart_43 : decode cX7_readsPart 43 = .ok (.bipush 48, 2) := by decide +kernel
theorem dX7_readsPart_45 : decode cX7_readsPart 45 = .ok (.bipush 57, 2) := by decide +kernel
theorem dX7_readsPart_47 : decode cX7_readsPart 47 = .ok (.iconst 2, 1) := by decide +kernel
theorem dX7_readsPart_48 : decode cX7_readsPart 48 = .ok (.invokevirtual 183, 3) := by decide +kernel
theorem dX7_readsPart_51 : decode cX7_readsPart 51 = .ok (.istore_n 2, 1) := by decide +kernel
theorem dX7_readsPart_52 : decode cX7_readsPart 52 = .ok (.aload_n 0, 1) := by decide +kernel
theorem dX7_readsPart_53 : decode cX7_readsPart 53 = .ok (.getfield 64, 3) := by decide +kernel
theorem dX7_readsPart_56 : decode cX7_readsPart 56 = .ok (.iload_n 1, 1) := by decide +kernel
theorem dX7_readsPart_57 : decode cX7_readsPart 57 = .ok (.iload_n 2, 1) := by decide +kernel
theorem dX7_readsPart_58 : decode cX7_readsPart 58 = .ok (.iastore, 1) := by decide +kernel
theorem dX7_readsPart_59 : decode cX7_readsPart 59 = .ok (.aload_n 0, 1) := by decide +kernel
theorem dX7_readsPart_60 : decode cX7_readsPart 60 = .ok (.getfield 58, 3) := by decide +kernel
theorem dX7_readsPart_63 : decode cX7_readsPart 63 = .ok (.aload_n 0, 1) := by decide +kernel
theorem dX7_readsPart_64 : decode cX7_readsPart 64 = .ok (.getfield 180, 3) := by decide +kernel
theorem dX7_readsPart_67 : decode cX7_readsPart 67 = .ok (.dup2, 1) := by decide +kernel
theorem dX7_readsPart_68 : decode cX7_readsPart 68 = .ok (.iaload, 1) := by decide +kernel
theorem dX7_readsPart_69 : decode cX7_readsPart 69 = .ok (.iconst 1, 1) := by decide +kernel
theorem dX7_readsPart_70 : decode cX7_readsPart 70 = .ok (.iadd, 1) := by decide +kernel
theorem dX7_readsPart_71 : decode cX7_readsPart 71 = .ok (.iastore, 1) := by decide +kernel
theorem dX7_readsPart_72 : decode cX7_readsPart 72 = .ok (.iload_n 2, 1) := by decide +kernel
theorem dX7_readsPart_73 : decode cX7_readsPart 73 = .ok (.ifCond .le 7, 3) := by decide +kernel
theorem dX7_readsPart_76 : decode cX7_readsPart 76 = .ok (.iconst 1, 1) := by decide +kernel
theorem dX7_readsPart_77 : decode cX7_readsPart 77 = .ok (.goto 4, 3) := by decide +kernel
theorem dX7_readsPart_80 : decode cX7_readsPart 80 = .ok (.iconst 0, 1) := by decide +kernel
theorem dX7_readsPart_81 : decode cX7_readsPart 81 = .ok (.ireturn, 1) := by decide +kernel
theorem dX7_reads_0 : decode cX7_reads 0 = .ok (.aload_n 0, 1) := by decide +kernel
theorem dX7_reads_1 : decode cX7_reads 1 = .ok (.invokevirtual 176, 3) := by decide +kernel
theorem dX7_reads_4 : decode cX7_reads 4 = .ok (.iload_n 1, 1) := by decide +kernel
theorem dX7_reads_5 : decode cX7_reads 5 = .ok (.if_icmp .eq 5, 3) := by decide +kernel
theorem dX7_reads_8 : decode cX7_reads 8 = .ok (.iconst 0, 1) := by decide +kernel
theorem dX7_reads_9 : decode cX7_reads 9 = .ok (.ireturn, 1) := by decide +kernel
theorem dX7_reads_10 : decode cX7_reads 10 = .ok (.aload_n 0, 1) := by decide +kernel
theorem dX7_reads_11 : decode cX7_reads 11 = .ok (.dup, 1) := by decide +kernel
theorem dX7_reads_12 : decode cX7_reads 12 = .ok (.getfield 173, 3) := by decide +kernel
theorem dX7_reads_15 : decode cX7_reads 15 = .ok (.iconst 1, 1) := by decide +kernel
theorem dX7_reads_16 : decode cX7_reads 16 = .ok (.iadd, 1) := by decide +kernel
theorem dX7_reads_17 : decode cX7_reads 17 = .ok (.putfield 173, 3) := by decide +kernel
theorem dX7_reads_20 : decode cX7_reads 20 = .ok (.iconst 1, 1) := by decide +kernel
theorem dX7_reads_21 : decode cX7_reads 21 = .ok (.ireturn, 1) := by decide +kernel
theorem dX7_statement_0 : decode cX7_statement 0 = .ok (.aload_n 0, 1) := by decide +kernel
theorem dX7_statement_1 : decode cX7_statement 1 = .ok (.getfield 52, 3) := by decide +kernel
theorem dX7_statement_4 : decode cX7_statement 4 = .ok (.aload_n 0, 1) := by decide +kernel
theorem dX7_statement_5 : decode cX7_statement 5 = .ok (.getfield 180, 3) := by decide +kernel
theorem dX7_statement_8 : decode cX7_statement 8 = .ok (.aload_n 0, 1) := by decide +kernel
theorem dX7_statement_9 : decode cX7_statement 9 = .ok (.getfield 173, 3) := by decide +kernel
theorem dX7_statement_12 : decode cX7_statement 12 = .ok (.iastore, 1) := by decide +kernel
theorem dX7_statement_13 : decode cX7_statement 13 = .ok (.aload_n 0, 1) := by decide +kernel
theorem dX7_statement_14 : decode cX7_statement 14 = .ok (.getfield 55, 3) := by decide +kernel
theorem dX7_statement_17 : decode cX7_statement 17 = .ok (.aload_n 0, 1) := by decide +kernel
theorem dX7_statement_18 : decode cX7_statement 18 = .ok (.getfield 180, 3) := by decide +kernel
theorem dX7_statement_21 : decode cX7_statement 21 = .ok (.aload_n 0, 1) := by decide +kernel
theorem dX7_statement_22 : decode cX7_statement 22 = .ok (.bipush 97, 2) := by decide +kernel
theorem dX7_statement_24 : decode cX7_statement 24 = .ok (.bipush 122, 2) := by decide +kernel
theorem dX7_statement_26 : decode cX7_statement 26 = .ok (.bipush 7, 2) := by decide +kernel
theorem dX7_statement_28 : decode cX7_statement 28 = .ok (.invokevirtual 183, 3) := by decide +kernel
theorem dX7_statement_31 : decode cX7_statement 31 = .ok (.iastore, 1) := by decide +kernel
theorem dX7_statement_32 : decode cX7_statement 32 = .ok (.aload_n 0, 1) := by decide +kernel
theorem dX7_statement_33 : decode cX7_statement 33 = .ok (.getfield 58, 3) := by decide +kernel
theorem dX7_statement_36 : decode cX7_statement 36 = .ok (.aload_n 0, 1) := by decide +kernel
theorem dX7_statement_37 : decode cX7_statement 37 = .ok (.getfield 180, 3) := by decide +kernel
theorem dX7_statement_40 : decode cX7_statement 40 = .ok (.iconst 0, 1) := by decide +kernel
theorem dX7_statement_41 : decode cX7_statement 41 = .ok (.iastore, 1) := by decide +kernel
theorem dX7_statement_42 : decode cX7_statement 42 = .ok (.aload_n 0, 1) := by decide +kernel
theorem dX7_statement_43 : decode cX7_statement 43 = .ok (.getfield 55, 3) := by decide +kernel
theorem dX7_statement_46 : decode cX7_statement 46 = .ok (.aload_n 0, 1) := by decide +kernel
theorem dX7_statement_47 : decode cX7_statement 47 = .ok (.getfield 180, 3) := by decide +kernel
theorem dX7_statement_50 : decode cX7_statement 50 = .ok (.iaload, 1) := by decide +kernel
theorem dX7_statement_51 : decode cX7_statement 51 = .ok (.ifCond .eq 19, 3) := by decide +kernel
theorem dX7_statement_54 : decode cX7_statement 54 = .ok (.aload_n 0, 1) := by decide +kernel
theorem dX7_statement_55 : decode cX7_statement 55 = .ok (.bipush 32, 2) := by decide +kernel
theorem dX7_statement_57 : decode cX7_statement 57 = .ok (.invokevirtual 186, 3) := by decide +kernel
theorem dX7_statement_60 : decode cX7_statement 60 = .ok (.ifCond .eq 10, 3) := by decide +kernel
theorem dX7_statement_63 : decode cX7_statement 63 = .ok (.aload_n 0, 1) := by decide +kernel
theorem dX7_statement_64 : decode cX7_statement 64 = .ok (.invokevirtual 189, 3) := by decide +kernel
theorem dX7_statement_67 : decode cX7_statement 67 = .ok (.ifCond .ne 5, 3) := by decide +kernel
theorem dX7_statement_70 : decode cX7_statement 70 = .ok (.iconst 0, 1) := by decide +kernel
theorem dX7_statement_71 : decode cX7_statement 71 = .ok (.ireturn, 1) := by decide +kernel
theorem dX7_statement_72 : decode cX7_statement 72 = .ok (.aload_n 0, 1) := by decide +kernel
theorem dX7_statement_73 : decode cX7_statement 73 = .ok (.getfield 58, 3) := by decide +kernel
theorem dX7_statement_76 : decode cX7_statement 76 = .ok (.aload_n 0, 1) := by decide +kernel
theorem dX7_statement_77 : decode cX7_statement 77 = .ok (.getfield 180, 3) := by decide +kernel
theorem dX7_statement_80 : decode cX7_statement 80 = .ok (.iaload, 1) := by decide +kernel
theorem dX7_statement_81 : decode cX7_statement 81 = .ok (.iconst 3, 1) := by decide +kernel
theorem dX7_statement_82 : decode cX7_statement 82 = .ok (.if_icmp .ge 21, 3) := by decide +kernel
theorem dX7_statement_85 : decode cX7_statement 85 = .ok (.aload_n 0, 1) := by decide +kernel
theorem dX7_statement_86 : decode cX7_statement 86 = .ok (.bipush 32, 2) := by decide +kernel
theorem dX7_statement_88 : decode cX7_statement 88 = .ok (.invokevirtual 186, 3) := by decide +kernel
theorem dX7_statement_91 : decode cX7_statement 91 = .ok (.ifCond .eq 12, 3) := by decide +kernel
theorem dX7_statement_94 : decode cX7_statement 94 = .ok (.aload_n 0, 1) := by decide +kernel
theorem dX7_statement_95 : decode cX7_statement 95 = .ok (.invokevirtual 189, 3) := by decide +kernel
theorem dX7_statement_98 : decode cX7_statement 98 = .ok (.ifCond .ne (-26), 3) := by decide +kernel
theorem dX7_statement_101 : decode cX7_statement 101 = .ok (.iconst 0, 1) := by decide +kernel
theorem dX7_statement_102 : decode cX7_statement 102 = .ok (.ireturn, 1) := by decide +kernel
theorem dX7_statement_103 : decode cX7_statement 103 = .ok (.aload_n 0, 1) := by decide +kernel
theorem dX7_statement_104 : decode cX7_statement 104 = .ok (.bipush 59, 2) := by decide +kernel
theorem dX7_statement_106 : decode cX7_statement 106 = .ok (.invokevirtual 186, 3) := by decide +kernel
theorem dX7_statement_109 : decode cX7_statement 109 = .ok (.ireturn, 1) := by decide +kernel
theorem dX7_codeAt_0 : decode cX7_codeAt 0 = .ok (.lconst 0, 1) := by decide +kernel
theorem dX7_codeAt_1 : decode cX7_codeAt 1 = .ok (.lstore_n 3, 1) := by decide +kernel
theorem dX7_codeAt_2 : decode cX7_codeAt 2 = .ok (.iload_n 1, 1) := by decide +kernel
theorem dX7_codeAt_3 : decode cX7_codeAt 3 = .ok (.istore 5, 2) := by decide +kernel
theorem dX7_codeAt_5 : decode cX7_codeAt 5 = .ok (.iload 5, 2) := by decide +kernel
theorem dX7_codeAt_7 : decode cX7_codeAt 7 = .ok (.iload_n 1, 1) := by decide +kernel
theorem dX7_codeAt_8 : decode cX7_codeAt 8 = .ok (.iload_n 2, 1) := by decide +kernel
theorem dX7_codeAt_9 : decode cX7_codeAt 9 = .ok (.iadd, 1) := by decide +kernel
theorem dX7_codeAt_10 : decode cX7_codeAt 10 = .ok (.if_icmp .ge 30, 3) := by decide +kernel
theorem dX7_codeAt_13 : decode cX7_codeAt 13 = .ok (.ldc2_w 193, 3) := by decide +kernel
theorem dX7_codeAt_16 : decode cX7_codeAt 16 = .ok (.lload_n 3, 1) := by decide +kernel
theorem dX7_codeAt_17 : decode cX7_codeAt 17 = .ok (.lmul, 1) := by decide +kernel
theorem dX7_codeAt_18 : decode cX7_codeAt 18 = .ok (.aload_n 0, 1) := by decide +kernel
theorem dX7_codeAt_19 : decode cX7_codeAt 19 = .ok (.getfield 49, 3) := by decide +kernel
theorem dX7_codeAt_22 : decode cX7_codeAt 22 = .ok (.iload 5, 2) := by decide +kernel
theorem dX7_codeAt_24 : decode cX7_codeAt 24 = .ok (.iaload, 1) := by decide +kernel
theorem dX7_codeAt_25 : decode cX7_codeAt 25 = .ok (.i2l, 1) := by decide +kernel
theorem dX7_codeAt_26 : decode cX7_codeAt 26 = .ok (.ladd, 1) := by decide +kernel
theorem dX7_codeAt_27 : decode cX7_codeAt 27 = .ok (.ldc2_w 195, 3) := by decide +kernel
theorem dX7_codeAt_30 : decode cX7_codeAt 30 = .ok (.lsub, 1) := by decide +kernel
theorem dX7_codeAt_31 : decode cX7_codeAt 31 = .ok (.lconst 1, 1) := by decide +kernel
theorem dX7_codeAt_32 : decode cX7_codeAt 32 = .ok (.ladd, 1) := by decide +kernel
theorem dX7_codeAt_33 : decode cX7_codeAt 33 = .ok (.lstore_n 3, 1) := by decide +kernel
theorem dX7_codeAt_34 : decode cX7_codeAt 34 = .ok (.iinc 5 1, 3) := by decide +kernel
theorem dX7_codeAt_37 : decode cX7_codeAt 37 = .ok (.goto (-32), 3) := by decide +kernel
theorem dX7_codeAt_40 : decode cX7_codeAt 40 = .ok (.lload_n 3, 1) := by decide +kernel
theorem dX7_codeAt_41 : decode cX7_codeAt 41 = .ok (.lreturn, 1) := by decide +kernel
theorem dX7_isNumber_0 : decode cX7_isNumber 0 = .ok (.iload_n 2, 1) := by decide +kernel
theorem dX7_isNumber_1 : decode cX7_isNumber 1 = .ok (.aload_n 0, 1) := by decide +kernel
theorem dX7_isNumber_2 : decode cX7_isNumber 2 = .ok (.getfield 58, 3) := by decide +kernel
theorem dX7_isNumber_5 : decode cX7_isNumber 5 = .ok (.iload_n 1, 1) := by decide +kernel
theorem dX7_isNumber_6 : decode cX7_isNumber 6 = .ok (.iaload, 1) := by decide +kernel
theorem dX7_isNumber_7 : decode cX7_isNumber 7 = .ok (.if_icmp .ge 27, 3) := by decide +kernel
theorem dX7_isNumber_10 : decode cX7_isNumber 10 = .ok (.aload_n 0, 1) := by decide +kernel
theorem dX7_isNumber_11 : decode cX7_isNumber 11 = .ok (.getfield 49, 3) := by decide +kernel
theorem dX7_isNumber_14 : decode cX7_isNumber 14 = .ok (.aload_n 0, 1) := by decide +kernel
theorem dX7_isNumber_15 : decode cX7_isNumber 15 = .ok (.getfield 61, 3) := by decide +kernel
theorem dX7_isNumber_18 : decode cX7_isNumber 18 = .ok (.iconst 3, 1) := by decide +kernel
theorem dX7_isNumber_19 : decode cX7_isNumber 19 = .ok (.iload_n 1, 1) := by decide +kernel
theorem dX7_isNumber_20 : decode cX7_isNumber 20 = .ok (.imul, 1) := by decide +kernel
theorem dX7_isNumber_21 : decode cX7_isNumber 21 = .ok (.iload_n 2, 1) := by decide +kernel
theorem dX7_isNumber_22 : decode cX7_isNumber 22 = .ok (.iadd, 1) := by decide +kernel
theorem dX7_isNumber_23 : decode cX7_isNumber 23 = .ok (.iaload, 1) := by decide +kernel
theorem dX7_isNumber_24 : decode cX7_isNumber 24 = .ok (.iaload, 1) := by decide +kernel
theorem dX7_isNumber_25 : decode cX7_isNumber 25 = .ok (.bipush 57, 2) := by decide +kernel
theorem dX7_isNumber_27 : decode cX7_isNumber 27 = .ok (.if_icmp .gt 7, 3) := by decide +kernel
theorem dX7_isNumber_30 : decode cX7_isNumber 30 = .ok (.iconst 1, 1) := by decide +kernel
theorem dX7_isNumber_31 : decode cX7_isNumber 31 = .ok (.goto 4, 3) := by decide +kernel
theorem dX7_isNumber_34 : decode cX7_isNumber 34 = .ok (.iconst 0, 1) := by decide +kernel
theorem dX7_isNumber_35 : decode cX7_isNumber 35 = .ok (.ireturn, 1) := by decide +kernel
theorem dX7_areLetters_0 : decode cX7_areLetters 0 = .ok (.iload_n 2, 1) := by decide +kernel
theorem dX7_areLetters_1 : decode cX7_areLetters 1 = .ok (.aload_n 0, 1) := by decide +kernel
theorem dX7_areLetters_2 : decode cX7_areLetters 2 = .ok (.getfield 58, 3) := by decide +kernel
theorem dX7_areLetters_5 : decode cX7_areLetters 5 = .ok (.iload_n 1, 1) := by decide +kernel
theorem dX7_areLetters_6 : decode cX7_areLetters 6 = .ok (.iaload, 1) := by decide +kernel
theorem dX7_areLetters_7 : decode cX7_areLetters 7 = .ok (.if_icmp .ge 27, 3) := by decide +kernel
theorem dX7_areLetters_10 : decode cX7_areLetters 10 = .ok (.aload_n 0, 1) := by decide +kernel
theorem dX7_areLetters_11 : decode cX7_areLetters 11 = .ok (.getfield 49, 3) := by decide +kernel
theorem dX7_areLetters_14 : decode cX7_areLetters 14 = .ok (.aload_n 0, 1) := by decide +kernel
theorem dX7_areLetters_15 : decode cX7_areLetters 15 = .ok (.getfield 61, 3) := by decide +kernel
theorem dX7_areLetters_18 : decode cX7_areLetters 18 = .ok (.iconst 3, 1) := by decide +kernel
theorem dX7_areLetters_19 : decode cX7_areLetters 19 = .ok (.iload_n 1, 1) := by decide +kernel
theorem dX7_areLetters_20 : decode cX7_areLetters 20 = .ok (.imul, 1) := by decide +kernel
theorem dX7_areLetters_21 : decode cX7_areLetters 21 = .ok (.iload_n 2, 1) := by decide +kernel
theorem dX7_areLetters_22 : decode cX7_areLetters 22 = .ok (.iadd, 1) := by decide +kernel
theorem dX7_areLetters_23 : decode cX7_areLetters 23 = .ok (.iaload, 1) := by decide +kernel
theorem dX7_areLetters_24 : decode cX7_areLetters 24 = .ok (.iaload, 1) := by decide +kernel
theorem dX7_areLetters_25 : decode cX7_areLetters 25 = .ok (.bipush 57, 2) := by decide +kernel
theorem dX7_areLetters_27 : decode cX7_areLetters 27 = .ok (.if_icmp .le 7, 3) := by decide +kernel
theorem dX7_areLetters_30 : decode cX7_areLetters 30 = .ok (.iconst 1, 1) := by decide +kernel
theorem dX7_areLetters_31 : decode cX7_areLetters 31 = .ok (.goto 4, 3) := by decide +kernel
theorem dX7_areLetters_34 : decode cX7_areLetters 34 = .ok (.iconst 0, 1) := by decide +kernel
theorem dX7_areLetters_35 : decode cX7_areLetters 35 = .ok (.ireturn, 1) := by decide +kernel
theorem dX7_numberOf_0 : decode cX7_numberOf 0 = .ok (.aload_n 0, 1) := by decide +kernel
theorem dX7_numberOf_1 : decode cX7_numberOf 1 = .ok (.iload_n 1, 1) := by decide +kernel
theorem dX7_numberOf_2 : decode cX7_numberOf 2 = .ok (.iload_n 2, 1) := by decide +kernel
theorem dX7_numberOf_3 : decode cX7_numberOf 3 = .ok (.invokevirtual 197, 3) := by decide +kernel
theorem dX7_numberOf_6 : decode cX7_numberOf 6 = .ok (.ifCond .ne 6, 3) := by decide +kernel
theorem dX7_numberOf_9 : decode cX7_numberOf 9 = .ok (.bipush (-9), 2) := by decide +kernel
theorem dX7_numberOf_11 : decode cX7_numberOf 11 = .ok (.ireturn, 1) := by decide +kernel
theorem dX7_numberOf_12 : decode cX7_numberOf 12 = .ok (.aload_n 0, 1) := by decide +kernel
theorem dX7_numberOf_13 : decode cX7_numberOf 13 = .ok (.getfield 61, 3) := by decide +kernel
theorem dX7_numberOf_16 : decode cX7_numberOf 16 = .ok (.iconst 3, 1) := by decide +kernel
theorem dX7_numberOf_17 : decode cX7_numberOf 17 = .ok (.iload_n 1, 1) := by decide +kernel
theorem dX7_numberOf_18 : decode cX7_numberOf 18 = .ok (.imul, 1) := by decide +kernel
theorem dX7_numberOf_19 : decode cX7_numberOf 19 = .ok (.iload_n 2, 1) := by decide +kernel
theorem dX7_numberOf_20 : decode cX7_numberOf 20 = .ok (.iadd, 1) := by decide +kernel
theorem dX7_numberOf_21 : decode cX7_numberOf 21 = .ok (.iaload, 1) := by decide +kernel
theorem dX7_numberOf_22 : decode cX7_numberOf 22 = .ok (.istore_n 3, 1) := by decide +kernel
theorem dX7_numberOf_23 : decode cX7_numberOf 23 = .ok (.aload_n 0, 1) := by decide +kernel
theorem dX7_numberOf_24 : decode cX7_numberOf 24 = .ok (.getfield 49, 3) := by decide +kernel
theorem dX7_numberOf_27 : decode cX7_numberOf 27 = .ok (.iload_n 3, 1) := by decide +kernel
theorem dX7_numberOf_28 : decode cX7_numberOf 28 = .ok (.iaload, 1) := by decide +kernel
theorem dX7_numberOf_29 : decode cX7_numberOf 29 = .ok (.bipush 48, 2) := by decide +kernel
theorem dX7_numberOf_31 : decode cX7_numberOf 31 = .ok (.isub, 1) := by decide +kernel
theorem dX7_numberOf_32 : decode cX7_numberOf 32 = .ok (.istore 4, 2) := by decide +kernel
theorem dX7_numberOf_34 : decode cX7_numberOf 34 = .ok (.aload_n 0, 1) := by decide +kernel
theorem dX7_numberOf_35 : decode cX7_numberOf 35 = .ok (.getfield 64, 3) := by decide +kernel
theorem dX7_numberOf_38 : decode cX7_numberOf 38 = .ok (.iconst 3, 1) := by decide +kernel
theorem dX7_numberOf_39 : decode cX7_numberOf 39 = .ok (.iload_n 1, 1) := by decide +kernel
theorem dX7_numberOf_40 : decode cX7_numberOf 40 = .ok (.imul, 1) := by decide +kernel
theorem dX7_numberOf_41 : decode cX7_numberOf 41 = .ok (.iload_n 2, 1) := by decide +kernel
theorem dX7_numberOf_42 : decode cX7_numberOf 42 = .ok (.iadd, 1) := by decide +kernel
theorem dX7_numberOf_43 : decode cX7_numberOf 43 = .ok (.iaload, 1) := by decide +kernel
theorem dX7_numberOf_44 : decode cX7_numberOf 44 = .ok (.iconst 1, 1) := by decide +kernel
theorem dX7_numberOf_45 : decode cX7_numberOf 45 = .ok (.if_icmp .ne 8, 3) := by decide +kernel
theorem dX7_numberOf_48 : decode cX7_numberOf 48 = .ok (.iload 4, 2) := by decide +kernel
theorem dX7_numberOf_50 : decode cX7_numberOf 50 = .ok (.goto 20, 3) := by decide +kernel
theorem dX7_numberOf_53 : decode cX7_numberOf 53 = .ok (.bipush 10, 2) := by decide +kernel
theorem dX7_numberOf_55 : decode cX7_numberOf 55 = .ok (.iload 4, 2) := by decide +kernel
theorem dX7_numberOf_57 : decode cX7_numberOf 57 = .ok (.imul, 1) := by decide +kernel
theorem dX7_numberOf_58 : decode cX7_numberOf 58 = .ok (.aload_n 0, 1) := by decide +kernel
theorem dX7_numberOf_59 : decode cX7_numberOf 59 = .ok (.getfield 49, 3) := by decide +kernel
theorem dX7_numberOf_62 : decode cX7_numberOf 62 = .ok (.iload_n 3, 1) := by decide +kernel
theorem dX7_numberOf_63 : decode cX7_numberOf 63 = .ok (.iconst 1, 1) := by decide +kernel
theorem dX7_numberOf_64 : decode cX7_numberOf 64 = .ok (.iadd, 1) := by decide +kernel
theorem dX7_numberOf_65 : decode cX7_numberOf 65 = .ok (.iaload, 1) := by decide +kernel
theorem dX7_numberOf_66 : decode cX7_numberOf 66 = .ok (.iadd, 1) := by decide +kernel
theorem dX7_numberOf_67 : decode cX7_numberOf 67 = .ok (.bipush 48, 2) := by decide +kernel
theorem dX7_numberOf_69 : decode cX7_numberOf 69 = .ok (.isub, 1) := by decide +kernel
theorem dX7_numberOf_70 : decode cX7_numberOf 70 = .ok (.ireturn, 1) := by decide +kernel
theorem dX7_wordOf_0 : decode cX7_wordOf 0 = .ok (.aload_n 0, 1) := by decide +kernel
theorem dX7_wordOf_1 : decode cX7_wordOf 1 = .ok (.iload_n 1, 1) := by decide +kernel
theorem dX7_wordOf_2 : decode cX7_wordOf 2 = .ok (.iload_n 2, 1) := by decide +kernel
theorem dX7_wordOf_3 : decode cX7_wordOf 3 = .ok (.invokevirtual 200, 3) := by decide +kernel
theorem dX7_wordOf_6 : decode cX7_wordOf 6 = .ok (.ifCond .eq 30, 3) := by decide +kernel
theorem dX7_wordOf_9 : decode cX7_wordOf 9 = .ok (.aload_n 0, 1) := by decide +kernel
theorem dX7_wordOf_10 : decode cX7_wordOf 10 = .ok (.aload_n 0, 1) := by decide +kernel
theorem dX7_wordOf_11 : decode cX7_wordOf 11 = .ok (.getfield 61, 3) := by decide +kernel
theorem dX7_wordOf_14 : decode cX7_wordOf 14 = .ok (.iconst 3, 1) := by decide +kernel
theorem dX7_wordOf_15 : decode cX7_wordOf 15 = .ok (.iload_n 1, 1) := by decide +kernel
theorem dX7_wordOf_16 : decode cX7_wordOf 16 = .ok (.imul, 1) := by decide +kernel
theorem dX7_wordOf_17 : decode cX7_wordOf 17 = .ok (.iload_n 2, 1) := by decide +kernel
theorem dX7_wordOf_18 : decode cX7_wordOf 18 = .ok (.iadd, 1) := by decide +kernel
theorem dX7_wordOf_19 : decode cX7_wordOf 19 = .ok (.iaload, 1) := by decide +kernel
theorem dX7_wordOf_20 : decode cX7_wordOf 20 = .ok (.aload_n 0, 1) := by decide +kernel
theorem dX7_wordOf_21 : decode cX7_wordOf 21 = .ok (.getfield 64, 3) := by decide +kernel
theorem dX7_wordOf_24 : decode cX7_wordOf 24 = .ok (.iconst 3, 1) := by decide +kernel
theorem dX7_wordOf_25 : decode cX7_wordOf 25 = .ok (.iload_n 1, 1) := by decide +kernel
theorem dX7_wordOf_26 : decode cX7_wordOf 26 = .ok (.imul, 1) := by decide +kernel
theorem dX7_wordOf_27 : decode cX7_wordOf 27 = .ok (.iload_n 2, 1) := by decide +kernel
theorem dX7_wordOf_28 : decode cX7_wordOf 28 = .ok (.iadd, 1) := by decide +kernel
theorem dX7_wordOf_29 : decode cX7_wordOf 29 = .ok (.iaload, 1) := by decide +kernel
theorem dX7_wordOf_30 : decode cX7_wordOf 30 = .ok (.invokevirtual 203, 3) := by decide +kernel
theorem dX7_wordOf_33 : decode cX7_wordOf 33 = .ok (.goto 4, 3) := by decide +kernel
theorem dX7_wordOf_36 : decode cX7_wordOf 36 = .ok (.lconst 0, 1) := by decide +kernel
theorem dX7_wordOf_37 : decode cX7_wordOf 37 = .ok (.lreturn, 1) := by decide +kernel
theorem dX7_kindSaid_0 : decode cX7_kindSaid 0 = .ok (.lload_n 0, 1) := by decide +kernel
theorem dX7_kindSaid_1 : decode cX7_kindSaid 1 = .ok (.ldc2_w 207, 3) := by decide +kernel
theorem dX7_kindSaid_4 : decode cX7_kindSaid 4 = .ok (.lcmp, 1) := by decide +kernel
theorem dX7_kindSaid_5 : decode cX7_kindSaid 5 = .ok (.ifCond .ne 5, 3) := by decide +kernel
theorem dX7_kindSaid_8 : decode cX7_kindSaid 8 = .ok (.iconst 0, 1) := by decide +kernel
theorem dX7_kindSaid_9 : decode cX7_kindSaid 9 = .ok (.ireturn, 1) := by decide +kernel
theorem dX7_kindSaid_10 : decode cX7_kindSaid 10 = .ok (.lload_n 0, 1) := by decide +kernel
theorem dX7_kindSaid_11 : decode cX7_kindSaid 11 = .ok (.ldc2_w 209, 3) := by decide +kernel
theorem dX7_kindSaid_14 : decode cX7_kindSaid 14 = .ok (.lcmp, 1) := by decide +kernel
theorem dX7_kindSaid_15 : decode cX7_kindSaid 15 = .ok (.ifCond .ne 5, 3) := by decide +kernel
theorem dX7_kindSaid_18 : decode cX7_kindSaid 18 = .ok (.iconst 1, 1) := by decide +kernel
theorem dX7_kindSaid_19 : decode cX7_kindSaid 19 = .ok (.ireturn, 1) := by decide +kernel
theorem dX7_kindSaid_20 : decode cX7_kindSaid 20 = .ok (.lload_n 0, 1) := by decide +kernel
theorem dX7_kindSaid_21 : decode cX7_kindSaid 21 = .ok (.ldc2_w 211, 3) := by decide +kernel
theorem dX7_kindSaid_24 : decode cX7_kindSaid 24 = .ok (.lcmp, 1) := by decide +kernel
theorem dX7_kindSaid_25 : decode cX7_kindSaid 25 = .ok (.ifCond .ne 5, 3) := by decide +kernel
theorem dX7_kindSaid_28 : decode cX7_kindSaid 28 = .ok (.iconst 2, 1) := by decide +kernel
theorem dX7_kindSaid_29 : decode cX7_kindSaid 29 = .ok (.ireturn, 1) := by decide +kernel
theorem dX7_kindSaid_30 : decode cX7_kindSaid 30 = .ok (.lload_n 0, 1) := by decide +kernel
theorem dX7_kindSaid_31 : decode cX7_kindSaid 31 = .ok (.ldc2_w 213, 3) := by decide +kernel
theorem dX7_kindSaid_34 : decode cX7_kindSaid 34 = .ok (.lcmp, 1) := by decide +kernel
theorem dX7_kindSaid_35 : decode cX7_kindSaid 35 = .ok (.ifCond .ne 5, 3) := by decide +kernel
theorem dX7_kindSaid_38 : decode cX7_kindSaid 38 = .ok (.iconst 3, 1) := by decide +kernel
theorem dX7_kindSaid_39 : decode cX7_kindSaid 39 = .ok (.ireturn, 1) := by decide +kernel
theorem dX7_kindSaid_40 : decode cX7_kindSaid 40 = .ok (.lload_n 0, 1) := by decide +kernel
theorem dX7_kindSaid_41 : decode cX7_kindSaid 41 = .ok (.ldc2_w 215, 3) := by decide +kernel
theorem dX7_kindSaid_44 : decode cX7_kindSaid 44 = .ok (.lcmp, 1) := by decide +kernel
theorem dX7_kindSaid_45 : decode cX7_kindSaid 45 = .ok (.ifCond .ne 5, 3) := by decide +kernel
theorem dX7_kindSaid_48 : decode cX7_kindSaid 48 = .ok (.iconst 4, 1) := by decide +kernel
theorem dX7_kindSaid_49 : decode cX7_kindSaid 49 = .ok (.ireturn, 1) := by decide +kernel
theorem dX7_kindSaid_50 : decode cX7_kindSaid 50 = .ok (.lload_n 0, 1) := by decide +kernel
theorem dX7_kindSaid_51 : decode cX7_kindSaid 51 = .ok (.ldc2_w 217, 3) := by decide +kernel
theorem dX7_kindSaid_54 : decode cX7_kindSaid 54 = .ok (.lcmp, 1) := by decide +kernel
theorem dX7_kindSaid_55 : decode cX7_kindSaid 55 = .ok (.ifCond .ne 5, 3) := by decide +kernel
theorem dX7_kindSaid_58 : decode cX7_kindSaid 58 = .ok (.iconst 5, 1) := by decide +kernel
theorem dX7_kindSaid_59 : decode cX7_kindSaid 59 = .ok (.ireturn, 1) := by decide +kernel
theorem dX7_kindSaid_60 : decode cX7_kindSaid 60 = .ok (.lload_n 0, 1) := by decide +kernel
theorem dX7_kindSaid_61 : decode cX7_kindSaid 61 = .ok (.ldc2_w 219, 3) := by decide +kernel
theorem dX7_kindSaid_64 : decode cX7_kindSaid 64 = .ok (.lcmp, 1) := by decide +kernel
theorem dX7_kindSaid_65 : decode cX7_kindSaid 65 = .ok (.ifCond .ne 6, 3) := by decide +kernel
theorem dX7_kindSaid_68 : decode cX7_kindSaid 68 = .ok (.bipush 6, 2) := by decide +kernel
theorem dX7_kindSaid_70 : decode cX7_kindSaid 70 = .ok (.ireturn, 1) := by decide +kernel
theorem dX7_kindSaid_71 : decode cX7_kindSaid 71 = .ok (.lload_n 0, 1) := by decide +kernel
theorem dX7_kindSaid_72 : decode cX7_kindSaid 72 = .ok (.ldc2_w 221, 3) := by decide +kernel
theorem dX7_kindSaid_75 : decode cX7_kindSaid 75 = .ok (.lcmp, 1) := by decide +kernel
theorem dX7_kindSaid_76 : decode cX7_kindSaid 76 = .ok (.ifCond .ne 8, 3) := by decide +kernel
theorem dX7_kindSaid_79 : decode cX7_kindSaid 79 = .ok (.bipush 7, 2) := by decide +kernel
theorem dX7_kindSaid_81 : decode cX7_kindSaid 81 = .ok (.goto 5, 3) := by decide +kernel
theorem dX7_kindSaid_84 : decode cX7_kindSaid 84 = .ok (.bipush (-9), 2) := by decide +kernel
theorem dX7_kindSaid_86 : decode cX7_kindSaid 86 = .ok (.ireturn, 1) := by decide +kernel
theorem dX7_doesSaid_0 : decode cX7_doesSaid 0 = .ok (.lload_n 0, 1) := by decide +kernel
theorem dX7_doesSaid_1 : decode cX7_doesSaid 1 = .ok (.ldc2_w 223, 3) := by decide +kernel
theorem dX7_doesSaid_4 : decode cX7_doesSaid 4 = .ok (.lcmp, 1) := by decide +kernel
theorem dX7_doesSaid_5 : decode cX7_doesSaid 5 = .ok (.ifCond .ne 5, 3) := by decide +kernel
theorem dX7_doesSaid_8 : decode cX7_doesSaid 8 = .ok (.iconst 0, 1) := by decide +kernel
theorem dX7_doesSaid_9 : decode cX7_doesSaid 9 = .ok (.ireturn, 1) := by decide +kernel
theorem dX7_doesSaid_10 : decode cX7_doesSaid 10 = .ok (.lload_n 0, 1) := by decide +kernel
theorem dX7_doesSaid_11 : decode cX7_doesSaid 11 = .ok (.ldc2_w 225, 3) := by decide +kernel
theorem dX7_doesSaid_14 : decode cX7_doesSaid 14 = .ok (.lcmp, 1) := by decide +kernel
theorem dX7_doesSaid_15 : decode cX7_doesSaid 15 = .ok (.ifCond .ne 5, 3) := by decide +kernel
theorem dX7_doesSaid_18 : decode cX7_doesSaid 18 = .ok (.iconst 1, 1) := by decide +kernel
theorem dX7_doesSaid_19 : decode cX7_doesSaid 19 = .ok (.ireturn, 1) := by decide +kernel
theorem dX7_doesSaid_20 : decode cX7_doesSaid 20 = .ok (.lload_n 0, 1) := by decide +kernel
theorem dX7_doesSaid_21 : decode cX7_doesSaid 21 = .ok (.ldc2_w 227, 3) := by decide +kernel
theorem dX7_doesSaid_24 : decode cX7_doesSaid 24 = .ok (.lcmp, 1) := by decide +kernel
theorem dX7_doesSaid_25 : decode cX7_doesSaid 25 = .ok (.ifCond .ne 5, 3) := by decide +kernel
theorem dX7_doesSaid_28 : decode cX7_doesSaid 28 = .ok (.iconst 2, 1) := by decide +kernel
theorem dX7_doesSaid_29 : decode cX7_doesSaid 29 = .ok (.ireturn, 1) := by decide +kernel
theorem dX7_doesSaid_30 : decode cX7_doesSaid 30 = .ok (.lload_n 0, 1) := by decide +kernel
theorem dX7_doesSaid_31 : decode cX7_doesSaid 31 = .ok (.ldc2_w 229, 3) := by decide +kernel
theorem dX7_doesSaid_34 : decode cX7_doesSaid 34 = .ok (.lcmp, 1) := by decide +kernel
theorem dX7_doesSaid_35 : decode cX7_doesSaid 35 = .ok (.ifCond .ne 5, 3) := by decide +kernel
theorem dX7_doesSaid_38 : decode cX7_doesSaid 38 = .ok (.iconst 3, 1) := by decide +kernel
theorem dX7_doesSaid_39 : decode cX7_doesSaid 39 = .ok (.ireturn, 1) := by decide +kernel
theorem dX7_doesSaid_40 : decode cX7_doesSaid 40 = .ok (.lload_n 0, 1) := by decide +kernel
theorem dX7_doesSaid_41 : decode cX7_doesSaid 41 = .ok (.ldc2_w 231, 3) := by decide +kernel
theorem dX7_doesSaid_44 : decode cX7_doesSaid 44 = .ok (.lcmp, 1) := by decide +kernel
theorem dX7_doesSaid_45 : decode cX7_doesSaid 45 = .ok (.ifCond .ne 7, 3) := by decide +kernel
theorem dX7_doesSaid_48 : decode cX7_doesSaid 48 = .ok (.iconst 4, 1) := by decide +kernel
theorem dX7_doesSaid_49 : decode cX7_doesSaid 49 = .ok (.goto 5, 3) := by decide +kernel
theorem dX7_doesSaid_52 : decode cX7_doesSaid 52 = .ok (.bipush (-9), 2) := by decide +kernel
theorem dX7_doesSaid_54 : decode cX7_doesSaid 54 = .ok (.ireturn, 1) := by decide +kernel
theorem dX7_faceSaid_0 : decode cX7_faceSaid 0 = .ok (.lload_n 0, 1) := by decide +kernel
theorem dX7_faceSaid_1 : decode cX7_faceSaid 1 = .ok (.ldc2_w 233, 3) := by decide +kernel
theorem dX7_faceSaid_4 : decode cX7_faceSaid 4 = .ok (.lcmp, 1) := by decide +kernel
theorem dX7_faceSaid_5 : decode cX7_faceSaid 5 = .ok (.ifCond .ne 7, 3) := by decide +kernel
theorem dX7_faceSaid_8 : decode cX7_faceSaid 8 = .ok (.iconst 0, 1) := by decide +kernel
theorem dX7_faceSaid_9 : decode cX7_faceSaid 9 = .ok (.goto 41, 3) := by decide +kernel
theorem dX7_faceSaid_12 : decode cX7_faceSaid 12 = .ok (.lload_n 0, 1) := by decide +kernel
theorem dX7_faceSaid_13 : decode cX7_faceSaid 13 = .ok (.ldc2_w 235, 3) := by decide +kernel
theorem dX7_faceSaid_16 : decode cX7_faceSaid 16 = .ok (.lcmp, 1) := by decide +kernel
theorem dX7_faceSaid_17 : decode cX7_faceSaid 17 = .ok (.ifCond .ne 7, 3) := by decide +kernel
theorem dX7_faceSaid_20 : decode cX7_faceSaid 20 = .ok (.iconst 1, 1) := by decide +kernel
theorem dX7_faceSaid_21 : decode cX7_faceSaid 21 = .ok (.goto 29, 3) := by decide +kernel
theorem dX7_faceSaid_24 : decode cX7_faceSaid 24 = .ok (.lload_n 0, 1) := by decide +kernel
theorem dX7_faceSaid_25 : decode cX7_faceSaid 25 = .ok (.ldc2_w 237, 3) := by decide +kernel
theorem dX7_faceSaid_28 : decode cX7_faceSaid 28 = .ok (.lcmp, 1) := by decide +kernel
theorem dX7_faceSaid_29 : decode cX7_faceSaid 29 = .ok (.ifCond .ne 7, 3) := by decide +kernel
theorem dX7_faceSaid_32 : decode cX7_faceSaid 32 = .ok (.iconst 2, 1) := by decide +kernel
theorem dX7_faceSaid_33 : decode cX7_faceSaid 33 = .ok (.goto 17, 3) := by decide +kernel
theorem dX7_faceSaid_36 : decode cX7_faceSaid 36 = .ok (.lload_n 0, 1) := by decide +kernel
theorem dX7_faceSaid_37 : decode cX7_faceSaid 37 = .ok (.ldc2_w 239, 3) := by decide +kernel
theorem dX7_faceSaid_40 : decode cX7_faceSaid 40 = .ok (.lcmp, 1) := by decide +kernel
theorem dX7_faceSaid_41 : decode cX7_faceSaid 41 = .ok (.ifCond .ne 7, 3) := by decide +kernel
theorem dX7_faceSaid_44 : decode cX7_faceSaid 44 = .ok (.iconst 3, 1) := by decide +kernel
theorem dX7_faceSaid_45 : decode cX7_faceSaid 45 = .ok (.goto 5, 3) := by decide +kernel
theorem dX7_faceSaid_48 : decode cX7_faceSaid 48 = .ok (.bipush (-9), 2) := by decide +kernel
theorem dX7_faceSaid_50 : decode cX7_faceSaid 50 = .ok (.ireturn, 1) := by decide +kernel
theorem dX7_isMore_0 : decode cX7_isMore 0 = .ok (.aload_n 0, 1) := by decide +kernel
theorem dX7_isMore_1 : decode cX7_isMore 1 = .ok (.getfield 22, 3) := by decide +kernel
theorem dX7_isMore_4 : decode cX7_isMore 4 = .ok (.aload_n 0, 1) := by decide +kernel
theorem dX7_isMore_5 : decode cX7_isMore 5 = .ok (.getfield 79, 3) := by decide +kernel
theorem dX7_isMore_8 : decode cX7_isMore 8 = .ok (.iload_n 1, 1) := by decide +kernel
theorem dX7_isMore_9 : decode cX7_isMore 9 = .ok (.iastore, 1) := by decide +kernel
theorem dX7_isMore_10 : decode cX7_isMore 10 = .ok (.aload_n 0, 1) := by decide +kernel
theorem dX7_isMore_11 : decode cX7_isMore 11 = .ok (.getfield 25, 3) := by decide +kernel
theorem dX7_isMore_14 : decode cX7_isMore 14 = .ok (.aload_n 0, 1) := by decide +kernel
theorem dX7_isMore_15 : decode cX7_isMore 15 = .ok (.getfield 79, 3) := by decide +kernel
theorem dX7_isMore_18 : decode cX7_isMore 18 = .ok (.iload_n 2, 1) := by decide +kernel
theorem dX7_isMore_19 : decode cX7_isMore 19 = .ok (.iastore, 1) := by decide +kernel
theorem dX7_isMore_20 : decode cX7_isMore 20 = .ok (.aload_n 0, 1) := by decide +kernel
theorem dX7_isMore_21 : decode cX7_isMore 21 = .ok (.getfield 28, 3) := by decide +kernel
theorem dX7_isMore_24 : decode cX7_isMore 24 = .ok (.aload_n 0, 1) := by decide +kernel
theorem dX7_isMore_25 : decode cX7_isMore 25 = .ok (.getfield 79, 3) := by decide +kernel
theorem dX7_isMore_28 : decode cX7_isMore 28 = .ok (.iload_n 3, 1) := by decide +kernel
theorem dX7_isMore_29 : decode cX7_isMore 29 = .ok (.iastore, 1) := by decide +kernel
theorem dX7_isMore_30 : decode cX7_isMore 30 = .ok (.aload_n 0, 1) := by decide +kernel
theorem dX7_isMore_31 : decode cX7_isMore 31 = .ok (.getfield 31, 3) := by decide +kernel
theorem dX7_isMore_34 : decode cX7_isMore 34 = .ok (.aload_n 0, 1) := by decide +kernel
theorem dX7_isMore_35 : decode cX7_isMore 35 = .ok (.getfield 79, 3) := by decide +kernel
theorem dX7_isMore_38 : decode cX7_isMore 38 = .ok (.iconst 0, 1) := by decide +kernel
theorem dX7_isMore_39 : decode cX7_isMore 39 = .ok (.iastore, 1) := by decide +kernel
theorem dX7_isMore_40 : decode cX7_isMore 40 = .ok (.aload_n 0, 1) := by decide +kernel
theorem dX7_isMore_41 : decode cX7_isMore 41 = .ok (.getfield 34, 3) := by decide +kernel
theorem dX7_isMore_44 : decode cX7_isMore 44 = .ok (.aload_n 0, 1) := by decide +kernel
theorem dX7_isMore_45 : decode cX7_isMore 45 = .ok (.getfield 79, 3) := by decide +kernel
theorem dX7_isMore_48 : decode cX7_isMore 48 = .ok (.iconst 0, 1) := by decide +kernel
theorem dX7_isMore_49 : decode cX7_isMore 49 = .ok (.iastore, 1) := by decide +kernel
theorem dX7_isMore_50 : decode cX7_isMore 50 = .ok (.aload_n 0, 1) := by decide +kernel
theorem dX7_isMore_51 : decode cX7_isMore 51 = .ok (.getfield 37, 3) := by decide +kernel
theorem dX7_isMore_54 : decode cX7_isMore 54 = .ok (.aload_n 0, 1) := by decide +kernel
theorem dX7_isMore_55 : decode cX7_isMore 55 = .ok (.getfield 79, 3) := by decide +kernel
theorem dX7_isMore_58 : decode cX7_isMore 58 = .ok (.iconst 0, 1) := by decide +kernel
theorem dX7_isMore_59 : decode cX7_isMore 59 = .ok (.iastore, 1) := by decide +kernel
theorem dX7_isMore_60 : decode cX7_isMore 60 = .ok (.aload_n 0, 1) := by decide +kernel
theorem dX7_isMore_61 : decode cX7_isMore 61 = .ok (.getfield 40, 3) := by decide +kernel
theorem dX7_isMore_64 : decode cX7_isMore 64 = .ok (.aload_n 0, 1) := by decide +kernel
theorem dX7_isMore_65 : decode cX7_isMore 65 = .ok (.getfield 79, 3) := by decide +kernel
theorem dX7_isMore_68 : decode cX7_isMore 68 = .ok (.iconst 0, 1) := by decide +kernel
theorem dX7_isMore_69 : decode cX7_isMore 69 = .ok (.iastore, 1) := by decide +kernel
theorem dX7_isMore_70 : decode cX7_isMore 70 = .ok (.aload_n 0, 1) := by decide +kernel
theorem dX7_isMore_71 : decode cX7_isMore 71 = .ok (.getfield 43, 3) := by decide +kernel
theorem dX7_isMore_74 : decode cX7_isMore 74 = .ok (.aload_n 0, 1) := by decide +kernel
theorem dX7_isMore_75 : decode cX7_isMore 75 = .ok (.getfield 79, 3) := by decide +kernel
theorem dX7_isMore_78 : decode cX7_isMore 78 = .ok (.iconst 0, 1) := by decide +kernel
theorem dX7_isMore_79 : decode cX7_isMore 79 = .ok (.iastore, 1) := by decide +kernel
theorem dX7_isMore_80 : decode cX7_isMore 80 = .ok (.aload_n 0, 1) := by decide +kernel
theorem dX7_isMore_81 : decode cX7_isMore 81 = .ok (.dup, 1) := by decide +kernel
theorem dX7_isMore_82 : decode cX7_isMore 82 = .ok (.getfield 79, 3) := by decide +kernel
theorem dX7_isMore_85 : decode cX7_isMore 85 = .ok (.iconst 1, 1) := by decide +kernel
theorem dX7_isMore_86 : decode cX7_isMore 86 = .ok (.iadd, 1) := by decide +kernel
theorem dX7_isMore_87 : decode cX7_isMore 87 = .ok (.putfield 79, 3) := by decide +kernel
theorem dX7_isMore_90 : decode cX7_isMore 90 = .ok (.return_, 1) := by decide +kernel
theorem dX7_comesHead_0 : decode cX7_comesHead 0 = .ok (.aload_n 0, 1) := by decide +kernel
theorem dX7_comesHead_1 : decode cX7_comesHead 1 = .ok (.iload_n 1, 1) := by decide +kernel
theorem dX7_comesHead_2 : decode cX7_comesHead 2 = .ok (.iconst 0, 1) := by decide +kernel
theorem dX7_comesHead_3 : decode cX7_comesHead 3 = .ok (.invokevirtual 241, 3) := by decide +kernel
theorem dX7_comesHead_6 : decode cX7_comesHead 6 = .ok (.istore_n 3, 1) := by decide +kernel
theorem dX7_comesHead_7 : decode cX7_comesHead 7 = .ok (.aload_n 0, 1) := by decide +kernel
theorem dX7_comesHead_8 : decode cX7_comesHead 8 = .ok (.iload_n 1, 1) := by decide +kernel
theorem dX7_comesHead_9 : decode cX7_comesHead 9 = .ok (.iconst 2, 1) := by decide +kernel
theorem dX7_comesHead_10 : decode cX7_comesHead 10 = .ok (.invokevirtual 241, 3) := by decide +kernel
theorem dX7_comesHead_13 : decode cX7_comesHead 13 = .ok (.istore 4, 2) := by decide +kernel
theorem dX7_comesHead_15 : decode cX7_comesHead 15 = .ok (.aload_n 0, 1) := by decide +kernel
theorem dX7_comesHead_16 : decode cX7_comesHead 16 = .ok (.getfield 64, 3) := by decide +kernel
theorem dX7_comesHead_19 : decode cX7_comesHead 19 = .ok (.iconst 3, 1) := by decide +kernel
theorem dX7_comesHead_20 : decode cX7_comesHead 20 = .ok (.iload_n 1, 1) := by decide +kernel
theorem dX7_comesHead_21 : decode cX7_comesHead 21 = .ok (.imul, 1) := by decide +kernel
theorem dX7_comesHead_22 : decode cX7_comesHead 22 = .ok (.iconst 1, 1) := by decide +kernel
theorem dX7_comesHead_23 : decode cX7_comesHead 23 = .ok (.iadd, 1) := by decide +kernel
theorem dX7_comesHead_24 : decode cX7_comesHead 24 = .ok (.iaload, 1) := by decide +kernel
theorem dX7_comesHead_25 : decode cX7_comesHead 25 = .ok (.istore 5, 2) := by decide +kernel
theorem dX7_comesHead_27 : decode cX7_comesHead 27 = .ok (.aload_n 0, 1) := by decide +kernel
theorem dX7_comesHead_28 : decode cX7_comesHead 28 = .ok (.getfield 58, 3) := by decide +kernel
theorem dX7_comesHead_31 : decode cX7_comesHead 31 = .ok (.iload_n 1, 1) := by decide +kernel
theorem dX7_comesHead_32 : decode cX7_comesHead 32 = .ok (.iaload, 1) := by decide +kernel
theorem dX7_comesHead_33 : decode cX7_comesHead 33 = .ok (.iconst 3, 1) := by decide +kernel
theorem dX7_comesHead_34 : decode cX7_comesHead 34 = .ok (.if_icmp .ne 45, 3) := by decide +kernel
theorem dX7_comesHead_37 : decode cX7_comesHead 37 = .ok (.iload_n 3, 1) := by decide +kernel
theorem dX7_comesHead_38 : decode cX7_comesHead 38 = .ok (.iconst 0, 1) := by decide +kernel
theorem dX7_comesHead_39 : decode cX7_comesHead 39 = .ok (.bipush 9, 2) := by decide +kernel
theorem dX7_comesHead_41 : decode cX7_comesHead 41 = .ok (.invokestatic 85, 3) := by decide +kernel
theorem dX7_comesHead_44 : decode cX7_comesHead 44 = .ok (.ifCond .eq 35, 3) := by decide +kernel
theorem dX7_comesHead_47 : decode cX7_comesHead 47 = .ok (.aload_n 0, 1) := by decide +kernel
theorem dX7_comesHead_48 : decode cX7_comesHead 48 = .ok (.iload_n 1, 1) := by decide +kernel
theorem dX7_comesHead_49 : decode cX7_comesHead 49 = .ok (.iconst 1, 1) := by decide +kernel
theorem dX7_comesHead_50 : decode cX7_comesHead 50 = .ok (.invokevirtual 200, 3) := by decide +kernel
theorem dX7_comesHead_53 : decode cX7_comesHead 53 = .ok (.ifCond .eq 26, 3) := by decide +kernel
theorem dX7_comesHead_56 : decode cX7_comesHead 56 = .ok (.iload 5, 2) := by decide +kernel
theorem dX7_comesHead_58 : decode cX7_comesHead 58 = .ok (.bipush 6, 2) := by decide +kernel
theorem dX7_comesHead_60 : decode cX7_comesHead 60 = .ok (.if_icmp .gt 19, 3) := by decide +kernel
theorem dX7_comesHead_63 : decode cX7_comesHead 63 = .ok (.iload 4, 2) := by decide +kernel
theorem dX7_comesHead_65 : decode cX7_comesHead 65 = .ok (.invokestatic 244, 3) := by decide +kernel
theorem dX7_comesHead_68 : decode cX7_comesHead 68 = .ok (.ifCond .eq 11, 3) := by decide +kernel
theorem dX7_comesHead_71 : decode cX7_comesHead 71 = .ok (.aload_n 0, 1) := by decide +kernel
theorem dX7_comesHead_72 : decode cX7_comesHead 72 = .ok (.getfield 79, 3) := by decide +kernel
theorem dX7_comesHead_75 : decode cX7_comesHead 75 = .ok (.iconst 5, 1) := by decide +kernel
theorem dX7_comesHead_76 : decode cX7_comesHead 76 = .ok (.if_icmp .ne 5, 3) := by decide +kernel
theorem dX7_comesHead_79 : decode cX7_comesHead 79 = .ok (.iconst 0, 1) := by decide +kernel
theorem dX7_comesHead_80 : decode cX7_comesHead 80 = .ok (.ireturn, 1) := by decide +kernel
theorem dX7_comesHead_81 : decode cX7_comesHead 81 = .ok (.aload_n 0, 1) := by decide +kernel
theorem dX7_comesHead_82 : decode cX7_comesHead 82 = .ok (.iload_n 2, 1) := by decide +kernel
theorem dX7_comesHead_83 : decode cX7_comesHead 83 = .ok (.iload_n 3, 1) := by decide +kernel
theorem dX7_comesHead_84 : decode cX7_comesHead 84 = .ok (.iload 4, 2) := by decide +kernel
theorem dX7_comesHead_86 : decode cX7_comesHead 86 = .ok (.invokevirtual 247, 3) := by decide +kernel
theorem dX7_comesHead_89 : decode cX7_comesHead 89 = .ok (.iconst 0, 1) := by decide +kernel
theorem dX7_comesHead_90 : decode cX7_comesHead 90 = .ok (.istore 6, 2) := by decide +kernel
theorem dX7_comesHead_92 : decode cX7_comesHead 92 = .ok (.iload 6, 2) := by decide +kernel
theorem dX7_comesHead_94 : decode cX7_comesHead 94 = .ok (.iload 5, 2) := by decide +kernel
theorem dX7_comesHead_96 : decode cX7_comesHead 96 = .ok (.if_icmp .ge 47, 3) := by decide +kernel
theorem dX7_comesHead_99 : decode cX7_comesHead 99 = .ok (.aload_n 0, 1) := by decide +kernel
theorem dX7_comesHead_100 : decode cX7_comesHead 100 = .ok (.getfield 46, 3) := by decide +kernel
theorem dX7_comesHead_103 : decode cX7_comesHead 103 = .ok (.bipush 6, 2) := by decide +kernel
theorem dX7_comesHead_105 : decode cX7_comesHead 105 = .ok (.aload_n 0, 1) := by decide +kernel
theorem dX7_comesHead_106 : decode cX7_comesHead 106 = .ok (.getfield 79, 3) := by decide +kernel
theorem dX7_comesHead_109 : decode cX7_comesHead 109 = .ok (.iconst 1, 1) := by decide +kernel
theorem dX7_comesHead_110 : decode cX7_comesHead 110 = .ok (.isub, 1) := by decide +kernel
theorem dX7_comesHead_111 : decode cX7_comesHead 111 = .ok (.imul, 1) := by decide +kernel
theorem dX7_comesHead_112 : decode cX7_comesHead 112 = .ok (.iload 6, 2) := by decide +kernel
theorem dX7_comesHead_114 : decode cX7_comesHead 114 = .ok (.iadd, 1) := by decide +kernel
theorem dX7_comesHead_115 : decode cX7_comesHead 115 = .ok (.aload_n 0, 1) := by decide +kernel
theorem dX7_comesHead_116 : decode cX7_comesHead 116 = .ok (.getfield 49, 3) := by decide +kernel
theorem dX7_comesHead_119 : decode cX7_comesHead 119 = .ok (.aload_n 0, 1) := by decide +kernel
theorem dX7_comesHead_120 : decode cX7_comesHead 120 = .ok (.getfield 61, 3) := by decide +kernel
theorem dX7_comesHead_123 : decode cX7_comesHead 123 = .ok (.iconst 3, 1) := by decide +kernel
theorem dX7_comesHead_124 : decode cX7_comesHead 124 = .ok (.iload_n 1, 1) := by decide +kernel
theorem dX7_comesHead_125 : decode cX7_comesHead 125 = .ok (.imul, 1) := by decide +kernel
theorem dX7_comesHead_126 : decode cX7_comesHead 126 = .ok (.iconst 1, 1) := by decide +kernel
theorem dX7_comesHead_127 : decode cX7_comesHead 127 = .ok (.iadd, 1) := by decide +kernel
theorem dX7_comesHead_128 : decode cX7_comesHead 128 = .ok (.iaload, 1) := by decide +kernel
theorem dX7_comesHead_129 : decode cX7_comesHead 129 = .ok (.iload 6, 2) := by decide +kernel
theorem dX7_comesHead_131 : decode cX7_comesHead 131 = .ok (.iadd, 1) := by decide +kernel
theorem dX7_comesHead_132 : decode cX7_comesHead 132 = .ok (.iaload, 1) := by decide +kernel
theorem dX7_comesHead_133 : decode cX7_comesHead 133 = .ok (.bipush 97, 2) := by decide +kernel
theorem dX7_comesHead_135 : decode cX7_comesHead 135 = .ok (.isub, 1) := by decide +kernel
theorem dX7_comesHead_136 : decode cX7_comesHead 136 = .ok (.iastore, 1) := by decide +kernel
theorem dX7_comesHead_137 : decode cX7_comesHead 137 = .ok (.iinc 6 1, 3) := by decide +kernel
theorem dX7_comesHead_140 : decode cX7_comesHead 140 = .ok (.goto (-48), 3) := by decide +kernel
theorem dX7_comesHead_143 : decode cX7_comesHead 143 = .ok (.aload_n 0, 1) := by decide +kernel
theorem dX7_comesHead_144 : decode cX7_comesHead 144 = .ok (.getfield 43, 3) := by decide +kernel
theorem dX7_comesHead_147 : decode cX7_comesHead 147 = .ok (.aload_n 0, 1) := by decide +kernel
theorem dX7_comesHead_148 : decode cX7_comesHead 148 = .ok (.getfield 79, 3) := by decide +kernel
theorem dX7_comesHead_151 : decode cX7_comesHead 151 = .ok (.iconst 1, 1) := by decide +kernel
theorem dX7_comesHead_152 : decode cX7_comesHead 152 = .ok (.isub, 1) := by decide +kernel
theorem dX7_comesHead_153 : decode cX7_comesHead 153 = .ok (.iload 5, 2) := by decide +kernel
theorem dX7_comesHead_155 : decode cX7_comesHead 155 = .ok (.iastore, 1) := by decide +kernel
theorem dX7_comesHead_156 : decode cX7_comesHead 156 = .ok (.iconst 1, 1) := by decide +kernel
theorem dX7_comesHead_157 : decode cX7_comesHead 157 = .ok (.ireturn, 1) := by decide +kernel
theorem dX7_comesWall_0 : decode cX7_comesWall 0 = .ok (.aload_n 0, 1) := by decide +kernel
theorem dX7_comesWall_1 : decode cX7_comesWall 1 = .ok (.getfield 58, 3) := by decide +kernel
theorem dX7_comesWall_4 : decode cX7_comesWall 4 = .ok (.iload_n 1, 1) := by decide +kernel
theorem dX7_comesWall_5 : decode cX7_comesWall 5 = .ok (.iaload, 1) := by decide +kernel
theorem dX7_comesWall_6 : decode cX7_comesWall 6 = .ok (.iconst 2, 1) := by decide +kernel
theorem dX7_comesWall_7 : decode cX7_comesWall 7 = .ok (.if_icmp .ne 30, 3) := by decide +kernel
theorem dX7_comesWall_10 : decode cX7_comesWall 10 = .ok (.aload_n 0, 1) := by decide +kernel
theorem dX7_comesWall_11 : decode cX7_comesWall 11 = .ok (.iload_n 1, 1) := by decide +kernel
theorem dX7_comesWall_12 : decode cX7_comesWall 12 = .ok (.iconst 0, 1) := by decide +kernel
theorem dX7_comesWall_13 : decode cX7_comesWall 13 = .ok (.invokevirtual 241, 3) := by decide +kernel
theorem dX7_comesWall_16 : decode cX7_comesWall 16 = .ok (.invokestatic 244, 3) := by decide +kernel
theorem dX7_comesWall_19 : decode cX7_comesWall 19 = .ok (.ifCond .eq 18, 3) := by decide +kernel
theorem dX7_comesWall_22 : decode cX7_comesWall 22 = .ok (.aload_n 0, 1) := by decide +kernel
theorem dX7_comesWall_23 : decode cX7_comesWall 23 = .ok (.iload_n 1, 1) := by decide +kernel
theorem dX7_comesWall_24 : decode cX7_comesWall 24 = .ok (.iconst 1, 1) := by decide +kernel
theorem dX7_comesWall_25 : decode cX7_comesWall 25 = .ok (.invokevirtual 241, 3) := by decide +kernel
theorem dX7_comesWall_28 : decode cX7_comesWall 28 = .ok (.iconst 0, 1) := by decide +kernel
theorem dX7_comesWall_29 : decode cX7_comesWall 29 = .ok (.bipush 9, 2) := by decide +kernel
theorem dX7_comesWall_31 : decode cX7_comesWall 31 = .ok (.invokestatic 85, 3) := by decide +kernel
theorem dX7_comesWall_34 : decode cX7_comesWall 34 = .ok (.ifCond .ne 5, 3) := by decide +kernel
theorem dX7_comesWall_37 : decode cX7_comesWall 37 = .ok (.iconst 0, 1) := by decide +kernel
theorem dX7_comesWall_38 : decode cX7_comesWall 38 = .ok (.ireturn, 1) := by decide +kernel
theorem dX7_comesWall_39 : decode cX7_comesWall 39 = .ok (.aload_n 0, 1) := by decide +kernel
theorem dX7_comesWall_40 : decode cX7_comesWall 40 = .ok (.getfield 13, 3) := by decide +kernel
theorem dX7_comesWall_43 : decode cX7_comesWall 43 = .ok (.aload_n 0, 1) := by decide +kernel
theorem dX7_comesWall_44 : decode cX7_comesWall 44 = .ok (.iload_n 1, 1) := by decide +kernel
theorem dX7_comesWall_45 : decode cX7_comesWall 45 = .ok (.iconst 0, 1) := by decide +kernel
theorem dX7_comesWall_46 : decode cX7_comesWall 46 = .ok (.invokevirtual 241, 3) := by decide +kernel
theorem dX7_comesWall_49 : decode cX7_comesWall 49 = .ok (.aload_n 0, 1) := by decide +kernel
theorem dX7_comesWall_50 : decode cX7_comesWall 50 = .ok (.iload_n 1, 1) := by decide +kernel
theorem dX7_comesWall_51 : decode cX7_comesWall 51 = .ok (.iconst 1, 1) := by decide +kernel
theorem dX7_comesWall_52 : decode cX7_comesWall 52 = .ok (.invokevirtual 241, 3) := by decide +kernel
theorem dX7_comesWall_55 : decode cX7_comesWall 55 = .ok (.iastore, 1) := by decide +kernel
theorem dX7_comesWall_56 : decode cX7_comesWall 56 = .ok (.iconst 1, 1) := by decide +kernel
theorem dX7_comesWall_57 : decode cX7_comesWall 57 = .ok (.ireturn, 1) := by decide +kernel
theorem dX7_comesFolk_0 : decode cX7_comesFolk 0 = .ok (.aload_n 0, 1) := by decide +kernel
theorem dX7_comesFolk_1 : decode cX7_comesFolk 1 = .ok (.getfield 58, 3) := by decide +kernel
theorem dX7_comesFolk_4 : decode cX7_comesFolk 4 = .ok (.iload_n 1, 1) := by decide +kernel
theorem dX7_comesFolk_5 : decode cX7_comesFolk 5 = .ok (.iaload, 1) := by decide +kernel
theorem dX7_comesFolk_6 : decode cX7_comesFolk 6 = .ok (.iconst 3, 1) := by decide +kernel
theorem dX7_comesFolk_7 : decode cX7_comesFolk 7 = .ok (.if_icmp .ne 53, 3) := by decide +kernel
theorem dX7_comesFolk_10 : decode cX7_comesFolk 10 = .ok (.aload_n 0, 1) := by decide +kernel
theorem dX7_comesFolk_11 : decode cX7_comesFolk 11 = .ok (.iload_n 1, 1) := by decide +kernel
theorem dX7_comesFolk_12 : decode cX7_comesFolk 12 = .ok (.iconst 0, 1) := by decide +kernel
theorem dX7_comesFolk_13 : decode cX7_comesFolk 13 = .ok (.invokevirtual 241, 3) := by decide +kernel
theorem dX7_comesFolk_16 : decode cX7_comesFolk 16 = .ok (.invokestatic 244, 3) := by decide +kernel
theorem dX7_comesFolk_19 : decode cX7_comesFolk 19 = .ok (.ifCond .eq 41, 3) := by decide +kernel
theorem dX7_comesFolk_22 : decode cX7_comesFolk 22 = .ok (.aload_n 0, 1) := by decide +kernel
theorem dX7_comesFolk_23 : decode cX7_comesFolk 23 = .ok (.iload_n 1, 1) := by decide +kernel
theorem dX7_comesFolk_24 : decode cX7_comesFolk 24 = .ok (.iconst 1, 1) := by decide +kernel
theorem dX7_comesFolk_25 : decode cX7_comesFolk 25 = .ok (.invokevirtual 241, 3) := by decide +kernel
theorem dX7_comesFolk_28 : decode cX7_comesFolk 28 = .ok (.iconst 0, 1) := by decide +kernel
theorem dX7_comesFolk_29 : decode cX7_comesFolk 29 = .ok (.bipush 9, 2) := by decide +kernel
theorem dX7_comesFolk_31 : decode cX7_comesFolk 31 = .ok (.invokestatic 85, 3) := by decide +kernel
theorem dX7_comesFolk_34 : decode cX7_comesFolk 34 = .ok (.ifCond .eq 26, 3) := by decide +kernel
theorem dX7_comesFolk_37 : decode cX7_comesFolk 37 = .ok (.aload_n 0, 1) := by decide +kernel
theorem dX7_comesFolk_38 : decode cX7_comesFolk 38 = .ok (.iload_n 1, 1) := by decide +kernel
theorem dX7_comesFolk_39 : decode cX7_comesFolk 39 = .ok (.iconst 2, 1) := by decide +kernel
theorem dX7_comesFolk_40 : decode cX7_comesFolk 40 = .ok (.invokevirtual 200, 3) := by decide +kernel
theorem dX7_comesFolk_43 : decode cX7_comesFolk 43 = .ok (.ifCond .eq 17, 3) := by decide +kernel
theorem dX7_comesFolk_46 : decode cX7_comesFolk 46 = .ok (.aload_n 0, 1) := by decide +kernel
theorem dX7_comesFolk_47 : decode cX7_comesFolk 47 = .ok (.getfield 64, 3) := by decide +kernel
theorem dX7_comesFolk_50 : decode cX7_comesFolk 50 = .ok (.iconst 3, 1) := by decide +kernel
theorem dX7_comesFolk_51 : decode cX7_comesFolk 51 = .ok (.iload_n 1, 1) := by decide +kernel
theorem dX7_comesFolk_52 : decode cX7_comesFolk 52 = .ok (.imul, 1) := by decide +kernel
theorem dX7_comesFolk_53 : decode cX7_comesFolk 53 = .ok (.iconst 2, 1) := by decide +kernel
theorem dX7_comesFolk_54 : decode cX7_comesFolk 54 = .ok (.iadd, 1) := by decide +kernel
theorem dX7_comesFolk_55 : decode cX7_comesFolk 55 = .ok (.iaload, 1) := by decide +kernel
theorem dX7_comesFolk_56 : decode cX7_comesFolk 56 = .ok (.iconst 1, 1) := by decide +kernel
theorem dX7_comesFolk_57 : decode cX7_comesFolk 57 = .ok (.if_icmp .eq 5, 3) := by decide +kernel
theorem dX7_comesFolk_60 : decode cX7_comesFolk 60 = .ok (.iconst 0, 1) := by decide +kernel
theorem dX7_comesFolk_61 : decode cX7_comesFolk 61 = .ok (.ireturn, 1) := by decide +kernel
theorem dX7_comesFolk_62 : decode cX7_comesFolk 62 = .ok (.aload_n 0, 1) := by decide +kernel
theorem dX7_comesFolk_63 : decode cX7_comesFolk 63 = .ok (.getfield 16, 3) := by decide +kernel
theorem dX7_comesFolk_66 : decode cX7_comesFolk 66 = .ok (.aload_n 0, 1) := by decide +kernel
theorem dX7_comesFolk_67 : decode cX7_comesFolk 67 = .ok (.iload_n 1, 1) := by decide +kernel
theorem dX7_comesFolk_68 : decode cX7_comesFolk 68 = .ok (.iconst 0, 1) := by decide +kernel
theorem dX7_comesFolk_69 : decode cX7_comesFolk 69 = .ok (.invokevirtual 241, 3) := by decide +kernel
theorem dX7_comesFolk_72 : decode cX7_comesFolk 72 = .ok (.aload_n 0, 1) := by decide +kernel
theorem dX7_comesFolk_73 : decode cX7_comesFolk 73 = .ok (.iload_n 1, 1) := by decide +kernel
theorem dX7_comesFolk_74 : decode cX7_comesFolk 74 = .ok (.iconst 1, 1) := by decide +kernel
theorem dX7_comesFolk_75 : decode cX7_comesFolk 75 = .ok (.invokevirtual 241, 3) := by decide +kernel
theorem dX7_comesFolk_78 : decode cX7_comesFolk 78 = .ok (.iastore, 1) := by decide +kernel
theorem dX7_comesFolk_79 : decode cX7_comesFolk 79 = .ok (.aload_n 0, 1) := by decide +kernel
theorem dX7_comesFolk_80 : decode cX7_comesFolk 80 = .ok (.getfield 19, 3) := by decide +kernel
theorem dX7_comesFolk_83 : decode cX7_comesFolk 83 = .ok (.aload_n 0, 1) := by decide +kernel
theorem dX7_comesFolk_84 : decode cX7_comesFolk 84 = .ok (.iload_n 1, 1) := by decide +kernel
theorem dX7_comesFolk_85 : decode cX7_comesFolk 85 = .ok (.iconst 0, 1) := by decide +kernel
theorem dX7_comesFolk_86 : decode cX7_comesFolk 86 = .ok (.invokevirtual 241, 3) := by decide +kernel
theorem dX7_comesFolk_89 : decode cX7_comesFolk 89 = .ok (.aload_n 0, 1) := by decide +kernel
theorem dX7_comesFolk_90 : decode cX7_comesFolk 90 = .ok (.getfield 49, 3) := by decide +kernel
theorem dX7_comesFolk_93 : decode cX7_comesFolk 93 = .ok (.aload_n 0, 1) := by decide +kernel
theorem dX7_comesFolk_94 : decode cX7_comesFolk 94 = .ok (.getfield 61, 3) := by decide +kernel
theorem dX7_comesFolk_97 : decode cX7_comesFolk 97 = .ok (.iconst 3, 1) := by decide +kernel
theorem dX7_comesFolk_98 : decode cX7_comesFolk 98 = .ok (.iload_n 1, 1) := by decide +kernel
theorem dX7_comesFolk_99 : decode cX7_comesFolk 99 = .ok (.imul, 1) := by decide +kernel
theorem dX7_comesFolk_100 : decode cX7_comesFolk 100 = .ok (.iconst 2, 1) := by decide +kernel
theorem dX7_comesFolk_101 : decode cX7_comesFolk 101 = .ok (.iadd, 1) := by decide +kernel
theorem dX7_comesFolk_102 : decode cX7_comesFolk 102 = .ok (.iaload, 1) := by decide +kernel
theorem dX7_comesFolk_103 : decode cX7_comesFolk 103 = .ok (.iaload, 1) := by decide +kernel
theorem dX7_comesFolk_104 : decode cX7_comesFolk 104 = .ok (.bipush 97, 2) := by decide +kernel
theorem dX7_comesFolk_106 : decode cX7_comesFolk 106 = .ok (.isub, 1) := by decide +kernel
theorem dX7_comesFolk_107 : decode cX7_comesFolk 107 = .ok (.iastore, 1) := by decide +kernel
theorem dX7_comesFolk_108 : decode cX7_comesFolk 108 = .ok (.iconst 1, 1) := by decide +kernel
theorem dX7_comesFolk_109 : decode cX7_comesFolk 109 = .ok (.ireturn, 1) := by decide +kernel
theorem dX7_comesFace_0 : decode cX7_comesFace 0 = .ok (.aload_n 0, 1) := by decide +kernel
theorem dX7_comesFace_1 : decode cX7_comesFace 1 = .ok (.iload_n 1, 1) := by decide +kernel
theorem dX7_comesFace_2 : decode cX7_comesFace 2 = .ok (.iconst 1, 1) := by decide +kernel
theorem dX7_comesFace_3 : decode cX7_comesFace 3 = .ok (.invokevirtual 251, 3) := by decide +kernel
theorem dX7_comesFace_6 : decode cX7_comesFace 6 = .ok (.invokestatic 254, 3) := by decide +kernel
theorem dX7_comesFace_9 : decode cX7_comesFace 9 = .ok (.istore_n 2, 1) := by decide +kernel
theorem dX7_comesFace_10 : decode cX7_comesFace 10 = .ok (.aload_n 0, 1) := by decide +kernel
theorem dX7_comesFace_11 : decode cX7_comesFace 11 = .ok (.getfield 58, 3) := by decide +kernel
theorem dX7_comesFace_14 : decode cX7_comesFace 14 = .ok (.iload_n 1, 1) := by decide +kernel
theorem dX7_comesFace_15 : decode cX7_comesFace 15 = .ok (.iaload, 1) := by decide +kernel
theorem dX7_comesFace_16 : decode cX7_comesFace 16 = .ok (.iconst 2, 1) := by decide +kernel
theorem dX7_comesFace_17 : decode cX7_comesFace 17 = .ok (.if_icmp .ne 20, 3) := by decide +kernel
theorem dX7_comesFace_20 : decode cX7_comesFace 20 = .ok (.aload_n 0, 1) := by decide +kernel
theorem dX7_comesFace_21 : decode cX7_comesFace 21 = .ok (.aload_n 0, 1) := by decide +kernel
theorem dX7_comesFace_22 : decode cX7_comesFace 22 = .ok (.iload_n 1, 1) := by decide +kernel
theorem dX7_comesFace_23 : decode cX7_comesFace 23 = .ok (.iconst 0, 1) := by decide +kernel
theorem dX7_comesFace_24 : decode cX7_comesFace 24 = .ok (.invokevirtual 241, 3) := by decide +kernel
theorem dX7_comesFace_27 : decode cX7_comesFace 27 = .ok (.invokevirtual 89, 3) := by decide +kernel
theorem dX7_comesFace_30 : decode cX7_comesFace 30 = .ok (.ifCond .eq 7, 3) := by decide +kernel
theorem dX7_comesFace_33 : decode cX7_comesFace 33 = .ok (.iload_n 2, 1) := by decide +kernel
theorem dX7_comesFace_34 : decode cX7_comesFace 34 = .ok (.ifCond .ge 5, 3) := by decide +kernel
theorem dX7_comesFace_37 : decode cX7_comesFace 37 = .ok (.iconst 0, 1) := by decide +kernel
theorem dX7_comesFace_38 : decode cX7_comesFace 38 = .ok (.ireturn, 1) := by decide +kernel
theorem dX7_comesFace_39 : decode cX7_comesFace 39 = .ok (.aload_n 0, 1) := by decide +kernel
theorem dX7_comesFace_40 : decode cX7_comesFace 40 = .ok (.getfield 31, 3) := by decide +kernel
theorem dX7_comesFace_43 : decode cX7_comesFace 43 = .ok (.aload_n 0, 1) := by decide +kernel
theorem dX7_comesFace_44 : decode cX7_comesFace 44 = .ok (.iload_n 1, 1) := by decide +kernel
theorem dX7_comesFace_45 : decode cX7_comesFace 45 = .ok (.iconst 0, 1) := by decide +kernel
theorem dX7_comesFace_46 : decode cX7_comesFace 46 = .ok (.invokevirtual 241, 3) := by decide +kernel
theorem dX7_comesFace_49 : decode cX7_comesFace 49 = .ok (.iload_n 2, 1) := by decide +kernel
theorem dX7_comesFace_50 : decode cX7_comesFace 50 = .ok (.iastore, 1) := by decide +kernel
theorem dX7_comesFace_51 : decode cX7_comesFace 51 = .ok (.iconst 1, 1) := by decide +kernel
theorem dX7_comesFace_52 : decode cX7_comesFace 52 = .ok (.ireturn, 1) := by decide +kernel
theorem dX7_comesDoing_0 : decode cX7_comesDoing 0 = .ok (.aload_n 0, 1) := by decide +kernel
theorem dX7_comesDoing_1 : decode cX7_comesDoing 1 = .ok (.iload_n 1, 1) := by decide +kernel
theorem dX7_comesDoing_2 : decode cX7_comesDoing 2 = .ok (.iconst 1, 1) := by decide +kernel
theorem dX7_comesDoing_3 : decode cX7_comesDoing 3 = .ok (.invokevirtual 251, 3) := by decide +kernel
theorem dX7_comesDoing_6 : decode cX7_comesDoing 6 = .ok (.invokestatic 258, 3) := by decide +kernel
theorem dX7_comesDoing_9 : decode cX7_comesDoing 9 = .ok (.istore_n 2, 1) := by decide +kernel
theorem dX7_comesDoing_10 : decode cX7_comesDoing 10 = .ok (.aload_n 0, 1) := by decide +kernel
theorem dX7_comesDoing_11 : decode cX7_comesDoing 11 = .ok (.getfield 58, 3) := by decide +kernel
theorem dX7_comesDoing_14 : decode cX7_comesDoing 14 = .ok (.iload_n 1, 1) := by decide +kernel
theorem dX7_comesDoing_15 : decode cX7_comesDoing 15 = .ok (.iaload, 1) := by decide +kernel
theorem dX7_comesDoing_16 : decode cX7_comesDoing 16 = .ok (.iconst 2, 1) := by decide +kernel
theorem dX7_comesDoing_17 : decode cX7_comesDoing 17 = .ok (.if_icmp .ne 20, 3) := by decide +kernel
theorem dX7_comesDoing_20 : decode cX7_comesDoing 20 = .ok (.aload_n 0, 1) := by decide +kernel
theorem dX7_comesDoing_21 : decode cX7_comesDoing 21 = .ok (.aload_n 0, 1) := by decide +kernel
theorem dX7_comesDoing_22 : decode cX7_comesDoing 22 = .ok (.iload_n 1, 1) := by decide +kernel
theorem dX7_comesDoing_23 : decode cX7_comesDoing 23 = .ok (.iconst 0, 1) := by decide +kernel
theorem dX7_comesDoing_24 : decode cX7_comesDoing 24 = .ok (.invokevirtual 241, 3) := by decide +kernel
theorem dX7_comesDoing_27 : decode cX7_comesDoing 27 = .ok (.invokevirtual 89, 3) := by decide +kernel
theorem dX7_comesDoing_30 : decode cX7_comesDoing 30 = .ok (.ifCond .eq 7, 3) := by decide +kernel
theorem dX7_comesDoing_33 : decode cX7_comesDoing 33 = .ok (.iload_n 2, 1) := by decide +kernel
theorem dX7_comesDoing_34 : decode cX7_comesDoing 34 = .ok (.ifCond .ge 5, 3) := by decide +kernel
theorem dX7_comesDoing_37 : decode cX7_comesDoing 37 = .ok (.iconst 0, 1) := by decide +kernel
theorem dX7_comesDoing_38 : decode cX7_comesDoing 38 = .ok (.ireturn, 1) := by decide +kernel
theorem dX7_comesDoing_39 : decode cX7_comesDoing 39 = .ok (.aload_n 0, 1) := by decide +kernel
theorem dX7_comesDoing_40 : decode cX7_comesDoing 40 = .ok (.getfield 34, 3) := by decide +kernel
theorem dX7_comesDoing_43 : decode cX7_comesDoing 43 = .ok (.aload_n 0, 1) := by decide +kernel
theorem dX7_comesDoing_44 : decode cX7_comesDoing 44 = .ok (.iload_n 1, 1) := by decide +kernel
theorem dX7_comesDoing_45 : decode cX7_comesDoing 45 = .ok (.iconst 0, 1) := by decide +kernel
theorem dX7_comesDoing_46 : decode cX7_comesDoing 46 = .ok (.invokevirtual 241, 3) := by decide +kernel
theorem dX7_comesDoing_49 : decode cX7_comesDoing 49 = .ok (.iload_n 2, 1) := by decide +kernel
theorem dX7_comesDoing_50 : decode cX7_comesDoing 50 = .ok (.iastore, 1) := by decide +kernel
theorem dX7_comesDoing_51 : decode cX7_comesDoing 51 = .ok (.iconst 1, 1) := by decide +kernel
theorem dX7_comesDoing_52 : decode cX7_comesDoing 52 = .ok (.ireturn, 1) := by decide +kernel
theorem dX7_comesJoining_0 : decode cX7_comesJoining 0 = .ok (.aload_n 0, 1) := by decide +kernel
theorem dX7_comesJoining_1 : decode cX7_comesJoining 1 = .ok (.getfield 58, 3) := by decide +kernel
theorem dX7_comesJoining_4 : decode cX7_comesJoining 4 = .ok (.iload_n 1, 1) := by decide +kernel
theorem dX7_comesJoining_5 : decode cX7_comesJoining 5 = .ok (.iaload, 1) := by decide +kernel
theorem dX7_comesJoining_6 : decode cX7_comesJoining 6 = .ok (.iconst 2, 1) := by decide +kernel
theorem dX7_comesJoining_7 : decode cX7_comesJoining 7 = .ok (.if_icmp .ne 25, 3) := by decide +kernel
theorem dX7_comesJoining_10 : decode cX7_comesJoining 10 = .ok (.aload_n 0, 1) := by decide +kernel
theorem dX7_comesJoining_11 : decode cX7_comesJoining 11 = .ok (.aload_n 0, 1) := by decide +kernel
theorem dX7_comesJoining_12 : decode cX7_comesJoining 12 = .ok (.iload_n 1, 1) := by decide +kernel
theorem dX7_comesJoining_13 : decode cX7_comesJoining 13 = .ok (.iconst 0, 1) := by decide +kernel
theorem dX7_comesJoining_14 : decode cX7_comesJoining 14 = .ok (.invokevirtual 241, 3) := by decide +kernel
theorem dX7_comesJoining_17 : decode cX7_comesJoining 17 = .ok (.invokevirtual 89, 3) := by decide +kernel
theorem dX7_comesJoining_20 : decode cX7_comesJoining 20 = .ok (.ifCond .eq 12, 3) := by decide +kernel
theorem dX7_comesJoining_23 : decode cX7_comesJoining 23 = .ok (.aload_n 0, 1) := by decide +kernel
theorem dX7_comesJoining_24 : decode cX7_comesJoining 24 = .ok (.iload_n 1, 1) := by decide +kernel
theorem dX7_comesJoining_25 : decode cX7_comesJoining 25 = .ok (.iconst 1, 1) := by decide +kernel
theorem dX7_comesJoining_26 : decode cX7_comesJoining 26 = .ok (.invokevirtual 197, 3) := by decide +kernel
theorem dX7_comesJoining_29 : decode cX7_comesJoining 29 = .ok (.ifCond .ne 5, 3) := by decide +kernel
theorem dX7_comesJoining_32 : decode cX7_comesJoining 32 = .ok (.iconst 0, 1) := by decide +kernel
theorem dX7_comesJoining_33 : decode cX7_comesJoining 33 = .ok (.ireturn, 1) := by decide +kernel
theorem dX7_comesJoining_34 : decode cX7_comesJoining 34 = .ok (.aload_n 0, 1) := by decide +kernel
theorem dX7_comesJoining_35 : decode cX7_comesJoining 35 = .ok (.getfield 37, 3) := by decide +kernel
theorem dX7_comesJoining_38 : decode cX7_comesJoining 38 = .ok (.aload_n 0, 1) := by decide +kernel
theorem dX7_comesJoining_39 : decode cX7_comesJoining 39 = .ok (.iload_n 1, 1) := by decide +kernel
theorem dX7_comesJoining_40 : decode cX7_comesJoining 40 = .ok (.iconst 0, 1) := by decide +kernel
theorem dX7_comesJoining_41 : decode cX7_comesJoining 41 = .ok (.invokevirtual 241, 3) := by decide +kernel
theorem dX7_comesJoining_44 : decode cX7_comesJoining 44 = .ok (.aload_n 0, 1) := by decide +kernel
theorem dX7_comesJoining_45 : decode cX7_comesJoining 45 = .ok (.iload_n 1, 1) := by decide +kernel
theorem dX7_comesJoining_46 : decode cX7_comesJoining 46 = .ok (.iconst 1, 1) := by decide +kernel
theorem dX7_comesJoining_47 : decode cX7_comesJoining 47 = .ok (.invokevirtual 241, 3) := by decide +kernel
theorem dX7_comesJoining_50 : decode cX7_comesJoining 50 = .ok (.iastore, 1) := by decide +kernel
theorem dX7_comesJoining_51 : decode cX7_comesJoining 51 = .ok (.iconst 1, 1) := by decide +kernel
theorem dX7_comesJoining_52 : decode cX7_comesJoining 52 = .ok (.ireturn, 1) := by decide +kernel
theorem dX7_comesNights_0 : decode cX7_comesNights 0 = .ok (.aload_n 0, 1) := by decide +kernel
theorem dX7_comesNights_1 : decode cX7_comesNights 1 = .ok (.iload_n 1, 1) := by decide +kernel
theorem dX7_comesNights_2 : decode cX7_comesNights 2 = .ok (.iconst 0, 1) := by decide +kernel
theorem dX7_comesNights_3 : decode cX7_comesNights 3 = .ok (.invokevirtual 241, 3) := by decide +kernel
theorem dX7_comesNights_6 : decode cX7_comesNights 6 = .ok (.istore_n 2, 1) := by decide +kernel
theorem dX7_comesNights_7 : decode cX7_comesNights 7 = .ok (.aload_n 0, 1) := by decide +kernel
theorem dX7_comesNights_8 : decode cX7_comesNights 8 = .ok (.getfield 58, 3) := by decide +kernel
theorem dX7_comesNights_11 : decode cX7_comesNights 11 = .ok (.iload_n 1, 1) := by decide +kernel
theorem dX7_comesNights_12 : decode cX7_comesNights 12 = .ok (.iaload, 1) := by decide +kernel
theorem dX7_comesNights_13 : decode cX7_comesNights 13 = .ok (.iconst 1, 1) := by decide +kernel
theorem dX7_comesNights_14 : decode cX7_comesNights 14 = .ok (.if_icmp .ne 25, 3) := by decide +kernel
theorem dX7_comesNights_17 : decode cX7_comesNights 17 = .ok (.iload_n 2, 1) := by decide +kernel
theorem dX7_comesNights_18 : decode cX7_comesNights 18 = .ok (.iconst 1, 1) := by decide +kernel
theorem dX7_comesNights_19 : decode cX7_comesNights 19 = .ok (.bipush 60, 2) := by decide +kernel
theorem dX7_comesNights_21 : decode cX7_comesNights 21 = .ok (.invokestatic 85, 3) := by decide +kernel
theorem dX7_comesNights_24 : decode cX7_comesNights 24 = .ok (.ifCond .eq 15, 3) := by decide +kernel
theorem dX7_comesNights_27 : decode cX7_comesNights 27 = .ok (.aload_n 0, 1) := by decide +kernel
theorem dX7_comesNights_28 : decode cX7_comesNights 28 = .ok (.getfield 136, 3) := by decide +kernel
theorem dX7_comesNights_31 : decode cX7_comesNights 31 = .ok (.iload_n 2, 1) := by decide +kernel
theorem dX7_comesNights_32 : decode cX7_comesNights 32 = .ok (.iadd, 1) := by decide +kernel
theorem dX7_comesNights_33 : decode cX7_comesNights 33 = .ok (.sipush 999, 3) := by decide +kernel
theorem dX7_comesNights_36 : decode cX7_comesNights 36 = .ok (.if_icmp .le 5, 3) := by decide +kernel
theorem dX7_comesNights_39 : decode cX7_comesNights 39 = .ok (.iconst 0, 1) := by decide +kernel
theorem dX7_comesNights_40 : decode cX7_comesNights 40 = .ok (.ireturn, 1) := by decide +kernel
theorem dX7_comesNights_41 : decode cX7_comesNights 41 = .ok (.aload_n 0, 1) := by decide +kernel
theorem dX7_comesNights_42 : decode cX7_comesNights 42 = .ok (.iload_n 2, 1) := by decide +kernel
theorem dX7_comesNights_43 : decode cX7_comesNights 43 = .ok (.invokevirtual 261, 3) := by decide +kernel
theorem dX7_comesNights_46 : decode cX7_comesNights 46 = .ok (.iconst 1, 1) := by decide +kernel
theorem dX7_comesNights_47 : decode cX7_comesNights 47 = .ok (.ireturn, 1) := by decide +kernel
theorem dX7_comesSaid_0 : decode cX7_comesSaid 0 = .ok (.aload_n 0, 1) := by decide +kernel
theorem dX7_comesSaid_1 : decode cX7_comesSaid 1 = .ok (.aload_n 0, 1) := by decide +kernel
theorem dX7_comesSaid_2 : decode cX7_comesSaid 2 = .ok (.getfield 52, 3) := by decide +kernel
theorem dX7_comesSaid_5 : decode cX7_comesSaid 5 = .ok (.iload_n 1, 1) := by decide +kernel
theorem dX7_comesSaid_6 : decode cX7_comesSaid 6 = .ok (.iaload, 1) := by decide +kernel
theorem dX7_comesSaid_7 : decode cX7_comesSaid 7 = .ok (.aload_n 0, 1) := by decide +kernel
theorem dX7_comesSaid_8 : decode cX7_comesSaid 8 = .ok (.getfield 55, 3) := by decide +kernel
theorem dX7_comesSaid_11 : decode cX7_comesSaid 11 = .ok (.iload_n 1, 1) := by decide +kernel
theorem dX7_comesSaid_12 : decode cX7_comesSaid 12 = .ok (.iaload, 1) := by decide +kernel
theorem dX7_comesSaid_13 : decode cX7_comesSaid 13 = .ok (.invokevirtual 203, 3) := by decide +kernel
theorem dX7_comesSaid_16 : decode cX7_comesSaid 16 = .ok (.lstore_n 2, 1) := by decide +kernel
theorem dX7_comesSaid_17 : decode cX7_comesSaid 17 = .ok (.lload_n 2, 1) := by decide +kernel
theorem dX7_comesSaid_18 : decode cX7_comesSaid 18 = .ok (.invokestatic 264, 3) := by decide +kernel
theorem dX7_comesSaid_21 : decode cX7_comesSaid 21 = .ok (.ifCond .lt 13, 3) := by decide +kernel
theorem dX7_comesSaid_24 : decode cX7_comesSaid 24 = .ok (.aload_n 0, 1) := by decide +kernel
theorem dX7_comesSaid_25 : decode cX7_comesSaid 25 = .ok (.iload_n 1, 1) := by decide +kernel
theorem dX7_comesSaid_26 : decode cX7_comesSaid 26 = .ok (.lload_n 2, 1) := by decide +kernel
theorem dX7_comesSaid_27 : decode cX7_comesSaid 27 = .ok (.invokestatic 264, 3) := by decide +kernel
theorem dX7_comesSaid_30 : decode cX7_comesSaid 30 = .ok (.invokevirtual 267, 3) := by decide +kernel
theorem dX7_comesSaid_33 : decode cX7_comesSaid 33 = .ok (.ireturn, 1) := by decide +kernel
theorem dX7_comesSaid_34 : decode cX7_comesSaid 34 = .ok (.lload_n 2, 1) := by decide +kernel
theorem dX7_comesSaid_35 : decode cX7_comesSaid 35 = .ok (.ldc2_w 270, 3) := by decide +kernel
theorem dX7_comesSaid_38 : decode cX7_comesSaid 38 = .ok (.lcmp, 1) := by decide +kernel
theorem dX7_comesSaid_39 : decode cX7_comesSaid 39 = .ok (.ifCond .ne 9, 3) := by decide +kernel
theorem dX7_comesSaid_42 : decode cX7_comesSaid 42 = .ok (.aload_n 0, 1) := by decide +kernel
theorem dX7_comesSaid_43 : decode cX7_comesSaid 43 = .ok (.iload_n 1, 1) := by decide +kernel
theorem dX7_comesSaid_44 : decode cX7_comesSaid 44 = .ok (.invokevirtual 272, 3) := by decide +kernel
theorem dX7_comesSaid_47 : decode cX7_comesSaid 47 = .ok (.ireturn, 1) := by decide +kernel
theorem dX7_comesSaid_48 : decode cX7_comesSaid 48 = .ok (.lload_n 2, 1) := by decide +kernel
theorem dX7_comesSaid_49 : decode cX7_comesSaid 49 = .ok (.ldc2_w 275, 3) := by decide +kernel
theorem dX7_comesSaid_52 : decode cX7_comesSaid 52 = .ok (.lcmp, 1) := by decide +kernel
theorem dX7_comesSaid_53 : decode cX7_comesSaid 53 = .ok (.ifCond .ne 9, 3) := by decide +kernel
theorem dX7_comesSaid_56 : decode cX7_comesSaid 56 = .ok (.aload_n 0, 1) := by decide +kernel
theorem dX7_comesSaid_57 : decode cX7_comesSaid 57 = .ok (.iload_n 1, 1) := by decide +kernel
theorem dX7_comesSaid_58 : decode cX7_comesSaid 58 = .ok (.invokevirtual 277, 3) := by decide +kernel
theorem dX7_comesSaid_61 : decode cX7_comesSaid 61 = .ok (.ireturn, 1) := by decide +kernel
theorem dX7_comesSaid_62 : decode cX7_comesSaid 62 = .ok (.lload_n 2, 1) := by decide +kernel
theorem dX7_comesSaid_63 : decode cX7_comesSaid 63 = .ok (.ldc2_w 280, 3) := by decide +kernel
theorem dX7_comesSaid_66 : decode cX7_comesSaid 66 = .ok (.lcmp, 1) := by decide +kernel
theorem dX7_comesSaid_67 : decode cX7_comesSaid 67 = .ok (.ifCond .ne 9, 3) := by decide +kernel
theorem dX7_comesSaid_70 : decode cX7_comesSaid 70 = .ok (.aload_n 0, 1) := by decide +kernel
theorem dX7_comesSaid_71 : decode cX7_comesSaid 71 = .ok (.iload_n 1, 1) := by decide +kernel
theorem dX7_comesSaid_72 : decode cX7_comesSaid 72 = .ok (.invokevirtual 282, 3) := by decide +kernel
theorem dX7_comesSaid_75 : decode cX7_comesSaid 75 = .ok (.ireturn, 1) := by decide +kernel
theorem dX7_comesSaid_76 : decode cX7_comesSaid 76 = .ok (.lload_n 2, 1) := by decide +kernel
theorem dX7_comesSaid_77 : decode cX7_comesSaid 77 = .ok (.ldc2_w 285, 3) := by decide +kernel
theorem dX7_comesSaid_80 : decode cX7_comesSaid 80 = .ok (.lcmp, 1) := by decide +kernel
theorem dX7_comesSaid_81 : decode cX7_comesSaid 81 = .ok (.ifCond .ne 9, 3) := by decide +kernel
theorem dX7_comesSaid_84 : decode cX7_comesSaid 84 = .ok (.aload_n 0, 1) := by decide +kernel
theorem dX7_comesSaid_85 : decode cX7_comesSaid 85 = .ok (.iload_n 1, 1) := by decide +kernel
theorem dX7_comesSaid_86 : decode cX7_comesSaid 86 = .ok (.invokevirtual 287, 3) := by decide +kernel
theorem dX7_comesSaid_89 : decode cX7_comesSaid 89 = .ok (.ireturn, 1) := by decide +kernel
theorem dX7_comesSaid_90 : decode cX7_comesSaid 90 = .ok (.lload_n 2, 1) := by decide +kernel
theorem dX7_comesSaid_91 : decode cX7_comesSaid 91 = .ok (.ldc2_w 290, 3) := by decide +kernel
theorem dX7_comesSaid_94 : decode cX7_comesSaid 94 = .ok (.lcmp, 1) := by decide +kernel
theorem dX7_comesSaid_95 : decode cX7_comesSaid 95 = .ok (.ifCond .ne 9, 3) := by decide +kernel
theorem dX7_comesSaid_98 : decode cX7_comesSaid 98 = .ok (.aload_n 0, 1) := by decide +kernel
theorem dX7_comesSaid_99 : decode cX7_comesSaid 99 = .ok (.iload_n 1, 1) := by decide +kernel
theorem dX7_comesSaid_100 : decode cX7_comesSaid 100 = .ok (.invokevirtual 292, 3) := by decide +kernel
theorem dX7_comesSaid_103 : decode cX7_comesSaid 103 = .ok (.ireturn, 1) := by decide +kernel
theorem dX7_comesSaid_104 : decode cX7_comesSaid 104 = .ok (.lload_n 2, 1) := by decide +kernel
theorem dX7_comesSaid_105 : decode cX7_comesSaid 105 = .ok (.ldc2_w 295, 3) := by decide +kernel
theorem dX7_comesSaid_108 : decode cX7_comesSaid 108 = .ok (.lcmp, 1) := by decide +kernel
theorem dX7_comesSaid_109 : decode cX7_comesSaid 109 = .ok (.ifCond .ne 15, 3) := by decide +kernel
theorem dX7_comesSaid_112 : decode cX7_comesSaid 112 = .ok (.aload_n 0, 1) := by decide +kernel
theorem dX7_comesSaid_113 : decode cX7_comesSaid 113 = .ok (.iload_n 1, 1) := by decide +kernel
theorem dX7_comesSaid_114 : decode cX7_comesSaid 114 = .ok (.invokevirtual 297, 3) := by decide +kernel
theorem dX7_comesSaid_117 : decode cX7_comesSaid 117 = .ok (.ifCond .eq 7, 3) := by decide +kernel
theorem dX7_comesSaid_120 : decode cX7_comesSaid 120 = .ok (.iconst 1, 1) := by decide +kernel
theorem dX7_comesSaid_121 : decode cX7_comesSaid 121 = .ok (.goto 4, 3) := by decide +kernel
theorem dX7_comesSaid_124 : decode cX7_comesSaid 124 = .ok (.iconst 0, 1) := by decide +kernel
theorem dX7_comesSaid_125 : decode cX7_comesSaid 125 = .ok (.ireturn, 1) := by decide +kernel
theorem dX7_passes_0 : decode cX7_passes 0 = .ok (.iconst 0, 1) := by decide +kernel
theorem dX7_passes_1 : decode cX7_passes 1 = .ok (.istore_n 2, 1) := by decide +kernel
theorem dX7_passes_2 : decode cX7_passes 2 = .ok (.iload_n 2, 1) := by decide +kernel
theorem dX7_passes_3 : decode cX7_passes 3 = .ok (.aload_n 1, 1) := by decide +kernel
theorem dX7_passes_4 : decode cX7_passes 4 = .ok (.arraylength, 1) := by decide +kernel
theorem dX7_passes_5 : decode cX7_passes 5 = .ok (.if_icmp .ge 53, 3) := by decide +kernel
theorem dX7_passes_8 : decode cX7_passes 8 = .ok (.aload_n 0, 1) := by decide +kernel
theorem dX7_passes_9 : decode cX7_passes 9 = .ok (.getfield 313, 3) := by decide +kernel
theorem dX7_passes_12 : decode cX7_passes 12 = .ok (.ifCond .eq 18, 3) := by decide +kernel
theorem dX7_passes_15 : decode cX7_passes 15 = .ok (.aload_n 0, 1) := by decide +kernel
theorem dX7_passes_16 : decode cX7_passes 16 = .ok (.getfield 67, 3) := by decide +kernel
theorem dX7_passes_19 : decode cX7_passes 19 = .ok (.aload_n 0, 1) := by decide +kernel
theorem dX7_passes_20 : decode cX7_passes 20 = .ok (.getfield 317, 3) := by decide +kernel
theorem dX7_passes_23 : decode cX7_passes 23 = .ok (.aload_n 1, 1) := by decide +kernel
theorem dX7_passes_24 : decode cX7_passes 24 = .ok (.iload_n 2, 1) := by decide +kernel
theorem dX7_passes_25 : decode cX7_passes 25 = .ok (.iaload, 1) := by decide +kernel
theorem dX7_passes_26 : decode cX7_passes 26 = .ok (.iastore, 1) := by decide +kernel
theorem dX7_passes_27 : decode cX7_passes 27 = .ok (.goto 15, 3) := by decide +kernel
theorem dX7_passes_30 : decode cX7_passes 30 = .ok (.aload_n 1, 1) := by decide +kernel
theorem dX7_passes_31 : decode cX7_passes 31 = .ok (.iload_n 2, 1) := by decide +kernel
theorem dX7_passes_32 : decode cX7_passes 32 = .ok (.aload_n 0, 1) := by decide +kernel
theorem dX7_passes_33 : decode cX7_passes 33 = .ok (.getfield 67, 3) := by decide +kernel
theorem dX7_passes_36 : decode cX7_passes 36 = .ok (.aload_n 0, 1) := by decide +kernel
theorem dX7_passes_37 : decode cX7_passes 37 = .ok (.getfield 317, 3) := by decide +kernel
theorem dX7_passes_40 : decode cX7_passes 40 = .ok (.iaload, 1) := by decide +kernel
theorem dX7_passes_41 : decode cX7_passes 41 = .ok (.iastore, 1) := by decide +kernel
theorem dX7_passes_42 : decode cX7_passes 42 = .ok (.aload_n 0, 1) := by decide +kernel
theorem dX7_passes_43 : decode cX7_passes 43 = .ok (.dup, 1) := by decide +kernel
theorem dX7_passes_44 : decode cX7_passes 44 = .ok (.getfield 317, 3) := by decide +kernel
theorem dX7_passes_47 : decode cX7_passes 47 = .ok (.iconst 1, 1) := by decide +kernel
theorem dX7_passes_48 : decode cX7_passes 48 = .ok (.iadd, 1) := by decide +kernel
theorem dX7_passes_49 : decode cX7_passes 49 = .ok (.putfield 317, 3) := by decide +kernel
theorem dX7_passes_52 : decode cX7_passes 52 = .ok (.iinc 2 1, 3) := by decide +kernel
theorem dX7_passes_55 : decode cX7_passes 55 = .ok (.goto (-53), 3) := by decide +kernel
theorem dX7_passes_58 : decode cX7_passes 58 = .ok (.return_, 1) := by decide +kernel
theorem dX7_passOne_0 : decode cX7_passOne 0 = .ok (.aload_n 0, 1) := by decide +kernel
theorem dX7_passOne_1 : decode cX7_passOne 1 = .ok (.getfield 313, 3) := by decide +kernel
theorem dX7_passOne_4 : decode cX7_passOne 4 = .ok (.ifCond .eq 7, 3) := by decide +kernel
theorem dX7_passOne_7 : decode cX7_passOne 7 = .ok (.iload_n 1, 1) := by decide +kernel
theorem dX7_passOne_8 : decode cX7_passOne 8 = .ok (.goto 12, 3) := by decide +kernel
theorem dX7_passOne_11 : decode cX7_passOne 11 = .ok (.aload_n 0, 1) := by decide +kernel
theorem dX7_passOne_12 : decode cX7_passOne 12 = .ok (.getfield 67, 3) := by decide +kernel
theorem dX7_passOne_15 : decode cX7_passOne 15 = .ok (.aload_n 0, 1) := by decide +kernel
theorem dX7_passOne_16 : decode cX7_passOne 16 = .ok (.getfield 317, 3) := by decide +kernel
theorem dX7_passOne_19 : decode cX7_passOne 19 = .ok (.iaload, 1) := by decide +kernel
theorem dX7_passOne_20 : decode cX7_passOne 20 = .ok (.istore_n 2, 1) := by decide +kernel
theorem dX7_passOne_21 : decode cX7_passOne 21 = .ok (.aload_n 0, 1) := by decide +kernel
theorem dX7_passOne_22 : decode cX7_passOne 22 = .ok (.getfield 313, 3) := by decide +kernel
theorem dX7_passOne_25 : decode cX7_passOne 25 = .ok (.ifCond .eq 13, 3) := by decide +kernel
theorem dX7_passOne_28 : decode cX7_passOne 28 = .ok (.aload_n 0, 1) := by decide +kernel
theorem dX7_passOne_29 : decode cX7_passOne 29 = .ok (.getfield 67, 3) := by decide +kernel
theorem dX7_passOne_32 : decode cX7_passOne 32 = .ok (.aload_n 0, 1) := by decide +kernel
theorem dX7_passOne_33 : decode cX7_passOne 33 = .ok (.getfield 317, 3) := by decide +kernel
theorem dX7_passOne_36 : decode cX7_passOne 36 = .ok (.iload_n 1, 1) := by decide +kernel
theorem dX7_passOne_37 : decode cX7_passOne 37 = .ok (.iastore, 1) := by decide +kernel
theorem dX7_passOne_38 : decode cX7_passOne 38 = .ok (.aload_n 0, 1) := by decide +kernel
theorem dX7_passOne_39 : decode cX7_passOne 39 = .ok (.dup, 1) := by decide +kernel
theorem dX7_passOne_40 : decode cX7_passOne 40 = .ok (.getfield 317, 3) := by decide +kernel
theorem dX7_passOne_43 : decode cX7_passOne 43 = .ok (.iconst 1, 1) := by decide +kernel
theorem dX7_passOne_44 : decode cX7_passOne 44 = .ok (.iadd, 1) := by decide +kernel
theorem dX7_passOne_45 : decode cX7_passOne 45 = .ok (.putfield 317, 3) := by decide +kernel
theorem dX7_passOne_48 : decode cX7_passOne 48 = .ok (.iload_n 2, 1) := by decide +kernel
theorem dX7_passOne_49 : decode cX7_passOne 49 = .ok (.ireturn, 1) := by decide +kernel
theorem dX7_passesAll_0 : decode cX7_passesAll 0 = .ok (.aload_n 0, 1) := by decide +kernel
theorem dX7_passesAll_1 : decode cX7_passesAll 1 = .ok (.sipush 218, 3) := by decide +kernel
theorem dX7_passesAll_4 : decode cX7_passesAll 4 = .ok (.iload_n 1, 1) := by decide +kernel
theorem dX7_passesAll_5 : decode cX7_passesAll 5 = .ok (.imul, 1) := by decide +kernel
theorem dX7_passesAll_6 : decode cX7_passesAll 6 = .ok (.putfield 317, 3) := by decide +kernel
theorem dX7_passesAll_9 : decode cX7_passesAll 9 = .ok (.aload_n 0, 1) := by decide +kernel
theorem dX7_passesAll_10 : decode cX7_passesAll 10 = .ok (.iload_n 2, 1) := by decide +kernel
theorem dX7_passesAll_11 : decode cX7_passesAll 11 = .ok (.putfield 313, 3) := by decide +kernel
theorem dX7_passesAll_14 : decode cX7_passesAll 14 = .ok (.aload_n 0, 1) := by decide +kernel
theorem dX7_passesAll_15 : decode cX7_passesAll 15 = .ok (.aload_n 0, 1) := by decide +kernel
theorem dX7_passesAll_16 : decode cX7_passesAll 16 = .ok (.getfield 13, 3) := by decide +kernel
theorem dX7_passesAll_19 : decode cX7_passesAll 19 = .ok (.invokevirtual 320, 3) := by decide +kernel
theorem dX7_passesAll_22 : decode cX7_passesAll 22 = .ok (.aload_n 0, 1) := by decide +kernel
theorem dX7_passesAll_23 : decode cX7_passesAll 23 = .ok (.aload_n 0, 1) := by decide +kernel
theorem dX7_passesAll_24 : decode cX7_passesAll 24 = .ok (.getfield 16, 3) := by decide +kernel
theorem dX7_passesAll_27 : decode cX7_passesAll 27 = .ok (.invokevirtual 320, 3) := by decide +kernel
theorem dX7_passesAll_30 : decode cX7_passesAll 30 = .ok (.aload_n 0, 1) := by decide +kernel
theorem dX7_passesAll_31 : decode cX7_passesAll 31 = .ok (.aload_n 0, 1) := by decide +kernel
theorem dX7_passesAll_32 : decode cX7_passesAll 32 = .ok (.getfield 19, 3) := by decide +kernel
theorem dX7_passesAll_35 : decode cX7_passesAll 35 = .ok (.invokevirtual 320, 3) := by decide +kernel
theorem dX7_passesAll_38 : decode cX7_passesAll 38 = .ok (.aload_n 0, 1) := by decide +kernel
theorem dX7_passesAll_39 : decode cX7_passesAll 39 = .ok (.aload_n 0, 1) := by decide +kernel
theorem dX7_passesAll_40 : decode cX7_passesAll 40 = .ok (.getfield 22, 3) := by decide +kernel
theorem dX7_passesAll_43 : decode cX7_passesAll 43 = .ok (.invokevirtual 320, 3) := by decide +kernel
theorem dX7_passesAll_46 : decode cX7_passesAll 46 = .ok (.aload_n 0, 1) := by decide +kernel
theorem dX7_passesAll_47 : decode cX7_passesAll 47 = .ok (.aload_n 0, 1) := by decide +kernel
theorem dX7_passesAll_48 : decode cX7_passesAll 48 = .ok (.getfield 25, 3) := by decide +kernel
theorem dX7_passesAll_51 : decode cX7_passesAll 51 = .ok (.invokevirtual 320, 3) := by decide +kernel
theorem dX7_passesAll_54 : decode cX7_passesAll 54 = .ok (.aload_n 0, 1) := by decide +kernel
theorem dX7_passesAll_55 : decode cX7_passesAll 55 = .ok (.aload_n 0, 1) := by decide +kernel
theorem dX7_passesAll_56 : decode cX7_passesAll 56 = .ok (.getfield 28, 3) := by decide +kernel
theorem dX7_passesAll_59 : decode cX7_passesAll 59 = .ok (.invokevirtual 320, 3) := by decide +kernel
theorem dX7_passesAll_62 : decode cX7_passesAll 62 = .ok (.aload_n 0, 1) := by decide +kernel
theorem dX7_passesAll_63 : decode cX7_passesAll 63 = .ok (.aload_n 0, 1) := by decide +kernel
theorem dX7_passesAll_64 : decode cX7_passesAll 64 = .ok (.getfield 31, 3) := by decide +kernel
theorem dX7_passesAll_67 : decode cX7_passesAll 67 = .ok (.invokevirtual 320, 3) := by decide +kernel
theorem dX7_passesAll_70 : decode cX7_passesAll 70 = .ok (.aload_n 0, 1) := by decide +kernel
theorem dX7_passesAll_71 : decode cX7_passesAll 71 = .ok (.aload_n 0, 1) := by decide +kernel
theorem dX7_passesAll_72 : decode cX7_passesAll 72 = .ok (.getfield 34, 3) := by decide +kernel
theorem dX7_passesAll_75 : decode cX7_passesAll 75 = .ok (.invokevirtual 320, 3) := by decide +kernel
theorem dX7_passesAll_78 : decode cX7_passesAll 78 = .ok (.aload_n 0, 1) := by decide +kernel
theorem dX7_passesAll_79 : decode cX7_passesAll 79 = .ok (.aload_n 0, 1) := by decide +kernel
theorem dX7_passesAll_80 : decode cX7_passesAll 80 = .ok (.getfield 37, 3) := by decide +kernel
theorem dX7_passesAll_83 : decode cX7_passesAll 83 = .ok (.invokevirtual 320, 3) := by decide +kernel
theorem dX7_passesAll_86 : decode cX7_passesAll 86 = .ok (.aload_n 0, 1) := by decide +kernel
theorem dX7_passesAll_87 : decode cX7_passesAll 87 = .ok (.aload_n 0, 1) := by decide +kernel
theorem dX7_passesAll_88 : decode cX7_passesAll 88 = .ok (.getfield 40, 3) := by decide +kernel
theorem dX7_passesAll_91 : decode cX7_passesAll 91 = .ok (.invokevirtual 320, 3) := by decide +kernel
theorem dX7_passesAll_94 : decode cX7_passesAll 94 = .ok (.aload_n 0, 1) := by decide +kernel
theorem dX7_passesAll_95 : decode cX7_passesAll 95 = .ok (.aload_n 0, 1) := by decide +kernel
theorem dX7_passesAll_96 : decode cX7_passesAll 96 = .ok (.getfield 43, 3) := by decide +kernel
theorem dX7_passesAll_99 : decode cX7_passesAll 99 = .ok (.invokevirtual 320, 3) := by decide +kernel
theorem dX7_passesAll_102 : decode cX7_passesAll 102 = .ok (.aload_n 0, 1) := by decide +kernel
theorem dX7_passesAll_103 : decode cX7_passesAll 103 = .ok (.aload_n 0, 1) := by decide +kernel
theorem dX7_passesAll_104 : decode cX7_passesAll 104 = .ok (.getfield 46, 3) := by decide +kernel
theorem dX7_passesAll_107 : decode cX7_passesAll 107 = .ok (.invokevirtual 320, 3) := by decide +kernel
theorem dX7_passesAll_110 : decode cX7_passesAll 110 = .ok (.aload_n 0, 1) := by decide +kernel
theorem dX7_passesAll_111 : decode cX7_passesAll 111 = .ok (.aload_n 0, 1) := by decide +kernel
theorem dX7_passesAll_112 : decode cX7_passesAll 112 = .ok (.aload_n 0, 1) := by decide +kernel
theorem dX7_passesAll_113 : decode cX7_passesAll 113 = .ok (.getfield 79, 3) := by decide +kernel
theorem dX7_passesAll_116 : decode cX7_passesAll 116 = .ok (.invokevirtual 324, 3) := by decide +kernel
theorem dX7_passesAll_119 : decode cX7_passesAll 119 = .ok (.putfield 79, 3) := by decide +kernel
theorem dX7_passesAll_122 : decode cX7_passesAll 122 = .ok (.aload_n 0, 1) := by decide +kernel
theorem dX7_passesAll_123 : decode cX7_passesAll 123 = .ok (.aload_n 0, 1) := by decide +kernel
theorem dX7_passesAll_124 : decode cX7_passesAll 124 = .ok (.aload_n 0, 1) := by decide +kernel
theorem dX7_passesAll_125 : decode cX7_passesAll 125 = .ok (.getfield 136, 3) := by decide +kernel
theorem dX7_passesAll_128 : decode cX7_passesAll 128 = .ok (.invokevirtual 324, 3) := by decide +kernel
theorem dX7_passesAll_131 : decode cX7_passesAll 131 = .ok (.putfield 136, 3) := by decide +kernel
theorem dX7_passesAll_134 : decode cX7_passesAll 134 = .ok (.aload_n 0, 1) := by decide +kernel
theorem dX7_passesAll_135 : decode cX7_passesAll 135 = .ok (.aload_n 0, 1) := by decide +kernel
theorem dX7_passesAll_136 : decode cX7_passesAll 136 = .ok (.aload_n 0, 1) := by decide +kernel
theorem dX7_passesAll_137 : decode cX7_passesAll 137 = .ok (.getfield 127, 3) := by decide +kernel
theorem dX7_passesAll_140 : decode cX7_passesAll 140 = .ok (.invokevirtual 324, 3) := by decide +kernel
theorem dX7_passesAll_143 : decode cX7_passesAll 143 = .ok (.putfield 127, 3) := by decide +kernel
theorem dX7_passesAll_146 : decode cX7_passesAll 146 = .ok (.return_, 1) := by decide +kernel
theorem dX7_land_0 : decode cX7_land 0 = .ok (.aload_n 0, 1) := by decide +kernel
theorem dX7_land_1 : decode cX7_land 1 = .ok (.iconst 0, 1) := by decide +kernel
theorem dX7_land_2 : decode cX7_land 2 = .ok (.putfield 173, 3) := by decide +kernel
theorem dX7_land_5 : decode cX7_land 5 = .ok (.aload_n 0, 1) := by decide +kernel
theorem dX7_land_6 : decode cX7_land 6 = .ok (.iconst 0, 1) := by decide +kernel
theorem dX7_land_7 : decode cX7_land 7 = .ok (.putfield 180, 3) := by decide +kernel
theorem dX7_land_10 : decode cX7_land 10 = .ok (.iconst 1, 1) := by decide +kernel
theorem dX7_land_11 : decode cX7_land 11 = .ok (.istore_n 1, 1) := by decide +kernel
theorem dX7_land_12 : decode cX7_land 12 = .ok (.iload_n 1, 1) := by decide +kernel
theorem dX7_land_13 : decode cX7_land 13 = .ok (.ifCond .eq 47, 3) := by decide +kernel
theorem dX7_land_16 : decode cX7_land 16 = .ok (.aload_n 0, 1) := by decide +kernel
theorem dX7_land_17 : decode cX7_land 17 = .ok (.getfield 173, 3) := by decide +kernel
theorem dX7_land_20 : decode cX7_land 20 = .ok (.aload_n 0, 1) := by decide +kernel
theorem dX7_land_21 : decode cX7_land 21 = .ok (.getfield 167, 3) := by decide +kernel
theorem dX7_land_24 : decode cX7_land 24 = .ok (.if_icmp .lt 10, 3) := by decide +kernel
theorem dX7_land_27 : decode cX7_land 27 = .ok (.aload_n 0, 1) := by decide +kernel
theorem dX7_land_28 : decode cX7_land 28 = .ok (.getfield 180, 3) := by decide +kernel
theorem dX7_land_31 : decode cX7_land 31 = .ok (.ifCond .ne 29, 3) := by decide +kernel
theorem dX7_land_34 : decode cX7_land 34 = .ok (.aload_n 0, 1) := by decide +kernel
theorem dX7_land_35 : decode cX7_land 35 = .ok (.invokevirtual 300, 3) := by decide +kernel
theorem dX7_land_38 : decode cX7_land 38 = .ok (.istore_n 1, 1) := by decide +kernel
theorem dX7_land_39 : decode cX7_land 39 = .ok (.aload_n 0, 1) := by decide +kernel
theorem dX7_land_40 : decode cX7_land 40 = .ok (.dup, 1) := by decide +kernel
theorem dX7_land_41 : decode cX7_land 41 = .ok (.getfield 180, 3) := by decide +kernel
theorem dX7_land_44 : decode cX7_land 44 = .ok (.iload_n 1, 1) := by decide +kernel
theorem dX7_land_45 : decode cX7_land 45 = .ok (.ifCond .eq 7, 3) := by decide +kernel
theorem dX7_land_48 : decode cX7_land 48 = .ok (.iconst 1, 1) := by decide +kernel
theorem dX7_land_49 : decode cX7_land 49 = .ok (.goto 4, 3) := by decide +kernel
theorem dX7_land_52 : decode cX7_land 52 = .ok (.iconst 0, 1) := by decide +kernel
theorem dX7_land_53 : decode cX7_land 53 = .ok (.iadd, 1) := by decide +kernel
theorem dX7_land_54 : decode cX7_land 54 = .ok (.putfield 180, 3) := by decide +kernel
theorem dX7_land_57 : decode cX7_land 57 = .ok (.goto (-45), 3) := by decide +kernel
theorem dX7_land_60 : decode cX7_land 60 = .ok (.aload_n 0, 1) := by decide +kernel
theorem dX7_land_61 : decode cX7_land 61 = .ok (.iconst 0, 1) := by decide +kernel
theorem dX7_land_62 : decode cX7_land 62 = .ok (.putfield 167, 3) := by decide +kernel
theorem dX7_land_65 : decode cX7_land 65 = .ok (.iload_n 1, 1) := by decide +kernel
theorem dX7_land_66 : decode cX7_land 66 = .ok (.ifCond .ne 12, 3) := by decide +kernel
theorem dX7_land_69 : decode cX7_land 69 = .ok (.sipush (-1000), 3) := by decide +kernel
theorem dX7_land_72 : decode cX7_land 72 = .ok (.aload_n 0, 1) := by decide +kernel
theorem dX7_land_73 : decode cX7_land 73 = .ok (.getfield 173, 3) := by decide +kernel
theorem dX7_land_76 : decode cX7_land 76 = .ok (.isub, 1) := by decide +kernel
theorem dX7_land_77 : decode cX7_land 77 = .ok (.ireturn, 1) := by decide +kernel
theorem dX7_land_78 : decode cX7_land 78 = .ok (.aload_n 0, 1) := by decide +kernel
theorem dX7_land_79 : decode cX7_land 79 = .ok (.iconst 1, 1) := by decide +kernel
theorem dX7_land_80 : decode cX7_land 80 = .ok (.iconst 1, 1) := by decide +kernel
theorem dX7_land_81 : decode cX7_land 81 = .ok (.invokevirtual 303, 3) := by decide +kernel
theorem dX7_land_84 : decode cX7_land 84 = .ok (.iconst 0, 1) := by decide +kernel
theorem dX7_land_85 : decode cX7_land 85 = .ok (.istore_n 2, 1) := by decide +kernel
theorem dX7_land_86 : decode cX7_land 86 = .ok (.iload_n 2, 1) := by decide +kernel
theorem dX7_land_87 : decode cX7_land 87 = .ok (.aload_n 0, 1) := by decide +kernel
theorem dX7_land_88 : decode cX7_land 88 = .ok (.getfield 180, 3) := by decide +kernel
theorem dX7_land_91 : decode cX7_land 91 = .ok (.if_icmp .ge 37, 3) := by decide +kernel
theorem dX7_land_94 : decode cX7_land 94 = .ok (.aload_n 0, 1) := by decide +kernel
theorem dX7_land_95 : decode cX7_land 95 = .ok (.iload_n 2, 1) := by decide +kernel
theorem dX7_land_96 : decode cX7_land 96 = .ok (.invokevirtual 307, 3) := by decide +kernel
theorem dX7_land_99 : decode cX7_land 99 = .ok (.ifCond .eq 6, 3) := by decide +kernel
theorem dX7_land_102 : decode cX7_land 102 = .ok (.goto 20, 3) := by decide +kernel
theorem dX7_land_105 : decode cX7_land 105 = .ok (.aload_n 0, 1) := by decide +kernel
theorem dX7_land_106 : decode cX7_land 106 = .ok (.iconst 1, 1) := by decide +kernel
theorem dX7_land_107 : decode cX7_land 107 = .ok (.iconst 0, 1) := by decide +kernel
theorem dX7_land_108 : decode cX7_land 108 = .ok (.invokevirtual 303, 3) := by decide +kernel
theorem dX7_land_111 : decode cX7_land 111 = .ok (.sipush (-2000), 3) := by decide +kernel
theorem dX7_land_114 : decode cX7_land 114 = .ok (.aload_n 0, 1) := by decide +kernel
theorem dX7_land_115 : decode cX7_land 115 = .ok (.getfield 52, 3) := by decide +kernel
theorem dX7_land_118 : decode cX7_land 118 = .ok (.iload_n 2, 1) := by decide +kernel
theorem dX7_land_119 : decode cX7_land 119 = .ok (.iaload, 1) := by decide +kernel
theorem dX7_land_120 : decode cX7_land 120 = .ok (.isub, 1) := by decide +kernel
theorem dX7_land_121 : decode cX7_land 121 = .ok (.ireturn, 1) := by decide +kernel
theorem dX7_land_122 : decode cX7_land 122 = .ok (.iinc 2 1, 3) := by decide +kernel
theorem dX7_land_125 : decode cX7_land 125 = .ok (.goto (-39), 3) := by decide +kernel
theorem dX7_land_128 : decode cX7_land 128 = .ok (.aload_n 0, 1) := by decide +kernel
theorem dX7_land_129 : decode cX7_land 129 = .ok (.iconst 0, 1) := by decide +kernel
theorem dX7_land_130 : decode cX7_land 130 = .ok (.putfield 310, 3) := by decide +kernel
theorem dX7_land_133 : decode cX7_land 133 = .ok (.aload_n 0, 1) := by decide +kernel
theorem dX7_land_134 : decode cX7_land 134 = .ok (.getfield 180, 3) := by decide +kernel
theorem dX7_land_137 : decode cX7_land 137 = .ok (.ireturn, 1) := by decide +kernel
theorem dX7_minds_0 : decode cX7_minds 0 = .ok (.aload_n 0, 1) := by decide +kernel
theorem dX7_minds_1 : decode cX7_minds 1 = .ok (.iconst 2, 1) := by decide +kernel
theorem dX7_minds_2 : decode cX7_minds 2 = .ok (.iconst 1, 1) := by decide +kernel
theorem dX7_minds_3 : decode cX7_minds 3 = .ok (.invokevirtual 303, 3) := by decide +kernel
theorem dX7_minds_6 : decode cX7_minds 6 = .ok (.return_, 1) := by decide +kernel
theorem dX7_forgets_0 : decode cX7_forgets 0 = .ok (.aload_n 0, 1) := by decide +kernel
theorem dX7_forgets_1 : decode cX7_forgets 1 = .ok (.iconst 2, 1) := by decide +kernel
theorem dX7_forgets_2 : decode cX7_forgets 2 = .ok (.iconst 0, 1) := by decide +kernel
theorem dX7_forgets_3 : decode cX7_forgets 3 = .ok (.invokevirtual 303, 3) := by decide +kernel
theorem dX7_forgets_6 : decode cX7_forgets 6 = .ok (.return_, 1) := by decide +kernel
theorem dX7_remembers_0 : decode cX7_remembers 0 = .ok (.aload_n 0, 1) := by decide +kernel
theorem dX7_remembers_1 : decode cX7_remembers 1 = .ok (.getfield 310, 3) := by decide +kernel
theorem dX7_remembers_4 : decode cX7_remembers 4 = .ok (.bipush 8, 2) := by decide +kernel
theorem dX7_remembers_6 : decode cX7_remembers 6 = .ok (.if_icmp .ne 19, 3) := by decide +kernel
theorem dX7_remembers_9 : decode cX7_remembers 9 = .ok (.aload_n 0, 1) := by decide +kernel
theorem dX7_remembers_10 : decode cX7_remembers 10 = .ok (.aload_n 0, 1) := by decide +kernel
theorem dX7_remembers_11 : decode cX7_remembers 11 = .ok (.getfield 327, 3) := by decide +kernel
theorem dX7_remembers_14 : decode cX7_remembers 14 = .ok (.iconst 1, 1) := by decide +kernel
theorem dX7_remembers_15 : decode cX7_remembers 15 = .ok (.iadd, 1) := by decide +kernel
theorem dX7_remembers_16 : decode cX7_remembers 16 = .ok (.bipush 8, 2) := by decide +kernel
theorem dX7_remembers_18 : decode cX7_remembers 18 = .ok (.irem, 1) := by decide +kernel
theorem dX7_remembers_19 : decode cX7_remembers 19 = .ok (.putfield 327, 3) := by decide +kernel
theorem dX7_remembers_22 : decode cX7_remembers 22 = .ok (.goto 13, 3) := by decide +kernel
theorem dX7_remembers_25 : decode cX7_remembers 25 = .ok (.aload_n 0, 1) := by decide +kernel
theorem dX7_remembers_26 : decode cX7_remembers 26 = .ok (.dup, 1) := by decide +kernel
theorem dX7_remembers_27 : decode cX7_remembers 27 = .ok (.getfield 310, 3) := by decide +kernel
theorem dX7_remembers_30 : decode cX7_remembers 30 = .ok (.iconst 1, 1) := by decide +kernel
theorem dX7_remembers_31 : decode cX7_remembers 31 = .ok (.iadd, 1) := by decide +kernel
theorem dX7_remembers_32 : decode cX7_remembers 32 = .ok (.putfield 310, 3) := by decide +kernel
theorem dX7_remembers_35 : decode cX7_remembers 35 = .ok (.aload_n 0, 1) := by decide +kernel
theorem dX7_remembers_36 : decode cX7_remembers 36 = .ok (.iconst 3, 1) := by decide +kernel
theorem dX7_remembers_37 : decode cX7_remembers 37 = .ok (.aload_n 0, 1) := by decide +kernel
theorem dX7_remembers_38 : decode cX7_remembers 38 = .ok (.getfield 327, 3) := by decide +kernel
theorem dX7_remembers_41 : decode cX7_remembers 41 = .ok (.aload_n 0, 1) := by decide +kernel
theorem dX7_remembers_42 : decode cX7_remembers 42 = .ok (.getfield 310, 3) := by decide +kernel
theorem dX7_remembers_45 : decode cX7_remembers 45 = .ok (.iadd, 1) := by decide +kernel
theorem dX7_remembers_46 : decode cX7_remembers 46 = .ok (.iconst 1, 1) := by decide +kernel
theorem dX7_remembers_47 : decode cX7_remembers 47 = .ok (.isub, 1) := by decide +kernel
theorem dX7_remembers_48 : decode cX7_remembers 48 = .ok (.bipush 8, 2) := by decide +kernel
theorem dX7_remembers_50 : decode cX7_remembers 50 = .ok (.irem, 1) := by decide +kernel
theorem dX7_remembers_51 : decode cX7_remembers 51 = .ok (.iadd, 1) := by decide +kernel
theorem dX7_remembers_52 : decode cX7_remembers 52 = .ok (.iconst 1, 1) := by decide +kernel
theorem dX7_remembers_53 : decode cX7_remembers 53 = .ok (.invokevirtual 303, 3) := by decide +kernel
theorem dX7_remembers_56 : decode cX7_remembers 56 = .ok (.return_, 1) := by decide +kernel
theorem dX7_back_0 : decode cX7_back 0 = .ok (.aload_n 0, 1) := by decide +kernel
theorem dX7_back_1 : decode cX7_back 1 = .ok (.getfield 310, 3) := by decide +kernel
theorem dX7_back_4 : decode cX7_back 4 = .ok (.ifCond .ne 10, 3) := by decide +kernel
theorem dX7_back_7 : decode cX7_back 7 = .ok (.aload_n 0, 1) := by decide +kernel
theorem dX7_back_8 : decode cX7_back 8 = .ok (.bipush (-3), 2) := by decide +kernel
theorem dX7_back_10 : decode cX7_back 10 = .ok (.invokevirtual 170, 3) := by decide +kernel
theorem dX7_back_13 : decode cX7_back 13 = .ok (.ireturn, 1) := by decide +kernel
theorem dX7_back_14 : decode cX7_back 14 = .ok (.aload_n 0, 1) := by decide +kernel
theorem dX7_back_15 : decode cX7_back 15 = .ok (.iconst 3, 1) := by decide +kernel
theorem dX7_back_16 : decode cX7_back 16 = .ok (.aload_n 0, 1) := by decide +kernel
theorem dX7_back_17 : decode cX7_back 17 = .ok (.getfield 327, 3) := by decide +kernel
theorem dX7_back_20 : decode cX7_back 20 = .ok (.aload_n 0, 1) := by decide +kernel
theorem dX7_back_21 : decode cX7_back 21 = .ok (.getfield 310, 3) := by decide +kernel
theorem dX7_back_24 : decode cX7_back 24 = .ok (.iadd, 1) := by decide +kernel
theorem dX7_back_25 : decode cX7_back 25 = .ok (.iconst 1, 1) := by decide +kernel
theorem dX7_back_26 : decode cX7_back 26 = .ok (.isub, 1) := by decide +kernel
theorem dX7_back_27 : decode cX7_back 27 = .ok (.bipush 8, 2) := by decide +kernel
theorem dX7_back_29 : decode cX7_back 29 = .ok (.irem, 1) := by decide +kernel
theorem dX7_back_30 : decode cX7_back 30 = .ok (.iadd, 1) := by decide +kernel
theorem dX7_back_31 : decode cX7_back 31 = .ok (.iconst 0, 1) := by decide +kernel
theorem dX7_back_32 : decode cX7_back 32 = .ok (.invokevirtual 303, 3) := by decide +kernel
theorem dX7_back_35 : decode cX7_back 35 = .ok (.aload_n 0, 1) := by decide +kernel
theorem dX7_back_36 : decode cX7_back 36 = .ok (.dup, 1) := by decide +kernel
theorem dX7_back_37 : decode cX7_back 37 = .ok (.getfield 310, 3) := by decide +kernel
theorem dX7_back_40 : decode cX7_back 40 = .ok (.iconst 1, 1) := by decide +kernel
theorem dX7_back_41 : decode cX7_back 41 = .ok (.isub, 1) := by decide +kernel
theorem dX7_back_42 : decode cX7_back 42 = .ok (.putfield 310, 3) := by decide +kernel
theorem dX7_back_45 : decode cX7_back 45 = .ok (.aload_n 0, 1) := by decide +kernel
theorem dX7_back_46 : decode cX7_back 46 = .ok (.getfield 310, 3) := by decide +kernel
theorem dX7_back_49 : decode cX7_back 49 = .ok (.ireturn, 1) := by decide +kernel
theorem dX7_image_0 : decode cX7_image 0 = .ok (.aload_n 0, 1) := by decide +kernel
theorem dX7_image_1 : decode cX7_image 1 = .ok (.iconst 1, 1) := by decide +kernel
theorem dX7_image_2 : decode cX7_image 2 = .ok (.putfield 330, 3) := by decide +kernel
theorem dX7_image_5 : decode cX7_image 5 = .ok (.aload_n 0, 1) := by decide +kernel
theorem dX7_image_6 : decode cX7_image 6 = .ok (.iconst 0, 1) := by decide +kernel
theorem dX7_image_7 : decode cX7_image 7 = .ok (.iconst 1, 1) := by decide +kernel
theorem dX7_image_8 : decode cX7_image 8 = .ok (.invokevirtual 303, 3) := by decide +kernel
theorem dX7_image_11 : decode cX7_image 11 = .ok (.aload_n 0, 1) := by decide +kernel
theorem dX7_image_12 : decode cX7_image 12 = .ok (.getfield 136, 3) := by decide +kernel
theorem dX7_image_15 : decode cX7_image 15 = .ok (.ireturn, 1) := by decide +kernel
theorem dX7_restore_0 : decode cX7_restore 0 = .ok (.aload_n 0, 1) := by decide +kernel
theorem dX7_restore_1 : decode cX7_restore 1 = .ok (.getfield 330, 3) := by decide +kernel
theorem dX7_restore_4 : decode cX7_restore 4 = .ok (.ifCond .ne 10, 3) := by decide +kernel
theorem dX7_restore_7 : decode cX7_restore 7 = .ok (.aload_n 0, 1) := by decide +kernel
theorem dX7_restore_8 : decode cX7_restore 8 = .ok (.bipush (-3), 2) := by decide +kernel
theorem dX7_restore_10 : decode cX7_restore 10 = .ok (.invokevirtual 170, 3) := by decide +kernel
theorem dX7_restore_13 : decode cX7_restore 13 = .ok (.ireturn, 1) := by decide +kernel
theorem dX7_restore_14 : decode cX7_restore 14 = .ok (.aload_n 0, 1) := by decide +kernel
theorem dX7_restore_15 : decode cX7_restore 15 = .ok (.iconst 0, 1) := by decide +kernel
theorem dX7_restore_16 : decode cX7_restore 16 = .ok (.iconst 0, 1) := by decide +kernel
theorem dX7_restore_17 : decode cX7_restore 17 = .ok (.invokevirtual 303, 3) := by decide +kernel
theorem dX7_restore_20 : decode cX7_restore 20 = .ok (.aload_n 0, 1) := by decide +kernel
theorem dX7_restore_21 : decode cX7_restore 21 = .ok (.iconst 0, 1) := by decide +kernel
theorem dX7_restore_22 : decode cX7_restore 22 = .ok (.putfield 310, 3) := by decide +kernel
theorem dX7_restore_25 : decode cX7_restore 25 = .ok (.aload_n 0, 1) := by decide +kernel
theorem dX7_restore_26 : decode cX7_restore 26 = .ok (.getfield 136, 3) := by decide +kernel
theorem dX7_restore_29 : decode cX7_restore 29 = .ok (.ireturn, 1) := by decide +kernel
theorem dX7_head_0 : decode cX7_head 0 = .ok (.aload_n 0, 1) := by decide +kernel
theorem dX7_head_1 : decode cX7_head 1 = .ok (.iload_n 1, 1) := by decide +kernel
theorem dX7_head_2 : decode cX7_head 2 = .ok (.invokevirtual 89, 3) := by decide +kernel
theorem dX7_head_5 : decode cX7_head 5 = .ok (.ifCond .ne 9, 3) := by decide +kernel
theorem dX7_head_8 : decode cX7_head 8 = .ok (.aload_n 0, 1) := by decide +kernel
theorem dX7_head_9 : decode cX7_head 9 = .ok (.iconst (-1), 1) := by decide +kernel
theorem dX7_head_10 : decode cX7_head 10 = .ok (.invokevirtual 170, 3) := by decide +kernel
theorem dX7_head_13 : decode cX7_head 13 = .ok (.ireturn, 1) := by decide +kernel
theorem dX7_head_14 : decode cX7_head 14 = .ok (.iload_n 2, 1) := by decide +kernel
theorem dX7_head_15 : decode cX7_head 15 = .ok (.tableswitch 147 0 11 #[61, 68, 75, 82, 89, 96, 103, 110, 117, 123, 129, 141], 61) := by decide +kernel
theorem dX7_head_76 : decode cX7_head 76 = .ok (.aload_n 0, 1) := by decide +kernel
theorem dX7_head_77 : decode cX7_head 77 = .ok (.getfield 22, 3) := by decide +kernel
theorem dX7_head_80 : decode cX7_head 80 = .ok (.iload_n 1, 1) := by decide +kernel
theorem dX7_head_81 : decode cX7_head 81 = .ok (.iaload, 1) := by decide +kernel
theorem dX7_head_82 : decode cX7_head 82 = .ok (.ireturn, 1) := by decide +kernel
theorem dX7_head_83 : decode cX7_head 83 = .ok (.aload_n 0, 1) := by decide +kernel
theorem dX7_head_84 : decode cX7_head 84 = .ok (.getfield 25, 3) := by decide +kernel
theorem dX7_head_87 : decode cX7_head 87 = .ok (.iload_n 1, 1) := by decide +kernel
theorem dX7_head_88 : decode cX7_head 88 = .ok (.iaload, 1) := by decide +kernel
theorem dX7_head_89 : decode cX7_head 89 = .ok (.ireturn, 1) := by decide +kernel
theorem dX7_head_90 : decode cX7_head 90 = .ok (.aload_n 0, 1) := by decide +kernel
theorem dX7_head_91 : decode cX7_head 91 = .ok (.getfield 28, 3) := by decide +kernel
theorem dX7_head_94 : decode cX7_head 94 = .ok (.iload_n 1, 1) := by decide +kernel
theorem dX7_head_95 : decode cX7_head 95 = .ok (.iaload, 1) := by decide +kernel
theorem dX7_head_96 : decode cX7_head 96 = .ok (.ireturn, 1) := by decide +kernel
theorem dX7_head_97 : decode cX7_head 97 = .ok (.aload_n 0, 1) := by decide +kernel
theorem dX7_head_98 : decode cX7_head 98 = .ok (.getfield 31, 3) := by decide +kernel
theorem dX7_head_101 : decode cX7_head 101 = .ok (.iload_n 1, 1) := by decide +kernel
theorem dX7_head_102 : decode cX7_head 102 = .ok (.iaload, 1) := by decide +kernel
theorem dX7_head_103 : decode cX7_head 103 = .ok (.ireturn, 1) := by decide +kernel
theorem dX7_head_104 : decode cX7_head 104 = .ok (.aload_n 0, 1) := by decide +kernel
theorem dX7_head_105 : decode cX7_head 105 = .ok (.getfield 34, 3) := by decide +kernel
theorem dX7_head_108 : decode cX7_head 108 = .ok (.iload_n 1, 1) := by decide +kernel
theorem dX7_head_109 : decode cX7_head 109 = .ok (.iaload, 1) := by decide +kernel
theorem dX7_head_110 : decode cX7_head 110 = .ok (.ireturn, 1) := by decide +kernel
theorem dX7_head_111 : decode cX7_head 111 = .ok (.aload_n 0, 1) := by decide +kernel
theorem dX7_head_112 : decode cX7_head 112 = .ok (.getfield 37, 3) := by decide +kernel
theorem dX7_head_115 : decode cX7_head 115 = .ok (.iload_n 1, 1) := by decide +kernel
theorem dX7_head_116 : decode cX7_head 116 = .ok (.iaload, 1) := by decide +kernel
theorem dX7_head_117 : decode cX7_head 117 = .ok (.ireturn, 1) := by decide +kernel
theorem dX7_head_118 : decode cX7_head 118 = .ok (.aload_n 0, 1) := by decide +kernel
theorem dX7_head_119 : decode cX7_head 119 = .ok (.getfield 40, 3) := by decide +kernel
theorem dX7_head_122 : decode cX7_head 122 = .ok (.iload_n 1, 1) := by decide +kernel
theorem dX7_head_123 : decode cX7_head 123 = .ok (.iaload, 1) := by decide +kernel
theorem dX7_head_124 : decode cX7_head 124 = .ok (.ireturn, 1) := by decide +kernel
theorem dX7_head_125 : decode cX7_head 125 = .ok (.aload_n 0, 1) := by decide +kernel
theorem dX7_head_126 : decode cX7_head 126 = .ok (.getfield 43, 3) := by decide +kernel
theorem dX7_head_129 : decode cX7_head 129 = .ok (.iload_n 1, 1) := by decide +kernel
theorem dX7_head_130 : decode cX7_head 130 = .ok (.iaload, 1) := by decide +kernel
theorem dX7_head_131 : decode cX7_head 131 = .ok (.ireturn, 1) := by decide +kernel
theorem dX7_head_132 : decode cX7_head 132 = .ok (.aload_n 0, 1) := by decide +kernel
theorem dX7_head_133 : decode cX7_head 133 = .ok (.iload_n 1, 1) := by decide +kernel
theorem dX7_head_134 : decode cX7_head 134 = .ok (.invokevirtual 142, 3) := by decide +kernel
theorem dX7_head_137 : decode cX7_head 137 = .ok (.ireturn, 1) := by decide +kernel
theorem dX7_head_138 : decode cX7_head 138 = .ok (.aload_n 0, 1) := by decide +kernel
theorem dX7_head_139 : decode cX7_head 139 = .ok (.iload_n 1, 1) := by decide +kernel
theorem dX7_head_140 : decode cX7_head 140 = .ok (.invokevirtual 107, 3) := by decide +kernel
theorem dX7_head_143 : decode cX7_head 143 = .ok (.ireturn, 1) := by decide +kernel
theorem dX7_head_144 : decode cX7_head 144 = .ok (.aload_n 0, 1) := by decide +kernel
theorem dX7_head_145 : decode cX7_head 145 = .ok (.iload_n 1, 1) := by decide +kernel
theorem dX7_head_146 : decode cX7_head 146 = .ok (.aload_n 0, 1) := by decide +kernel
theorem dX7_head_147 : decode cX7_head 147 = .ok (.getfield 136, 3) := by decide +kernel
theorem dX7_head_150 : decode cX7_head 150 = .ok (.iconst 1, 1) := by decide +kernel
theorem dX7_head_151 : decode cX7_head 151 = .ok (.iadd, 1) := by decide +kernel
theorem dX7_head_152 : decode cX7_head 152 = .ok (.invokevirtual 139, 3) := by decide +kernel
theorem dX7_head_155 : decode cX7_head 155 = .ok (.ireturn, 1) := by decide +kernel
theorem dX7_head_156 : decode cX7_head 156 = .ok (.aload_n 0, 1) := by decide +kernel
theorem dX7_head_157 : decode cX7_head 157 = .ok (.iload_n 1, 1) := by decide +kernel
theorem dX7_head_158 : decode cX7_head 158 = .ok (.invokevirtual 154, 3) := by decide +kernel
theorem dX7_head_161 : decode cX7_head 161 = .ok (.ireturn, 1) := by decide +kernel
theorem dX7_head_162 : decode cX7_head 162 = .ok (.aload_n 0, 1) := by decide +kernel
theorem dX7_head_163 : decode cX7_head 163 = .ok (.bipush (-2), 2) := by decide +kernel
theorem dX7_head_165 : decode cX7_head 165 = .ok (.invokevirtual 170, 3) := by decide +kernel
theorem dX7_head_168 : decode cX7_head 168 = .ok (.ireturn, 1) := by decide +kernel
theorem dX7_headsOn_0 : decode cX7_headsOn 0 = .ok (.iconst 0, 1) := by decide +kernel
theorem dX7_headsOn_1 : decode cX7_headsOn 1 = .ok (.istore_n 2, 1) := by decide +kernel
theorem dX7_headsOn_2 : decode cX7_headsOn 2 = .ok (.iconst 0, 1) := by decide +kernel
theorem dX7_headsOn_3 : decode cX7_headsOn 3 = .ok (.istore_n 3, 1) := by decide +kernel
theorem dX7_headsOn_4 : decode cX7_headsOn 4 = .ok (.iload_n 3, 1) := by decide +kernel
theorem dX7_headsOn_5 : decode cX7_headsOn 5 = .ok (.aload_n 0, 1) := by decide +kernel
theorem dX7_headsOn_6 : decode cX7_headsOn 6 = .ok (.getfield 79, 3) := by decide +kernel
theorem dX7_headsOn_9 : decode cX7_headsOn 9 = .ok (.if_icmp .ge 29, 3) := by decide +kernel
theorem dX7_headsOn_12 : decode cX7_headsOn 12 = .ok (.iload_n 2, 1) := by decide +kernel
theorem dX7_headsOn_13 : decode cX7_headsOn 13 = .ok (.aload_n 0, 1) := by decide +kernel
theorem dX7_headsOn_14 : decode cX7_headsOn 14 = .ok (.getfield 28, 3) := by decide +kernel
theorem dX7_headsOn_17 : decode cX7_headsOn 17 = .ok (.iload_n 3, 1) := by decide +kernel
theorem dX7_headsOn_18 : decode cX7_headsOn 18 = .ok (.iaload, 1) := by decide +kernel
theorem dX7_headsOn_19 : decode cX7_headsOn 19 = .ok (.iload_n 1, 1) := by decide +kernel
theorem dX7_headsOn_20 : decode cX7_headsOn 20 = .ok (.if_icmp .ne 9, 3) := by decide +kernel
theorem dX7_headsOn_23 : decode cX7_headsOn 23 = .ok (.iconst 1, 1) := by decide +kernel
theorem dX7_headsOn_24 : decode cX7_headsOn 24 = .ok (.iload_n 3, 1) := by decide +kernel
theorem dX7_headsOn_25 : decode cX7_headsOn 25 = .ok (.ishl, 1) := by decide +kernel
theorem dX7_headsOn_26 : decode cX7_headsOn 26 = .ok (.goto 4, 3) := by decide +kernel
theorem dX7_headsOn_29 : decode cX7_headsOn 29 = .ok (.iconst 0, 1) := by decide +kernel
theorem dX7_headsOn_30 : decode cX7_headsOn 30 = .ok (.ior, 1) := by decide +kernel
theorem dX7_headsOn_31 : decode cX7_headsOn 31 = .ok (.istore_n 2, 1) := by decide +kernel
theorem dX7_headsOn_32 : decode cX7_headsOn 32 = .ok (.iinc 3 1, 3) := by decide +kernel
theorem dX7_headsOn_35 : decode cX7_headsOn 35 = .ok (.goto (-31), 3) := by decide +kernel
theorem dX7_headsOn_38 : decode cX7_headsOn 38 = .ok (.iload_n 2, 1) := by decide +kernel
theorem dX7_headsOn_39 : decode cX7_headsOn 39 = .ok (.ireturn, 1) := by decide +kernel
theorem dX7_field_0 : decode cX7_field 0 = .ok (.iload_n 1, 1) := by decide +kernel
theorem dX7_field_1 : decode cX7_field 1 = .ok (.invokestatic 244, 3) := by decide +kernel
theorem dX7_field_4 : decode cX7_field 4 = .ok (.ifCond .ne 9, 3) := by decide +kernel
theorem dX7_field_7 : decode cX7_field 7 = .ok (.aload_n 0, 1) := by decide +kernel
theorem dX7_field_8 : decode cX7_field 8 = .ok (.iconst (-1), 1) := by decide +kernel
theorem dX7_field_9 : decode cX7_field 9 = .ok (.invokevirtual 170, 3) := by decide +kernel
theorem dX7_field_12 : decode cX7_field 12 = .ok (.ireturn, 1) := by decide +kernel
theorem dX7_field_13 : decode cX7_field 13 = .ok (.iload_n 2, 1) := by decide +kernel
theorem dX7_field_14 : decode cX7_field 14 = .ok (.tableswitch 57 0 3 #[30, 37, 44, 51], 30) := by decide +kernel
theorem dX7_field_44 : decode cX7_field 44 = .ok (.aload_n 0, 1) := by decide +kernel
theorem dX7_field_45 : decode cX7_field 45 = .ok (.getfield 13, 3) := by decide +kernel
theorem dX7_field_48 : decode cX7_field 48 = .ok (.iload_n 1, 1) := by decide +kernel
theorem dX7_field_49 : decode cX7_field 49 = .ok (.iaload, 1) := by decide +kernel
theorem dX7_field_50 : decode cX7_field 50 = .ok (.ireturn, 1) := by decide +kernel
theorem dX7_field_51 : decode cX7_field 51 = .ok (.aload_n 0, 1) := by decide +kernel
theorem dX7_field_52 : decode cX7_field 52 = .ok (.getfield 16, 3) := by decide +kernel
theorem dX7_field_55 : decode cX7_field 55 = .ok (.iload_n 1, 1) := by decide +kernel
theorem dX7_field_56 : decode cX7_field 56 = .ok (.iaload, 1) := by decide +kernel
theorem dX7_field_57 : decode cX7_field 57 = .ok (.ireturn, 1) := by decide +kernel
theorem dX7_field_58 : decode cX7_field 58 = .ok (.aload_n 0, 1) := by decide +kernel
theorem dX7_field_59 : decode cX7_field 59 = .ok (.getfield 19, 3) := by decide +kernel
theorem dX7_field_62 : decode cX7_field 62 = .ok (.iload_n 1, 1) := by decide +kernel
theorem dX7_field_63 : decode cX7_field 63 = .ok (.iaload, 1) := by decide +kernel
theorem dX7_field_64 : decode cX7_field 64 = .ok (.ireturn, 1) := by decide +kernel
theorem dX7_field_65 : decode cX7_field 65 = .ok (.aload_n 0, 1) := by decide +kernel
theorem dX7_field_66 : decode cX7_field 66 = .ok (.iload_n 1, 1) := by decide +kernel
theorem dX7_field_67 : decode cX7_field 67 = .ok (.invokevirtual 333, 3) := by decide +kernel
theorem dX7_field_70 : decode cX7_field 70 = .ok (.ireturn, 1) := by decide +kernel
theorem dX7_field_71 : decode cX7_field 71 = .ok (.aload_n 0, 1) := by decide +kernel
theorem dX7_field_72 : decode cX7_field 72 = .ok (.bipush (-2), 2) := by decide +kernel
theorem dX7_field_74 : decode cX7_field 74 = .ok (.invokevirtual 170, 3) := by decide +kernel
theorem dX7_field_77 : decode cX7_field 77 = .ok (.ireturn, 1) := by decide +kernel
theorem dX7_comes_0 : decode cX7_comes 0 = .ok (.iload_n 1, 1) := by decide +kernel
theorem dX7_comes_1 : decode cX7_comes 1 = .ok (.iconst 0, 1) := by decide +kernel
theorem dX7_comes_2 : decode cX7_comes 2 = .ok (.bipush 7, 2) := by decide +kernel
theorem dX7_comes_4 : decode cX7_comes 4 = .ok (.invokestatic 85, 3) := by decide +kernel
theorem dX7_comes_7 : decode cX7_comes 7 = .ok (.ifCond .ne 8, 3) := by decide +kernel
theorem dX7_comes_10 : decode cX7_comes 10 = .ok (.bipush (-2), 2) := by decide +kernel
theorem dX7_comes_12 : decode cX7_comes 12 = .ok (.goto 55, 3) := by decide +kernel
theorem dX7_comes_15 : decode cX7_comes 15 = .ok (.iload_n 2, 1) := by decide +kernel
theorem dX7_comes_16 : decode cX7_comes 16 = .ok (.ifCond .lt 8, 3) := by decide +kernel
theorem dX7_comes_19 : decode cX7_comes 19 = .ok (.iload 4, 2) := by decide +kernel
theorem dX7_comes_21 : decode cX7_comes 21 = .ok (.ifCond .ge 8, 3) := by decide +kernel
theorem dX7_comes_24 : decode cX7_comes 24 = .ok (.bipush (-4), 2) := by decide +kernel
theorem dX7_comes_26 : decode cX7_comes 26 = .ok (.goto 41, 3) := by decide +kernel
theorem dX7_comes_29 : decode cX7_comes 29 = .ok (.iload_n 2, 1) := by decide +kernel
theorem dX7_comes_30 : decode cX7_comes 30 = .ok (.bipush 9, 2) := by decide +kernel
theorem dX7_comes_32 : decode cX7_comes 32 = .ok (.if_icmp .gt 18, 3) := by decide +kernel
theorem dX7_comes_35 : decode cX7_comes 35 = .ok (.iload 4, 2) := by decide +kernel
theorem dX7_comes_37 : decode cX7_comes 37 = .ok (.bipush 25, 2) := by decide +kernel
theorem dX7_comes_39 : decode cX7_comes 39 = .ok (.if_icmp .gt 11, 3) := by decide +kernel
theorem dX7_comes_42 : decode cX7_comes 42 = .ok (.aload_n 0, 1) := by decide +kernel
theorem dX7_comes_43 : decode cX7_comes 43 = .ok (.getfield 79, 3) := by decide +kernel
theorem dX7_comes_46 : decode cX7_comes 46 = .ok (.iconst 5, 1) := by decide +kernel
theorem dX7_comes_47 : decode cX7_comes 47 = .ok (.if_icmp .ne 8, 3) := by decide +kernel
theorem dX7_comes_50 : decode cX7_comes 50 = .ok (.bipush (-6), 2) := by decide +kernel
theorem dX7_comes_52 : decode cX7_comes 52 = .ok (.goto 15, 3) := by decide +kernel
theorem dX7_comes_55 : decode cX7_comes 55 = .ok (.iload_n 3, 1) := by decide +kernel
theorem dX7_comes_56 : decode cX7_comes 56 = .ok (.invokestatic 244, 3) := by decide +kernel
theorem dX7_comes_59 : decode cX7_comes 59 = .ok (.ifCond .ne 7, 3) := by decide +kernel
theorem dX7_comes_62 : decode cX7_comes 62 = .ok (.iconst (-1), 1) := by decide +kernel
theorem dX7_comes_63 : decode cX7_comes 63 = .ok (.goto 4, 3) := by decide +kernel
theorem dX7_comes_66 : decode cX7_comes 66 = .ok (.iconst 0, 1) := by decide +kernel
theorem dX7_comes_67 : decode cX7_comes 67 = .ok (.istore 5, 2) := by decide +kernel
theorem dX7_comes_69 : decode cX7_comes 69 = .ok (.iload 5, 2) := by decide +kernel
theorem dX7_comes_71 : decode cX7_comes 71 = .ok (.ifCond .eq 10, 3) := by decide +kernel
theorem dX7_comes_74 : decode cX7_comes 74 = .ok (.aload_n 0, 1) := by decide +kernel
theorem dX7_comes_75 : decode cX7_comes 75 = .ok (.iload 5, 2) := by decide +kernel
theorem dX7_comes_77 : decode cX7_comes 77 = .ok (.invokevirtual 170, 3) := by decide +kernel
theorem dX7_comes_80 : decode cX7_comes 80 = .ok (.ireturn, 1) := by decide +kernel
theorem dX7_comes_81 : decode cX7_comes 81 = .ok (.aload_n 0, 1) := by decide +kernel
theorem dX7_comes_82 : decode cX7_comes 82 = .ok (.iload_n 1, 1) := by decide +kernel
theorem dX7_comes_83 : decode cX7_comes 83 = .ok (.iload_n 2, 1) := by decide +kernel
theorem dX7_comes_84 : decode cX7_comes 84 = .ok (.iload_n 3, 1) := by decide +kernel
theorem dX7_comes_85 : decode cX7_comes 85 = .ok (.invokevirtual 247, 3) := by decide +kernel
theorem dX7_comes_88 : decode cX7_comes 88 = .ok (.aload_n 0, 1) := by decide +kernel
theorem dX7_comes_89 : decode cX7_comes 89 = .ok (.getfield 46, 3) := by decide +kernel
theorem dX7_comes_92 : decode cX7_comes 92 = .ok (.bipush 6, 2) := by decide +kernel
theorem dX7_comes_94 : decode cX7_comes 94 = .ok (.aload_n 0, 1) := by decide +kernel
theorem dX7_comes_95 : decode cX7_comes 95 = .ok (.getfield 79, 3) := by decide +kernel
theorem dX7_comes_98 : decode cX7_comes 98 = .ok (.iconst 1, 1) := by decide +kernel
theorem dX7_comes_99 : decode cX7_comes 99 = .ok (.isub, 1) := by decide +kernel
theorem dX7_comes_100 : decode cX7_comes 100 = .ok (.imul, 1) := by decide +kernel
theorem dX7_comes_101 : decode cX7_comes 101 = .ok (.iload 4, 2) := by decide +kernel
theorem dX7_comes_103 : decode cX7_comes 103 = .ok (.iastore, 1) := by decide +kernel
theorem dX7_comes_104 : decode cX7_comes 104 = .ok (.aload_n 0, 1) := by decide +kernel
theorem dX7_comes_105 : decode cX7_comes 105 = .ok (.getfield 43, 3) := by decide +kernel
theorem dX7_comes_108 : decode cX7_comes 108 = .ok (.aload_n 0, 1) := by decide +kernel
theorem dX7_comes_109 : decode cX7_comes 109 = .ok (.getfield 79, 3) := by decide +kernel
theorem dX7_comes_112 : decode cX7_comes 112 = .ok (.iconst 1, 1) := by decide +kernel
theorem dX7_comes_113 : decode cX7_comes 113 = .ok (.isub, 1) := by decide +kernel
theorem dX7_comes_114 : decode cX7_comes 114 = .ok (.iconst 1, 1) := by decide +kernel
theorem dX7_comes_115 : decode cX7_comes 115 = .ok (.iastore, 1) := by decide +kernel
theorem dX7_comes_116 : decode cX7_comes 116 = .ok (.aload_n 0, 1) := by decide +kernel
theorem dX7_comes_117 : decode cX7_comes 117 = .ok (.iconst 0, 1) := by decide +kernel
theorem dX7_comes_118 : decode cX7_comes 118 = .ok (.putfield 310, 3) := by decide +kernel
theorem dX7_comes_121 : decode cX7_comes 121 = .ok (.aload_n 0, 1) := by decide +kernel
theorem dX7_comes_122 : decode cX7_comes 122 = .ok (.getfield 79, 3) := by decide +kernel
theorem dX7_comes_125 : decode cX7_comes 125 = .ok (.iconst 1, 1) := by decide +kernel
theorem dX7_comes_126 : decode cX7_comes 126 = .ok (.isub, 1) := by decide +kernel
theorem dX7_comes_127 : decode cX7_comes 127 = .ok (.ireturn, 1) := by decide +kernel
theorem dX7_puts_0 : decode cX7_puts 0 = .ok (.aload_n 0, 1) := by decide +kernel
theorem dX7_puts_1 : decode cX7_puts 1 = .ok (.getfield 46, 3) := by decide +kernel
theorem dX7_puts_4 : decode cX7_puts 4 = .ok (.bipush 6, 2) := by decide +kernel
theorem dX7_puts_6 : decode cX7_puts 6 = .ok (.iload_n 1, 1) := by decide +kernel
theorem dX7_puts_7 : decode cX7_puts 7 = .ok (.imul, 1) := by decide +kernel
theorem dX7_puts_8 : decode cX7_puts 8 = .ok (.aload_n 0, 1) := by decide +kernel
theorem dX7_puts_9 : decode cX7_puts 9 = .ok (.getfield 43, 3) := by decide +kernel
theorem dX7_puts_12 : decode cX7_puts 12 = .ok (.iload_n 1, 1) := by decide +kernel
theorem dX7_puts_13 : decode cX7_puts 13 = .ok (.iaload, 1) := by decide +kernel
theorem dX7_puts_14 : decode cX7_puts 14 = .ok (.iadd, 1) := by decide +kernel
theorem dX7_puts_15 : decode cX7_puts 15 = .ok (.iload_n 2, 1) := by decide +kernel
theorem dX7_puts_16 : decode cX7_puts 16 = .ok (.iastore, 1) := by decide +kernel
theorem dX7_puts_17 : decode cX7_puts 17 = .ok (.aload_n 0, 1) := by decide +kernel
theorem dX7_puts_18 : decode cX7_puts 18 = .ok (.getfield 43, 3) := by decide +kernel
theorem dX7_puts_21 : decode cX7_puts 21 = .ok (.iload_n 1, 1) := by decide +kernel
theorem dX7_puts_22 : decode cX7_puts 22 = .ok (.dup2, 1) := by decide +kernel
theorem dX7_puts_23 : decode cX7_puts 23 = .ok (.iaload, 1) := by decide +kernel
theorem dX7_puts_24 : decode cX7_puts 24 = .ok (.iconst 1, 1) := by decide +kernel
theorem dX7_puts_25 : decode cX7_puts 25 = .ok (.iadd, 1) := by decide +kernel
theorem dX7_puts_26 : decode cX7_puts 26 = .ok (.iastore, 1) := by decide +kernel
theorem dX7_puts_27 : decode cX7_puts 27 = .ok (.return_, 1) := by decide +kernel
theorem dX7_named_0 : decode cX7_named 0 = .ok (.aload_n 0, 1) := by decide +kernel
theorem dX7_named_1 : decode cX7_named 1 = .ok (.iload_n 1, 1) := by decide +kernel
theorem dX7_named_2 : decode cX7_named 2 = .ok (.invokevirtual 89, 3) := by decide +kernel
theorem dX7_named_5 : decode cX7_named 5 = .ok (.ifCond .ne 7, 3) := by decide +kernel
theorem dX7_named_8 : decode cX7_named 8 = .ok (.iconst (-1), 1) := by decide +kernel
theorem dX7_named_9 : decode cX7_named 9 = .ok (.goto 10, 3) := by decide +kernel
theorem dX7_named_12 : decode cX7_named 12 = .ok (.iload_n 2, 1) := by decide +kernel
theorem dX7_named_13 : decode cX7_named 13 = .ok (.iconst 0, 1) := by decide +kernel
theorem dX7_named_14 : decode cX7_named 14 = .ok (.bipush 25, 2) := by decide +kernel
theorem dX7_named_16 : decode cX7_named 16 = .ok (.invokestatic 163, 3) := by decide +kernel
theorem dX7_named_19 : decode cX7_named 19 = .ok (.istore_n 3, 1) := by decide +kernel
theorem dX7_named_20 : decode cX7_named 20 = .ok (.iload_n 3, 1) := by decide +kernel
theorem dX7_named_21 : decode cX7_named 21 = .ok (.ifCond .ne 17, 3) := by decide +kernel
theorem dX7_named_24 : decode cX7_named 24 = .ok (.aload_n 0, 1) := by decide +kernel
theorem dX7_named_25 : decode cX7_named 25 = .ok (.getfield 43, 3) := by decide +kernel
theorem dX7_named_28 : decode cX7_named 28 = .ok (.iload_n 1, 1) := by decide +kernel
theorem dX7_named_29 : decode cX7_named 29 = .ok (.iaload, 1) := by decide +kernel
theorem dX7_named_30 : decode cX7_named 30 = .ok (.bipush 6, 2) := by decide +kernel
theorem dX7_named_32 : decode cX7_named 32 = .ok (.if_icmp .ne 6, 3) := by decide +kernel
theorem dX7_named_35 : decode cX7_named 35 = .ok (.bipush (-6), 2) := by decide +kernel
theorem dX7_named_37 : decode cX7_named 37 = .ok (.istore_n 3, 1) := by decide +kernel
theorem dX7_named_38 : decode cX7_named 38 = .ok (.iload_n 3, 1) := by decide +kernel
theorem dX7_named_39 : decode cX7_named 39 = .ok (.ifCond .eq 9, 3) := by decide +kernel
theorem dX7_named_42 : decode cX7_named 42 = .ok (.aload_n 0, 1) := by decide +kernel
theorem dX7_named_43 : decode cX7_named 43 = .ok (.iload_n 3, 1) := by decide +kernel
theorem dX7_named_44 : decode cX7_named 44 = .ok (.invokevirtual 170, 3) := by decide +kernel
theorem dX7_named_47 : decode cX7_named 47 = .ok (.ireturn, 1) := by decide +kernel
theorem dX7_named_48 : decode cX7_named 48 = .ok (.aload_n 0, 1) := by decide +kernel
theorem dX7_named_49 : decode cX7_named 49 = .ok (.invokevirtual 336, 3) := by decide +kernel
theorem dX7_named_52 : decode cX7_named 52 = .ok (.aload_n 0, 1) := by decide +kernel
theorem dX7_named_53 : decode cX7_named 53 = .ok (.iload_n 1, 1) := by decide +kernel
theorem dX7_named_54 : decode cX7_named 54 = .ok (.iload_n 2, 1) := by decide +kernel
theorem dX7_named_55 : decode cX7_named 55 = .ok (.invokevirtual 339, 3) := by decide +kernel
theorem dX7_named_58 : decode cX7_named 58 = .ok (.aload_n 0, 1) := by decide +kernel
theorem dX7_named_59 : decode cX7_named 59 = .ok (.getfield 43, 3) := by decide +kernel
theorem dX7_named_62 : decode cX7_named 62 = .ok (.iload_n 1, 1) := by decide +kernel
theorem dX7_named_63 : decode cX7_named 63 = .ok (.iaload, 1) := by decide +kernel
theorem dX7_named_64 : decode cX7_named 64 = .ok (.ireturn, 1) := by decide +kernel
theorem dX7_faces_0 : decode cX7_faces 0 = .ok (.aload_n 0, 1) := by decide +kernel
theorem dX7_faces_1 : decode cX7_faces 1 = .ok (.iload_n 1, 1) := by decide +kernel
theorem dX7_faces_2 : decode cX7_faces 2 = .ok (.invokevirtual 89, 3) := by decide +kernel
theorem dX7_faces_5 : decode cX7_faces 5 = .ok (.ifCond .ne 7, 3) := by decide +kernel
theorem dX7_faces_8 : decode cX7_faces 8 = .ok (.iconst (-1), 1) := by decide +kernel
theorem dX7_faces_9 : decode cX7_faces 9 = .ok (.goto 9, 3) := by decide +kernel
theorem dX7_faces_12 : decode cX7_faces 12 = .ok (.iload_n 2, 1) := by decide +kernel
theorem dX7_faces_13 : decode cX7_faces 13 = .ok (.iconst 0, 1) := by decide +kernel
theorem dX7_faces_14 : decode cX7_faces 14 = .ok (.iconst 3, 1) := by decide +kernel
theorem dX7_faces_15 : decode cX7_faces 15 = .ok (.invokestatic 163, 3) := by decide +kernel
theorem dX7_faces_18 : decode cX7_faces 18 = .ok (.istore_n 3, 1) := by decide +kernel
theorem dX7_faces_19 : decode cX7_faces 19 = .ok (.iload_n 3, 1) := by decide +kernel
theorem dX7_faces_20 : decode cX7_faces 20 = .ok (.ifCond .eq 9, 3) := by decide +kernel
theorem dX7_faces_23 : decode cX7_faces 23 = .ok (.aload_n 0, 1) := by decide +kernel
theorem dX7_faces_24 : decode cX7_faces 24 = .ok (.iload_n 3, 1) := by decide +kernel
theorem dX7_faces_25 : decode cX7_faces 25 = .ok (.invokevirtual 170, 3) := by decide +kernel
theorem dX7_faces_28 : decode cX7_faces 28 = .ok (.ireturn, 1) := by decide +kernel
theorem dX7_faces_29 : decode cX7_faces 29 = .ok (.aload_n 0, 1) := by decide +kernel
theorem dX7_faces_30 : decode cX7_faces 30 = .ok (.invokevirtual 336, 3) := by decide +kernel
theorem dX7_faces_33 : decode cX7_faces 33 = .ok (.aload_n 0, 1) := by decide +kernel
theorem dX7_faces_34 : decode cX7_faces 34 = .ok (.getfield 31, 3) := by decide +kernel
theorem dX7_faces_37 : decode cX7_faces 37 = .ok (.iload_n 1, 1) := by decide +kernel
theorem dX7_faces_38 : decode cX7_faces 38 = .ok (.iaload, 1) := by decide +kernel
theorem dX7_faces_39 : decode cX7_faces 39 = .ok (.istore 4, 2) := by decide +kernel
theorem dX7_faces_41 : decode cX7_faces 41 = .ok (.aload_n 0, 1) := by decide +kernel
theorem dX7_faces_42 : decode cX7_faces 42 = .ok (.getfield 31, 3) := by decide +kernel
theorem dX7_faces_45 : decode cX7_faces 45 = .ok (.iload_n 1, 1) := by decide +kernel
theorem dX7_faces_46 : decode cX7_faces 46 = .ok (.iload_n 2, 1) := by decide +kernel
theorem dX7_faces_47 : decode cX7_faces 47 = .ok (.iastore, 1) := by decide +kernel
theorem dX7_faces_48 : decode cX7_faces 48 = .ok (.iload 4, 2) := by decide +kernel
theorem dX7_faces_50 : decode cX7_faces 50 = .ok (.ireturn, 1) := by decide +kernel
theorem dX7_does_0 : decode cX7_does 0 = .ok (.aload_n 0, 1) := by decide +kernel
theorem dX7_does_1 : decode cX7_does 1 = .ok (.iload_n 1, 1) := by decide +kernel
theorem dX7_does_2 : decode cX7_does 2 = .ok (.invokevirtual 89, 3) := by decide +kernel
theorem dX7_does_5 : decode cX7_does 5 = .ok (.ifCond .ne 7, 3) := by decide +kernel
theorem dX7_does_8 : decode cX7_does 8 = .ok (.iconst (-1), 1) := by decide +kernel
theorem dX7_does_9 : decode cX7_does 9 = .ok (.goto 18, 3) := by decide +kernel
theorem dX7_does_12 : decode cX7_does 12 = .ok (.iload_n 2, 1) := by decide +kernel
theorem dX7_does_13 : decode cX7_does 13 = .ok (.iconst 0, 1) := by decide +kernel
theorem dX7_does_14 : decode cX7_does 14 = .ok (.iconst 4, 1) := by decide +kernel
theorem dX7_does_15 : decode cX7_does 15 = .ok (.invokestatic 85, 3) := by decide +kernel
theorem dX7_does_18 : decode cX7_does 18 = .ok (.ifCond .ne 8, 3) := by decide +kernel
theorem dX7_does_21 : decode cX7_does 21 = .ok (.bipush (-2), 2) := by decide +kernel
theorem dX7_does_23 : decode cX7_does 23 = .ok (.goto 4, 3) := by decide +kernel
theorem dX7_does_26 : decode cX7_does 26 = .ok (.iconst 0, 1) := by decide +kernel
theorem dX7_does_27 : decode cX7_does 27 = .ok (.istore_n 3, 1) := by decide +kernel
theorem dX7_does_28 : decode cX7_does 28 = .ok (.iload_n 3, 1) := by decide +kernel
theorem dX7_does_29 : decode cX7_does 29 = .ok (.ifCond .eq 9, 3) := by decide +kernel
theorem dX7_does_32 : decode cX7_does 32 = .ok (.aload_n 0, 1) := by decide +kernel
theorem dX7_does_33 : decode cX7_does 33 = .ok (.iload_n 3, 1) := by decide +kernel
theorem dX7_does_34 : decode cX7_does 34 = .ok (.invokevirtual 170, 3) := by decide +kernel
theorem dX7_does_37 : decode cX7_does 37 = .ok (.ireturn, 1) := by decide +kernel
theorem dX7_does_38 : decode cX7_does 38 = .ok (.aload_n 0, 1) := by decide +kernel
theorem dX7_does_39 : decode cX7_does 39 = .ok (.invokevirtual 336, 3) := by decide +kernel
theorem dX7_does_42 : decode cX7_does 42 = .ok (.aload_n 0, 1) := by decide +kernel
theorem dX7_does_43 : decode cX7_does 43 = .ok (.getfield 34, 3) := by decide +kernel
theorem dX7_does_46 : decode cX7_does 46 = .ok (.iload_n 1, 1) := by decide +kernel
theorem dX7_does_47 : decode cX7_does 47 = .ok (.iaload, 1) := by decide +kernel
theorem dX7_does_48 : decode cX7_does 48 = .ok (.istore 4, 2) := by decide +kernel
theorem dX7_does_50 : decode cX7_does 50 = .ok (.aload_n 0, 1) := by decide +kernel
theorem dX7_does_51 : decode cX7_does 51 = .ok (.getfield 34, 3) := by decide +kernel
theorem dX7_does_54 : decode cX7_does 54 = .ok (.iload_n 1, 1) := by decide +kernel
theorem dX7_does_55 : decode cX7_does 55 = .ok (.iload_n 2, 1) := by decide +kernel
theorem dX7_does_56 : decode cX7_does 56 = .ok (.iastore, 1) := by decide +kernel
theorem dX7_does_57 : decode cX7_does 57 = .ok (.iload 4, 2) := by decide +kernel
theorem dX7_does_59 : decode cX7_does 59 = .ok (.ireturn, 1) := by decide +kernel
theorem dX7_joins_0 : decode cX7_joins 0 = .ok (.aload_n 0, 1) := by decide +kernel
theorem dX7_joins_1 : decode cX7_joins 1 = .ok (.iload_n 1, 1) := by decide +kernel
theorem dX7_joins_2 : decode cX7_joins 2 = .ok (.invokevirtual 89, 3) := by decide +kernel
theorem dX7_joins_5 : decode cX7_joins 5 = .ok (.ifCond .ne 7, 3) := by decide +kernel
theorem dX7_joins_8 : decode cX7_joins 8 = .ok (.iconst (-1), 1) := by decide +kernel
theorem dX7_joins_9 : decode cX7_joins 9 = .ok (.goto 10, 3) := by decide +kernel
theorem dX7_joins_12 : decode cX7_joins 12 = .ok (.iload_n 2, 1) := by decide +kernel
theorem dX7_joins_13 : decode cX7_joins 13 = .ok (.iconst 0, 1) := by decide +kernel
theorem dX7_joins_14 : decode cX7_joins 14 = .ok (.bipush 99, 2) := by decide +kernel
theorem dX7_joins_16 : decode cX7_joins 16 = .ok (.invokestatic 163, 3) := by decide +kernel
theorem dX7_joins_19 : decode cX7_joins 19 = .ok (.istore_n 3, 1) := by decide +kernel
theorem dX7_joins_20 : decode cX7_joins 20 = .ok (.iload_n 3, 1) := by decide +kernel
theorem dX7_joins_21 : decode cX7_joins 21 = .ok (.ifCond .eq 9, 3) := by decide +kernel
theorem dX7_joins_24 : decode cX7_joins 24 = .ok (.aload_n 0, 1) := by decide +kernel
theorem dX7_joins_25 : decode cX7_joins 25 = .ok (.iload_n 3, 1) := by decide +kernel
theorem dX7_joins_26 : decode cX7_joins 26 = .ok (.invokevirtual 170, 3) := by decide +kernel
theorem dX7_joins_29 : decode cX7_joins 29 = .ok (.ireturn, 1) := by decide +kernel
theorem dX7_joins_30 : decode cX7_joins 30 = .ok (.aload_n 0, 1) := by decide +kernel
theorem dX7_joins_31 : decode cX7_joins 31 = .ok (.invokevirtual 336, 3) := by decide +kernel
theorem dX7_joins_34 : decode cX7_joins 34 = .ok (.aload_n 0, 1) := by decide +kernel
theorem dX7_joins_35 : decode cX7_joins 35 = .ok (.getfield 37, 3) := by decide +kernel
theorem dX7_joins_38 : decode cX7_joins 38 = .ok (.iload_n 1, 1) := by decide +kernel
theorem dX7_joins_39 : decode cX7_joins 39 = .ok (.iaload, 1) := by decide +kernel
theorem dX7_joins_40 : decode cX7_joins 40 = .ok (.istore 4, 2) := by decide +kernel
theorem dX7_joins_42 : decode cX7_joins 42 = .ok (.aload_n 0, 1) := by decide +kernel
theorem dX7_joins_43 : decode cX7_joins 43 = .ok (.getfield 37, 3) := by decide +kernel
theorem dX7_joins_46 : decode cX7_joins 46 = .ok (.iload_n 1, 1) := by decide +kernel
theorem dX7_joins_47 : decode cX7_joins 47 = .ok (.iload_n 2, 1) := by decide +kernel
theorem dX7_joins_48 : decode cX7_joins 48 = .ok (.iastore, 1) := by decide +kernel
theorem dX7_joins_49 : decode cX7_joins 49 = .ok (.iload 4, 2) := by decide +kernel
theorem dX7_joins_51 : decode cX7_joins 51 = .ok (.ireturn, 1) := by decide +kernel
theorem dX7_walls_0 : decode cX7_walls 0 = .ok (.iload_n 1, 1) := by decide +kernel
theorem dX7_walls_1 : decode cX7_walls 1 = .ok (.invokestatic 244, 3) := by decide +kernel
theorem dX7_walls_4 : decode cX7_walls 4 = .ok (.ifCond .ne 7, 3) := by decide +kernel
theorem dX7_walls_7 : decode cX7_walls 7 = .ok (.iconst (-1), 1) := by decide +kernel
theorem dX7_walls_8 : decode cX7_walls 8 = .ok (.goto 10, 3) := by decide +kernel
theorem dX7_walls_11 : decode cX7_walls 11 = .ok (.iload_n 2, 1) := by decide +kernel
theorem dX7_walls_12 : decode cX7_walls 12 = .ok (.iconst 0, 1) := by decide +kernel
theorem dX7_walls_13 : decode cX7_walls 13 = .ok (.bipush 9, 2) := by decide +kernel
theorem dX7_walls_15 : decode cX7_walls 15 = .ok (.invokestatic 163, 3) := by decide +kernel
theorem dX7_walls_18 : decode cX7_walls 18 = .ok (.istore_n 3, 1) := by decide +kernel
theorem dX7_walls_19 : decode cX7_walls 19 = .ok (.iload_n 3, 1) := by decide +kernel
theorem dX7_walls_20 : decode cX7_walls 20 = .ok (.ifCond .eq 9, 3) := by decide +kernel
theorem dX7_walls_23 : decode cX7_walls 23 = .ok (.aload_n 0, 1) := by decide +kernel
theorem dX7_walls_24 : decode cX7_walls 24 = .ok (.iload_n 3, 1) := by decide +kernel
theorem dX7_walls_25 : decode cX7_walls 25 = .ok (.invokevirtual 170, 3) := by decide +kernel
theorem dX7_walls_28 : decode cX7_walls 28 = .ok (.ireturn, 1) := by decide +kernel
theorem dX7_walls_29 : decode cX7_walls 29 = .ok (.aload_n 0, 1) := by decide +kernel
theorem dX7_walls_30 : decode cX7_walls 30 = .ok (.invokevirtual 336, 3) := by decide +kernel
theorem dX7_walls_33 : decode cX7_walls 33 = .ok (.aload_n 0, 1) := by decide +kernel
theorem dX7_walls_34 : decode cX7_walls 34 = .ok (.getfield 13, 3) := by decide +kernel
theorem dX7_walls_37 : decode cX7_walls 37 = .ok (.iload_n 1, 1) := by decide +kernel
theorem dX7_walls_38 : decode cX7_walls 38 = .ok (.iaload, 1) := by decide +kernel
theorem dX7_walls_39 : decode cX7_walls 39 = .ok (.istore 4, 2) := by decide +kernel
theorem dX7_walls_41 : decode cX7_walls 41 = .ok (.aload_n 0, 1) := by decide +kernel
theorem dX7_walls_42 : decode cX7_walls 42 = .ok (.getfield 13, 3) := by decide +kernel
theorem dX7_walls_45 : decode cX7_walls 45 = .ok (.iload_n 1, 1) := by decide +kernel
theorem dX7_walls_46 : decode cX7_walls 46 = .ok (.iload_n 2, 1) := by decide +kernel
theorem dX7_walls_47 : decode cX7_walls 47 = .ok (.iastore, 1) := by decide +kernel
theorem dX7_walls_48 : decode cX7_walls 48 = .ok (.iload 4, 2) := by decide +kernel
theorem dX7_walls_50 : decode cX7_walls 50 = .ok (.ireturn, 1) := by decide +kernel
theorem dX7_folk_0 : decode cX7_folk 0 = .ok (.iload_n 1, 1) := by decide +kernel
theorem dX7_folk_1 : decode cX7_folk 1 = .ok (.invokestatic 244, 3) := by decide +kernel
theorem dX7_folk_4 : decode cX7_folk 4 = .ok (.ifCond .ne 7, 3) := by decide +kernel
theorem dX7_folk_7 : decode cX7_folk 7 = .ok (.iconst (-1), 1) := by decide +kernel
theorem dX7_folk_8 : decode cX7_folk 8 = .ok (.goto 34, 3) := by decide +kernel
theorem dX7_folk_11 : decode cX7_folk 11 = .ok (.iload_n 2, 1) := by decide +kernel
theorem dX7_folk_12 : decode cX7_folk 12 = .ok (.ifCond .lt 7, 3) := by decide +kernel
theorem dX7_folk_15 : decode cX7_folk 15 = .ok (.iload_n 3, 1) := by decide +kernel
theorem dX7_folk_16 : decode cX7_folk 16 = .ok (.ifCond .ge 8, 3) := by decide +kernel
theorem dX7_folk_19 : decode cX7_folk 19 = .ok (.bipush (-4), 2) := by decide +kernel
theorem dX7_folk_21 : decode cX7_folk 21 = .ok (.goto 21, 3) := by decide +kernel
theorem dX7_folk_24 : decode cX7_folk 24 = .ok (.iload_n 2, 1) := by decide +kernel
theorem dX7_folk_25 : decode cX7_folk 25 = .ok (.bipush 9, 2) := by decide +kernel
theorem dX7_folk_27 : decode cX7_folk 27 = .ok (.if_icmp .gt 9, 3) := by decide +kernel
theorem dX7_folk_30 : decode cX7_folk 30 = .ok (.iload_n 3, 1) := by decide +kernel
theorem dX7_folk_31 : decode cX7_folk 31 = .ok (.bipush 25, 2) := by decide +kernel
theorem dX7_folk_33 : decode cX7_folk 33 = .ok (.if_icmp .le 8, 3) := by decide +kernel
theorem dX7_folk_36 : decode cX7_folk 36 = .ok (.bipush (-6), 2) := by decide +kernel
theorem dX7_folk_38 : decode cX7_folk 38 = .ok (.goto 4, 3) := by decide +kernel
theorem dX7_folk_41 : decode cX7_folk 41 = .ok (.iconst 0, 1) := by decide +kernel
theorem dX7_folk_42 : decode cX7_folk 42 = .ok (.istore 4, 2) := by decide +kernel
theorem dX7_folk_44 : decode cX7_folk 44 = .ok (.iload 4, 2) := by decide +kernel
theorem dX7_folk_46 : decode cX7_folk 46 = .ok (.ifCond .eq 10, 3) := by decide +kernel
theorem dX7_folk_49 : decode cX7_folk 49 = .ok (.aload_n 0, 1) := by decide +kernel
theorem dX7_folk_50 : decode cX7_folk 50 = .ok (.iload 4, 2) := by decide +kernel
theorem dX7_folk_52 : decode cX7_folk 52 = .ok (.invokevirtual 170, 3) := by decide +kernel
theorem dX7_folk_55 : decode cX7_folk 55 = .ok (.ireturn, 1) := by decide +kernel
theorem dX7_folk_56 : decode cX7_folk 56 = .ok (.aload_n 0, 1) := by decide +kernel
theorem dX7_folk_57 : decode cX7_folk 57 = .ok (.invokevirtual 336, 3) := by decide +kernel
theorem dX7_folk_60 : decode cX7_folk 60 = .ok (.bipush 10, 2) := by decide +kernel
theorem dX7_folk_62 : decode cX7_folk 62 = .ok (.aload_n 0, 1) := by decide +kernel
theorem dX7_folk_63 : decode cX7_folk 63 = .ok (.getfield 19, 3) := by decide +kernel
theorem dX7_folk_66 : decode cX7_folk 66 = .ok (.iload_n 1, 1) := by decide +kernel
theorem dX7_folk_67 : decode cX7_folk 67 = .ok (.iaload, 1) := by decide +kernel
theorem dX7_folk_68 : decode cX7_folk 68 = .ok (.imul, 1) := by decide +kernel
theorem dX7_folk_69 : decode cX7_folk 69 = .ok (.aload_n 0, 1) := by decide +kernel
theorem dX7_folk_70 : decode cX7_folk 70 = .ok (.getfield 16, 3) := by decide +kernel
theorem dX7_folk_73 : decode cX7_folk 73 = .ok (.iload_n 1, 1) := by decide +kernel
theorem dX7_folk_74 : decode cX7_folk 74 = .ok (.iaload, 1) := by decide +kernel
theorem dX7_folk_75 : decode cX7_folk 75 = .ok (.iadd, 1) := by decide +kernel
theorem dX7_folk_76 : decode cX7_folk 76 = .ok (.istore 5, 2) := by decide +kernel
theorem dX7_folk_78 : decode cX7_folk 78 = .ok (.aload_n 0, 1) := by decide +kernel
theorem dX7_folk_79 : decode cX7_folk 79 = .ok (.getfield 16, 3) := by decide +kernel
theorem dX7_folk_82 : decode cX7_folk 82 = .ok (.iload_n 1, 1) := by decide +kernel
theorem dX7_folk_83 : decode cX7_folk 83 = .ok (.iload_n 2, 1) := by decide +kernel
theorem dX7_folk_84 : decode cX7_folk 84 = .ok (.iastore, 1) := by decide +kernel
theorem dX7_folk_85 : decode cX7_folk 85 = .ok (.aload_n 0, 1) := by decide +kernel
theorem dX7_folk_86 : decode cX7_folk 86 = .ok (.getfield 19, 3) := by decide +kernel
theorem dX7_folk_89 : decode cX7_folk 89 = .ok (.iload_n 1, 1) := by decide +kernel
theorem dX7_folk_90 : decode cX7_folk 90 = .ok (.iload_n 3, 1) := by decide +kernel
theorem dX7_folk_91 : decode cX7_folk 91 = .ok (.iastore, 1) := by decide +kernel
theorem dX7_folk_92 : decode cX7_folk 92 = .ok (.iload 5, 2) := by decide +kernel
theorem dX7_folk_94 : decode cX7_folk 94 = .ok (.ireturn, 1) := by decide +kernel
theorem dX7_nights_0 : decode cX7_nights 0 = .ok (.iload_n 1, 1) := by decide +kernel
theorem dX7_nights_1 : decode cX7_nights 1 = .ok (.iconst 1, 1) := by decide +kernel
theorem dX7_nights_2 : decode cX7_nights 2 = .ok (.bipush 60, 2) := by decide +kernel
theorem dX7_nights_4 : decode cX7_nights 4 = .ok (.invokestatic 163, 3) := by decide +kernel
theorem dX7_nights_7 : decode cX7_nights 7 = .ok (.istore_n 2, 1) := by decide +kernel
theorem dX7_nights_8 : decode cX7_nights 8 = .ok (.iload_n 2, 1) := by decide +kernel
theorem dX7_nights_9 : decode cX7_nights 9 = .ok (.ifCond .ne 18, 3) := by decide +kernel
