theorem dX0_begin_0 : decode cX0_begin 0 = .ok (.aload_n 0, 1) := by decide +kernel
theorem dX0_begin_1 : decode cX0_begin 1 = .ok (.iload_n 1, 1) := by decide +kernel
theorem dX0_begin_2 : decode cX0_begin 2 = .ok (.putfield 15, 3) := by decide +kernel
theorem dX0_begin_5 : decode cX0_begin 5 = .ok (.aload_n 0, 1) := by decide +kernel
theorem dX0_begin_6 : decode cX0_begin 6 = .ok (.iload_n 2, 1) := by decide +kernel
theorem dX0_begin_7 : decode cX0_begin 7 = .ok (.putfield 19, 3) := by decide +kernel
theorem dX0_begin_10 : decode cX0_begin 10 = .ok (.aload_n 0, 1) := by decide +kernel
theorem dX0_begin_11 : decode cX0_begin 11 = .ok (.iconst 0, 1) := by decide +kernel
theorem dX0_begin_12 : decode cX0_begin 12 = .ok (.putfield 22, 3) := by decide +kernel
theorem dX0_begin_15 : decode cX0_begin 15 = .ok (.aload_n 0, 1) := by decide +kernel
theorem dX0_begin_16 : decode cX0_begin 16 = .ok (.iload_n 3, 1) := by decide +kernel
theorem dX0_begin_17 : decode cX0_begin 17 = .ok (.putfield 25, 3) := by decide +kernel
theorem dX0_begin_20 : decode cX0_begin 20 = .ok (.aload_n 0, 1) := by decide +kernel
theorem dX0_begin_21 : decode cX0_begin 21 = .ok (.iconst 0, 1) := by decide +kernel
theorem dX0_begin_22 : decode cX0_begin 22 = .ok (.putfield 28, 3) := by decide +kernel
theorem dX0_begin_25 : decode cX0_begin 25 = .ok (.aload_n 0, 1) := by decide +kernel
theorem dX0_begin_26 : decode cX0_begin 26 = .ok (.iconst 0, 1) := by decide +kernel
theorem dX0_begin_27 : decode cX0_begin 27 = .ok (.putfield 31, 3) := by decide +kernel
theorem dX0_begin_30 : decode cX0_begin 30 = .ok (.aload_n 0, 1) := by decide +kernel
theorem dX0_begin_31 : decode cX0_begin 31 = .ok (.iconst 0, 1) := by decide +kernel
theorem dX0_begin_32 : decode cX0_begin 32 = .ok (.putfield 34, 3) := by decide +kernel
theorem dX0_begin_35 : decode cX0_begin 35 = .ok (.aload_n 0, 1) := by decide +kernel
theorem dX0_begin_36 : decode cX0_begin 36 = .ok (.iconst 0, 1) := by decide +kernel
theorem dX0_begin_37 : decode cX0_begin 37 = .ok (.putfield 37, 3) := by decide +kernel
theorem dX0_begin_40 : decode cX0_begin 40 = .ok (.return_, 1) := by decide +kernel
theorem dX0_copyName_0 : decode cX0_copyName 0 = .ok (.aload_n 0, 1) := by decide +kernel
theorem dX0_copyName_1 : decode cX0_copyName 1 = .ok (.aload_n 1, 1) := by decide +kernel
theorem dX0_copyName_2 : decode cX0_copyName 2 = .ok (.getfield 22, 3) := by decide +kernel
theorem dX0_copyName_5 : decode cX0_copyName 5 = .ok (.putfield 22, 3) := by decide +kernel
theorem dX0_copyName_8 : decode cX0_copyName 8 = .ok (.aload_n 1, 1) := by decide +kernel
theorem dX0_copyName_9 : decode cX0_copyName 9 = .ok (.getfield 9, 3) := by decide +kernel
theorem dX0_copyName_12 : decode cX0_copyName 12 = .ok (.iconst 0, 1) := by decide +kernel
theorem dX0_copyName_13 : decode cX0_copyName 13 = .ok (.aload_n 0, 1) := by decide +kernel
theorem dX0_copyName_14 : decode cX0_copyName 14 = .ok (.getfield 9, 3) := by decide +kernel
theorem dX0_copyName_17 : decode cX0_copyName 17 = .ok (.iconst 0, 1) := by decide +kernel
theorem dX0_copyName_18 : decode cX0_copyName 18 = .ok (.bipush 6, 2) := by decide +kernel
theorem dX0_copyName_20 : decode cX0_copyName 20 = .ok (.invokestatic 45, 3) := by decide +kernel
theorem dX0_copyName_23 : decode cX0_copyName 23 = .ok (.return_, 1) := by decide +kernel
theorem dX0_become_0 : decode cX0_become 0 = .ok (.aload_n 0, 1) := by decide +kernel
theorem dX0_become_1 : decode cX0_become 1 = .ok (.aload_n 1, 1) := by decide +kernel
theorem dX0_become_2 : decode cX0_become 2 = .ok (.getfield 15, 3) := by decide +kernel
theorem dX0_become_5 : decode cX0_become 5 = .ok (.putfield 15, 3) := by decide +kernel
theorem dX0_become_8 : decode cX0_become 8 = .ok (.aload_n 0, 1) := by decide +kernel
theorem dX0_become_9 : decode cX0_become 9 = .ok (.aload_n 1, 1) := by decide +kernel
theorem dX0_become_10 : decode cX0_become 10 = .ok (.getfield 19, 3) := by decide +kernel
theorem dX0_become_13 : decode cX0_become 13 = .ok (.putfield 19, 3) := by decide +kernel
theorem dX0_become_16 : decode cX0_become 16 = .ok (.aload_n 0, 1) := by decide +kernel
theorem dX0_become_17 : decode cX0_become 17 = .ok (.aload_n 1, 1) := by decide +kernel
theorem dX0_become_18 : decode cX0_become 18 = .ok (.invokevirtual 41, 3) := by decide +kernel
theorem dX0_become_21 : decode cX0_become 21 = .ok (.aload_n 0, 1) := by decide +kernel
theorem dX0_become_22 : decode cX0_become 22 = .ok (.aload_n 1, 1) := by decide +kernel
theorem dX0_become_23 : decode cX0_become 23 = .ok (.getfield 25, 3) := by decide +kernel
theorem dX0_become_26 : decode cX0_become 26 = .ok (.putfield 25, 3) := by decide +kernel
theorem dX0_become_29 : decode cX0_become 29 = .ok (.aload_n 0, 1) := by decide +kernel
theorem dX0_become_30 : decode cX0_become 30 = .ok (.aload_n 1, 1) := by decide +kernel
theorem dX0_become_31 : decode cX0_become 31 = .ok (.getfield 28, 3) := by decide +kernel
theorem dX0_become_34 : decode cX0_become 34 = .ok (.putfield 28, 3) := by decide +kernel
theorem dX0_become_37 : decode cX0_become 37 = .ok (.aload_n 0, 1) := by decide +kernel
theorem dX0_become_38 : decode cX0_become 38 = .ok (.aload_n 1, 1) := by decide +kernel
theorem dX0_become_39 : decode cX0_become 39 = .ok (.getfield 31, 3) := by decide +kernel
theorem dX0_become_42 : decode cX0_become 42 = .ok (.putfield 31, 3) := by decide +kernel
theorem dX0_become_45 : decode cX0_become 45 = .ok (.aload_n 0, 1) := by decide +kernel
theorem dX0_become_46 : decode cX0_become 46 = .ok (.aload_n 1, 1) := by decide +kernel
theorem dX0_become_47 : decode cX0_become 47 = .ok (.getfield 34, 3) := by decide +kernel
theorem dX0_become_50 : decode cX0_become 50 = .ok (.putfield 34, 3) := by decide +kernel
theorem dX0_become_53 : decode cX0_become 53 = .ok (.aload_n 0, 1) := by decide +kernel
theorem dX0_become_54 : decode cX0_become 54 = .ok (.aload_n 1, 1) := by decide +kernel
theorem dX0_become_55 : decode cX0_become 55 = .ok (.getfield 37, 3) := by decide +kernel
theorem dX0_become_58 : decode cX0_become 58 = .ok (.putfield 37, 3) := by decide +kernel
theorem dX0_become_61 : decode cX0_become 61 = .ok (.return_, 1) := by decide +kernel
theorem dX0_steps_0 : decode cX0_steps 0 = .ok (.aload_n 0, 1) := by decide +kernel
theorem dX0_steps_1 : decode cX0_steps 1 = .ok (.getfield 15, 3) := by decide +kernel
theorem dX0_steps_4 : decode cX0_steps 4 = .ok (.tableswitch 73 1 7 #[44, 46, 73, 73, 55, 62, 71], 44) := by decide +kernel
theorem dX0_steps_48 : decode cX0_steps 48 = .ok (.iconst 2, 1) := by decide +kernel
theorem dX0_steps_49 : decode cX0_steps 49 = .ok (.ireturn, 1) := by decide +kernel
theorem dX0_steps_50 : decode cX0_steps 50 = .ok (.aload_n 0, 1) := by decide +kernel
theorem dX0_steps_51 : decode cX0_steps 51 = .ok (.getfield 19, 3) := by decide +kernel
theorem dX0_steps_54 : decode cX0_steps 54 = .ok (.iconst 3, 1) := by decide +kernel
theorem dX0_steps_55 : decode cX0_steps 55 = .ok (.idiv, 1) := by decide +kernel
theorem dX0_steps_56 : decode cX0_steps 56 = .ok (.iconst 1, 1) := by decide +kernel
theorem dX0_steps_57 : decode cX0_steps 57 = .ok (.iadd, 1) := by decide +kernel
theorem dX0_steps_58 : decode cX0_steps 58 = .ok (.ireturn, 1) := by decide +kernel
theorem dX0_steps_59 : decode cX0_steps 59 = .ok (.aload_n 0, 1) := by decide +kernel
theorem dX0_steps_60 : decode cX0_steps 60 = .ok (.getfield 22, 3) := by decide +kernel
theorem dX0_steps_63 : decode cX0_steps 63 = .ok (.iconst 2, 1) := by decide +kernel
theorem dX0_steps_64 : decode cX0_steps 64 = .ok (.idiv, 1) := by decide +kernel
theorem dX0_steps_65 : decode cX0_steps 65 = .ok (.ireturn, 1) := by decide +kernel
theorem dX0_steps_66 : decode cX0_steps 66 = .ok (.aload_n 0, 1) := by decide +kernel
theorem dX0_steps_67 : decode cX0_steps 67 = .ok (.getfield 19, 3) := by decide +kernel
theorem dX0_steps_70 : decode cX0_steps 70 = .ok (.iconst 3, 1) := by decide +kernel
theorem dX0_steps_71 : decode cX0_steps 71 = .ok (.idiv, 1) := by decide +kernel
theorem dX0_steps_72 : decode cX0_steps 72 = .ok (.iconst 2, 1) := by decide +kernel
theorem dX0_steps_73 : decode cX0_steps 73 = .ok (.iadd, 1) := by decide +kernel
theorem dX0_steps_74 : decode cX0_steps 74 = .ok (.ireturn, 1) := by decide +kernel
theorem dX0_steps_75 : decode cX0_steps 75 = .ok (.iconst 2, 1) := by decide +kernel
theorem dX0_steps_76 : decode cX0_steps 76 = .ok (.ireturn, 1) := by decide +kernel
theorem dX0_steps_77 : decode cX0_steps 77 = .ok (.iconst 1, 1) := by decide +kernel
theorem dX0_steps_78 : decode cX0_steps 78 = .ok (.ireturn, 1) := by decide +kernel
theorem dX0_weight_0 : decode cX0_weight 0 = .ok (.aload_n 0, 1) := by decide +kernel
theorem dX0_weight_1 : decode cX0_weight 1 = .ok (.getfield 19, 3) := by decide +kernel
theorem dX0_weight_4 : decode cX0_weight 4 = .ok (.iconst 1, 1) := by decide +kernel
theorem dX0_weight_5 : decode cX0_weight 5 = .ok (.iadd, 1) := by decide +kernel
theorem dX0_weight_6 : decode cX0_weight 6 = .ok (.istore_n 1, 1) := by decide +kernel
theorem dX0_weight_7 : decode cX0_weight 7 = .ok (.aload_n 0, 1) := by decide +kernel
theorem dX0_weight_8 : decode cX0_weight 8 = .ok (.getfield 15, 3) := by decide +kernel
theorem dX0_weight_11 : decode cX0_weight 11 = .ok (.tableswitch 78 1 7 #[41, 45, 48, 52, 58, 64, 72], 41) := by decide +kernel
theorem dX0_weight_52 : decode cX0_weight 52 = .ok (.iconst 2, 1) := by decide +kernel
theorem dX0_weight_53 : decode cX0_weight 53 = .ok (.iload_n 1, 1) := by decide +kernel
theorem dX0_weight_54 : decode cX0_weight 54 = .ok (.imul, 1) := by decide +kernel
theorem dX0_weight_55 : decode cX0_weight 55 = .ok (.ireturn, 1) := by decide +kernel
theorem dX0_weight_56 : decode cX0_weight 56 = .ok (.bipush 9, 2) := by decide +kernel
theorem dX0_weight_58 : decode cX0_weight 58 = .ok (.ireturn, 1) := by decide +kernel
theorem dX0_weight_59 : decode cX0_weight 59 = .ok (.iload_n 1, 1) := by decide +kernel
theorem dX0_weight_60 : decode cX0_weight 60 = .ok (.iconst 2, 1) := by decide +kernel
theorem dX0_weight_61 : decode cX0_weight 61 = .ok (.idiv, 1) := by decide +kernel
theorem dX0_weight_62 : decode cX0_weight 62 = .ok (.ireturn, 1) := by decide +kernel
theorem dX0_weight_63 : decode cX0_weight 63 = .ok (.iconst 2, 1) := by decide +kernel
theorem dX0_weight_64 : decode cX0_weight 64 = .ok (.iload_n 1, 1) := by decide +kernel
theorem dX0_weight_65 : decode cX0_weight 65 = .ok (.imul, 1) := by decide +kernel
theorem dX0_weight_66 : decode cX0_weight 66 = .ok (.iconst 3, 1) := by decide +kernel
theorem dX0_weight_67 : decode cX0_weight 67 = .ok (.iadd, 1) := by decide +kernel
theorem dX0_weight_68 : decode cX0_weight 68 = .ok (.ireturn, 1) := by decide +kernel
theorem dX0_weight_69 : decode cX0_weight 69 = .ok (.iload_n 1, 1) := by decide +kernel
theorem dX0_weight_70 : decode cX0_weight 70 = .ok (.iconst 2, 1) := by decide +kernel
theorem dX0_weight_71 : decode cX0_weight 71 = .ok (.idiv, 1) := by decide +kernel
theorem dX0_weight_72 : decode cX0_weight 72 = .ok (.iconst 2, 1) := by decide +kernel
theorem dX0_weight_73 : decode cX0_weight 73 = .ok (.iadd, 1) := by decide +kernel
theorem dX0_weight_74 : decode cX0_weight 74 = .ok (.ireturn, 1) := by decide +kernel
theorem dX0_weight_75 : decode cX0_weight 75 = .ok (.bipush 9, 2) := by decide +kernel
theorem dX0_weight_77 : decode cX0_weight 77 = .ok (.aload_n 0, 1) := by decide +kernel
theorem dX0_weight_78 : decode cX0_weight 78 = .ok (.getfield 19, 3) := by decide +kernel
theorem dX0_weight_81 : decode cX0_weight 81 = .ok (.isub, 1) := by decide +kernel
theorem dX0_weight_82 : decode cX0_weight 82 = .ok (.ireturn, 1) := by decide +kernel
theorem dX0_weight_83 : decode cX0_weight 83 = .ok (.iconst 2, 1) := by decide +kernel
theorem dX0_weight_84 : decode cX0_weight 84 = .ok (.iload_n 1, 1) := by decide +kernel
theorem dX0_weight_85 : decode cX0_weight 85 = .ok (.imul, 1) := by decide +kernel
theorem dX0_weight_86 : decode cX0_weight 86 = .ok (.iconst 3, 1) := by decide +kernel
theorem dX0_weight_87 : decode cX0_weight 87 = .ok (.iadd, 1) := by decide +kernel
theorem dX0_weight_88 : decode cX0_weight 88 = .ok (.ireturn, 1) := by decide +kernel
theorem dX0_weight_89 : decode cX0_weight 89 = .ok (.iload_n 1, 1) := by decide +kernel
theorem dX0_weight_90 : decode cX0_weight 90 = .ok (.ireturn, 1) := by decide +kernel
theorem dX0_isVowel_0 : decode cX0_isVowel 0 = .ok (.bipush 97, 2) := by decide +kernel
theorem dX0_isVowel_2 : decode cX0_isVowel 2 = .ok (.iload_n 0, 1) := by decide +kernel
theorem dX0_isVowel_3 : decode cX0_isVowel 3 = .ok (.iadd, 1) := by decide +kernel
theorem dX0_isVowel_4 : decode cX0_isVowel 4 = .ok (.lookupswitch 54 #[(97, 52), (101, 52), (105, 52), (111, 52), (117, 52)], 52) := by decide +kernel
theorem dX0_isVowel_56 : decode cX0_isVowel 56 = .ok (.iconst 1, 1) := by decide +kernel
theorem dX0_isVowel_57 : decode cX0_isVowel 57 = .ok (.ireturn, 1) := by decide +kernel
theorem dX0_isVowel_58 : decode cX0_isVowel 58 = .ok (.iconst 0, 1) := by decide +kernel
theorem dX0_isVowel_59 : decode cX0_isVowel 59 = .ok (.ireturn, 1) := by decide +kernel
theorem dX0_veers_0 : decode cX0_veers 0 = .ok (.iload_n 1, 1) := by decide +kernel
theorem dX0_veers_1 : decode cX0_veers 1 = .ok (.iconst 4, 1) := by decide +kernel
theorem dX0_veers_2 : decode cX0_veers 2 = .ok (.irem, 1) := by decide +kernel
theorem dX0_veers_3 : decode cX0_veers 3 = .ok (.ifCond .ne 7, 3) := by decide +kernel
theorem dX0_veers_6 : decode cX0_veers 6 = .ok (.iconst 1, 1) := by decide +kernel
theorem dX0_veers_7 : decode cX0_veers 7 = .ok (.goto 4, 3) := by decide +kernel
theorem dX0_veers_10 : decode cX0_veers 10 = .ok (.iconst 0, 1) := by decide +kernel
theorem dX0_veers_11 : decode cX0_veers 11 = .ok (.istore_n 2, 1) := by decide +kernel
theorem dX0_veers_12 : decode cX0_veers 12 = .ok (.iload_n 1, 1) := by decide +kernel
theorem dX0_veers_13 : decode cX0_veers 13 = .ok (.aload_n 0, 1) := by decide +kernel
theorem dX0_veers_14 : decode cX0_veers 14 = .ok (.getfield 19, 3) := by decide +kernel
theorem dX0_veers_17 : decode cX0_veers 17 = .ok (.iconst 2, 1) := by decide +kernel
theorem dX0_veers_18 : decode cX0_veers 18 = .ok (.iadd, 1) := by decide +kernel
theorem dX0_veers_19 : decode cX0_veers 19 = .ok (.irem, 1) := by decide +kernel
theorem dX0_veers_20 : decode cX0_veers 20 = .ok (.ifCond .ne 7, 3) := by decide +kernel
theorem dX0_veers_23 : decode cX0_veers 23 = .ok (.iconst 3, 1) := by decide +kernel
theorem dX0_veers_24 : decode cX0_veers 24 = .ok (.goto 4, 3) := by decide +kernel
theorem dX0_veers_27 : decode cX0_veers 27 = .ok (.iconst 0, 1) := by decide +kernel
theorem dX0_veers_28 : decode cX0_veers 28 = .ok (.istore_n 3, 1) := by decide +kernel
theorem dX0_veers_29 : decode cX0_veers 29 = .ok (.aload_n 0, 1) := by decide +kernel
theorem dX0_veers_30 : decode cX0_veers 30 = .ok (.getfield 34, 3) := by decide +kernel
theorem dX0_veers_33 : decode cX0_veers 33 = .ok (.ifCond .ne 7, 3) := by decide +kernel
theorem dX0_veers_36 : decode cX0_veers 36 = .ok (.iconst 2, 1) := by decide +kernel
theorem dX0_veers_37 : decode cX0_veers 37 = .ok (.goto 4, 3) := by decide +kernel
theorem dX0_veers_40 : decode cX0_veers 40 = .ok (.iload_n 2, 1) := by decide +kernel
theorem dX0_veers_41 : decode cX0_veers 41 = .ok (.istore 4, 2) := by decide +kernel
theorem dX0_veers_43 : decode cX0_veers 43 = .ok (.aload_n 0, 1) := by decide +kernel
theorem dX0_veers_44 : decode cX0_veers 44 = .ok (.getfield 15, 3) := by decide +kernel
theorem dX0_veers_47 : decode cX0_veers 47 = .ok (.tableswitch 90 1 7 #[41, 90, 43, 45, 48, 52, 64], 41) := by decide +kernel
theorem dX0_veers_88 : decode cX0_veers 88 = .ok (.iload_n 2, 1) := by decide +kernel
theorem dX0_veers_89 : decode cX0_veers 89 = .ok (.ireturn, 1) := by decide +kernel
theorem dX0_veers_90 : decode cX0_veers 90 = .ok (.iload_n 3, 1) := by decide +kernel
theorem dX0_veers_91 : decode cX0_veers 91 = .ok (.ireturn, 1) := by decide +kernel
theorem dX0_veers_92 : decode cX0_veers 92 = .ok (.iload 4, 2) := by decide +kernel
theorem dX0_veers_94 : decode cX0_veers 94 = .ok (.ireturn, 1) := by decide +kernel
theorem dX0_veers_95 : decode cX0_veers 95 = .ok (.iload_n 3, 1) := by decide +kernel
theorem dX0_veers_96 : decode cX0_veers 96 = .ok (.iconst 1, 1) := by decide +kernel
theorem dX0_veers_97 : decode cX0_veers 97 = .ok (.iadd, 1) := by decide +kernel
theorem dX0_veers_98 : decode cX0_veers 98 = .ok (.ireturn, 1) := by decide +kernel
theorem dX0_veers_99 : decode cX0_veers 99 = .ok (.iload_n 1, 1) := by decide +kernel
theorem dX0_veers_100 : decode cX0_veers 100 = .ok (.iconst 2, 1) := by decide +kernel
theorem dX0_veers_101 : decode cX0_veers 101 = .ok (.irem, 1) := by decide +kernel
theorem dX0_veers_102 : decode cX0_veers 102 = .ok (.ifCond .ne 7, 3) := by decide +kernel
theorem dX0_veers_105 : decode cX0_veers 105 = .ok (.iconst 0, 1) := by decide +kernel
theorem dX0_veers_106 : decode cX0_veers 106 = .ok (.goto 4, 3) := by decide +kernel
theorem dX0_veers_109 : decode cX0_veers 109 = .ok (.iconst 1, 1) := by decide +kernel
theorem dX0_veers_110 : decode cX0_veers 110 = .ok (.ireturn, 1) := by decide +kernel
theorem dX0_veers_111 : decode cX0_veers 111 = .ok (.aload_n 0, 1) := by decide +kernel
theorem dX0_veers_112 : decode cX0_veers 112 = .ok (.getfield 22, 3) := by decide +kernel
theorem dX0_veers_115 : decode cX0_veers 115 = .ok (.ifCond .le 19, 3) := by decide +kernel
theorem dX0_veers_118 : decode cX0_veers 118 = .ok (.aload_n 0, 1) := by decide +kernel
theorem dX0_veers_119 : decode cX0_veers 119 = .ok (.getfield 9, 3) := by decide +kernel
theorem dX0_veers_122 : decode cX0_veers 122 = .ok (.iconst 0, 1) := by decide +kernel
theorem dX0_veers_123 : decode cX0_veers 123 = .ok (.iaload, 1) := by decide +kernel
theorem dX0_veers_124 : decode cX0_veers 124 = .ok (.invokestatic 51, 3) := by decide +kernel
theorem dX0_veers_127 : decode cX0_veers 127 = .ok (.ifCond .eq 7, 3) := by decide +kernel
theorem dX0_veers_130 : decode cX0_veers 130 = .ok (.iconst 3, 1) := by decide +kernel
theorem dX0_veers_131 : decode cX0_veers 131 = .ok (.goto 5, 3) := by decide +kernel
theorem dX0_veers_134 : decode cX0_veers 134 = .ok (.iload 4, 2) := by decide +kernel
theorem dX0_veers_136 : decode cX0_veers 136 = .ok (.ireturn, 1) := by decide +kernel
theorem dX0_veers_137 : decode cX0_veers 137 = .ok (.iconst 0, 1) := by decide +kernel
theorem dX0_veers_138 : decode cX0_veers 138 = .ok (.ireturn, 1) := by decide +kernel
theorem dX0_enough_0 : decode cX0_enough 0 = .ok (.aload_n 0, 1) := by decide +kernel
theorem dX0_enough_1 : decode cX0_enough 1 = .ok (.getfield 15, 3) := by decide +kernel
theorem dX0_enough_4 : decode cX0_enough 4 = .ok (.tableswitch 73 0 7 #[48, 51, 54, 73, 57, 73, 60, 63], 48) := by decide +kernel
theorem dX0_enough_52 : decode cX0_enough 52 = .ok (.bipush 20, 2) := by decide +kernel
theorem dX0_enough_54 : decode cX0_enough 54 = .ok (.ireturn, 1) := by decide +kernel
theorem dX0_enough_55 : decode cX0_enough 55 = .ok (.bipush 40, 2) := by decide +kernel
theorem dX0_enough_57 : decode cX0_enough 57 = .ok (.ireturn, 1) := by decide +kernel
theorem dX0_enough_58 : decode cX0_enough 58 = .ok (.bipush 99, 2) := by decide +kernel
theorem dX0_enough_60 : decode cX0_enough 60 = .ok (.ireturn, 1) := by decide +kernel
theorem dX0_enough_61 : decode cX0_enough 61 = .ok (.bipush 35, 2) := by decide +kernel
theorem dX0_enough_63 : decode cX0_enough 63 = .ok (.ireturn, 1) := by decide +kernel
theorem dX0_enough_64 : decode cX0_enough 64 = .ok (.bipush 49, 2) := by decide +kernel
theorem dX0_enough_66 : decode cX0_enough 66 = .ok (.ireturn, 1) := by decide +kernel
theorem dX0_enough_67 : decode cX0_enough 67 = .ok (.bipush 35, 2) := by decide +kernel
theorem dX0_enough_69 : decode cX0_enough 69 = .ok (.aload_n 0, 1) := by decide +kernel
theorem dX0_enough_70 : decode cX0_enough 70 = .ok (.getfield 19, 3) := by decide +kernel
theorem dX0_enough_73 : decode cX0_enough 73 = .ok (.iconst 2, 1) := by decide +kernel
theorem dX0_enough_74 : decode cX0_enough 74 = .ok (.idiv, 1) := by decide +kernel
theorem dX0_enough_75 : decode cX0_enough 75 = .ok (.isub, 1) := by decide +kernel
theorem dX0_enough_76 : decode cX0_enough 76 = .ok (.ireturn, 1) := by decide +kernel
theorem dX0_enough_77 : decode cX0_enough 77 = .ok (.aload_n 0, 1) := by decide +kernel
theorem dX0_enough_78 : decode cX0_enough 78 = .ok (.getfield 19, 3) := by decide +kernel
theorem dX0_enough_81 : decode cX0_enough 81 = .ok (.iconst 5, 1) := by decide +kernel
theorem dX0_enough_82 : decode cX0_enough 82 = .ok (.iadd, 1) := by decide +kernel
theorem dX0_enough_83 : decode cX0_enough 83 = .ok (.ireturn, 1) := by decide +kernel
theorem dX0_goes_0 : decode cX0_goes 0 = .ok (.aload_n 0, 1) := by decide +kernel
theorem dX0_goes_1 : decode cX0_goes 1 = .ok (.getfield 37, 3) := by decide +kernel
theorem dX0_goes_4 : decode cX0_goes 4 = .ok (.ifCond .ne 15, 3) := by decide +kernel
theorem dX0_goes_7 : decode cX0_goes 7 = .ok (.aload_n 0, 1) := by decide +kernel
theorem dX0_goes_8 : decode cX0_goes 8 = .ok (.getfield 31, 3) := by decide +kernel
theorem dX0_goes_11 : decode cX0_goes 11 = .ok (.iconst 4, 1) := by decide +kernel
theorem dX0_goes_12 : decode cX0_goes 12 = .ok (.if_icmp .eq 7, 3) := by decide +kernel
theorem dX0_goes_15 : decode cX0_goes 15 = .ok (.iconst 1, 1) := by decide +kernel
theorem dX0_goes_16 : decode cX0_goes 16 = .ok (.goto 4, 3) := by decide +kernel
theorem dX0_goes_19 : decode cX0_goes 19 = .ok (.iconst 0, 1) := by decide +kernel
theorem dX0_goes_20 : decode cX0_goes 20 = .ok (.ireturn, 1) := by decide +kernel
theorem dX0_quartersByWord_0 : decode cX0_quartersByWord 0 = .ok (.aload_n 0, 1) := by decide +kernel
theorem dX0_quartersByWord_1 : decode cX0_quartersByWord 1 = .ok (.getfield 31, 3) := by decide +kernel
theorem dX0_quartersByWord_4 : decode cX0_quartersByWord 4 = .ok (.tableswitch 34 1 3 #[28, 30, 32], 28) := by decide +kernel
theorem dX0_quartersByWord_32 : decode cX0_quartersByWord 32 = .ok (.iconst 3, 1) := by decide +kernel
theorem dX0_quartersByWord_33 : decode cX0_quartersByWord 33 = .ok (.ireturn, 1) := by decide +kernel
theorem dX0_quartersByWord_34 : decode cX0_quartersByWord 34 = .ok (.iconst 1, 1) := by decide +kernel
theorem dX0_quartersByWord_35 : decode cX0_quartersByWord 35 = .ok (.ireturn, 1) := by decide +kernel
theorem dX0_quartersByWord_36 : decode cX0_quartersByWord 36 = .ok (.iconst 2, 1) := by decide +kernel
theorem dX0_quartersByWord_37 : decode cX0_quartersByWord 37 = .ok (.ireturn, 1) := by decide +kernel
theorem dX0_quartersByWord_38 : decode cX0_quartersByWord 38 = .ok (.iconst 0, 1) := by decide +kernel
theorem dX0_quartersByWord_39 : decode cX0_quartersByWord 39 = .ok (.ireturn, 1) := by decide +kernel
theorem dX0_turn_0 : decode cX0_turn 0 = .ok (.aload_n 0, 1) := by decide +kernel
theorem dX0_turn_1 : decode cX0_turn 1 = .ok (.aload_n 0, 1) := by decide +kernel
theorem dX0_turn_2 : decode cX0_turn 2 = .ok (.getfield 28, 3) := by decide +kernel
theorem dX0_turn_5 : decode cX0_turn 5 = .ok (.iload_n 1, 1) := by decide +kernel
theorem dX0_turn_6 : decode cX0_turn 6 = .ok (.iadd, 1) := by decide +kernel
theorem dX0_turn_7 : decode cX0_turn 7 = .ok (.iconst 4, 1) := by decide +kernel
theorem dX0_turn_8 : decode cX0_turn 8 = .ok (.irem, 1) := by decide +kernel
theorem dX0_turn_9 : decode cX0_turn 9 = .ok (.putfield 28, 3) := by decide +kernel
theorem dX0_turn_12 : decode cX0_turn 12 = .ok (.return_, 1) := by decide +kernel
theorem dX0_gain_0 : decode cX0_gain 0 = .ok (.aload_n 0, 1) := by decide +kernel
theorem dX0_gain_1 : decode cX0_gain 1 = .ok (.aload_n 0, 1) := by decide +kernel
theorem dX0_gain_2 : decode cX0_gain 2 = .ok (.getfield 34, 3) := by decide +kernel
theorem dX0_gain_5 : decode cX0_gain 5 = .ok (.iload_n 1, 1) := by decide +kernel
theorem dX0_gain_6 : decode cX0_gain 6 = .ok (.iadd, 1) := by decide +kernel
theorem dX0_gain_7 : decode cX0_gain 7 = .ok (.bipush 99, 2) := by decide +kernel
theorem dX0_gain_9 : decode cX0_gain 9 = .ok (.invokestatic 55, 3) := by decide +kernel
theorem dX0_gain_12 : decode cX0_gain 12 = .ok (.putfield 34, 3) := by decide +kernel
theorem dX0_gain_15 : decode cX0_gain 15 = .ok (.return_, 1) := by decide +kernel
theorem dX0_hasFullName_0 : decode cX0_hasFullName 0 = .ok (.aload_n 0, 1) := by decide +kernel
theorem dX0_hasFullName_1 : decode cX0_hasFullName 1 = .ok (.getfield 22, 3) := by decide +kernel
theorem dX0_hasFullName_4 : decode cX0_hasFullName 4 = .ok (.bipush 6, 2) := by decide +kernel
theorem dX0_hasFullName_6 : decode cX0_hasFullName 6 = .ok (.if_icmp .lt 7, 3) := by decide +kernel
theorem dX0_hasFullName_9 : decode cX0_hasFullName 9 = .ok (.iconst 1, 1) := by decide +kernel
theorem dX0_hasFullName_10 : decode cX0_hasFullName 10 = .ok (.goto 4, 3) := by decide +kernel
theorem dX0_hasFullName_13 : decode cX0_hasFullName 13 = .ok (.iconst 0, 1) := by decide +kernel
theorem dX0_hasFullName_14 : decode cX0_hasFullName 14 = .ok (.ireturn, 1) := by decide +kernel
theorem dX0_lengthenName_0 : decode cX0_lengthenName 0 = .ok (.aload_n 0, 1) := by decide +kernel
theorem dX0_lengthenName_1 : decode cX0_lengthenName 1 = .ok (.invokevirtual 61, 3) := by decide +kernel
theorem dX0_lengthenName_4 : decode cX0_lengthenName 4 = .ok (.ifCond .ne 23, 3) := by decide +kernel
theorem dX0_lengthenName_7 : decode cX0_lengthenName 7 = .ok (.aload_n 0, 1) := by decide +kernel
theorem dX0_lengthenName_8 : decode cX0_lengthenName 8 = .ok (.getfield 9, 3) := by decide +kernel
theorem dX0_lengthenName_11 : decode cX0_lengthenName 11 = .ok (.aload_n 0, 1) := by decide +kernel
theorem dX0_lengthenName_12 : decode cX0_lengthenName 12 = .ok (.getfield 22, 3) := by decide +kernel
theorem dX0_lengthenName_15 : decode cX0_lengthenName 15 = .ok (.iload_n 1, 1) := by decide +kernel
theorem dX0_lengthenName_16 : decode cX0_lengthenName 16 = .ok (.iastore, 1) := by decide +kernel
theorem dX0_lengthenName_17 : decode cX0_lengthenName 17 = .ok (.aload_n 0, 1) := by decide +kernel
theorem dX0_lengthenName_18 : decode cX0_lengthenName 18 = .ok (.dup, 1) := by decide +kernel
theorem dX0_lengthenName_19 : decode cX0_lengthenName 19 = .ok (.getfield 22, 3) := by decide +kernel
theorem dX0_lengthenName_22 : decode cX0_lengthenName 22 = .ok (.iconst 1, 1) := by decide +kernel
theorem dX0_lengthenName_23 : decode cX0_lengthenName 23 = .ok (.iadd, 1) := by decide +kernel
theorem dX0_lengthenName_24 : decode cX0_lengthenName 24 = .ok (.putfield 22, 3) := by decide +kernel
theorem dX0_lengthenName_27 : decode cX0_lengthenName 27 = .ok (.return_, 1) := by decide +kernel
theorem dX0_hasLetter_0 : decode cX0_hasLetter 0 = .ok (.iconst 0, 1) := by decide +kernel
theorem dX0_hasLetter_1 : decode cX0_hasLetter 1 = .ok (.istore_n 2, 1) := by decide +kernel
theorem dX0_hasLetter_2 : decode cX0_hasLetter 2 = .ok (.iload_n 2, 1) := by decide +kernel
theorem dX0_hasLetter_3 : decode cX0_hasLetter 3 = .ok (.aload_n 0, 1) := by decide +kernel
theorem dX0_hasLetter_4 : decode cX0_hasLetter 4 = .ok (.getfield 22, 3) := by decide +kernel
theorem dX0_hasLetter_7 : decode cX0_hasLetter 7 = .ok (.if_icmp .ge 21, 3) := by decide +kernel
theorem dX0_hasLetter_10 : decode cX0_hasLetter 10 = .ok (.aload_n 0, 1) := by decide +kernel
theorem dX0_hasLetter_11 : decode cX0_hasLetter 11 = .ok (.getfield 9, 3) := by decide +kernel
theorem dX0_hasLetter_14 : decode cX0_hasLetter 14 = .ok (.iload_n 2, 1) := by decide +kernel
theorem dX0_hasLetter_15 : decode cX0_hasLetter 15 = .ok (.iaload, 1) := by decide +kernel
theorem dX0_hasLetter_16 : decode cX0_hasLetter 16 = .ok (.iload_n 1, 1) := by decide +kernel
theorem dX0_hasLetter_17 : decode cX0_hasLetter 17 = .ok (.if_icmp .ne 5, 3) := by decide +kernel
theorem dX0_hasLetter_20 : decode cX0_hasLetter 20 = .ok (.iconst 1, 1) := by decide +kernel
theorem dX0_hasLetter_21 : decode cX0_hasLetter 21 = .ok (.ireturn, 1) := by decide +kernel
theorem dX0_hasLetter_22 : decode cX0_hasLetter 22 = .ok (.iinc 2 1, 3) := by decide +kernel
theorem dX0_hasLetter_25 : decode cX0_hasLetter 25 = .ok (.goto (-23), 3) := by decide +kernel
theorem dX0_hasLetter_28 : decode cX0_hasLetter 28 = .ok (.iconst 0, 1) := by decide +kernel
theorem dX0_hasLetter_29 : decode cX0_hasLetter 29 = .ok (.ireturn, 1) := by decide +kernel
theorem dX0_vowelsInName_0 : decode cX0_vowelsInName 0 = .ok (.iconst 0, 1) := by decide +kernel
theorem dX0_vowelsInName_1 : decode cX0_vowelsInName 1 = .ok (.istore_n 1, 1) := by decide +kernel
theorem dX0_vowelsInName_2 : decode cX0_vowelsInName 2 = .ok (.iconst 0, 1) := by decide +kernel
theorem dX0_vowelsInName_3 : decode cX0_vowelsInName 3 = .ok (.istore_n 2, 1) := by decide +kernel
theorem dX0_vowelsInName_4 : decode cX0_vowelsInName 4 = .ok (.iload_n 2, 1) := by decide +kernel
theorem dX0_vowelsInName_5 : decode cX0_vowelsInName 5 = .ok (.aload_n 0, 1) := by decide +kernel
theorem dX0_vowelsInName_6 : decode cX0_vowelsInName 6 = .ok (.getfield 22, 3) := by decide +kernel
theorem dX0_vowelsInName_9 : decode cX0_vowelsInName 9 = .ok (.if_icmp .ge 24, 3) := by decide +kernel
theorem dX0_vowelsInName_12 : decode cX0_vowelsInName 12 = .ok (.aload_n 0, 1) := by decide +kernel
theorem dX0_vowelsInName_13 : decode cX0_vowelsInName 13 = .ok (.getfield 9, 3) := by decide +kernel
theorem dX0_vowelsInName_16 : decode cX0_vowelsInName 16 = .ok (.iload_n 2, 1) := by decide +kernel
theorem dX0_vowelsInName_17 : decode cX0_vowelsInName 17 = .ok (.iaload, 1) := by decide +kernel
theorem dX0_vowelsInName_18 : decode cX0_vowelsInName 18 = .ok (.invokestatic 51, 3) := by decide +kernel
theorem dX0_vowelsInName_21 : decode cX0_vowelsInName 21 = .ok (.ifCond .eq 6, 3) := by decide +kernel
theorem dX0_vowelsInName_24 : decode cX0_vowelsInName 24 = .ok (.iinc 1 1, 3) := by decide +kernel
theorem dX0_vowelsInName_27 : decode cX0_vowelsInName 27 = .ok (.iinc 2 1, 3) := by decide +kernel
theorem dX0_vowelsInName_30 : decode cX0_vowelsInName 30 = .ok (.goto (-26), 3) := by decide +kernel
theorem dX0_vowelsInName_33 : decode cX0_vowelsInName 33 = .ok (.iload_n 1, 1) := by decide +kernel
theorem dX0_vowelsInName_34 : decode cX0_vowelsInName 34 = .ok (.ireturn, 1) := by decide +kernel
theorem dX0_nameAgainst_0 : decode cX0_nameAgainst 0 = .ok (.iconst 0, 1) := by decide +kernel
theorem dX0_nameAgainst_1 : decode cX0_nameAgainst 1 = .ok (.istore_n 2, 1) := by decide +kernel
theorem dX0_nameAgainst_2 : decode cX0_nameAgainst 2 = .ok (.iload_n 2, 1) := by decide +kernel
theorem dX0_nameAgainst_3 : decode cX0_nameAgainst 3 = .ok (.aload_n 0, 1) := by decide +kernel
theorem dX0_nameAgainst_4 : decode cX0_nameAgainst 4 = .ok (.getfield 22, 3) := by decide +kernel
theorem dX0_nameAgainst_7 : decode cX0_nameAgainst 7 = .ok (.if_icmp .ge 46, 3) := by decide +kernel
theorem dX0_nameAgainst_10 : decode cX0_nameAgainst 10 = .ok (.iload_n 2, 1) := by decide +kernel
theorem dX0_nameAgainst_11 : decode cX0_nameAgainst 11 = .ok (.aload_n 1, 1) := by decide +kernel
theorem dX0_nameAgainst_12 : decode cX0_nameAgainst 12 = .ok (.getfield 22, 3) := by decide +kernel
theorem dX0_nameAgainst_15 : decode cX0_nameAgainst 15 = .ok (.if_icmp .ge 38, 3) := by decide +kernel
theorem dX0_nameAgainst_18 : decode cX0_nameAgainst 18 = .ok (.aload_n 0, 1) := by decide +kernel
theorem dX0_nameAgainst_19 : decode cX0_nameAgainst 19 = .ok (.getfield 9, 3) := by decide +kernel
theorem dX0_nameAgainst_22 : decode cX0_nameAgainst 22 = .ok (.iload_n 2, 1) := by decide +kernel
theorem dX0_nameAgainst_23 : decode cX0_nameAgainst 23 = .ok (.iaload, 1) := by decide +kernel
theorem dX0_nameAgainst_24 : decode cX0_nameAgainst 24 = .ok (.aload_n 1, 1) := by decide +kernel
theorem dX0_nameAgainst_25 : decode cX0_nameAgainst 25 = .ok (.getfield 9, 3) := by decide +kernel
theorem dX0_nameAgainst_28 : decode cX0_nameAgainst 28 = .ok (.iload_n 2, 1) := by decide +kernel
theorem dX0_nameAgainst_29 : decode cX0_nameAgainst 29 = .ok (.iaload, 1) := by decide +kernel
theorem dX0_nameAgainst_30 : decode cX0_nameAgainst 30 = .ok (.if_icmp .eq 17, 3) := by decide +kernel
theorem dX0_nameAgainst_33 : decode cX0_nameAgainst 33 = .ok (.aload_n 0, 1) := by decide +kernel
theorem dX0_nameAgainst_34 : decode cX0_nameAgainst 34 = .ok (.getfield 9, 3) := by decide +kernel
theorem dX0_nameAgainst_37 : decode cX0_nameAgainst 37 = .ok (.iload_n 2, 1) := by decide +kernel
theorem dX0_nameAgainst_38 : decode cX0_nameAgainst 38 = .ok (.iaload, 1) := by decide +kernel
theorem dX0_nameAgainst_39 : decode cX0_nameAgainst 39 = .ok (.aload_n 1, 1) := by decide +kernel
theorem dX0_nameAgainst_40 : decode cX0_nameAgainst 40 = .ok (.getfield 9, 3) := by decide +kernel
theorem dX0_nameAgainst_43 : decode cX0_nameAgainst 43 = .ok (.iload_n 2, 1) := by decide +kernel
theorem dX0_nameAgainst_44 : decode cX0_nameAgainst 44 = .ok (.iaload, 1) := by decide +kernel
theorem dX0_nameAgainst_45 : decode cX0_nameAgainst 45 = .ok (.isub, 1) := by decide +kernel
theorem dX0_nameAgainst_46 : decode cX0_nameAgainst 46 = .ok (.ireturn, 1) := by decide +kernel
theorem dX0_nameAgainst_47 : decode cX0_nameAgainst 47 = .ok (.iinc 2 1, 3) := by decide +kernel
theorem dX0_nameAgainst_50 : decode cX0_nameAgainst 50 = .ok (.goto (-48), 3) := by decide +kernel
theorem dX0_nameAgainst_53 : decode cX0_nameAgainst 53 = .ok (.aload_n 0, 1) := by decide +kernel
theorem dX0_nameAgainst_54 : decode cX0_nameAgainst 54 = .ok (.getfield 22, 3) := by decide +kernel
theorem dX0_nameAgainst_57 : decode cX0_nameAgainst 57 = .ok (.aload_n 1, 1) := by decide +kernel
theorem dX0_nameAgainst_58 : decode cX0_nameAgainst 58 = .ok (.getfield 22, 3) := by decide +kernel
theorem dX0_nameAgainst_61 : decode cX0_nameAgainst 61 = .ok (.isub, 1) := by decide +kernel
theorem dX0_nameAgainst_62 : decode cX0_nameAgainst 62 = .ok (.ireturn, 1) := by decide +kernel
theorem dX0_placesAlike_0 : decode cX0_placesAlike 0 = .ok (.iconst 0, 1) := by decide +kernel
theorem dX0_placesAlike_1 : decode cX0_placesAlike 1 = .ok (.istore_n 2, 1) := by decide +kernel
theorem dX0_placesAlike_2 : decode cX0_placesAlike 2 = .ok (.iconst 0, 1) := by decide +kernel
theorem dX0_placesAlike_3 : decode cX0_placesAlike 3 = .ok (.istore_n 3, 1) := by decide +kernel
theorem dX0_placesAlike_4 : decode cX0_placesAlike 4 = .ok (.iload_n 3, 1) := by decide +kernel
theorem dX0_placesAlike_5 : decode cX0_placesAlike 5 = .ok (.aload_n 0, 1) := by decide +kernel
theorem dX0_placesAlike_6 : decode cX0_placesAlike 6 = .ok (.getfield 22, 3) := by decide +kernel
theorem dX0_placesAlike_9 : decode cX0_placesAlike 9 = .ok (.if_icmp .ge 35, 3) := by decide +kernel
theorem dX0_placesAlike_12 : decode cX0_placesAlike 12 = .ok (.iload_n 3, 1) := by decide +kernel
theorem dX0_placesAlike_13 : decode cX0_placesAlike 13 = .ok (.aload_n 1, 1) := by decide +kernel
theorem dX0_placesAlike_14 : decode cX0_placesAlike 14 = .ok (.getfield 22, 3) := by decide +kernel
theorem dX0_placesAlike_17 : decode cX0_placesAlike 17 = .ok (.if_icmp .ge 27, 3) := by decide +kernel
theorem dX0_placesAlike_20 : decode cX0_placesAlike 20 = .ok (.aload_n 0, 1) := by decide +kernel
theorem dX0_placesAlike_21 : decode cX0_placesAlike 21 = .ok (.getfield 9, 3) := by decide +kernel
theorem dX0_placesAlike_24 : decode cX0_placesAlike 24 = .ok (.iload_n 3, 1) := by decide +kernel
theorem dX0_placesAlike_25 : decode cX0_placesAlike 25 = .ok (.iaload, 1) := by decide +kernel
theorem dX0_placesAlike_26 : decode cX0_placesAlike 26 = .ok (.aload_n 1, 1) := by decide +kernel
theorem dX0_placesAlike_27 : decode cX0_placesAlike 27 = .ok (.getfield 9, 3) := by decide +kernel
theorem dX0_placesAlike_30 : decode cX0_placesAlike 30 = .ok (.iload_n 3, 1) := by decide +kernel
theorem dX0_placesAlike_31 : decode cX0_placesAlike 31 = .ok (.iaload, 1) := by decide +kernel
theorem dX0_placesAlike_32 : decode cX0_placesAlike 32 = .ok (.if_icmp .ne 6, 3) := by decide +kernel
theorem dX0_placesAlike_35 : decode cX0_placesAlike 35 = .ok (.iinc 2 1, 3) := by decide +kernel
theorem dX0_placesAlike_38 : decode cX0_placesAlike 38 = .ok (.iinc 3 1, 3) := by decide +kernel
theorem dX0_placesAlike_41 : decode cX0_placesAlike 41 = .ok (.goto (-37), 3) := by decide +kernel
theorem dX0_placesAlike_44 : decode cX0_placesAlike 44 = .ok (.iload_n 2, 1) := by decide +kernel
theorem dX0_placesAlike_45 : decode cX0_placesAlike 45 = .ok (.ireturn, 1) := by decide +kernel
theorem dX0_lettersAlikeAhead_0 : decode cX0_lettersAlikeAhead 0 = .ok (.iconst 0, 1) := by decide +kernel
theorem dX0_lettersAlikeAhead_1 : decode cX0_lettersAlikeAhead 1 = .ok (.istore_n 2, 1) := by decide +kernel
theorem dX0_lettersAlikeAhead_2 : decode cX0_lettersAlikeAhead 2 = .ok (.iload_n 2, 1) := by decide +kernel
theorem dX0_lettersAlikeAhead_3 : decode cX0_lettersAlikeAhead 3 = .ok (.aload_n 0, 1) := by decide +kernel
theorem dX0_lettersAlikeAhead_4 : decode cX0_lettersAlikeAhead 4 = .ok (.getfield 22, 3) := by decide +kernel
theorem dX0_lettersAlikeAhead_7 : decode cX0_lettersAlikeAhead 7 = .ok (.if_icmp .ge 32, 3) := by decide +kernel
theorem dX0_lettersAlikeAhead_10 : decode cX0_lettersAlikeAhead 10 = .ok (.iload_n 2, 1) := by decide +kernel
theorem dX0_lettersAlikeAhead_11 : decode cX0_lettersAlikeAhead 11 = .ok (.aload_n 1, 1) := by decide +kernel
theorem dX0_lettersAlikeAhead_12 : decode cX0_lettersAlikeAhead 12 = .ok (.getfield 22, 3) := by decide +kernel
theorem dX0_lettersAlikeAhead_15 : decode cX0_lettersAlikeAhead 15 = .ok (.if_icmp .ge 24, 3) := by decide +kernel
theorem dX0_lettersAlikeAhead_18 : decode cX0_lettersAlikeAhead 18 = .ok (.aload_n 0, 1) := by decide +kernel
theorem dX0_lettersAlikeAhead_19 : decode cX0_lettersAlikeAhead 19 = .ok (.getfield 9, 3) := by decide +kernel
theorem dX0_lettersAlikeAhead_22 : decode cX0_lettersAlikeAhead 22 = .ok (.iload_n 2, 1) := by decide +kernel
theorem dX0_lettersAlikeAhead_23 : decode cX0_lettersAlikeAhead 23 = .ok (.iaload, 1) := by decide +kernel
theorem dX0_lettersAlikeAhead_24 : decode cX0_lettersAlikeAhead 24 = .ok (.aload_n 1, 1) := by decide +kernel
theorem dX0_lettersAlikeAhead_25 : decode cX0_lettersAlikeAhead 25 = .ok (.getfield 9, 3) := by decide +kernel
theorem dX0_lettersAlikeAhead_28 : decode cX0_lettersAlikeAhead 28 = .ok (.iload_n 2, 1) := by decide +kernel
theorem dX0_lettersAlikeAhead_29 : decode cX0_lettersAlikeAhead 29 = .ok (.iaload, 1) := by decide +kernel
theorem dX0_lettersAlikeAhead_30 : decode cX0_lettersAlikeAhead 30 = .ok (.if_icmp .ne 9, 3) := by decide +kernel
theorem dX0_lettersAlikeAhead_33 : decode cX0_lettersAlikeAhead 33 = .ok (.iinc 2 1, 3) := by decide +kernel
theorem dX0_lettersAlikeAhead_36 : decode cX0_lettersAlikeAhead 36 = .ok (.goto (-34), 3) := by decide +kernel
theorem dX0_lettersAlikeAhead_39 : decode cX0_lettersAlikeAhead 39 = .ok (.iload_n 2, 1) := by decide +kernel
theorem dX0_lettersAlikeAhead_40 : decode cX0_lettersAlikeAhead 40 = .ok (.ireturn, 1) := by decide +kernel
theorem dX0_lettersShared_0 : decode cX0_lettersShared 0 = .ok (.iconst 0, 1) := by decide +kernel
theorem dX0_lettersShared_1 : decode cX0_lettersShared 1 = .ok (.istore_n 2, 1) := by decide +kernel
theorem dX0_lettersShared_2 : decode cX0_lettersShared 2 = .ok (.iconst 0, 1) := by decide +kernel
theorem dX0_lettersShared_3 : decode cX0_lettersShared 3 = .ok (.istore_n 3, 1) := by decide +kernel
theorem dX0_lettersShared_4 : decode cX0_lettersShared 4 = .ok (.iload_n 3, 1) := by decide +kernel
theorem dX0_lettersShared_5 : decode cX0_lettersShared 5 = .ok (.bipush 26, 2) := by decide +kernel
theorem dX0_lettersShared_7 : decode cX0_lettersShared 7 = .ok (.if_icmp .ge 28, 3) := by decide +kernel
theorem dX0_lettersShared_10 : decode cX0_lettersShared 10 = .ok (.aload_n 0, 1) := by decide +kernel
theorem dX0_lettersShared_11 : decode cX0_lettersShared 11 = .ok (.iload_n 3, 1) := by decide +kernel
theorem dX0_lettersShared_12 : decode cX0_lettersShared 12 = .ok (.invokevirtual 65, 3) := by decide +kernel
theorem dX0_lettersShared_15 : decode cX0_lettersShared 15 = .ok (.ifCond .eq 14, 3) := by decide +kernel
theorem dX0_lettersShared_18 : decode cX0_lettersShared 18 = .ok (.aload_n 1, 1) := by decide +kernel
theorem dX0_lettersShared_19 : decode cX0_lettersShared 19 = .ok (.iload_n 3, 1) := by decide +kernel
theorem dX0_lettersShared_20 : decode cX0_lettersShared 20 = .ok (.invokevirtual 65, 3) := by decide +kernel
theorem dX0_lettersShared_23 : decode cX0_lettersShared 23 = .ok (.ifCond .eq 6, 3) := by decide +kernel
theorem dX0_lettersShared_26 : decode cX0_lettersShared 26 = .ok (.iinc 2 1, 3) := by decide +kernel
theorem dX0_lettersShared_29 : decode cX0_lettersShared 29 = .ok (.iinc 3 1, 3) := by decide +kernel
theorem dX0_lettersShared_32 : decode cX0_lettersShared 32 = .ok (.goto (-28), 3) := by decide +kernel
theorem dX0_lettersShared_35 : decode cX0_lettersShared 35 = .ok (.iload_n 2, 1) := by decide +kernel
theorem dX0_lettersShared_36 : decode cX0_lettersShared 36 = .ok (.ireturn, 1) := by decide +kernel
