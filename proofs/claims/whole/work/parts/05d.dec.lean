theorem dX7_nights_12 : decode cX7_nights 12 = .ok (.aload_n 0, 1) := by decide +kernel
theorem dX7_nights_13 : decode cX7_nights 13 = .ok (.getfield 136, 3) := by decide +kernel
theorem dX7_nights_16 : decode cX7_nights 16 = .ok (.iload_n 1, 1) := by decide +kernel
theorem dX7_nights_17 : decode cX7_nights 17 = .ok (.iadd, 1) := by decide +kernel
theorem dX7_nights_18 : decode cX7_nights 18 = .ok (.sipush 999, 3) := by decide +kernel
theorem dX7_nights_21 : decode cX7_nights 21 = .ok (.if_icmp .le 6, 3) := by decide +kernel
theorem dX7_nights_24 : decode cX7_nights 24 = .ok (.bipush (-6), 2) := by decide +kernel
theorem dX7_nights_26 : decode cX7_nights 26 = .ok (.istore_n 2, 1) := by decide +kernel
theorem dX7_nights_27 : decode cX7_nights 27 = .ok (.iload_n 2, 1) := by decide +kernel
theorem dX7_nights_28 : decode cX7_nights 28 = .ok (.ifCond .eq 9, 3) := by decide +kernel
theorem dX7_nights_31 : decode cX7_nights 31 = .ok (.aload_n 0, 1) := by decide +kernel
theorem dX7_nights_32 : decode cX7_nights 32 = .ok (.iload_n 2, 1) := by decide +kernel
theorem dX7_nights_33 : decode cX7_nights 33 = .ok (.invokevirtual 170, 3) := by decide +kernel
theorem dX7_nights_36 : decode cX7_nights 36 = .ok (.ireturn, 1) := by decide +kernel
theorem dX7_nights_37 : decode cX7_nights 37 = .ok (.aload_n 0, 1) := by decide +kernel
theorem dX7_nights_38 : decode cX7_nights 38 = .ok (.invokevirtual 336, 3) := by decide +kernel
theorem dX7_nights_41 : decode cX7_nights 41 = .ok (.aload_n 0, 1) := by decide +kernel
theorem dX7_nights_42 : decode cX7_nights 42 = .ok (.iload_n 1, 1) := by decide +kernel
theorem dX7_nights_43 : decode cX7_nights 43 = .ok (.invokevirtual 261, 3) := by decide +kernel
theorem dX7_nights_46 : decode cX7_nights 46 = .ok (.aload_n 0, 1) := by decide +kernel
theorem dX7_nights_47 : decode cX7_nights 47 = .ok (.getfield 127, 3) := by decide +kernel
theorem dX7_nights_50 : decode cX7_nights 50 = .ok (.ireturn, 1) := by decide +kernel
theorem dX7_headThen_0 : decode cX7_headThen 0 = .ok (.aload_n 0, 1) := by decide +kernel
theorem dX7_headThen_1 : decode cX7_headThen 1 = .ok (.iload_n 1, 1) := by decide +kernel
theorem dX7_headThen_2 : decode cX7_headThen 2 = .ok (.invokevirtual 89, 3) := by decide +kernel
theorem dX7_headThen_5 : decode cX7_headThen 5 = .ok (.ifCond .ne 7, 3) := by decide +kernel
theorem dX7_headThen_8 : decode cX7_headThen 8 = .ok (.iconst (-1), 1) := by decide +kernel
theorem dX7_headThen_9 : decode cX7_headThen 9 = .ok (.goto 10, 3) := by decide +kernel
theorem dX7_headThen_12 : decode cX7_headThen 12 = .ok (.iload_n 2, 1) := by decide +kernel
theorem dX7_headThen_13 : decode cX7_headThen 13 = .ok (.iconst 0, 1) := by decide +kernel
theorem dX7_headThen_14 : decode cX7_headThen 14 = .ok (.bipush 60, 2) := by decide +kernel
theorem dX7_headThen_16 : decode cX7_headThen 16 = .ok (.invokestatic 163, 3) := by decide +kernel
theorem dX7_headThen_19 : decode cX7_headThen 19 = .ok (.istore 4, 2) := by decide +kernel
theorem dX7_headThen_21 : decode cX7_headThen 21 = .ok (.iload 4, 2) := by decide +kernel
theorem dX7_headThen_23 : decode cX7_headThen 23 = .ok (.ifCond .ne 16, 3) := by decide +kernel
theorem dX7_headThen_26 : decode cX7_headThen 26 = .ok (.iload_n 3, 1) := by decide +kernel
theorem dX7_headThen_27 : decode cX7_headThen 27 = .ok (.iconst 0, 1) := by decide +kernel
theorem dX7_headThen_28 : decode cX7_headThen 28 = .ok (.iconst 3, 1) := by decide +kernel
theorem dX7_headThen_29 : decode cX7_headThen 29 = .ok (.invokestatic 85, 3) := by decide +kernel
theorem dX7_headThen_32 : decode cX7_headThen 32 = .ok (.ifCond .ne 7, 3) := by decide +kernel
theorem dX7_headThen_35 : decode cX7_headThen 35 = .ok (.bipush (-2), 2) := by decide +kernel
theorem dX7_headThen_37 : decode cX7_headThen 37 = .ok (.istore 4, 2) := by decide +kernel
theorem dX7_headThen_39 : decode cX7_headThen 39 = .ok (.iload 4, 2) := by decide +kernel
theorem dX7_headThen_41 : decode cX7_headThen 41 = .ok (.ifCond .eq 10, 3) := by decide +kernel
theorem dX7_headThen_44 : decode cX7_headThen 44 = .ok (.aload_n 0, 1) := by decide +kernel
theorem dX7_headThen_45 : decode cX7_headThen 45 = .ok (.iload 4, 2) := by decide +kernel
theorem dX7_headThen_47 : decode cX7_headThen 47 = .ok (.invokevirtual 170, 3) := by decide +kernel
theorem dX7_headThen_50 : decode cX7_headThen 50 = .ok (.ireturn, 1) := by decide +kernel
theorem dX7_headThen_51 : decode cX7_headThen 51 = .ok (.aload_n 0, 1) := by decide +kernel
theorem dX7_headThen_52 : decode cX7_headThen 52 = .ok (.invokevirtual 343, 3) := by decide +kernel
theorem dX7_headThen_55 : decode cX7_headThen 55 = .ok (.aload_n 0, 1) := by decide +kernel
theorem dX7_headThen_56 : decode cX7_headThen 56 = .ok (.iload_n 2, 1) := by decide +kernel
theorem dX7_headThen_57 : decode cX7_headThen 57 = .ok (.invokevirtual 261, 3) := by decide +kernel
theorem dX7_headThen_60 : decode cX7_headThen 60 = .ok (.iload_n 3, 1) := by decide +kernel
theorem dX7_headThen_61 : decode cX7_headThen 61 = .ok (.ifCond .ne 12, 3) := by decide +kernel
theorem dX7_headThen_64 : decode cX7_headThen 64 = .ok (.aload_n 0, 1) := by decide +kernel
theorem dX7_headThen_65 : decode cX7_headThen 65 = .ok (.getfield 28, 3) := by decide +kernel
theorem dX7_headThen_68 : decode cX7_headThen 68 = .ok (.iload_n 1, 1) := by decide +kernel
theorem dX7_headThen_69 : decode cX7_headThen 69 = .ok (.iaload, 1) := by decide +kernel
theorem dX7_headThen_70 : decode cX7_headThen 70 = .ok (.goto 37, 3) := by decide +kernel
theorem dX7_headThen_73 : decode cX7_headThen 73 = .ok (.iload_n 3, 1) := by decide +kernel
theorem dX7_headThen_74 : decode cX7_headThen 74 = .ok (.iconst 1, 1) := by decide +kernel
theorem dX7_headThen_75 : decode cX7_headThen 75 = .ok (.if_icmp .ne 12, 3) := by decide +kernel
theorem dX7_headThen_78 : decode cX7_headThen 78 = .ok (.aload_n 0, 1) := by decide +kernel
theorem dX7_headThen_79 : decode cX7_headThen 79 = .ok (.getfield 31, 3) := by decide +kernel
theorem dX7_headThen_82 : decode cX7_headThen 82 = .ok (.iload_n 1, 1) := by decide +kernel
theorem dX7_headThen_83 : decode cX7_headThen 83 = .ok (.iaload, 1) := by decide +kernel
theorem dX7_headThen_84 : decode cX7_headThen 84 = .ok (.goto 23, 3) := by decide +kernel
theorem dX7_headThen_87 : decode cX7_headThen 87 = .ok (.iload_n 3, 1) := by decide +kernel
theorem dX7_headThen_88 : decode cX7_headThen 88 = .ok (.iconst 2, 1) := by decide +kernel
theorem dX7_headThen_89 : decode cX7_headThen 89 = .ok (.if_icmp .ne 12, 3) := by decide +kernel
theorem dX7_headThen_92 : decode cX7_headThen 92 = .ok (.aload_n 0, 1) := by decide +kernel
theorem dX7_headThen_93 : decode cX7_headThen 93 = .ok (.getfield 37, 3) := by decide +kernel
theorem dX7_headThen_96 : decode cX7_headThen 96 = .ok (.iload_n 1, 1) := by decide +kernel
theorem dX7_headThen_97 : decode cX7_headThen 97 = .ok (.iaload, 1) := by decide +kernel
theorem dX7_headThen_98 : decode cX7_headThen 98 = .ok (.goto 9, 3) := by decide +kernel
theorem dX7_headThen_101 : decode cX7_headThen 101 = .ok (.aload_n 0, 1) := by decide +kernel
theorem dX7_headThen_102 : decode cX7_headThen 102 = .ok (.getfield 40, 3) := by decide +kernel
theorem dX7_headThen_105 : decode cX7_headThen 105 = .ok (.iload_n 1, 1) := by decide +kernel
theorem dX7_headThen_106 : decode cX7_headThen 106 = .ok (.iaload, 1) := by decide +kernel
theorem dX7_headThen_107 : decode cX7_headThen 107 = .ok (.istore 5, 2) := by decide +kernel
theorem dX7_headThen_109 : decode cX7_headThen 109 = .ok (.aload_n 0, 1) := by decide +kernel
theorem dX7_headThen_110 : decode cX7_headThen 110 = .ok (.invokevirtual 346, 3) := by decide +kernel
theorem dX7_headThen_113 : decode cX7_headThen 113 = .ok (.iload 5, 2) := by decide +kernel
theorem dX7_headThen_115 : decode cX7_headThen 115 = .ok (.ireturn, 1) := by decide +kernel
theorem dX7_setSettled_0 : decode cX7_setSettled 0 = .ok (.iconst 0, 1) := by decide +kernel
theorem dX7_setSettled_1 : decode cX7_setSettled 1 = .ok (.istore_n 1, 1) := by decide +kernel
theorem dX7_setSettled_2 : decode cX7_setSettled 2 = .ok (.iconst 0, 1) := by decide +kernel
theorem dX7_setSettled_3 : decode cX7_setSettled 3 = .ok (.istore_n 2, 1) := by decide +kernel
theorem dX7_setSettled_4 : decode cX7_setSettled 4 = .ok (.iload_n 2, 1) := by decide +kernel
theorem dX7_setSettled_5 : decode cX7_setSettled 5 = .ok (.aload_n 0, 1) := by decide +kernel
theorem dX7_setSettled_6 : decode cX7_setSettled 6 = .ok (.getfield 79, 3) := by decide +kernel
theorem dX7_setSettled_9 : decode cX7_setSettled 9 = .ok (.if_icmp .ge 20, 3) := by decide +kernel
theorem dX7_setSettled_12 : decode cX7_setSettled 12 = .ok (.iload_n 1, 1) := by decide +kernel
theorem dX7_setSettled_13 : decode cX7_setSettled 13 = .ok (.aload_n 0, 1) := by decide +kernel
theorem dX7_setSettled_14 : decode cX7_setSettled 14 = .ok (.getfield 40, 3) := by decide +kernel
theorem dX7_setSettled_17 : decode cX7_setSettled 17 = .ok (.iload_n 2, 1) := by decide +kernel
theorem dX7_setSettled_18 : decode cX7_setSettled 18 = .ok (.iaload, 1) := by decide +kernel
theorem dX7_setSettled_19 : decode cX7_setSettled 19 = .ok (.iload_n 2, 1) := by decide +kernel
theorem dX7_setSettled_20 : decode cX7_setSettled 20 = .ok (.ishl, 1) := by decide +kernel
theorem dX7_setSettled_21 : decode cX7_setSettled 21 = .ok (.ior, 1) := by decide +kernel
theorem dX7_setSettled_22 : decode cX7_setSettled 22 = .ok (.istore_n 1, 1) := by decide +kernel
theorem dX7_setSettled_23 : decode cX7_setSettled 23 = .ok (.iinc 2 1, 3) := by decide +kernel
theorem dX7_setSettled_26 : decode cX7_setSettled 26 = .ok (.goto (-22), 3) := by decide +kernel
theorem dX7_setSettled_29 : decode cX7_setSettled 29 = .ok (.iload_n 1, 1) := by decide +kernel
theorem dX7_setSettled_30 : decode cX7_setSettled 30 = .ok (.ireturn, 1) := by decide +kernel
theorem dX7_allOf_0 : decode cX7_allOf 0 = .ok (.iconst 0, 1) := by decide +kernel
theorem dX7_allOf_1 : decode cX7_allOf 1 = .ok (.istore_n 2, 1) := by decide +kernel
theorem dX7_allOf_2 : decode cX7_allOf 2 = .ok (.iconst 0, 1) := by decide +kernel
theorem dX7_allOf_3 : decode cX7_allOf 3 = .ok (.istore_n 3, 1) := by decide +kernel
theorem dX7_allOf_4 : decode cX7_allOf 4 = .ok (.iload_n 3, 1) := by decide +kernel
theorem dX7_allOf_5 : decode cX7_allOf 5 = .ok (.iload_n 1, 1) := by decide +kernel
theorem dX7_allOf_6 : decode cX7_allOf 6 = .ok (.if_icmp .ge 15, 3) := by decide +kernel
theorem dX7_allOf_9 : decode cX7_allOf 9 = .ok (.iload_n 2, 1) := by decide +kernel
theorem dX7_allOf_10 : decode cX7_allOf 10 = .ok (.aload_n 0, 1) := by decide +kernel
theorem dX7_allOf_11 : decode cX7_allOf 11 = .ok (.iload_n 3, 1) := by decide +kernel
theorem dX7_allOf_12 : decode cX7_allOf 12 = .ok (.iaload, 1) := by decide +kernel
theorem dX7_allOf_13 : decode cX7_allOf 13 = .ok (.iadd, 1) := by decide +kernel
theorem dX7_allOf_14 : decode cX7_allOf 14 = .ok (.istore_n 2, 1) := by decide +kernel
theorem dX7_allOf_15 : decode cX7_allOf 15 = .ok (.iinc 3 1, 3) := by decide +kernel
theorem dX7_allOf_18 : decode cX7_allOf 18 = .ok (.goto (-14), 3) := by decide +kernel
theorem dX7_allOf_21 : decode cX7_allOf 21 = .ok (.iload_n 2, 1) := by decide +kernel
theorem dX7_allOf_22 : decode cX7_allOf 22 = .ok (.ireturn, 1) := by decide +kernel
theorem dX7_then_0 : decode cX7_then 0 = .ok (.iload_n 1, 1) := by decide +kernel
theorem dX7_then_1 : decode cX7_then 1 = .ok (.iconst 0, 1) := by decide +kernel
theorem dX7_then_2 : decode cX7_then 2 = .ok (.bipush 60, 2) := by decide +kernel
theorem dX7_then_4 : decode cX7_then 4 = .ok (.invokestatic 163, 3) := by decide +kernel
theorem dX7_then_7 : decode cX7_then 7 = .ok (.istore_n 3, 1) := by decide +kernel
theorem dX7_then_8 : decode cX7_then 8 = .ok (.iload_n 3, 1) := by decide +kernel
theorem dX7_then_9 : decode cX7_then 9 = .ok (.ifCond .ne 15, 3) := by decide +kernel
theorem dX7_then_12 : decode cX7_then 12 = .ok (.iload_n 2, 1) := by decide +kernel
theorem dX7_then_13 : decode cX7_then 13 = .ok (.iconst 0, 1) := by decide +kernel
theorem dX7_then_14 : decode cX7_then 14 = .ok (.iconst 3, 1) := by decide +kernel
theorem dX7_then_15 : decode cX7_then 15 = .ok (.invokestatic 85, 3) := by decide +kernel
theorem dX7_then_18 : decode cX7_then 18 = .ok (.ifCond .ne 6, 3) := by decide +kernel
theorem dX7_then_21 : decode cX7_then 21 = .ok (.bipush (-2), 2) := by decide +kernel
theorem dX7_then_23 : decode cX7_then 23 = .ok (.istore_n 3, 1) := by decide +kernel
theorem dX7_then_24 : decode cX7_then 24 = .ok (.iload_n 3, 1) := by decide +kernel
theorem dX7_then_25 : decode cX7_then 25 = .ok (.ifCond .eq 9, 3) := by decide +kernel
theorem dX7_then_28 : decode cX7_then 28 = .ok (.aload_n 0, 1) := by decide +kernel
theorem dX7_then_29 : decode cX7_then 29 = .ok (.iload_n 3, 1) := by decide +kernel
theorem dX7_then_30 : decode cX7_then 30 = .ok (.invokevirtual 170, 3) := by decide +kernel
theorem dX7_then_33 : decode cX7_then 33 = .ok (.ireturn, 1) := by decide +kernel
theorem dX7_then_34 : decode cX7_then 34 = .ok (.aload_n 0, 1) := by decide +kernel
theorem dX7_then_35 : decode cX7_then 35 = .ok (.invokevirtual 343, 3) := by decide +kernel
theorem dX7_then_38 : decode cX7_then 38 = .ok (.aload_n 0, 1) := by decide +kernel
theorem dX7_then_39 : decode cX7_then 39 = .ok (.iload_n 1, 1) := by decide +kernel
theorem dX7_then_40 : decode cX7_then 40 = .ok (.invokevirtual 261, 3) := by decide +kernel
theorem dX7_then_43 : decode cX7_then 43 = .ok (.iload_n 2, 1) := by decide +kernel
theorem dX7_then_44 : decode cX7_then 44 = .ok (.ifCond .ne 10, 3) := by decide +kernel
theorem dX7_then_47 : decode cX7_then 47 = .ok (.aload_n 0, 1) := by decide +kernel
theorem dX7_then_48 : decode cX7_then 48 = .ok (.getfield 127, 3) := by decide +kernel
theorem dX7_then_51 : decode cX7_then 51 = .ok (.goto 41, 3) := by decide +kernel
theorem dX7_then_54 : decode cX7_then 54 = .ok (.iload_n 2, 1) := by decide +kernel
theorem dX7_then_55 : decode cX7_then 55 = .ok (.iconst 1, 1) := by decide +kernel
theorem dX7_then_56 : decode cX7_then 56 = .ok (.if_icmp .ne 10, 3) := by decide +kernel
theorem dX7_then_59 : decode cX7_then 59 = .ok (.aload_n 0, 1) := by decide +kernel
theorem dX7_then_60 : decode cX7_then 60 = .ok (.invokevirtual 349, 3) := by decide +kernel
theorem dX7_then_63 : decode cX7_then 63 = .ok (.goto 29, 3) := by decide +kernel
theorem dX7_then_66 : decode cX7_then 66 = .ok (.iload_n 2, 1) := by decide +kernel
theorem dX7_then_67 : decode cX7_then 67 = .ok (.iconst 2, 1) := by decide +kernel
theorem dX7_then_68 : decode cX7_then 68 = .ok (.if_icmp .ne 15, 3) := by decide +kernel
theorem dX7_then_71 : decode cX7_then 71 = .ok (.aload_n 0, 1) := by decide +kernel
theorem dX7_then_72 : decode cX7_then 72 = .ok (.getfield 16, 3) := by decide +kernel
theorem dX7_then_75 : decode cX7_then 75 = .ok (.bipush 48, 2) := by decide +kernel
theorem dX7_then_77 : decode cX7_then 77 = .ok (.invokestatic 352, 3) := by decide +kernel
theorem dX7_then_80 : decode cX7_then 80 = .ok (.goto 12, 3) := by decide +kernel
theorem dX7_then_83 : decode cX7_then 83 = .ok (.aload_n 0, 1) := by decide +kernel
theorem dX7_then_84 : decode cX7_then 84 = .ok (.getfield 13, 3) := by decide +kernel
theorem dX7_then_87 : decode cX7_then 87 = .ok (.bipush 48, 2) := by decide +kernel
theorem dX7_then_89 : decode cX7_then 89 = .ok (.invokestatic 352, 3) := by decide +kernel
theorem dX7_then_92 : decode cX7_then 92 = .ok (.istore 4, 2) := by decide +kernel
theorem dX7_then_94 : decode cX7_then 94 = .ok (.aload_n 0, 1) := by decide +kernel
theorem dX7_then_95 : decode cX7_then 95 = .ok (.invokevirtual 346, 3) := by decide +kernel
theorem dX7_then_98 : decode cX7_then 98 = .ok (.iload 4, 2) := by decide +kernel
theorem dX7_then_100 : decode cX7_then 100 = .ok (.ireturn, 1) := by decide +kernel
theorem dX7_when_0 : decode cX7_when 0 = .ok (.aload_n 0, 1) := by decide +kernel
theorem dX7_when_1 : decode cX7_when 1 = .ok (.iload_n 1, 1) := by decide +kernel
theorem dX7_when_2 : decode cX7_when 2 = .ok (.invokevirtual 89, 3) := by decide +kernel
theorem dX7_when_5 : decode cX7_when 5 = .ok (.ifCond .eq 10, 3) := by decide +kernel
theorem dX7_when_8 : decode cX7_when 8 = .ok (.iload_n 2, 1) := by decide +kernel
theorem dX7_when_9 : decode cX7_when 9 = .ok (.invokestatic 244, 3) := by decide +kernel
theorem dX7_when_12 : decode cX7_when 12 = .ok (.ifCond .ne 9, 3) := by decide +kernel
theorem dX7_when_15 : decode cX7_when 15 = .ok (.aload_n 0, 1) := by decide +kernel
theorem dX7_when_16 : decode cX7_when 16 = .ok (.iconst (-1), 1) := by decide +kernel
theorem dX7_when_17 : decode cX7_when 17 = .ok (.invokevirtual 170, 3) := by decide +kernel
theorem dX7_when_20 : decode cX7_when 20 = .ok (.ireturn, 1) := by decide +kernel
theorem dX7_when_21 : decode cX7_when 21 = .ok (.bipush (-9), 2) := by decide +kernel
theorem dX7_when_23 : decode cX7_when 23 = .ok (.istore_n 3, 1) := by decide +kernel
theorem dX7_when_24 : decode cX7_when 24 = .ok (.aload_n 0, 1) := by decide +kernel
theorem dX7_when_25 : decode cX7_when 25 = .ok (.invokevirtual 343, 3) := by decide +kernel
theorem dX7_when_28 : decode cX7_when 28 = .ok (.iconst 0, 1) := by decide +kernel
theorem dX7_when_29 : decode cX7_when 29 = .ok (.istore 4, 2) := by decide +kernel
theorem dX7_when_31 : decode cX7_when 31 = .ok (.iload 4, 2) := by decide +kernel
theorem dX7_when_33 : decode cX7_when 33 = .ok (.bipush 60, 2) := by decide +kernel
theorem dX7_when_35 : decode cX7_when 35 = .ok (.if_icmp .gt 35, 3) := by decide +kernel
theorem dX7_when_38 : decode cX7_when 38 = .ok (.iload_n 3, 1) := by decide +kernel
theorem dX7_when_39 : decode cX7_when 39 = .ok (.ifCond .ge 31, 3) := by decide +kernel
theorem dX7_when_42 : decode cX7_when 42 = .ok (.aload_n 0, 1) := by decide +kernel
theorem dX7_when_43 : decode cX7_when 43 = .ok (.getfield 28, 3) := by decide +kernel
theorem dX7_when_46 : decode cX7_when 46 = .ok (.iload_n 1, 1) := by decide +kernel
theorem dX7_when_47 : decode cX7_when 47 = .ok (.iaload, 1) := by decide +kernel
theorem dX7_when_48 : decode cX7_when 48 = .ok (.iload_n 2, 1) := by decide +kernel
theorem dX7_when_49 : decode cX7_when 49 = .ok (.if_icmp .ne 8, 3) := by decide +kernel
theorem dX7_when_52 : decode cX7_when 52 = .ok (.iload 4, 2) := by decide +kernel
theorem dX7_when_54 : decode cX7_when 54 = .ok (.goto 5, 3) := by decide +kernel
theorem dX7_when_57 : decode cX7_when 57 = .ok (.bipush (-9), 2) := by decide +kernel
theorem dX7_when_59 : decode cX7_when 59 = .ok (.istore_n 3, 1) := by decide +kernel
theorem dX7_when_60 : decode cX7_when 60 = .ok (.aload_n 0, 1) := by decide +kernel
theorem dX7_when_61 : decode cX7_when 61 = .ok (.invokevirtual 160, 3) := by decide +kernel
theorem dX7_when_64 : decode cX7_when 64 = .ok (.iinc 4 1, 3) := by decide +kernel
theorem dX7_when_67 : decode cX7_when 67 = .ok (.goto (-36), 3) := by decide +kernel
theorem dX7_when_70 : decode cX7_when 70 = .ok (.aload_n 0, 1) := by decide +kernel
theorem dX7_when_71 : decode cX7_when 71 = .ok (.invokevirtual 346, 3) := by decide +kernel
theorem dX7_when_74 : decode cX7_when 74 = .ok (.iload_n 3, 1) := by decide +kernel
theorem dX7_when_75 : decode cX7_when 75 = .ok (.ireturn, 1) := by decide +kernel
theorem dX7_settlesWhen_0 : decode cX7_settlesWhen 0 = .ok (.bipush (-9), 2) := by decide +kernel
theorem dX7_settlesWhen_2 : decode cX7_settlesWhen 2 = .ok (.istore_n 2, 1) := by decide +kernel
theorem dX7_settlesWhen_3 : decode cX7_settlesWhen 3 = .ok (.aload_n 0, 1) := by decide +kernel
theorem dX7_settlesWhen_4 : decode cX7_settlesWhen 4 = .ok (.invokevirtual 343, 3) := by decide +kernel
theorem dX7_settlesWhen_7 : decode cX7_settlesWhen 7 = .ok (.iconst 0, 1) := by decide +kernel
theorem dX7_settlesWhen_8 : decode cX7_settlesWhen 8 = .ok (.istore_n 3, 1) := by decide +kernel
theorem dX7_settlesWhen_9 : decode cX7_settlesWhen 9 = .ok (.iload_n 3, 1) := by decide +kernel
theorem dX7_settlesWhen_10 : decode cX7_settlesWhen 10 = .ok (.bipush 60, 2) := by decide +kernel
theorem dX7_settlesWhen_12 : decode cX7_settlesWhen 12 = .ok (.if_icmp .gt 34, 3) := by decide +kernel
theorem dX7_settlesWhen_15 : decode cX7_settlesWhen 15 = .ok (.iload_n 2, 1) := by decide +kernel
theorem dX7_settlesWhen_16 : decode cX7_settlesWhen 16 = .ok (.ifCond .ge 30, 3) := by decide +kernel
theorem dX7_settlesWhen_19 : decode cX7_settlesWhen 19 = .ok (.aload_n 0, 1) := by decide +kernel
theorem dX7_settlesWhen_20 : decode cX7_settlesWhen 20 = .ok (.getfield 40, 3) := by decide +kernel
theorem dX7_settlesWhen_23 : decode cX7_settlesWhen 23 = .ok (.iload_n 1, 1) := by decide +kernel
theorem dX7_settlesWhen_24 : decode cX7_settlesWhen 24 = .ok (.iaload, 1) := by decide +kernel
theorem dX7_settlesWhen_25 : decode cX7_settlesWhen 25 = .ok (.iconst 1, 1) := by decide +kernel
theorem dX7_settlesWhen_26 : decode cX7_settlesWhen 26 = .ok (.if_icmp .ne 7, 3) := by decide +kernel
theorem dX7_settlesWhen_29 : decode cX7_settlesWhen 29 = .ok (.iload_n 3, 1) := by decide +kernel
theorem dX7_settlesWhen_30 : decode cX7_settlesWhen 30 = .ok (.goto 5, 3) := by decide +kernel
theorem dX7_settlesWhen_33 : decode cX7_settlesWhen 33 = .ok (.bipush (-9), 2) := by decide +kernel
theorem dX7_settlesWhen_35 : decode cX7_settlesWhen 35 = .ok (.istore_n 2, 1) := by decide +kernel
theorem dX7_settlesWhen_36 : decode cX7_settlesWhen 36 = .ok (.aload_n 0, 1) := by decide +kernel
theorem dX7_settlesWhen_37 : decode cX7_settlesWhen 37 = .ok (.invokevirtual 160, 3) := by decide +kernel
theorem dX7_settlesWhen_40 : decode cX7_settlesWhen 40 = .ok (.iinc 3 1, 3) := by decide +kernel
theorem dX7_settlesWhen_43 : decode cX7_settlesWhen 43 = .ok (.goto (-34), 3) := by decide +kernel
theorem dX7_settlesWhen_46 : decode cX7_settlesWhen 46 = .ok (.aload_n 0, 1) := by decide +kernel
theorem dX7_settlesWhen_47 : decode cX7_settlesWhen 47 = .ok (.invokevirtual 346, 3) := by decide +kernel
theorem dX7_settlesWhen_50 : decode cX7_settlesWhen 50 = .ok (.iload_n 2, 1) := by decide +kernel
theorem dX7_settlesWhen_51 : decode cX7_settlesWhen 51 = .ok (.ireturn, 1) := by decide +kernel
theorem dX7_firstToSettle_0 : decode cX7_firstToSettle 0 = .ok (.aload_n 0, 1) := by decide +kernel
theorem dX7_firstToSettle_1 : decode cX7_firstToSettle 1 = .ok (.invokevirtual 349, 3) := by decide +kernel
theorem dX7_firstToSettle_4 : decode cX7_firstToSettle 4 = .ok (.istore_n 1, 1) := by decide +kernel
theorem dX7_firstToSettle_5 : decode cX7_firstToSettle 5 = .ok (.iconst 0, 1) := by decide +kernel
theorem dX7_firstToSettle_6 : decode cX7_firstToSettle 6 = .ok (.istore_n 2, 1) := by decide +kernel
theorem dX7_firstToSettle_7 : decode cX7_firstToSettle 7 = .ok (.aload_n 0, 1) := by decide +kernel
theorem dX7_firstToSettle_8 : decode cX7_firstToSettle 8 = .ok (.invokevirtual 343, 3) := by decide +kernel
theorem dX7_firstToSettle_11 : decode cX7_firstToSettle 11 = .ok (.iconst 0, 1) := by decide +kernel
theorem dX7_firstToSettle_12 : decode cX7_firstToSettle 12 = .ok (.istore_n 3, 1) := by decide +kernel
theorem dX7_firstToSettle_13 : decode cX7_firstToSettle 13 = .ok (.iload_n 3, 1) := by decide +kernel
theorem dX7_firstToSettle_14 : decode cX7_firstToSettle 14 = .ok (.bipush 60, 2) := by decide +kernel
theorem dX7_firstToSettle_16 : decode cX7_firstToSettle 16 = .ok (.if_icmp .ge 26, 3) := by decide +kernel
theorem dX7_firstToSettle_19 : decode cX7_firstToSettle 19 = .ok (.iload_n 2, 1) := by decide +kernel
theorem dX7_firstToSettle_20 : decode cX7_firstToSettle 20 = .ok (.ifCond .ne 22, 3) := by decide +kernel
theorem dX7_firstToSettle_23 : decode cX7_firstToSettle 23 = .ok (.aload_n 0, 1) := by decide +kernel
theorem dX7_firstToSettle_24 : decode cX7_firstToSettle 24 = .ok (.invokevirtual 160, 3) := by decide +kernel
theorem dX7_firstToSettle_27 : decode cX7_firstToSettle 27 = .ok (.aload_n 0, 1) := by decide +kernel
theorem dX7_firstToSettle_28 : decode cX7_firstToSettle 28 = .ok (.invokevirtual 349, 3) := by decide +kernel
theorem dX7_firstToSettle_31 : decode cX7_firstToSettle 31 = .ok (.iload_n 1, 1) := by decide +kernel
theorem dX7_firstToSettle_32 : decode cX7_firstToSettle 32 = .ok (.iconst (-1), 1) := by decide +kernel
theorem dX7_firstToSettle_33 : decode cX7_firstToSettle 33 = .ok (.ixor, 1) := by decide +kernel
theorem dX7_firstToSettle_34 : decode cX7_firstToSettle 34 = .ok (.iand, 1) := by decide +kernel
theorem dX7_firstToSettle_35 : decode cX7_firstToSettle 35 = .ok (.istore_n 2, 1) := by decide +kernel
theorem dX7_firstToSettle_36 : decode cX7_firstToSettle 36 = .ok (.iinc 3 1, 3) := by decide +kernel
theorem dX7_firstToSettle_39 : decode cX7_firstToSettle 39 = .ok (.goto (-26), 3) := by decide +kernel
theorem dX7_firstToSettle_42 : decode cX7_firstToSettle 42 = .ok (.aload_n 0, 1) := by decide +kernel
theorem dX7_firstToSettle_43 : decode cX7_firstToSettle 43 = .ok (.invokevirtual 346, 3) := by decide +kernel
theorem dX7_firstToSettle_46 : decode cX7_firstToSettle 46 = .ok (.iconst 0, 1) := by decide +kernel
theorem dX7_firstToSettle_47 : decode cX7_firstToSettle 47 = .ok (.istore_n 3, 1) := by decide +kernel
theorem dX7_firstToSettle_48 : decode cX7_firstToSettle 48 = .ok (.iload_n 3, 1) := by decide +kernel
theorem dX7_firstToSettle_49 : decode cX7_firstToSettle 49 = .ok (.aload_n 0, 1) := by decide +kernel
theorem dX7_firstToSettle_50 : decode cX7_firstToSettle 50 = .ok (.getfield 79, 3) := by decide +kernel
theorem dX7_firstToSettle_53 : decode cX7_firstToSettle 53 = .ok (.if_icmp .ge 19, 3) := by decide +kernel
theorem dX7_firstToSettle_56 : decode cX7_firstToSettle 56 = .ok (.iload_n 2, 1) := by decide +kernel
theorem dX7_firstToSettle_57 : decode cX7_firstToSettle 57 = .ok (.iload_n 3, 1) := by decide +kernel
theorem dX7_firstToSettle_58 : decode cX7_firstToSettle 58 = .ok (.invokestatic 356, 3) := by decide +kernel
theorem dX7_firstToSettle_61 : decode cX7_firstToSettle 61 = .ok (.ifCond .eq 5, 3) := by decide +kernel
theorem dX7_firstToSettle_64 : decode cX7_firstToSettle 64 = .ok (.iload_n 3, 1) := by decide +kernel
theorem dX7_firstToSettle_65 : decode cX7_firstToSettle 65 = .ok (.ireturn, 1) := by decide +kernel
theorem dX7_firstToSettle_66 : decode cX7_firstToSettle 66 = .ok (.iinc 3 1, 3) := by decide +kernel
theorem dX7_firstToSettle_69 : decode cX7_firstToSettle 69 = .ok (.goto (-21), 3) := by decide +kernel
theorem dX7_firstToSettle_72 : decode cX7_firstToSettle 72 = .ok (.bipush (-9), 2) := by decide +kernel
theorem dX7_firstToSettle_74 : decode cX7_firstToSettle 74 = .ok (.ireturn, 1) := by decide +kernel
theorem dX7_settles_0 : decode cX7_settles 0 = .ok (.iload_n 1, 1) := by decide +kernel
theorem dX7_settles_1 : decode cX7_settles 1 = .ok (.iconst (-1), 1) := by decide +kernel
theorem dX7_settles_2 : decode cX7_settles 2 = .ok (.aload_n 0, 1) := by decide +kernel
theorem dX7_settles_3 : decode cX7_settles 3 = .ok (.getfield 79, 3) := by decide +kernel
theorem dX7_settles_6 : decode cX7_settles 6 = .ok (.iconst 1, 1) := by decide +kernel
theorem dX7_settles_7 : decode cX7_settles 7 = .ok (.isub, 1) := by decide +kernel
theorem dX7_settles_8 : decode cX7_settles 8 = .ok (.invokestatic 85, 3) := by decide +kernel
theorem dX7_settles_11 : decode cX7_settles 11 = .ok (.ifCond .ne 9, 3) := by decide +kernel
theorem dX7_settles_14 : decode cX7_settles 14 = .ok (.aload_n 0, 1) := by decide +kernel
theorem dX7_settles_15 : decode cX7_settles 15 = .ok (.iconst (-1), 1) := by decide +kernel
theorem dX7_settles_16 : decode cX7_settles 16 = .ok (.invokevirtual 170, 3) := by decide +kernel
theorem dX7_settles_19 : decode cX7_settles 19 = .ok (.ireturn, 1) := by decide +kernel
theorem dX7_settles_20 : decode cX7_settles 20 = .ok (.iload_n 1, 1) := by decide +kernel
theorem dX7_settles_21 : decode cX7_settles 21 = .ok (.ifCond .ge 10, 3) := by decide +kernel
theorem dX7_settles_24 : decode cX7_settles 24 = .ok (.aload_n 0, 1) := by decide +kernel
theorem dX7_settles_25 : decode cX7_settles 25 = .ok (.invokevirtual 359, 3) := by decide +kernel
theorem dX7_settles_28 : decode cX7_settles 28 = .ok (.goto 8, 3) := by decide +kernel
theorem dX7_settles_31 : decode cX7_settles 31 = .ok (.aload_n 0, 1) := by decide +kernel
theorem dX7_settles_32 : decode cX7_settles 32 = .ok (.iload_n 1, 1) := by decide +kernel
theorem dX7_settles_33 : decode cX7_settles 33 = .ok (.invokevirtual 362, 3) := by decide +kernel
theorem dX7_settles_36 : decode cX7_settles 36 = .ok (.ireturn, 1) := by decide +kernel
theorem dX7_meeting_0 : decode cX7_meeting 0 = .ok (.aload_n 0, 1) := by decide +kernel
theorem dX7_meeting_1 : decode cX7_meeting 1 = .ok (.iload_n 1, 1) := by decide +kernel
theorem dX7_meeting_2 : decode cX7_meeting 2 = .ok (.iload_n 2, 1) := by decide +kernel
theorem dX7_meeting_3 : decode cX7_meeting 3 = .ok (.invokevirtual 365, 3) := by decide +kernel
theorem dX7_meeting_6 : decode cX7_meeting 6 = .ok (.ifCond .ne 9, 3) := by decide +kernel
theorem dX7_meeting_9 : decode cX7_meeting 9 = .ok (.aload_n 0, 1) := by decide +kernel
theorem dX7_meeting_10 : decode cX7_meeting 10 = .ok (.iconst (-1), 1) := by decide +kernel
theorem dX7_meeting_11 : decode cX7_meeting 11 = .ok (.invokevirtual 170, 3) := by decide +kernel
theorem dX7_meeting_14 : decode cX7_meeting 14 = .ok (.ireturn, 1) := by decide +kernel
theorem dX7_meeting_15 : decode cX7_meeting 15 = .ok (.bipush (-9), 2) := by decide +kernel
theorem dX7_meeting_17 : decode cX7_meeting 17 = .ok (.istore_n 3, 1) := by decide +kernel
theorem dX7_meeting_18 : decode cX7_meeting 18 = .ok (.aload_n 0, 1) := by decide +kernel
theorem dX7_meeting_19 : decode cX7_meeting 19 = .ok (.invokevirtual 343, 3) := by decide +kernel
theorem dX7_meeting_22 : decode cX7_meeting 22 = .ok (.iconst 0, 1) := by decide +kernel
theorem dX7_meeting_23 : decode cX7_meeting 23 = .ok (.istore 4, 2) := by decide +kernel
theorem dX7_meeting_25 : decode cX7_meeting 25 = .ok (.iload 4, 2) := by decide +kernel
theorem dX7_meeting_27 : decode cX7_meeting 27 = .ok (.bipush 60, 2) := by decide +kernel
theorem dX7_meeting_29 : decode cX7_meeting 29 = .ok (.if_icmp .gt 40, 3) := by decide +kernel
theorem dX7_meeting_32 : decode cX7_meeting 32 = .ok (.iload_n 3, 1) := by decide +kernel
theorem dX7_meeting_33 : decode cX7_meeting 33 = .ok (.ifCond .ge 36, 3) := by decide +kernel
theorem dX7_meeting_36 : decode cX7_meeting 36 = .ok (.aload_n 0, 1) := by decide +kernel
theorem dX7_meeting_37 : decode cX7_meeting 37 = .ok (.getfield 28, 3) := by decide +kernel
theorem dX7_meeting_40 : decode cX7_meeting 40 = .ok (.iload_n 1, 1) := by decide +kernel
theorem dX7_meeting_41 : decode cX7_meeting 41 = .ok (.iaload, 1) := by decide +kernel
theorem dX7_meeting_42 : decode cX7_meeting 42 = .ok (.aload_n 0, 1) := by decide +kernel
theorem dX7_meeting_43 : decode cX7_meeting 43 = .ok (.getfield 28, 3) := by decide +kernel
theorem dX7_meeting_46 : decode cX7_meeting 46 = .ok (.iload_n 2, 1) := by decide +kernel
theorem dX7_meeting_47 : decode cX7_meeting 47 = .ok (.iaload, 1) := by decide +kernel
theorem dX7_meeting_48 : decode cX7_meeting 48 = .ok (.if_icmp .ne 8, 3) := by decide +kernel
theorem dX7_meeting_51 : decode cX7_meeting 51 = .ok (.iload 4, 2) := by decide +kernel
theorem dX7_meeting_53 : decode cX7_meeting 53 = .ok (.goto 5, 3) := by decide +kernel
theorem dX7_meeting_56 : decode cX7_meeting 56 = .ok (.bipush (-9), 2) := by decide +kernel
theorem dX7_meeting_58 : decode cX7_meeting 58 = .ok (.istore_n 3, 1) := by decide +kernel
theorem dX7_meeting_59 : decode cX7_meeting 59 = .ok (.aload_n 0, 1) := by decide +kernel
theorem dX7_meeting_60 : decode cX7_meeting 60 = .ok (.invokevirtual 160, 3) := by decide +kernel
theorem dX7_meeting_63 : decode cX7_meeting 63 = .ok (.iinc 4 1, 3) := by decide +kernel
theorem dX7_meeting_66 : decode cX7_meeting 66 = .ok (.goto (-41), 3) := by decide +kernel
theorem dX7_meeting_69 : decode cX7_meeting 69 = .ok (.aload_n 0, 1) := by decide +kernel
theorem dX7_meeting_70 : decode cX7_meeting 70 = .ok (.invokevirtual 346, 3) := by decide +kernel
theorem dX7_meeting_73 : decode cX7_meeting 73 = .ok (.iload_n 3, 1) := by decide +kernel
theorem dX7_meeting_74 : decode cX7_meeting 74 = .ok (.ireturn, 1) := by decide +kernel
theorem dX7_bestWord_0 : decode cX7_bestWord 0 = .ok (.aload_n 0, 1) := by decide +kernel
theorem dX7_bestWord_1 : decode cX7_bestWord 1 = .ok (.iload_n 1, 1) := by decide +kernel
theorem dX7_bestWord_2 : decode cX7_bestWord 2 = .ok (.invokevirtual 89, 3) := by decide +kernel
theorem dX7_bestWord_5 : decode cX7_bestWord 5 = .ok (.ifCond .ne 7, 3) := by decide +kernel
theorem dX7_bestWord_8 : decode cX7_bestWord 8 = .ok (.iconst (-1), 1) := by decide +kernel
theorem dX7_bestWord_9 : decode cX7_bestWord 9 = .ok (.goto 10, 3) := by decide +kernel
theorem dX7_bestWord_12 : decode cX7_bestWord 12 = .ok (.iload_n 2, 1) := by decide +kernel
theorem dX7_bestWord_13 : decode cX7_bestWord 13 = .ok (.iconst 0, 1) := by decide +kernel
theorem dX7_bestWord_14 : decode cX7_bestWord 14 = .ok (.bipush 60, 2) := by decide +kernel
theorem dX7_bestWord_16 : decode cX7_bestWord 16 = .ok (.invokestatic 163, 3) := by decide +kernel
theorem dX7_bestWord_19 : decode cX7_bestWord 19 = .ok (.istore 4, 2) := by decide +kernel
theorem dX7_bestWord_21 : decode cX7_bestWord 21 = .ok (.iload 4, 2) := by decide +kernel
theorem dX7_bestWord_23 : decode cX7_bestWord 23 = .ok (.ifCond .ne 16, 3) := by decide +kernel
theorem dX7_bestWord_26 : decode cX7_bestWord 26 = .ok (.iload_n 3, 1) := by decide +kernel
theorem dX7_bestWord_27 : decode cX7_bestWord 27 = .ok (.iconst 0, 1) := by decide +kernel
theorem dX7_bestWord_28 : decode cX7_bestWord 28 = .ok (.iconst 1, 1) := by decide +kernel
theorem dX7_bestWord_29 : decode cX7_bestWord 29 = .ok (.invokestatic 85, 3) := by decide +kernel
theorem dX7_bestWord_32 : decode cX7_bestWord 32 = .ok (.ifCond .ne 7, 3) := by decide +kernel
theorem dX7_bestWord_35 : decode cX7_bestWord 35 = .ok (.bipush (-2), 2) := by decide +kernel
theorem dX7_bestWord_37 : decode cX7_bestWord 37 = .ok (.istore 4, 2) := by decide +kernel
theorem dX7_bestWord_39 : decode cX7_bestWord 39 = .ok (.iload 4, 2) := by decide +kernel
theorem dX7_bestWord_41 : decode cX7_bestWord 41 = .ok (.ifCond .eq 10, 3) := by decide +kernel
theorem dX7_bestWord_44 : decode cX7_bestWord 44 = .ok (.aload_n 0, 1) := by decide +kernel
theorem dX7_bestWord_45 : decode cX7_bestWord 45 = .ok (.iload 4, 2) := by decide +kernel
theorem dX7_bestWord_47 : decode cX7_bestWord 47 = .ok (.invokevirtual 170, 3) := by decide +kernel
theorem dX7_bestWord_50 : decode cX7_bestWord 50 = .ok (.ireturn, 1) := by decide +kernel
theorem dX7_bestWord_51 : decode cX7_bestWord 51 = .ok (.bipush (-9), 2) := by decide +kernel
theorem dX7_bestWord_53 : decode cX7_bestWord 53 = .ok (.istore 5, 2) := by decide +kernel
theorem dX7_bestWord_55 : decode cX7_bestWord 55 = .ok (.bipush (-9), 2) := by decide +kernel
theorem dX7_bestWord_57 : decode cX7_bestWord 57 = .ok (.istore 6, 2) := by decide +kernel
theorem dX7_bestWord_59 : decode cX7_bestWord 59 = .ok (.iconst 0, 1) := by decide +kernel
theorem dX7_bestWord_60 : decode cX7_bestWord 60 = .ok (.istore 7, 2) := by decide +kernel
theorem dX7_bestWord_62 : decode cX7_bestWord 62 = .ok (.iload 7, 2) := by decide +kernel
theorem dX7_bestWord_64 : decode cX7_bestWord 64 = .ok (.iconst 4, 1) := by decide +kernel
theorem dX7_bestWord_65 : decode cX7_bestWord 65 = .ok (.if_icmp .gt 56, 3) := by decide +kernel
theorem dX7_bestWord_68 : decode cX7_bestWord 68 = .ok (.aload_n 0, 1) := by decide +kernel
theorem dX7_bestWord_69 : decode cX7_bestWord 69 = .ok (.invokevirtual 343, 3) := by decide +kernel
theorem dX7_bestWord_72 : decode cX7_bestWord 72 = .ok (.aload_n 0, 1) := by decide +kernel
theorem dX7_bestWord_73 : decode cX7_bestWord 73 = .ok (.getfield 34, 3) := by decide +kernel
theorem dX7_bestWord_76 : decode cX7_bestWord 76 = .ok (.iload_n 1, 1) := by decide +kernel
theorem dX7_bestWord_77 : decode cX7_bestWord 77 = .ok (.iload 7, 2) := by decide +kernel
theorem dX7_bestWord_79 : decode cX7_bestWord 79 = .ok (.iastore, 1) := by decide +kernel
theorem dX7_bestWord_80 : decode cX7_bestWord 80 = .ok (.aload_n 0, 1) := by decide +kernel
theorem dX7_bestWord_81 : decode cX7_bestWord 81 = .ok (.iload_n 2, 1) := by decide +kernel
theorem dX7_bestWord_82 : decode cX7_bestWord 82 = .ok (.invokevirtual 261, 3) := by decide +kernel
theorem dX7_bestWord_85 : decode cX7_bestWord 85 = .ok (.aload_n 0, 1) := by decide +kernel
theorem dX7_bestWord_86 : decode cX7_bestWord 86 = .ok (.getfield 37, 3) := by decide +kernel
theorem dX7_bestWord_89 : decode cX7_bestWord 89 = .ok (.iload_n 1, 1) := by decide +kernel
theorem dX7_bestWord_90 : decode cX7_bestWord 90 = .ok (.iaload, 1) := by decide +kernel
theorem dX7_bestWord_91 : decode cX7_bestWord 91 = .ok (.istore 8, 2) := by decide +kernel
theorem dX7_bestWord_93 : decode cX7_bestWord 93 = .ok (.aload_n 0, 1) := by decide +kernel
theorem dX7_bestWord_94 : decode cX7_bestWord 94 = .ok (.invokevirtual 346, 3) := by decide +kernel
theorem dX7_bestWord_97 : decode cX7_bestWord 97 = .ok (.iload 8, 2) := by decide +kernel
theorem dX7_bestWord_99 : decode cX7_bestWord 99 = .ok (.iload 6, 2) := by decide +kernel
theorem dX7_bestWord_101 : decode cX7_bestWord 101 = .ok (.if_icmp .gt 6, 3) := by decide +kernel
theorem dX7_bestWord_104 : decode cX7_bestWord 104 = .ok (.goto 11, 3) := by decide +kernel
theorem dX7_bestWord_107 : decode cX7_bestWord 107 = .ok (.iload 7, 2) := by decide +kernel
theorem dX7_bestWord_109 : decode cX7_bestWord 109 = .ok (.istore 5, 2) := by decide +kernel
theorem dX7_bestWord_111 : decode cX7_bestWord 111 = .ok (.iload 8, 2) := by decide +kernel
theorem dX7_bestWord_113 : decode cX7_bestWord 113 = .ok (.istore 6, 2) := by decide +kernel
theorem dX7_bestWord_115 : decode cX7_bestWord 115 = .ok (.iinc 7 1, 3) := by decide +kernel
theorem dX7_bestWord_118 : decode cX7_bestWord 118 = .ok (.goto (-56), 3) := by decide +kernel
theorem dX7_bestWord_121 : decode cX7_bestWord 121 = .ok (.iload_n 3, 1) := by decide +kernel
theorem dX7_bestWord_122 : decode cX7_bestWord 122 = .ok (.ifCond .ne 8, 3) := by decide +kernel
theorem dX7_bestWord_125 : decode cX7_bestWord 125 = .ok (.iload 5, 2) := by decide +kernel
theorem dX7_bestWord_127 : decode cX7_bestWord 127 = .ok (.goto 5, 3) := by decide +kernel
theorem dX7_bestWord_130 : decode cX7_bestWord 130 = .ok (.iload 6, 2) := by decide +kernel
theorem dX7_bestWord_132 : decode cX7_bestWord 132 = .ok (.ireturn, 1) := by decide +kernel
theorem dX7_bestLetter_0 : decode cX7_bestLetter 0 = .ok (.aload_n 0, 1) := by decide +kernel
theorem dX7_bestLetter_1 : decode cX7_bestLetter 1 = .ok (.iload_n 1, 1) := by decide +kernel
theorem dX7_bestLetter_2 : decode cX7_bestLetter 2 = .ok (.invokevirtual 89, 3) := by decide +kernel
theorem dX7_bestLetter_5 : decode cX7_bestLetter 5 = .ok (.ifCond .ne 7, 3) := by decide +kernel
theorem dX7_bestLetter_8 : decode cX7_bestLetter 8 = .ok (.iconst (-1), 1) := by decide +kernel
theorem dX7_bestLetter_9 : decode cX7_bestLetter 9 = .ok (.goto 10, 3) := by decide +kernel
theorem dX7_bestLetter_12 : decode cX7_bestLetter 12 = .ok (.iload_n 2, 1) := by decide +kernel
theorem dX7_bestLetter_13 : decode cX7_bestLetter 13 = .ok (.iconst 0, 1) := by decide +kernel
theorem dX7_bestLetter_14 : decode cX7_bestLetter 14 = .ok (.bipush 30, 2) := by decide +kernel
theorem dX7_bestLetter_16 : decode cX7_bestLetter 16 = .ok (.invokestatic 163, 3) := by decide +kernel
theorem dX7_bestLetter_19 : decode cX7_bestLetter 19 = .ok (.istore 4, 2) := by decide +kernel
theorem dX7_bestLetter_21 : decode cX7_bestLetter 21 = .ok (.iload 4, 2) := by decide +kernel
theorem dX7_bestLetter_23 : decode cX7_bestLetter 23 = .ok (.ifCond .ne 16, 3) := by decide +kernel
theorem dX7_bestLetter_26 : decode cX7_bestLetter 26 = .ok (.iload_n 3, 1) := by decide +kernel
theorem dX7_bestLetter_27 : decode cX7_bestLetter 27 = .ok (.iconst 0, 1) := by decide +kernel
theorem dX7_bestLetter_28 : decode cX7_bestLetter 28 = .ok (.iconst 1, 1) := by decide +kernel
theorem dX7_bestLetter_29 : decode cX7_bestLetter 29 = .ok (.invokestatic 85, 3) := by decide +kernel
theorem dX7_bestLetter_32 : decode cX7_bestLetter 32 = .ok (.ifCond .ne 7, 3) := by decide +kernel
theorem dX7_bestLetter_35 : decode cX7_bestLetter 35 = .ok (.bipush (-2), 2) := by decide +kernel
theorem dX7_bestLetter_37 : decode cX7_bestLetter 37 = .ok (.istore 4, 2) := by decide +kernel
theorem dX7_bestLetter_39 : decode cX7_bestLetter 39 = .ok (.iload 4, 2) := by decide +kernel
theorem dX7_bestLetter_41 : decode cX7_bestLetter 41 = .ok (.ifCond .eq 10, 3) := by decide +kernel
theorem dX7_bestLetter_44 : decode cX7_bestLetter 44 = .ok (.aload_n 0, 1) := by decide +kernel
theorem dX7_bestLetter_45 : decode cX7_bestLetter 45 = .ok (.iload 4, 2) := by decide +kernel
theorem dX7_bestLetter_47 : decode cX7_bestLetter 47 = .ok (.invokevirtual 170, 3) := by decide +kernel
theorem dX7_bestLetter_50 : decode cX7_bestLetter 50 = .ok (.ireturn, 1) := by decide +kernel
theorem dX7_bestLetter_51 : decode cX7_bestLetter 51 = .ok (.aload_n 0, 1) := by decide +kernel
theorem dX7_bestLetter_52 : decode cX7_bestLetter 52 = .ok (.getfield 43, 3) := by decide +kernel
theorem dX7_bestLetter_55 : decode cX7_bestLetter 55 = .ok (.iload_n 1, 1) := by decide +kernel
theorem dX7_bestLetter_56 : decode cX7_bestLetter 56 = .ok (.iaload, 1) := by decide +kernel
theorem dX7_bestLetter_57 : decode cX7_bestLetter 57 = .ok (.bipush 6, 2) := by decide +kernel
theorem dX7_bestLetter_59 : decode cX7_bestLetter 59 = .ok (.if_icmp .ne 6, 3) := by decide +kernel
theorem dX7_bestLetter_62 : decode cX7_bestLetter 62 = .ok (.bipush (-9), 2) := by decide +kernel
theorem dX7_bestLetter_64 : decode cX7_bestLetter 64 = .ok (.ireturn, 1) := by decide +kernel
theorem dX7_bestLetter_65 : decode cX7_bestLetter 65 = .ok (.bipush (-9), 2) := by decide +kernel
theorem dX7_bestLetter_67 : decode cX7_bestLetter 67 = .ok (.istore 5, 2) := by decide +kernel
theorem dX7_bestLetter_69 : decode cX7_bestLetter 69 = .ok (.bipush (-9), 2) := by decide +kernel
theorem dX7_bestLetter_71 : decode cX7_bestLetter 71 = .ok (.istore 6, 2) := by decide +kernel
theorem dX7_bestLetter_73 : decode cX7_bestLetter 73 = .ok (.iconst 0, 1) := by decide +kernel
theorem dX7_bestLetter_74 : decode cX7_bestLetter 74 = .ok (.istore 7, 2) := by decide +kernel
theorem dX7_bestLetter_76 : decode cX7_bestLetter 76 = .ok (.iload 7, 2) := by decide +kernel
theorem dX7_bestLetter_78 : decode cX7_bestLetter 78 = .ok (.bipush 26, 2) := by decide +kernel
theorem dX7_bestLetter_80 : decode cX7_bestLetter 80 = .ok (.if_icmp .ge 55, 3) := by decide +kernel
theorem dX7_bestLetter_83 : decode cX7_bestLetter 83 = .ok (.aload_n 0, 1) := by decide +kernel
theorem dX7_bestLetter_84 : decode cX7_bestLetter 84 = .ok (.invokevirtual 343, 3) := by decide +kernel
theorem dX7_bestLetter_87 : decode cX7_bestLetter 87 = .ok (.aload_n 0, 1) := by decide +kernel
theorem dX7_bestLetter_88 : decode cX7_bestLetter 88 = .ok (.iload_n 1, 1) := by decide +kernel
theorem dX7_bestLetter_89 : decode cX7_bestLetter 89 = .ok (.iload 7, 2) := by decide +kernel
theorem dX7_bestLetter_91 : decode cX7_bestLetter 91 = .ok (.invokevirtual 339, 3) := by decide +kernel
theorem dX7_bestLetter_94 : decode cX7_bestLetter 94 = .ok (.aload_n 0, 1) := by decide +kernel
theorem dX7_bestLetter_95 : decode cX7_bestLetter 95 = .ok (.iload_n 2, 1) := by decide +kernel
theorem dX7_bestLetter_96 : decode cX7_bestLetter 96 = .ok (.invokevirtual 261, 3) := by decide +kernel
theorem dX7_bestLetter_99 : decode cX7_bestLetter 99 = .ok (.aload_n 0, 1) := by decide +kernel
theorem dX7_bestLetter_100 : decode cX7_bestLetter 100 = .ok (.getfield 37, 3) := by decide +kernel
theorem dX7_bestLetter_103 : decode cX7_bestLetter 103 = .ok (.iload_n 1, 1) := by decide +kernel
theorem dX7_bestLetter_104 : decode cX7_bestLetter 104 = .ok (.iaload, 1) := by decide +kernel
theorem dX7_bestLetter_105 : decode cX7_bestLetter 105 = .ok (.istore 8, 2) := by decide +kernel
theorem dX7_bestLetter_107 : decode cX7_bestLetter 107 = .ok (.aload_n 0, 1) := by decide +kernel
theorem dX7_bestLetter_108 : decode cX7_bestLetter 108 = .ok (.invokevirtual 346, 3) := by decide +kernel
theorem dX7_bestLetter_111 : decode cX7_bestLetter 111 = .ok (.iload 8, 2) := by decide +kernel
theorem dX7_bestLetter_113 : decode cX7_bestLetter 113 = .ok (.iload 6, 2) := by decide +kernel
theorem dX7_bestLetter_115 : decode cX7_bestLetter 115 = .ok (.if_icmp .gt 6, 3) := by decide +kernel
theorem dX7_bestLetter_118 : decode cX7_bestLetter 118 = .ok (.goto 11, 3) := by decide +kernel
theorem dX7_bestLetter_121 : decode cX7_bestLetter 121 = .ok (.iload 7, 2) := by decide +kernel
theorem dX7_bestLetter_123 : decode cX7_bestLetter 123 = .ok (.istore 5, 2) := by decide +kernel
theorem dX7_bestLetter_125 : decode cX7_bestLetter 125 = .ok (.iload 8, 2) := by decide +kernel
theorem dX7_bestLetter_127 : decode cX7_bestLetter 127 = .ok (.istore 6, 2) := by decide +kernel
theorem dX7_bestLetter_129 : decode cX7_bestLetter 129 = .ok (.iinc 7 1, 3) := by decide +kernel
theorem dX7_bestLetter_132 : decode cX7_bestLetter 132 = .ok (.goto (-56), 3) := by decide +kernel
theorem dX7_bestLetter_135 : decode cX7_bestLetter 135 = .ok (.iload_n 3, 1) := by decide +kernel
theorem dX7_bestLetter_136 : decode cX7_bestLetter 136 = .ok (.ifCond .ne 8, 3) := by decide +kernel
theorem dX7_bestLetter_139 : decode cX7_bestLetter 139 = .ok (.iload 5, 2) := by decide +kernel
theorem dX7_bestLetter_141 : decode cX7_bestLetter 141 = .ok (.goto 5, 3) := by decide +kernel
theorem dX7_bestLetter_144 : decode cX7_bestLetter 144 = .ok (.iload 6, 2) := by decide +kernel
theorem dX7_bestLetter_146 : decode cX7_bestLetter 146 = .ok (.ireturn, 1) := by decide +kernel
theorem dX7_comesTo_0 : decode cX7_comesTo 0 = .ok (.iconst 0, 1) := by decide +kernel
theorem dX7_comesTo_1 : decode cX7_comesTo 1 = .ok (.istore 4, 2) := by decide +kernel
theorem dX7_comesTo_3 : decode cX7_comesTo 3 = .ok (.iconst 0, 1) := by decide +kernel
theorem dX7_comesTo_4 : decode cX7_comesTo 4 = .ok (.istore 5, 2) := by decide +kernel
theorem dX7_comesTo_6 : decode cX7_comesTo 6 = .ok (.iload 5, 2) := by decide +kernel
theorem dX7_comesTo_8 : decode cX7_comesTo 8 = .ok (.iload_n 3, 1) := by decide +kernel
theorem dX7_comesTo_9 : decode cX7_comesTo 9 = .ok (.if_icmp .ge 35, 3) := by decide +kernel
theorem dX7_comesTo_12 : decode cX7_comesTo 12 = .ok (.iload 4, 2) := by decide +kernel
theorem dX7_comesTo_14 : decode cX7_comesTo 14 = .ok (.ifCond .ne 30, 3) := by decide +kernel
theorem dX7_comesTo_17 : decode cX7_comesTo 17 = .ok (.aload_n 0, 1) := by decide +kernel
theorem dX7_comesTo_18 : decode cX7_comesTo 18 = .ok (.invokevirtual 160, 3) := by decide +kernel
theorem dX7_comesTo_21 : decode cX7_comesTo 21 = .ok (.aload_n 0, 1) := by decide +kernel
theorem dX7_comesTo_22 : decode cX7_comesTo 22 = .ok (.getfield 28, 3) := by decide +kernel
theorem dX7_comesTo_25 : decode cX7_comesTo 25 = .ok (.iload_n 1, 1) := by decide +kernel
theorem dX7_comesTo_26 : decode cX7_comesTo 26 = .ok (.iaload, 1) := by decide +kernel
theorem dX7_comesTo_27 : decode cX7_comesTo 27 = .ok (.iload_n 2, 1) := by decide +kernel
theorem dX7_comesTo_28 : decode cX7_comesTo 28 = .ok (.if_icmp .ne 7, 3) := by decide +kernel
theorem dX7_comesTo_31 : decode cX7_comesTo 31 = .ok (.iconst 1, 1) := by decide +kernel
theorem dX7_comesTo_32 : decode cX7_comesTo 32 = .ok (.goto 4, 3) := by decide +kernel
theorem dX7_comesTo_35 : decode cX7_comesTo 35 = .ok (.iconst 0, 1) := by decide +kernel
theorem dX7_comesTo_36 : decode cX7_comesTo 36 = .ok (.istore 4, 2) := by decide +kernel
theorem dX7_comesTo_38 : decode cX7_comesTo 38 = .ok (.iinc 5 1, 3) := by decide +kernel
theorem dX7_comesTo_41 : decode cX7_comesTo 41 = .ok (.goto (-35), 3) := by decide +kernel
theorem dX7_comesTo_44 : decode cX7_comesTo 44 = .ok (.iload 4, 2) := by decide +kernel
theorem dX7_comesTo_46 : decode cX7_comesTo 46 = .ok (.ireturn, 1) := by decide +kernel
theorem dX7_holds_0 : decode cX7_holds 0 = .ok (.aload_n 0, 1) := by decide +kernel
theorem dX7_holds_1 : decode cX7_holds 1 = .ok (.iload_n 1, 1) := by decide +kernel
theorem dX7_holds_2 : decode cX7_holds 2 = .ok (.invokevirtual 89, 3) := by decide +kernel
theorem dX7_holds_5 : decode cX7_holds 5 = .ok (.ifCond .eq 10, 3) := by decide +kernel
theorem dX7_holds_8 : decode cX7_holds 8 = .ok (.iload_n 2, 1) := by decide +kernel
theorem dX7_holds_9 : decode cX7_holds 9 = .ok (.invokestatic 244, 3) := by decide +kernel
theorem dX7_holds_12 : decode cX7_holds 12 = .ok (.ifCond .ne 7, 3) := by decide +kernel
theorem dX7_holds_15 : decode cX7_holds 15 = .ok (.iconst (-1), 1) := by decide +kernel
theorem dX7_holds_16 : decode cX7_holds 16 = .ok (.goto 10, 3) := by decide +kernel
theorem dX7_holds_19 : decode cX7_holds 19 = .ok (.iload_n 3, 1) := by decide +kernel
theorem dX7_holds_20 : decode cX7_holds 20 = .ok (.iconst 1, 1) := by decide +kernel
theorem dX7_holds_21 : decode cX7_holds 21 = .ok (.bipush 60, 2) := by decide +kernel
theorem dX7_holds_23 : decode cX7_holds 23 = .ok (.invokestatic 163, 3) := by decide +kernel
theorem dX7_holds_26 : decode cX7_holds 26 = .ok (.istore 4, 2) := by decide +kernel
theorem dX7_holds_28 : decode cX7_holds 28 = .ok (.iload 4, 2) := by decide +kernel
theorem dX7_holds_30 : decode cX7_holds 30 = .ok (.ifCond .eq 10, 3) := by decide +kernel
theorem dX7_holds_33 : decode cX7_holds 33 = .ok (.aload_n 0, 1) := by decide +kernel
theorem dX7_holds_34 : decode cX7_holds 34 = .ok (.iload 4, 2) := by decide +kernel
theorem dX7_holds_36 : decode cX7_holds 36 = .ok (.invokevirtual 170, 3) := by decide +kernel
theorem dX7_holds_39 : decode cX7_holds 39 = .ok (.ireturn, 1) := by decide +kernel
theorem dX7_holds_40 : decode cX7_holds 40 = .ok (.bipush (-9), 2) := by decide +kernel
theorem dX7_holds_42 : decode cX7_holds 42 = .ok (.istore 5, 2) := by decide +kernel
theorem dX7_holds_44 : decode cX7_holds 44 = .ok (.bipush 9, 2) := by decide +kernel
theorem dX7_holds_46 : decode cX7_holds 46 = .ok (.istore 6, 2) := by decide +kernel
theorem dX7_holds_48 : decode cX7_holds 48 = .ok (.iload 6, 2) := by decide +kernel
theorem dX7_holds_50 : decode cX7_holds 50 = .ok (.ifCond .lt 44, 3) := by decide +kernel
theorem dX7_holds_53 : decode cX7_holds 53 = .ok (.aload_n 0, 1) := by decide +kernel
theorem dX7_holds_54 : decode cX7_holds 54 = .ok (.invokevirtual 343, 3) := by decide +kernel
theorem dX7_holds_57 : decode cX7_holds 57 = .ok (.aload_n 0, 1) := by decide +kernel
theorem dX7_holds_58 : decode cX7_holds 58 = .ok (.getfield 13, 3) := by decide +kernel
theorem dX7_holds_61 : decode cX7_holds 61 = .ok (.iload_n 2, 1) := by decide +kernel
theorem dX7_holds_62 : decode cX7_holds 62 = .ok (.iload 6, 2) := by decide +kernel
theorem dX7_holds_64 : decode cX7_holds 64 = .ok (.iastore, 1) := by decide +kernel
theorem dX7_holds_65 : decode cX7_holds 65 = .ok (.aload_n 0, 1) := by decide +kernel
theorem dX7_holds_66 : decode cX7_holds 66 = .ok (.iload_n 1, 1) := by decide +kernel
theorem dX7_holds_67 : decode cX7_holds 67 = .ok (.iload_n 2, 1) := by decide +kernel
theorem dX7_holds_68 : decode cX7_holds 68 = .ok (.iload_n 3, 1) := by decide +kernel
theorem dX7_holds_69 : decode cX7_holds 69 = .ok (.invokevirtual 368, 3) := by decide +kernel
theorem dX7_holds_72 : decode cX7_holds 72 = .ok (.ifCond .eq 8, 3) := by decide +kernel
theorem dX7_holds_75 : decode cX7_holds 75 = .ok (.iload 5, 2) := by decide +kernel
theorem dX7_holds_77 : decode cX7_holds 77 = .ok (.goto 5, 3) := by decide +kernel
theorem dX7_holds_80 : decode cX7_holds 80 = .ok (.iload 6, 2) := by decide +kernel
theorem dX7_holds_82 : decode cX7_holds 82 = .ok (.istore 5, 2) := by decide +kernel
theorem dX7_holds_84 : decode cX7_holds 84 = .ok (.aload_n 0, 1) := by decide +kernel
theorem dX7_holds_85 : decode cX7_holds 85 = .ok (.invokevirtual 346, 3) := by decide +kernel
theorem dX7_holds_88 : decode cX7_holds 88 = .ok (.iinc 6 (-1), 3) := by decide +kernel
theorem dX7_holds_91 : decode cX7_holds 91 = .ok (.goto (-43), 3) := by decide +kernel
theorem dX7_holds_94 : decode cX7_holds 94 = .ok (.iload 5, 2) := by decide +kernel
theorem dX7_holds_96 : decode cX7_holds 96 = .ok (.ireturn, 1) := by decide +kernel
theorem dX7_wallFor_0 : decode cX7_wallFor 0 = .ok (.aload_n 0, 1) := by decide +kernel
theorem dX7_wallFor_1 : decode cX7_wallFor 1 = .ok (.iload_n 1, 1) := by decide +kernel
theorem dX7_wallFor_2 : decode cX7_wallFor 2 = .ok (.invokevirtual 89, 3) := by decide +kernel
theorem dX7_wallFor_5 : decode cX7_wallFor 5 = .ok (.ifCond .eq 10, 3) := by decide +kernel
theorem dX7_wallFor_8 : decode cX7_wallFor 8 = .ok (.iload_n 2, 1) := by decide +kernel
theorem dX7_wallFor_9 : decode cX7_wallFor 9 = .ok (.invokestatic 244, 3) := by decide +kernel
theorem dX7_wallFor_12 : decode cX7_wallFor 12 = .ok (.ifCond .ne 7, 3) := by decide +kernel
theorem dX7_wallFor_15 : decode cX7_wallFor 15 = .ok (.iconst (-1), 1) := by decide +kernel
theorem dX7_wallFor_16 : decode cX7_wallFor 16 = .ok (.goto 10, 3) := by decide +kernel
theorem dX7_wallFor_19 : decode cX7_wallFor 19 = .ok (.iload_n 3, 1) := by decide +kernel
theorem dX7_wallFor_20 : decode cX7_wallFor 20 = .ok (.iconst 0, 1) := by decide +kernel
theorem dX7_wallFor_21 : decode cX7_wallFor 21 = .ok (.bipush 30, 2) := by decide +kernel
theorem dX7_wallFor_23 : decode cX7_wallFor 23 = .ok (.invokestatic 163, 3) := by decide +kernel
theorem dX7_wallFor_26 : decode cX7_wallFor 26 = .ok (.istore 4, 2) := by decide +kernel
theorem dX7_wallFor_28 : decode cX7_wallFor 28 = .ok (.iload 4, 2) := by decide +kernel
theorem dX7_wallFor_30 : decode cX7_wallFor 30 = .ok (.ifCond .eq 10, 3) := by decide +kernel
theorem dX7_wallFor_33 : decode cX7_wallFor 33 = .ok (.aload_n 0, 1) := by decide +kernel
theorem dX7_wallFor_34 : decode cX7_wallFor 34 = .ok (.iload 4, 2) := by decide +kernel
theorem dX7_wallFor_36 : decode cX7_wallFor 36 = .ok (.invokevirtual 170, 3) := by decide +kernel
theorem dX7_wallFor_39 : decode cX7_wallFor 39 = .ok (.ireturn, 1) := by decide +kernel
theorem dX7_wallFor_40 : decode cX7_wallFor 40 = .ok (.bipush (-9), 2) := by decide +kernel
theorem dX7_wallFor_42 : decode cX7_wallFor 42 = .ok (.istore 5, 2) := by decide +kernel
theorem dX7_wallFor_44 : decode cX7_wallFor 44 = .ok (.iconst 0, 1) := by decide +kernel
theorem dX7_wallFor_45 : decode cX7_wallFor 45 = .ok (.istore 6, 2) := by decide +kernel
theorem dX7_wallFor_47 : decode cX7_wallFor 47 = .ok (.iload 6, 2) := by decide +kernel
theorem dX7_wallFor_49 : decode cX7_wallFor 49 = .ok (.bipush 48, 2) := by decide +kernel
theorem dX7_wallFor_51 : decode cX7_wallFor 51 = .ok (.if_icmp .ge 55, 3) := by decide +kernel
theorem dX7_wallFor_54 : decode cX7_wallFor 54 = .ok (.iload 5, 2) := by decide +kernel
theorem dX7_wallFor_56 : decode cX7_wallFor 56 = .ok (.ifCond .ge 50, 3) := by decide +kernel
theorem dX7_wallFor_59 : decode cX7_wallFor 59 = .ok (.aload_n 0, 1) := by decide +kernel
theorem dX7_wallFor_60 : decode cX7_wallFor 60 = .ok (.invokevirtual 343, 3) := by decide +kernel
theorem dX7_wallFor_63 : decode cX7_wallFor 63 = .ok (.aload_n 0, 1) := by decide +kernel
theorem dX7_wallFor_64 : decode cX7_wallFor 64 = .ok (.getfield 13, 3) := by decide +kernel
theorem dX7_wallFor_67 : decode cX7_wallFor 67 = .ok (.iload 6, 2) := by decide +kernel
theorem dX7_wallFor_69 : decode cX7_wallFor 69 = .ok (.bipush 9, 2) := by decide +kernel
theorem dX7_wallFor_71 : decode cX7_wallFor 71 = .ok (.iastore, 1) := by decide +kernel
theorem dX7_wallFor_72 : decode cX7_wallFor 72 = .ok (.aload_n 0, 1) := by decide +kernel
theorem dX7_wallFor_73 : decode cX7_wallFor 73 = .ok (.iload_n 3, 1) := by decide +kernel
theorem dX7_wallFor_74 : decode cX7_wallFor 74 = .ok (.invokevirtual 261, 3) := by decide +kernel
theorem dX7_wallFor_77 : decode cX7_wallFor 77 = .ok (.aload_n 0, 1) := by decide +kernel
theorem dX7_wallFor_78 : decode cX7_wallFor 78 = .ok (.getfield 28, 3) := by decide +kernel
theorem dX7_wallFor_81 : decode cX7_wallFor 81 = .ok (.iload_n 1, 1) := by decide +kernel
theorem dX7_wallFor_82 : decode cX7_wallFor 82 = .ok (.iaload, 1) := by decide +kernel
theorem dX7_wallFor_83 : decode cX7_wallFor 83 = .ok (.iload_n 2, 1) := by decide +kernel
theorem dX7_wallFor_84 : decode cX7_wallFor 84 = .ok (.if_icmp .ne 8, 3) := by decide +kernel
theorem dX7_wallFor_87 : decode cX7_wallFor 87 = .ok (.iload 6, 2) := by decide +kernel
theorem dX7_wallFor_89 : decode cX7_wallFor 89 = .ok (.goto 5, 3) := by decide +kernel
theorem dX7_wallFor_92 : decode cX7_wallFor 92 = .ok (.bipush (-9), 2) := by decide +kernel
theorem dX7_wallFor_94 : decode cX7_wallFor 94 = .ok (.istore 5, 2) := by decide +kernel
theorem dX7_wallFor_96 : decode cX7_wallFor 96 = .ok (.aload_n 0, 1) := by decide +kernel
theorem dX7_wallFor_97 : decode cX7_wallFor 97 = .ok (.invokevirtual 346, 3) := by decide +kernel
theorem dX7_wallFor_100 : decode cX7_wallFor 100 = .ok (.iinc 6 1, 3) := by decide +kernel
theorem dX7_wallFor_103 : decode cX7_wallFor 103 = .ok (.goto (-56), 3) := by decide +kernel
theorem dX7_wallFor_106 : decode cX7_wallFor 106 = .ok (.iload 5, 2) := by decide +kernel
theorem dX7_wallFor_108 : decode cX7_wallFor 108 = .ok (.ireturn, 1) := by decide +kernel
theorem dX7_changesNames_0 : decode cX7_changesNames 0 = .ok (.iconst 0, 1) := by decide +kernel
theorem dX7_changesNames_1 : decode cX7_changesNames 1 = .ok (.istore_n 3, 1) := by decide +kernel
theorem dX7_changesNames_2 : decode cX7_changesNames 2 = .ok (.iload_n 3, 1) := by decide +kernel
theorem dX7_changesNames_3 : decode cX7_changesNames 3 = .ok (.bipush 6, 2) := by decide +kernel
theorem dX7_changesNames_5 : decode cX7_changesNames 5 = .ok (.if_icmp .ge 57, 3) := by decide +kernel
theorem dX7_changesNames_8 : decode cX7_changesNames 8 = .ok (.aload_n 0, 1) := by decide +kernel
theorem dX7_changesNames_9 : decode cX7_changesNames 9 = .ok (.getfield 46, 3) := by decide +kernel
theorem dX7_changesNames_12 : decode cX7_changesNames 12 = .ok (.bipush 6, 2) := by decide +kernel
theorem dX7_changesNames_14 : decode cX7_changesNames 14 = .ok (.iload_n 1, 1) := by decide +kernel
theorem dX7_changesNames_15 : decode cX7_changesNames 15 = .ok (.imul, 1) := by decide +kernel
theorem dX7_changesNames_16 : decode cX7_changesNames 16 = .ok (.iload_n 3, 1) := by decide +kernel
theorem dX7_changesNames_17 : decode cX7_changesNames 17 = .ok (.iadd, 1) := by decide +kernel
theorem dX7_changesNames_18 : decode cX7_changesNames 18 = .ok (.iaload, 1) := by decide +kernel
theorem dX7_changesNames_19 : decode cX7_changesNames 19 = .ok (.istore 4, 2) := by decide +kernel
theorem dX7_changesNames_21 : decode cX7_changesNames 21 = .ok (.aload_n 0, 1) := by decide +kernel
theorem dX7_changesNames_22 : decode cX7_changesNames 22 = .ok (.getfield 46, 3) := by decide +kernel
theorem dX7_changesNames_25 : decode cX7_changesNames 25 = .ok (.bipush 6, 2) := by decide +kernel
theorem dX7_changesNames_27 : decode cX7_changesNames 27 = .ok (.iload_n 1, 1) := by decide +kernel
theorem dX7_changesNames_28 : decode cX7_changesNames 28 = .ok (.imul, 1) := by decide +kernel
theorem dX7_changesNames_29 : decode cX7_changesNames 29 = .ok (.iload_n 3, 1) := by decide +kernel
theorem dX7_changesNames_30 : decode cX7_changesNames 30 = .ok (.iadd, 1) := by decide +kernel
theorem dX7_changesNames_31 : decode cX7_changesNames 31 = .ok (.aload_n 0, 1) := by decide +kernel
theorem dX7_changesNames_32 : decode cX7_changesNames 32 = .ok (.getfield 46, 3) := by decide +kernel
theorem dX7_changesNames_35 : decode cX7_changesNames 35 = .ok (.bipush 6, 2) := by decide +kernel
theorem dX7_changesNames_37 : decode cX7_changesNames 37 = .ok (.iload_n 2, 1) := by decide +kernel
theorem dX7_changesNames_38 : decode cX7_changesNames 38 = .ok (.imul, 1) := by decide +kernel
theorem dX7_changesNames_39 : decode cX7_changesNames 39 = .ok (.iload_n 3, 1) := by decide +kernel
theorem dX7_changesNames_40 : decode cX7_changesNames 40 = .ok (.iadd, 1) := by decide +kernel
theorem dX7_changesNames_41 : decode cX7_changesNames 41 = .ok (.iaload, 1) := by decide +kernel
theorem dX7_changesNames_42 : decode cX7_changesNames 42 = .ok (.iastore, 1) := by decide +kernel
theorem dX7_changesNames_43 : decode cX7_changesNames 43 = .ok (.aload_n 0, 1) := by decide +kernel
theorem dX7_changesNames_44 : decode cX7_changesNames 44 = .ok (.getfield 46, 3) := by decide +kernel
theorem dX7_changesNames_47 : decode cX7_changesNames 47 = .ok (.bipush 6, 2) := by decide +kernel
theorem dX7_changesNames_49 : decode cX7_changesNames 49 = .ok (.iload_n 2, 1) := by decide +kernel
theorem dX7_changesNames_50 : decode cX7_changesNames 50 = .ok (.imul, 1) := by decide +kernel
theorem dX7_changesNames_51 : decode cX7_changesNames 51 = .ok (.iload_n 3, 1) := by decide +kernel
theorem dX7_changesNames_52 : decode cX7_changesNames 52 = .ok (.iadd, 1) := by decide +kernel
theorem dX7_changesNames_53 : decode cX7_changesNames 53 = .ok (.iload 4, 2) := by decide +kernel
theorem dX7_changesNames_55 : decode cX7_changesNames 55 = .ok (.iastore, 1) := by decide +kernel
theorem dX7_changesNames_56 : decode cX7_changesNames 56 = .ok (.iinc 3 1, 3) := by decide +kernel
theorem dX7_changesNames_59 : decode cX7_changesNames 59 = .ok (.goto (-57), 3) := by decide +kernel
theorem dX7_changesNames_62 : decode cX7_changesNames 62 = .ok (.aload_n 0, 1) := by decide +kernel
theorem dX7_changesNames_63 : decode cX7_changesNames 63 = .ok (.getfield 43, 3) := by decide +kernel
theorem dX7_changesNames_66 : decode cX7_changesNames 66 = .ok (.iload_n 1, 1) := by decide +kernel
theorem dX7_changesNames_67 : decode cX7_changesNames 67 = .ok (.iaload, 1) := by decide +kernel
theorem dX7_changesNames_68 : decode cX7_changesNames 68 = .ok (.istore_n 3, 1) := by decide +kernel
theorem dX7_changesNames_69 : decode cX7_changesNames 69 = .ok (.aload_n 0, 1) := by decide +kernel
theorem dX7_changesNames_70 : decode cX7_changesNames 70 = .ok (.getfield 43, 3) := by decide +kernel
theorem dX7_changesNames_73 : decode cX7_changesNames 73 = .ok (.iload_n 1, 1) := by decide +kernel
theorem dX7_changesNames_74 : decode cX7_changesNames 74 = .ok (.aload_n 0, 1) := by decide +kernel
theorem dX7_changesNames_75 : decode cX7_changesNames 75 = .ok (.getfield 43, 3) := by decide +kernel
theorem dX7_changesNames_78 : decode cX7_changesNames 78 = .ok (.iload_n 2, 1) := by decide +kernel
theorem dX7_changesNames_79 : decode cX7_changesNames 79 = .ok (.iaload, 1) := by decide +kernel
theorem dX7_changesNames_80 : decode cX7_changesNames 80 = .ok (.iastore, 1) := by decide +kernel
theorem dX7_changesNames_81 : decode cX7_changesNames 81 = .ok (.aload_n 0, 1) := by decide +kernel
theorem dX7_changesNames_82 : decode cX7_changesNames 82 = .ok (.getfield 43, 3) := by decide +kernel
theorem dX7_changesNames_85 : decode cX7_changesNames 85 = .ok (.iload_n 2, 1) := by decide +kernel
theorem dX7_changesNames_86 : decode cX7_changesNames 86 = .ok (.iload_n 3, 1) := by decide +kernel
theorem dX7_changesNames_87 : decode cX7_changesNames 87 = .ok (.iastore, 1) := by decide +kernel
theorem dX7_changesNames_88 : decode cX7_changesNames 88 = .ok (.return_, 1) := by decide +kernel
theorem dX7_names_0 : decode cX7_names 0 = .ok (.iload_n 1, 1) := by decide +kernel
theorem dX7_names_1 : decode cX7_names 1 = .ok (.iconst 0, 1) := by decide +kernel
theorem dX7_names_2 : decode cX7_names 2 = .ok (.bipush 30, 2) := by decide +kernel
theorem dX7_names_4 : decode cX7_names 4 = .ok (.invokestatic 163, 3) := by decide +kernel
theorem dX7_names_7 : decode cX7_names 7 = .ok (.istore_n 2, 1) := by decide +kernel
theorem dX7_names_8 : decode cX7_names 8 = .ok (.iload_n 2, 1) := by decide +kernel
theorem dX7_names_9 : decode cX7_names 9 = .ok (.ifCond .eq 9, 3) := by decide +kernel
theorem dX7_names_12 : decode cX7_names 12 = .ok (.aload_n 0, 1) := by decide +kernel
theorem dX7_names_13 : decode cX7_names 13 = .ok (.iload_n 2, 1) := by decide +kernel
theorem dX7_names_14 : decode cX7_names 14 = .ok (.invokevirtual 170, 3) := by decide +kernel
theorem dX7_names_17 : decode cX7_names 17 = .ok (.ireturn, 1) := by decide +kernel
theorem dX7_names_18 : decode cX7_names 18 = .ok (.bipush (-9), 2) := by decide +kernel
theorem dX7_names_20 : decode cX7_names 20 = .ok (.istore_n 3, 1) := by decide +kernel
theorem dX7_names_21 : decode cX7_names 21 = .ok (.aload_n 0, 1) := by decide +kernel
theorem dX7_names_22 : decode cX7_names 22 = .ok (.invokevirtual 343, 3) := by decide +kernel
theorem dX7_names_25 : decode cX7_names 25 = .ok (.aload_n 0, 1) := by decide +kernel
theorem dX7_names_26 : decode cX7_names 26 = .ok (.iload_n 1, 1) := by decide +kernel
theorem dX7_names_27 : decode cX7_names 27 = .ok (.invokevirtual 261, 3) := by decide +kernel
theorem dX7_names_30 : decode cX7_names 30 = .ok (.aload_n 0, 1) := by decide +kernel
theorem dX7_names_31 : decode cX7_names 31 = .ok (.getfield 37, 3) := by decide +kernel
theorem dX7_names_34 : decode cX7_names 34 = .ok (.aload_n 0, 1) := by decide +kernel
theorem dX7_names_35 : decode cX7_names 35 = .ok (.getfield 79, 3) := by decide +kernel
theorem dX7_names_38 : decode cX7_names 38 = .ok (.invokestatic 352, 3) := by decide +kernel
theorem dX7_names_41 : decode cX7_names 41 = .ok (.istore 4, 2) := by decide +kernel
theorem dX7_names_43 : decode cX7_names 43 = .ok (.aload_n 0, 1) := by decide +kernel
theorem dX7_names_44 : decode cX7_names 44 = .ok (.invokevirtual 346, 3) := by decide +kernel
theorem dX7_names_47 : decode cX7_names 47 = .ok (.iconst 0, 1) := by decide +kernel
theorem dX7_names_48 : decode cX7_names 48 = .ok (.istore 5, 2) := by decide +kernel
theorem dX7_names_50 : decode cX7_names 50 = .ok (.iload 5, 2) := by decide +kernel
theorem dX7_names_52 : decode cX7_names 52 = .ok (.aload_n 0, 1) := by decide +kernel
theorem dX7_names_53 : decode cX7_names 53 = .ok (.getfield 79, 3) := by decide +kernel
theorem dX7_names_56 : decode cX7_names 56 = .ok (.if_icmp .ge 87, 3) := by decide +kernel
theorem dX7_names_59 : decode cX7_names 59 = .ok (.iload 5, 2) := by decide +kernel
theorem dX7_names_61 : decode cX7_names 61 = .ok (.iconst 1, 1) := by decide +kernel
theorem dX7_names_62 : decode cX7_names 62 = .ok (.iadd, 1) := by decide +kernel
theorem dX7_names_63 : decode cX7_names 63 = .ok (.istore 6, 2) := by decide +kernel
theorem dX7_names_65 : decode cX7_names 65 = .ok (.iload 6, 2) := by decide +kernel
theorem dX7_names_67 : decode cX7_names 67 = .ok (.aload_n 0, 1) := by decide +kernel
theorem dX7_names_68 : decode cX7_names 68 = .ok (.getfield 79, 3) := by decide +kernel
theorem dX7_names_71 : decode cX7_names 71 = .ok (.if_icmp .ge 66, 3) := by decide +kernel
theorem dX7_names_74 : decode cX7_names 74 = .ok (.aload_n 0, 1) := by decide +kernel
theorem dX7_names_75 : decode cX7_names 75 = .ok (.invokevirtual 343, 3) := by decide +kernel
theorem dX7_names_78 : decode cX7_names 78 = .ok (.aload_n 0, 1) := by decide +kernel
theorem dX7_names_79 : decode cX7_names 79 = .ok (.iload 5, 2) := by decide +kernel
theorem dX7_names_81 : decode cX7_names 81 = .ok (.iload 6, 2) := by decide +kernel
theorem dX7_names_83 : decode cX7_names 83 = .ok (.invokevirtual 371, 3) := by decide +kernel
theorem dX7_names_86 : decode cX7_names 86 = .ok (.aload_n 0, 1) := by decide +kernel
theorem dX7_names_87 : decode cX7_names 87 = .ok (.iload_n 1, 1) := by decide +kernel
theorem dX7_names_88 : decode cX7_names 88 = .ok (.invokevirtual 261, 3) := by decide +kernel
theorem dX7_names_91 : decode cX7_names 91 = .ok (.aload_n 0, 1) := by decide +kernel
theorem dX7_names_92 : decode cX7_names 92 = .ok (.getfield 37, 3) := by decide +kernel
theorem dX7_names_95 : decode cX7_names 95 = .ok (.aload_n 0, 1) := by decide +kernel
theorem dX7_names_96 : decode cX7_names 96 = .ok (.getfield 79, 3) := by decide +kernel
theorem dX7_names_99 : decode cX7_names 99 = .ok (.invokestatic 352, 3) := by decide +kernel
theorem dX7_names_102 : decode cX7_names 102 = .ok (.istore 7, 2) := by decide +kernel
theorem dX7_names_104 : decode cX7_names 104 = .ok (.aload_n 0, 1) := by decide +kernel
theorem dX7_names_105 : decode cX7_names 105 = .ok (.invokevirtual 346, 3) := by decide +kernel
theorem dX7_names_108 : decode cX7_names 108 = .ok (.iload 7, 2) := by decide +kernel
theorem dX7_names_110 : decode cX7_names 110 = .ok (.iload 4, 2) := by decide +kernel
theorem dX7_names_112 : decode cX7_names 112 = .ok (.if_icmp .gt 6, 3) := by decide +kernel
theorem dX7_names_115 : decode cX7_names 115 = .ok (.goto 16, 3) := by decide +kernel
theorem dX7_names_118 : decode cX7_names 118 = .ok (.bipush 10, 2) := by decide +kernel
theorem dX7_names_120 : decode cX7_names 120 = .ok (.iload 5, 2) := by decide +kernel
theorem dX7_names_122 : decode cX7_names 122 = .ok (.imul, 1) := by decide +kernel
theorem dX7_names_123 : decode cX7_names 123 = .ok (.iload 6, 2) := by decide +kernel
theorem dX7_names_125 : decode cX7_names 125 = .ok (.iadd, 1) := by decide +kernel
theorem dX7_names_126 : decode cX7_names 126 = .ok (.istore_n 3, 1) := by decide +kernel
theorem dX7_names_127 : decode cX7_names 127 = .ok (.iload 7, 2) := by decide +kernel
theorem dX7_names_129 : decode cX7_names 129 = .ok (.istore 4, 2) := by decide +kernel
theorem dX7_names_131 : decode cX7_names 131 = .ok (.iinc 6 1, 3) := by decide +kernel
theorem dX7_names_134 : decode cX7_names 134 = .ok (.goto (-69), 3) := by decide +kernel
theorem dX7_names_137 : decode cX7_names 137 = .ok (.iinc 5 1, 3) := by decide +kernel
theorem dX7_names_140 : decode cX7_names 140 = .ok (.goto (-90), 3) := by decide +kernel
theorem dX7_names_143 : decode cX7_names 143 = .ok (.iload_n 3, 1) := by decide +kernel
theorem dX7_names_144 : decode cX7_names 144 = .ok (.ireturn, 1) := by decide +kernel
theorem dX7_wentSo_0 : decode cX7_wentSo 0 = .ok (.iconst 0, 1) := by decide +kernel
theorem dX7_wentSo_1 : decode cX7_wentSo 1 = .ok (.istore_n 2, 1) := by decide +kernel
theorem dX7_wentSo_2 : decode cX7_wentSo 2 = .ok (.iload_n 2, 1) := by decide +kernel
theorem dX7_wentSo_3 : decode cX7_wentSo 3 = .ok (.aload_n 0, 1) := by decide +kernel
theorem dX7_wentSo_4 : decode cX7_wentSo 4 = .ok (.getfield 374, 3) := by decide +kernel
theorem dX7_wentSo_7 : decode cX7_wentSo 7 = .ok (.if_icmp .ge 30, 3) := by decide +kernel
theorem dX7_wentSo_10 : decode cX7_wentSo 10 = .ok (.aload_n 0, 1) := by decide +kernel
theorem dX7_wentSo_11 : decode cX7_wentSo 11 = .ok (.getfield 28, 3) := by decide +kernel
theorem dX7_wentSo_14 : decode cX7_wentSo 14 = .ok (.iload_n 1, 1) := by decide +kernel
theorem dX7_wentSo_15 : decode cX7_wentSo 15 = .ok (.iaload, 1) := by decide +kernel
theorem dX7_wentSo_16 : decode cX7_wentSo 16 = .ok (.aload_n 0, 1) := by decide +kernel
theorem dX7_wentSo_17 : decode cX7_wentSo 17 = .ok (.getfield 70, 3) := by decide +kernel
theorem dX7_wentSo_20 : decode cX7_wentSo 20 = .ok (.iload_n 2, 1) := by decide +kernel
theorem dX7_wentSo_21 : decode cX7_wentSo 21 = .ok (.iaload, 1) := by decide +kernel
theorem dX7_wentSo_22 : decode cX7_wentSo 22 = .ok (.if_icmp .eq 5, 3) := by decide +kernel
theorem dX7_wentSo_25 : decode cX7_wentSo 25 = .ok (.iconst 0, 1) := by decide +kernel
theorem dX7_wentSo_26 : decode cX7_wentSo 26 = .ok (.ireturn, 1) := by decide +kernel
theorem dX7_wentSo_27 : decode cX7_wentSo 27 = .ok (.aload_n 0, 1) := by decide +kernel
theorem dX7_wentSo_28 : decode cX7_wentSo 28 = .ok (.invokevirtual 160, 3) := by decide +kernel
theorem dX7_wentSo_31 : decode cX7_wentSo 31 = .ok (.iinc 2 1, 3) := by decide +kernel
theorem dX7_wentSo_34 : decode cX7_wentSo 34 = .ok (.goto (-32), 3) := by decide +kernel
theorem dX7_wentSo_37 : decode cX7_wentSo 37 = .ok (.iconst 1, 1) := by decide +kernel
theorem dX7_wentSo_38 : decode cX7_wentSo 38 = .ok (.ireturn, 1) := by decide +kernel
theorem dX7_whatKind_0 : decode cX7_whatKind 0 = .ok (.aload_n 0, 1) := by decide +kernel
theorem dX7_whatKind_1 : decode cX7_whatKind 1 = .ok (.iload_n 1, 1) := by decide +kernel
theorem dX7_whatKind_2 : decode cX7_whatKind 2 = .ok (.invokevirtual 89, 3) := by decide +kernel
theorem dX7_whatKind_5 : decode cX7_whatKind 5 = .ok (.ifCond .ne 7, 3) := by decide +kernel
theorem dX7_whatKind_8 : decode cX7_whatKind 8 = .ok (.iconst (-1), 1) := by decide +kernel
theorem dX7_whatKind_9 : decode cX7_whatKind 9 = .ok (.goto 18, 3) := by decide +kernel
theorem dX7_whatKind_12 : decode cX7_whatKind 12 = .ok (.iload_n 2, 1) := by decide +kernel
theorem dX7_whatKind_13 : decode cX7_whatKind 13 = .ok (.iconst 0, 1) := by decide +kernel
theorem dX7_whatKind_14 : decode cX7_whatKind 14 = .ok (.iconst 1, 1) := by decide +kernel
theorem dX7_whatKind_15 : decode cX7_whatKind 15 = .ok (.invokestatic 85, 3) := by decide +kernel
theorem dX7_whatKind_18 : decode cX7_whatKind 18 = .ok (.ifCond .ne 8, 3) := by decide +kernel
theorem dX7_whatKind_21 : decode cX7_whatKind 21 = .ok (.bipush (-2), 2) := by decide +kernel
theorem dX7_whatKind_23 : decode cX7_whatKind 23 = .ok (.goto 4, 3) := by decide +kernel
theorem dX7_whatKind_26 : decode cX7_whatKind 26 = .ok (.iconst 0, 1) := by decide +kernel
theorem dX7_whatKind_27 : decode cX7_whatKind 27 = .ok (.istore_n 3, 1) := by decide +kernel
theorem dX7_whatKind_28 : decode cX7_whatKind 28 = .ok (.iload_n 3, 1) := by decide +kernel
theorem dX7_whatKind_29 : decode cX7_whatKind 29 = .ok (.ifCond .eq 9, 3) := by decide +kernel
theorem dX7_whatKind_32 : decode cX7_whatKind 32 = .ok (.aload_n 0, 1) := by decide +kernel
theorem dX7_whatKind_33 : decode cX7_whatKind 33 = .ok (.iload_n 3, 1) := by decide +kernel
theorem dX7_whatKind_34 : decode cX7_whatKind 34 = .ok (.invokevirtual 170, 3) := by decide +kernel
theorem dX7_whatKind_37 : decode cX7_whatKind 37 = .ok (.ireturn, 1) := by decide +kernel
theorem dX7_whatKind_38 : decode cX7_whatKind 38 = .ok (.iconst 0, 1) := by decide +kernel
theorem dX7_whatKind_39 : decode cX7_whatKind 39 = .ok (.istore 4, 2) := by decide +kernel
theorem dX7_whatKind_41 : decode cX7_whatKind 41 = .ok (.iconst 0, 1) := by decide +kernel
theorem dX7_whatKind_42 : decode cX7_whatKind 42 = .ok (.istore 5, 2) := by decide +kernel
theorem dX7_whatKind_44 : decode cX7_whatKind 44 = .ok (.iload 5, 2) := by decide +kernel
theorem dX7_whatKind_46 : decode cX7_whatKind 46 = .ok (.iload_n 2, 1) := by decide +kernel
theorem dX7_whatKind_47 : decode cX7_whatKind 47 = .ok (.ifCond .ne 8, 3) := by decide +kernel
theorem dX7_whatKind_50 : decode cX7_whatKind 50 = .ok (.bipush 8, 2) := by decide +kernel
theorem dX7_whatKind_52 : decode cX7_whatKind 52 = .ok (.goto 5, 3) := by decide +kernel
theorem dX7_whatKind_55 : decode cX7_whatKind 55 = .ok (.bipush 10, 2) := by decide +kernel
theorem dX7_whatKind_57 : decode cX7_whatKind 57 = .ok (.if_icmp .ge 61, 3) := by decide +kernel
theorem dX7_whatKind_60 : decode cX7_whatKind 60 = .ok (.aload_n 0, 1) := by decide +kernel
theorem dX7_whatKind_61 : decode cX7_whatKind 61 = .ok (.invokevirtual 343, 3) := by decide +kernel
theorem dX7_whatKind_64 : decode cX7_whatKind 64 = .ok (.iload_n 2, 1) := by decide +kernel
theorem dX7_whatKind_65 : decode cX7_whatKind 65 = .ok (.ifCond .ne 14, 3) := by decide +kernel
theorem dX7_whatKind_68 : decode cX7_whatKind 68 = .ok (.aload_n 0, 1) := by decide +kernel
theorem dX7_whatKind_69 : decode cX7_whatKind 69 = .ok (.getfield 22, 3) := by decide +kernel
theorem dX7_whatKind_72 : decode cX7_whatKind 72 = .ok (.iload_n 1, 1) := by decide +kernel
theorem dX7_whatKind_73 : decode cX7_whatKind 73 = .ok (.iload 5, 2) := by decide +kernel
theorem dX7_whatKind_75 : decode cX7_whatKind 75 = .ok (.iastore, 1) := by decide +kernel
theorem dX7_whatKind_76 : decode cX7_whatKind 76 = .ok (.goto 11, 3) := by decide +kernel
theorem dX7_whatKind_79 : decode cX7_whatKind 79 = .ok (.aload_n 0, 1) := by decide +kernel
theorem dX7_whatKind_80 : decode cX7_whatKind 80 = .ok (.getfield 25, 3) := by decide +kernel
theorem dX7_whatKind_83 : decode cX7_whatKind 83 = .ok (.iload_n 1, 1) := by decide +kernel
theorem dX7_whatKind_84 : decode cX7_whatKind 84 = .ok (.iload 5, 2) := by decide +kernel
theorem dX7_whatKind_86 : decode cX7_whatKind 86 = .ok (.iastore, 1) := by decide +kernel
theorem dX7_whatKind_87 : decode cX7_whatKind 87 = .ok (.iload 4, 2) := by decide +kernel
theorem dX7_whatKind_89 : decode cX7_whatKind 89 = .ok (.aload_n 0, 1) := by decide +kernel
theorem dX7_whatKind_90 : decode cX7_whatKind 90 = .ok (.iload_n 1, 1) := by decide +kernel
theorem dX7_whatKind_91 : decode cX7_whatKind 91 = .ok (.invokevirtual 377, 3) := by decide +kernel
theorem dX7_whatKind_94 : decode cX7_whatKind 94 = .ok (.ifCond .eq 10, 3) := by decide +kernel
theorem dX7_whatKind_97 : decode cX7_whatKind 97 = .ok (.iconst 1, 1) := by decide +kernel
theorem dX7_whatKind_98 : decode cX7_whatKind 98 = .ok (.iload 5, 2) := by decide +kernel
theorem dX7_whatKind_100 : decode cX7_whatKind 100 = .ok (.ishl, 1) := by decide +kernel
theorem dX7_whatKind_101 : decode cX7_whatKind 101 = .ok (.goto 4, 3) := by decide +kernel
theorem dX7_whatKind_104 : decode cX7_whatKind 104 = .ok (.iconst 0, 1) := by decide +kernel
theorem dX7_whatKind_105 : decode cX7_whatKind 105 = .ok (.ior, 1) := by decide +kernel
theorem dX7_whatKind_106 : decode cX7_whatKind 106 = .ok (.istore 4, 2) := by decide +kernel
theorem dX7_whatKind_108 : decode cX7_whatKind 108 = .ok (.aload_n 0, 1) := by decide +kernel
theorem dX7_whatKind_109 : decode cX7_whatKind 109 = .ok (.invokevirtual 346, 3) := by decide +kernel
theorem dX7_whatKind_112 : decode cX7_whatKind 112 = .ok (.iinc 5 1, 3) := by decide +kernel
theorem dX7_whatKind_115 : decode cX7_whatKind 115 = .ok (.goto (-71), 3) := by decide +kernel
theorem dX7_whatKind_118 : decode cX7_whatKind 118 = .ok (.iload 4, 2) := by decide +kernel
theorem dX7_whatKind_120 : decode cX7_whatKind 120 = .ok (.ireturn, 1) := by decide +kernel
theorem dX7_whatWord_0 : decode cX7_whatWord 0 = .ok (.aload_n 0, 1) := by decide +kernel
theorem dX7_whatWord_1 : decode cX7_whatWord 1 = .ok (.iload_n 1, 1) := by decide +kernel
theorem dX7_whatWord_2 : decode cX7_whatWord 2 = .ok (.invokevirtual 89, 3) := by decide +kernel
theorem dX7_whatWord_5 : decode cX7_whatWord 5 = .ok (.ifCond .ne 9, 3) := by decide +kernel
theorem dX7_whatWord_8 : decode cX7_whatWord 8 = .ok (.aload_n 0, 1) := by decide +kernel
theorem dX7_whatWord_9 : decode cX7_whatWord 9 = .ok (.iconst (-1), 1) := by decide +kernel
theorem dX7_whatWord_10 : decode cX7_whatWord 10 = .ok (.invokevirtual 170, 3) := by decide +kernel
theorem dX7_whatWord_13 : decode cX7_whatWord 13 = .ok (.ireturn, 1) := by decide +kernel
theorem dX7_whatWord_14 : decode cX7_whatWord 14 = .ok (.iconst 0, 1) := by decide +kernel
theorem dX7_whatWord_15 : decode cX7_whatWord 15 = .ok (.istore_n 2, 1) := by decide +kernel
theorem dX7_whatWord_16 : decode cX7_whatWord 16 = .ok (.iconst 0, 1) := by decide +kernel
theorem dX7_whatWord_17 : decode cX7_whatWord 17 = .ok (.istore_n 3, 1) := by decide +kernel
theorem dX7_whatWord_18 : decode cX7_whatWord 18 = .ok (.iload_n 3, 1) := by decide +kernel
theorem dX7_whatWord_19 : decode cX7_whatWord 19 = .ok (.iconst 4, 1) := by decide +kernel
theorem dX7_whatWord_20 : decode cX7_whatWord 20 = .ok (.if_icmp .gt 42, 3) := by decide +kernel
theorem dX7_whatWord_23 : decode cX7_whatWord 23 = .ok (.aload_n 0, 1) := by decide +kernel
theorem dX7_whatWord_24 : decode cX7_whatWord 24 = .ok (.invokevirtual 343, 3) := by decide +kernel
theorem dX7_whatWord_27 : decode cX7_whatWord 27 = .ok (.aload_n 0, 1) := by decide +kernel
theorem dX7_whatWord_28 : decode cX7_whatWord 28 = .ok (.getfield 34, 3) := by decide +kernel
theorem dX7_whatWord_31 : decode cX7_whatWord 31 = .ok (.iload_n 1, 1) := by decide +kernel
theorem dX7_whatWord_32 : decode cX7_whatWord 32 = .ok (.iload_n 3, 1) := by decide +kernel
theorem dX7_whatWord_33 : decode cX7_whatWord 33 = .ok (.iastore, 1) := by decide +kernel
theorem dX7_whatWord_34 : decode cX7_whatWord 34 = .ok (.iload_n 2, 1) := by decide +kernel
theorem dX7_whatWord_35 : decode cX7_whatWord 35 = .ok (.aload_n 0, 1) := by decide +kernel
theorem dX7_whatWord_36 : decode cX7_whatWord 36 = .ok (.iload_n 1, 1) := by decide +kernel
theorem dX7_whatWord_37 : decode cX7_whatWord 37 = .ok (.invokevirtual 377, 3) := by decide +kernel
theorem dX7_whatWord_40 : decode cX7_whatWord 40 = .ok (.ifCond .eq 9, 3) := by decide +kernel
theorem dX7_whatWord_43 : decode cX7_whatWord 43 = .ok (.iconst 1, 1) := by decide +kernel
theorem dX7_whatWord_44 : decode cX7_whatWord 44 = .ok (.iload_n 3, 1) := by decide +kernel
theorem dX7_whatWord_45 : decode cX7_whatWord 45 = .ok (.ishl, 1) := by decide +kernel
theorem dX7_whatWord_46 : decode cX7_whatWord 46 = .ok (.goto 4, 3) := by decide +kernel
theorem dX7_whatWord_49 : decode cX7_whatWord 49 = .ok (.iconst 0, 1) := by decide +kernel
theorem dX7_whatWord_50 : decode cX7_whatWord 50 = .ok (.ior, 1) := by decide +kernel
theorem dX7_whatWord_51 : decode cX7_whatWord 51 = .ok (.istore_n 2, 1) := by decide +kernel
theorem dX7_whatWord_52 : decode cX7_whatWord 52 = .ok (.aload_n 0, 1) := by decide +kernel
theorem dX7_whatWord_53 : decode cX7_whatWord 53 = .ok (.invokevirtual 346, 3) := by decide +kernel
theorem dX7_whatWord_56 : decode cX7_whatWord 56 = .ok (.iinc 3 1, 3) := by decide +kernel
theorem dX7_whatWord_59 : decode cX7_whatWord 59 = .ok (.goto (-41), 3) := by decide +kernel
theorem dX7_whatWord_62 : decode cX7_whatWord 62 = .ok (.iload_n 2, 1) := by decide +kernel
theorem dX7_whatWord_63 : decode cX7_whatWord 63 = .ok (.ireturn, 1) := by decide +kernel
theorem dX7_findEnds_0 : decode cX7_findEnds 0 = .ok (.iconst 0, 1) := by decide +kernel
theorem dX7_findEnds_1 : decode cX7_findEnds 1 = .ok (.istore 4, 2) := by decide +kernel
theorem dX7_findEnds_3 : decode cX7_findEnds 3 = .ok (.iload 4, 2) := by decide +kernel
theorem dX7_findEnds_5 : decode cX7_findEnds 5 = .ok (.iconst 4, 1) := by decide +kernel
theorem dX7_findEnds_6 : decode cX7_findEnds 6 = .ok (.if_icmp .ge 98, 3) := by decide +kernel
theorem dX7_findEnds_9 : decode cX7_findEnds 9 = .ok (.aload_n 0, 1) := by decide +kernel
theorem dX7_findEnds_10 : decode cX7_findEnds 10 = .ok (.invokevirtual 343, 3) := by decide +kernel
theorem dX7_findEnds_13 : decode cX7_findEnds 13 = .ok (.iload 4, 2) := by decide +kernel
theorem dX7_findEnds_15 : decode cX7_findEnds 15 = .ok (.iconst 2, 1) := by decide +kernel
theorem dX7_findEnds_16 : decode cX7_findEnds 16 = .ok (.idiv, 1) := by decide +kernel
theorem dX7_findEnds_17 : decode cX7_findEnds 17 = .ok (.iconst 1, 1) := by decide +kernel
theorem dX7_findEnds_18 : decode cX7_findEnds 18 = .ok (.if_icmp .ne 10, 3) := by decide +kernel
theorem dX7_findEnds_21 : decode cX7_findEnds 21 = .ok (.aload_n 0, 1) := by decide +kernel
theorem dX7_findEnds_22 : decode cX7_findEnds 22 = .ok (.getfield 34, 3) := by decide +kernel
theorem dX7_findEnds_25 : decode cX7_findEnds 25 = .ok (.iload_n 1, 1) := by decide +kernel
theorem dX7_findEnds_26 : decode cX7_findEnds 26 = .ok (.iconst 4, 1) := by decide +kernel
theorem dX7_findEnds_27 : decode cX7_findEnds 27 = .ok (.iastore, 1) := by decide +kernel
theorem dX7_findEnds_28 : decode cX7_findEnds 28 = .ok (.iload 4, 2) := by decide +kernel
theorem dX7_findEnds_30 : decode cX7_findEnds 30 = .ok (.iconst 2, 1) := by decide +kernel
theorem dX7_findEnds_31 : decode cX7_findEnds 31 = .ok (.irem, 1) := by decide +kernel
theorem dX7_findEnds_32 : decode cX7_findEnds 32 = .ok (.iconst 1, 1) := by decide +kernel
theorem dX7_findEnds_33 : decode cX7_findEnds 33 = .ok (.if_icmp .ne 10, 3) := by decide +kernel
theorem dX7_findEnds_36 : decode cX7_findEnds 36 = .ok (.aload_n 0, 1) := by decide +kernel
theorem dX7_findEnds_37 : decode cX7_findEnds 37 = .ok (.getfield 34, 3) := by decide +kernel
theorem dX7_findEnds_40 : decode cX7_findEnds 40 = .ok (.iload_n 2, 1) := by decide +kernel
theorem dX7_findEnds_41 : decode cX7_findEnds 41 = .ok (.iconst 4, 1) := by decide +kernel
theorem dX7_findEnds_42 : decode cX7_findEnds 42 = .ok (.iastore, 1) := by decide +kernel
theorem dX7_findEnds_43 : decode cX7_findEnds 43 = .ok (.aload_n 0, 1) := by decide +kernel
theorem dX7_findEnds_44 : decode cX7_findEnds 44 = .ok (.iload_n 3, 1) := by decide +kernel
theorem dX7_findEnds_45 : decode cX7_findEnds 45 = .ok (.invokevirtual 261, 3) := by decide +kernel
theorem dX7_findEnds_48 : decode cX7_findEnds 48 = .ok (.aload_n 0, 1) := by decide +kernel
theorem dX7_findEnds_49 : decode cX7_findEnds 49 = .ok (.getfield 73, 3) := by decide +kernel
theorem dX7_findEnds_52 : decode cX7_findEnds 52 = .ok (.iconst 2, 1) := by decide +kernel
theorem dX7_findEnds_53 : decode cX7_findEnds 53 = .ok (.iload 4, 2) := by decide +kernel
theorem dX7_findEnds_55 : decode cX7_findEnds 55 = .ok (.imul, 1) := by decide +kernel
theorem dX7_findEnds_56 : decode cX7_findEnds 56 = .ok (.aload_n 0, 1) := by decide +kernel
theorem dX7_findEnds_57 : decode cX7_findEnds 57 = .ok (.getfield 37, 3) := by decide +kernel
theorem dX7_findEnds_60 : decode cX7_findEnds 60 = .ok (.iload_n 1, 1) := by decide +kernel
theorem dX7_findEnds_61 : decode cX7_findEnds 61 = .ok (.iaload, 1) := by decide +kernel
theorem dX7_findEnds_62 : decode cX7_findEnds 62 = .ok (.iconst 5, 1) := by decide +kernel
theorem dX7_findEnds_63 : decode cX7_findEnds 63 = .ok (.iload 4, 2) := by decide +kernel
theorem dX7_findEnds_65 : decode cX7_findEnds 65 = .ok (.iconst 2, 1) := by decide +kernel
theorem dX7_findEnds_66 : decode cX7_findEnds 66 = .ok (.idiv, 1) := by decide +kernel
theorem dX7_findEnds_67 : decode cX7_findEnds 67 = .ok (.imul, 1) := by decide +kernel
theorem dX7_findEnds_68 : decode cX7_findEnds 68 = .ok (.iadd, 1) := by decide +kernel
theorem dX7_findEnds_69 : decode cX7_findEnds 69 = .ok (.iastore, 1) := by decide +kernel
theorem dX7_findEnds_70 : decode cX7_findEnds 70 = .ok (.aload_n 0, 1) := by decide +kernel
theorem dX7_findEnds_71 : decode cX7_findEnds 71 = .ok (.getfield 73, 3) := by decide +kernel
theorem dX7_findEnds_74 : decode cX7_findEnds 74 = .ok (.iconst 2, 1) := by decide +kernel
theorem dX7_findEnds_75 : decode cX7_findEnds 75 = .ok (.iload 4, 2) := by decide +kernel
theorem dX7_findEnds_77 : decode cX7_findEnds 77 = .ok (.imul, 1) := by decide +kernel
theorem dX7_findEnds_78 : decode cX7_findEnds 78 = .ok (.iconst 1, 1) := by decide +kernel
theorem dX7_findEnds_79 : decode cX7_findEnds 79 = .ok (.iadd, 1) := by decide +kernel
theorem dX7_findEnds_80 : decode cX7_findEnds 80 = .ok (.aload_n 0, 1) := by decide +kernel
theorem dX7_findEnds_81 : decode cX7_findEnds 81 = .ok (.getfield 37, 3) := by decide +kernel
theorem dX7_findEnds_84 : decode cX7_findEnds 84 = .ok (.iload_n 2, 1) := by decide +kernel
theorem dX7_findEnds_85 : decode cX7_findEnds 85 = .ok (.iaload, 1) := by decide +kernel
theorem dX7_findEnds_86 : decode cX7_findEnds 86 = .ok (.iconst 5, 1) := by decide +kernel
theorem dX7_findEnds_87 : decode cX7_findEnds 87 = .ok (.iload 4, 2) := by decide +kernel
theorem dX7_findEnds_89 : decode cX7_findEnds 89 = .ok (.iconst 2, 1) := by decide +kernel
theorem dX7_findEnds_90 : decode cX7_findEnds 90 = .ok (.irem, 1) := by decide +kernel
theorem dX7_findEnds_91 : decode cX7_findEnds 91 = .ok (.imul, 1) := by decide +kernel
theorem dX7_findEnds_92 : decode cX7_findEnds 92 = .ok (.iadd, 1) := by decide +kernel
theorem dX7_findEnds_93 : decode cX7_findEnds 93 = .ok (.iastore, 1) := by decide +kernel
theorem dX7_findEnds_94 : decode cX7_findEnds 94 = .ok (.aload_n 0, 1) := by decide +kernel
theorem dX7_findEnds_95 : decode cX7_findEnds 95 = .ok (.invokevirtual 346, 3) := by decide +kernel
theorem dX7_findEnds_98 : decode cX7_findEnds 98 = .ok (.iinc 4 1, 3) := by decide +kernel
theorem dX7_findEnds_101 : decode cX7_findEnds 101 = .ok (.goto (-98), 3) := by decide +kernel
theorem dX7_findEnds_104 : decode cX7_findEnds 104 = .ok (.return_, 1) := by decide +kernel
theorem dX7_two_0 : decode cX7_two 0 = .ok (.aload_n 0, 1) := by decide +kernel
theorem dX7_two_1 : decode cX7_two 1 = .ok (.iload_n 1, 1) := by decide +kernel
theorem dX7_two_2 : decode cX7_two 2 = .ok (.iload_n 2, 1) := by decide +kernel
theorem dX7_two_3 : decode cX7_two 3 = .ok (.invokevirtual 365, 3) := by decide +kernel
theorem dX7_two_6 : decode cX7_two 6 = .ok (.ifCond .ne 7, 3) := by decide +kernel
theorem dX7_two_9 : decode cX7_two 9 = .ok (.iconst (-1), 1) := by decide +kernel
theorem dX7_two_10 : decode cX7_two 10 = .ok (.goto 10, 3) := by decide +kernel
theorem dX7_two_13 : decode cX7_two 13 = .ok (.iload_n 3, 1) := by decide +kernel
theorem dX7_two_14 : decode cX7_two 14 = .ok (.iconst 1, 1) := by decide +kernel
theorem dX7_two_15 : decode cX7_two 15 = .ok (.bipush 30, 2) := by decide +kernel
theorem dX7_two_17 : decode cX7_two 17 = .ok (.invokestatic 163, 3) := by decide +kernel
theorem dX7_two_20 : decode cX7_two 20 = .ok (.istore 4, 2) := by decide +kernel
theorem dX7_two_22 : decode cX7_two 22 = .ok (.iload 4, 2) := by decide +kernel
theorem dX7_two_24 : decode cX7_two 24 = .ok (.ifCond .eq 10, 3) := by decide +kernel
theorem dX7_two_27 : decode cX7_two 27 = .ok (.aload_n 0, 1) := by decide +kernel
theorem dX7_two_28 : decode cX7_two 28 = .ok (.iload 4, 2) := by decide +kernel
theorem dX7_two_30 : decode cX7_two 30 = .ok (.invokevirtual 170, 3) := by decide +kernel
theorem dX7_two_33 : decode cX7_two 33 = .ok (.ireturn, 1) := by decide +kernel
theorem dX7_two_34 : decode cX7_two 34 = .ok (.aload_n 0, 1) := by decide +kernel
theorem dX7_two_35 : decode cX7_two 35 = .ok (.iload_n 1, 1) := by decide +kernel
theorem dX7_two_36 : decode cX7_two 36 = .ok (.iload_n 2, 1) := by decide +kernel
theorem dX7_two_37 : decode cX7_two 37 = .ok (.iload_n 3, 1) := by decide +kernel
theorem dX7_two_38 : decode cX7_two 38 = .ok (.invokevirtual 380, 3) := by decide +kernel
theorem dX7_two_41 : decode cX7_two 41 = .ok (.iconst 0, 1) := by decide +kernel
theorem dX7_two_42 : decode cX7_two 42 = .ok (.istore 5, 2) := by decide +kernel
theorem dX7_two_44 : decode cX7_two 44 = .ok (.iload 5, 2) := by decide +kernel
theorem dX7_two_46 : decode cX7_two 46 = .ok (.iconst 4, 1) := by decide +kernel
theorem dX7_two_47 : decode cX7_two 47 = .ok (.if_icmp .ge 72, 3) := by decide +kernel
theorem dX7_two_50 : decode cX7_two 50 = .ok (.aload_n 0, 1) := by decide +kernel
theorem dX7_two_51 : decode cX7_two 51 = .ok (.getfield 73, 3) := by decide +kernel
theorem dX7_two_54 : decode cX7_two 54 = .ok (.iconst 2, 1) := by decide +kernel
theorem dX7_two_55 : decode cX7_two 55 = .ok (.iload 5, 2) := by decide +kernel
theorem dX7_two_57 : decode cX7_two 57 = .ok (.iconst 2, 1) := by decide +kernel
theorem dX7_two_58 : decode cX7_two 58 = .ok (.ixor, 1) := by decide +kernel
theorem dX7_two_59 : decode cX7_two 59 = .ok (.imul, 1) := by decide +kernel
theorem dX7_two_60 : decode cX7_two 60 = .ok (.iaload, 1) := by decide +kernel
theorem dX7_two_61 : decode cX7_two 61 = .ok (.aload_n 0, 1) := by decide +kernel
theorem dX7_two_62 : decode cX7_two 62 = .ok (.getfield 73, 3) := by decide +kernel
theorem dX7_two_65 : decode cX7_two 65 = .ok (.iconst 2, 1) := by decide +kernel
theorem dX7_two_66 : decode cX7_two 66 = .ok (.iload 5, 2) := by decide +kernel
theorem dX7_two_68 : decode cX7_two 68 = .ok (.imul, 1) := by decide +kernel
theorem dX7_two_69 : decode cX7_two 69 = .ok (.iaload, 1) := by decide +kernel
theorem dX7_two_70 : decode cX7_two 70 = .ok (.if_icmp .gt 43, 3) := by decide +kernel
theorem dX7_two_73 : decode cX7_two 73 = .ok (.aload_n 0, 1) := by decide +kernel
theorem dX7_two_74 : decode cX7_two 74 = .ok (.getfield 73, 3) := by decide +kernel
theorem dX7_two_77 : decode cX7_two 77 = .ok (.iconst 2, 1) := by decide +kernel
theorem dX7_two_78 : decode cX7_two 78 = .ok (.iload 5, 2) := by decide +kernel
theorem dX7_two_80 : decode cX7_two 80 = .ok (.iconst 1, 1) := by decide +kernel
theorem dX7_two_81 : decode cX7_two 81 = .ok (.ixor, 1) := by decide +kernel
theorem dX7_two_82 : decode cX7_two 82 = .ok (.imul, 1) := by decide +kernel
theorem dX7_two_83 : decode cX7_two 83 = .ok (.iconst 1, 1) := by decide +kernel
theorem dX7_two_84 : decode cX7_two 84 = .ok (.iadd, 1) := by decide +kernel
theorem dX7_two_85 : decode cX7_two 85 = .ok (.iaload, 1) := by decide +kernel
theorem dX7_two_86 : decode cX7_two 86 = .ok (.aload_n 0, 1) := by decide +kernel
theorem dX7_two_87 : decode cX7_two 87 = .ok (.getfield 73, 3) := by decide +kernel
theorem dX7_two_90 : decode cX7_two 90 = .ok (.iconst 2, 1) := by decide +kernel
theorem dX7_two_91 : decode cX7_two 91 = .ok (.iload 5, 2) := by decide +kernel
theorem dX7_two_93 : decode cX7_two 93 = .ok (.imul, 1) := by decide +kernel
theorem dX7_two_94 : decode cX7_two 94 = .ok (.iconst 1, 1) := by decide +kernel
theorem dX7_two_95 : decode cX7_two 95 = .ok (.iadd, 1) := by decide +kernel
theorem dX7_two_96 : decode cX7_two 96 = .ok (.iaload, 1) := by decide +kernel
theorem dX7_two_97 : decode cX7_two 97 = .ok (.if_icmp .gt 16, 3) := by decide +kernel
theorem dX7_two_100 : decode cX7_two 100 = .ok (.bipush 10, 2) := by decide +kernel
theorem dX7_two_102 : decode cX7_two 102 = .ok (.iload 5, 2) := by decide +kernel
theorem dX7_two_104 : decode cX7_two 104 = .ok (.iconst 2, 1) := by decide +kernel
theorem dX7_two_105 : decode cX7_two 105 = .ok (.idiv, 1) := by decide +kernel
theorem dX7_two_106 : decode cX7_two 106 = .ok (.imul, 1) := by decide +kernel
theorem dX7_two_107 : decode cX7_two 107 = .ok (.iload 5, 2) := by decide +kernel
theorem dX7_two_109 : decode cX7_two 109 = .ok (.iconst 2, 1) := by decide +kernel
theorem dX7_two_110 : decode cX7_two 110 = .ok (.irem, 1) := by decide +kernel
theorem dX7_two_111 : decode cX7_two 111 = .ok (.iadd, 1) := by decide +kernel
theorem dX7_two_112 : decode cX7_two 112 = .ok (.ireturn, 1) := by decide +kernel
theorem dX7_two_113 : decode cX7_two 113 = .ok (.iinc 5 1, 3) := by decide +kernel
theorem dX7_two_116 : decode cX7_two 116 = .ok (.goto (-72), 3) := by decide +kernel
theorem dX7_two_119 : decode cX7_two 119 = .ok (.bipush (-9), 2) := by decide +kernel
theorem dX7_two_121 : decode cX7_two 121 = .ok (.ireturn, 1) := by decide +kernel
theorem dX7_divisor_0 : decode cX7_divisor 0 = .ok (.lload_n 0, 1) := by decide +kernel
theorem dX7_divisor_1 : decode cX7_divisor 1 = .ok (.lstore 4, 2) := by decide +kernel
theorem dX7_divisor_3 : decode cX7_divisor 3 = .ok (.lload_n 2, 1) := by decide +kernel
theorem dX7_divisor_4 : decode cX7_divisor 4 = .ok (.lstore 6, 2) := by decide +kernel
theorem dX7_divisor_6 : decode cX7_divisor 6 = .ok (.lload 6, 2) := by decide +kernel
theorem dX7_divisor_8 : decode cX7_divisor 8 = .ok (.lconst 0, 1) := by decide +kernel
theorem dX7_divisor_9 : decode cX7_divisor 9 = .ok (.lcmp, 1) := by decide +kernel
theorem dX7_divisor_10 : decode cX7_divisor 10 = .ok (.ifCond .eq 21, 3) := by decide +kernel
theorem dX7_divisor_13 : decode cX7_divisor 13 = .ok (.lload 4, 2) := by decide +kernel
theorem dX7_divisor_15 : decode cX7_divisor 15 = .ok (.lload 6, 2) := by decide +kernel
theorem dX7_divisor_17 : decode cX7_divisor 17 = .ok (.lrem, 1) := by decide +kernel
theorem dX7_divisor_18 : decode cX7_divisor 18 = .ok (.lstore 8, 2) := by decide +kernel
theorem dX7_divisor_20 : decode cX7_divisor 20 = .ok (.lload 6, 2) := by decide +kernel
theorem dX7_divisor_22 : decode cX7_divisor 22 = .ok (.lstore 4, 2) := by decide +kernel
theorem dX7_divisor_24 : decode cX7_divisor 24 = .ok (.lload 8, 2) := by decide +kernel
theorem dX7_divisor_26 : decode cX7_divisor 26 = .ok (.lstore 6, 2) := by decide +kernel
theorem dX7_divisor_28 : decode cX7_divisor 28 = .ok (.goto (-22), 3) := by decide +kernel
theorem dX7_divisor_31 : decode cX7_divisor 31 = .ok (.lload 4, 2) := by decide +kernel
theorem dX7_divisor_33 : decode cX7_divisor 33 = .ok (.lreturn, 1) := by decide +kernel
theorem dX7_partOf_0 : decode cX7_partOf 0 = .ok (.iload 4, 2) := by decide +kernel
theorem dX7_partOf_2 : decode cX7_partOf 2 = .ok (.ifCond .ne 7, 3) := by decide +kernel
theorem dX7_partOf_5 : decode cX7_partOf 5 = .ok (.lload_n 0, 1) := by decide +kernel
theorem dX7_partOf_6 : decode cX7_partOf 6 = .ok (.goto 4, 3) := by decide +kernel
theorem dX7_partOf_9 : decode cX7_partOf 9 = .ok (.lload_n 2, 1) := by decide +kernel
theorem dX7_partOf_10 : decode cX7_partOf 10 = .ok (.lload_n 0, 1) := by decide +kernel
theorem dX7_partOf_11 : decode cX7_partOf 11 = .ok (.lload_n 2, 1) := by decide +kernel
theorem dX7_partOf_12 : decode cX7_partOf 12 = .ok (.invokestatic 383, 3) := by decide +kernel
theorem dX7_partOf_15 : decode cX7_partOf 15 = .ok (.ldiv, 1) := by decide +kernel
theorem dX7_partOf_16 : decode cX7_partOf 16 = .ok (.lreturn, 1) := by decide +kernel
theorem dX7_rain_0 : decode cX7_rain 0 = .ok (.aload_n 0, 1) := by decide +kernel
theorem dX7_rain_1 : decode cX7_rain 1 = .ok (.iload_n 1, 1) := by decide +kernel
theorem dX7_rain_2 : decode cX7_rain 2 = .ok (.invokevirtual 89, 3) := by decide +kernel
theorem dX7_rain_5 : decode cX7_rain 5 = .ok (.ifCond .eq 10, 3) := by decide +kernel
theorem dX7_rain_8 : decode cX7_rain 8 = .ok (.iload_n 2, 1) := by decide +kernel
theorem dX7_rain_9 : decode cX7_rain 9 = .ok (.invokestatic 244, 3) := by decide +kernel
theorem dX7_rain_12 : decode cX7_rain 12 = .ok (.ifCond .ne 7, 3) := by decide +kernel
theorem dX7_rain_15 : decode cX7_rain 15 = .ok (.iconst (-1), 1) := by decide +kernel
theorem dX7_rain_16 : decode cX7_rain 16 = .ok (.goto 52, 3) := by decide +kernel
theorem dX7_rain_19 : decode cX7_rain 19 = .ok (.iload_n 3, 1) := by decide +kernel
theorem dX7_rain_20 : decode cX7_rain 20 = .ok (.ifCond .lt 9, 3) := by decide +kernel
theorem dX7_rain_23 : decode cX7_rain 23 = .ok (.iload 4, 2) := by decide +kernel
theorem dX7_rain_25 : decode cX7_rain 25 = .ok (.iconst 2, 1) := by decide +kernel
theorem dX7_rain_26 : decode cX7_rain 26 = .ok (.if_icmp .ge 8, 3) := by decide +kernel
theorem dX7_rain_29 : decode cX7_rain 29 = .ok (.bipush (-4), 2) := by decide +kernel
theorem dX7_rain_31 : decode cX7_rain 31 = .ok (.goto 37, 3) := by decide +kernel
theorem dX7_rain_34 : decode cX7_rain 34 = .ok (.iload_n 3, 1) := by decide +kernel
theorem dX7_rain_35 : decode cX7_rain 35 = .ok (.bipush 7, 2) := by decide +kernel
theorem dX7_rain_37 : decode cX7_rain 37 = .ok (.if_icmp .gt 10, 3) := by decide +kernel
theorem dX7_rain_40 : decode cX7_rain 40 = .ok (.iload 4, 2) := by decide +kernel
theorem dX7_rain_42 : decode cX7_rain 42 = .ok (.bipush 20, 2) := by decide +kernel
theorem dX7_rain_44 : decode cX7_rain 44 = .ok (.if_icmp .le 8, 3) := by decide +kernel
theorem dX7_rain_47 : decode cX7_rain 47 = .ok (.bipush (-6), 2) := by decide +kernel
theorem dX7_rain_49 : decode cX7_rain 49 = .ok (.goto 19, 3) := by decide +kernel
theorem dX7_rain_52 : decode cX7_rain 52 = .ok (.iload 5, 2) := by decide +kernel
theorem dX7_rain_54 : decode cX7_rain 54 = .ok (.iconst 0, 1) := by decide +kernel
theorem dX7_rain_55 : decode cX7_rain 55 = .ok (.iconst 1, 1) := by decide +kernel
theorem dX7_rain_56 : decode cX7_rain 56 = .ok (.invokestatic 85, 3) := by decide +kernel
theorem dX7_rain_59 : decode cX7_rain 59 = .ok (.ifCond .ne 8, 3) := by decide +kernel
theorem dX7_rain_62 : decode cX7_rain 62 = .ok (.bipush (-2), 2) := by decide +kernel
theorem dX7_rain_64 : decode cX7_rain 64 = .ok (.goto 4, 3) := by decide +kernel
theorem dX7_rain_67 : decode cX7_rain 67 = .ok (.iconst 0, 1) := by decide +kernel
theorem dX7_rain_68 : decode cX7_rain 68 = .ok (.istore 6, 2) := by decide +kernel
theorem dX7_rain_70 : decode cX7_rain 70 = .ok (.iload 6, 2) := by decide +kernel
theorem dX7_rain_72 : decode cX7_rain 72 = .ok (.ifCond .eq 10, 3) := by decide +kernel
theorem dX7_rain_75 : decode cX7_rain 75 = .ok (.aload_n 0, 1) := by decide +kernel
theorem dX7_rain_76 : decode cX7_rain 76 = .ok (.iload 6, 2) := by decide +kernel
theorem dX7_rain_78 : decode cX7_rain 78 = .ok (.invokevirtual 387, 3) := by decide +kernel
theorem dX7_rain_81 : decode cX7_rain 81 = .ok (.lreturn, 1) := by decide +kernel
theorem dX7_rain_82 : decode cX7_rain 82 = .ok (.lconst 0, 1) := by decide +kernel
theorem dX7_rain_83 : decode cX7_rain 83 = .ok (.lstore 7, 2) := by decide +kernel
theorem dX7_rain_85 : decode cX7_rain 85 = .ok (.lconst 1, 1) := by decide +kernel
theorem dX7_rain_86 : decode cX7_rain 86 = .ok (.lstore 9, 2) := by decide +kernel
theorem dX7_rain_88 : decode cX7_rain 88 = .ok (.iconst 0, 1) := by decide +kernel
theorem dX7_rain_89 : decode cX7_rain 89 = .ok (.istore 11, 2) := by decide +kernel
theorem dX7_rain_91 : decode cX7_rain 91 = .ok (.iload 11, 2) := by decide +kernel
theorem dX7_rain_93 : decode cX7_rain 93 = .ok (.iload_n 3, 1) := by decide +kernel
theorem dX7_rain_94 : decode cX7_rain 94 = .ok (.if_icmp .ge 17, 3) := by decide +kernel
theorem dX7_rain_97 : decode cX7_rain 97 = .ok (.lload 9, 2) := by decide +kernel
theorem dX7_rain_99 : decode cX7_rain 99 = .ok (.iload 4, 2) := by decide +kernel
theorem dX7_rain_101 : decode cX7_rain 101 = .ok (.i2l, 1) := by decide +kernel
theorem dX7_rain_102 : decode cX7_rain 102 = .ok (.lmul, 1) := by decide +kernel
theorem dX7_rain_103 : decode cX7_rain 103 = .ok (.lstore 9, 2) := by decide +kernel
theorem dX7_rain_105 : decode cX7_rain 105 = .ok (.iinc 11 1, 3) := by decide +kernel
theorem dX7_rain_108 : decode cX7_rain 108 = .ok (.goto (-17), 3) := by decide +kernel
theorem dX7_rain_111 : decode cX7_rain 111 = .ok (.iconst 0, 1) := by decide +kernel
theorem dX7_rain_112 : decode cX7_rain 112 = .ok (.istore 11, 2) := by decide +kernel
theorem dX7_rain_114 : decode cX7_rain 114 = .ok (.iload 11, 2) := by decide +kernel
theorem dX7_rain_116 : decode cX7_rain 116 = .ok (.iconst 1, 1) := by decide +kernel
theorem dX7_rain_117 : decode cX7_rain 117 = .ok (.iload_n 3, 1) := by decide +kernel
theorem dX7_rain_118 : decode cX7_rain 118 = .ok (.ishl, 1) := by decide +kernel
theorem dX7_rain_119 : decode cX7_rain 119 = .ok (.if_icmp .ge 107, 3) := by decide +kernel
theorem dX7_rain_122 : decode cX7_rain 122 = .ok (.aload_n 0, 1) := by decide +kernel
theorem dX7_rain_123 : decode cX7_rain 123 = .ok (.invokevirtual 343, 3) := by decide +kernel
theorem dX7_rain_126 : decode cX7_rain 126 = .ok (.lconst 1, 1) := by decide +kernel
theorem dX7_rain_127 : decode cX7_rain 127 = .ok (.lstore 12, 2) := by decide +kernel
theorem dX7_rain_129 : decode cX7_rain 129 = .ok (.iconst 0, 1) := by decide +kernel
theorem dX7_rain_130 : decode cX7_rain 130 = .ok (.istore 14, 2) := by decide +kernel
theorem dX7_rain_132 : decode cX7_rain 132 = .ok (.iload 14, 2) := by decide +kernel
theorem dX7_rain_134 : decode cX7_rain 134 = .ok (.iload_n 3, 1) := by decide +kernel
theorem dX7_rain_135 : decode cX7_rain 135 = .ok (.if_icmp .ge 60, 3) := by decide +kernel
theorem dX7_rain_138 : decode cX7_rain 138 = .ok (.lload 12, 2) := by decide +kernel
theorem dX7_rain_140 : decode cX7_rain 140 = .ok (.iload 11, 2) := by decide +kernel
theorem dX7_rain_142 : decode cX7_rain 142 = .ok (.iload 14, 2) := by decide +kernel
theorem dX7_rain_144 : decode cX7_rain 144 = .ok (.invokestatic 356, 3) := by decide +kernel
theorem dX7_rain_147 : decode cX7_rain 147 = .ok (.ifCond .eq 7, 3) := by decide +kernel
theorem dX7_rain_150 : decode cX7_rain 150 = .ok (.lconst 1, 1) := by decide +kernel
theorem dX7_rain_151 : decode cX7_rain 151 = .ok (.goto 8, 3) := by decide +kernel
theorem dX7_rain_154 : decode cX7_rain 154 = .ok (.iload 4, 2) := by decide +kernel
theorem dX7_rain_156 : decode cX7_rain 156 = .ok (.iconst 1, 1) := by decide +kernel
theorem dX7_rain_157 : decode cX7_rain 157 = .ok (.isub, 1) := by decide +kernel
theorem dX7_rain_158 : decode cX7_rain 158 = .ok (.i2l, 1) := by decide +kernel
theorem dX7_rain_159 : decode cX7_rain 159 = .ok (.lmul, 1) := by decide +kernel
theorem dX7_rain_160 : decode cX7_rain 160 = .ok (.lstore 12, 2) := by decide +kernel
theorem dX7_rain_162 : decode cX7_rain 162 = .ok (.iload 11, 2) := by decide +kernel
theorem dX7_rain_164 : decode cX7_rain 164 = .ok (.iload 14, 2) := by decide +kernel
theorem dX7_rain_166 : decode cX7_rain 166 = .ok (.invokestatic 356, 3) := by decide +kernel
theorem dX7_rain_169 : decode cX7_rain 169 = .ok (.ifCond .eq 16, 3) := by decide +kernel
theorem dX7_rain_172 : decode cX7_rain 172 = .ok (.aload_n 0, 1) := by decide +kernel
theorem dX7_rain_173 : decode cX7_rain 173 = .ok (.dup, 1) := by decide +kernel
theorem dX7_rain_174 : decode cX7_rain 174 = .ok (.getfield 136, 3) := by decide +kernel
theorem dX7_rain_177 : decode cX7_rain 177 = .ok (.iconst 1, 1) := by decide +kernel
theorem dX7_rain_178 : decode cX7_rain 178 = .ok (.iadd, 1) := by decide +kernel
theorem dX7_rain_179 : decode cX7_rain 179 = .ok (.putfield 136, 3) := by decide +kernel
theorem dX7_rain_182 : decode cX7_rain 182 = .ok (.goto 7, 3) := by decide +kernel
theorem dX7_rain_185 : decode cX7_rain 185 = .ok (.aload_n 0, 1) := by decide +kernel
theorem dX7_rain_186 : decode cX7_rain 186 = .ok (.invokevirtual 160, 3) := by decide +kernel
theorem dX7_rain_189 : decode cX7_rain 189 = .ok (.iinc 14 1, 3) := by decide +kernel
theorem dX7_rain_192 : decode cX7_rain 192 = .ok (.goto (-60), 3) := by decide +kernel
theorem dX7_rain_195 : decode cX7_rain 195 = .ok (.lload 7, 2) := by decide +kernel
theorem dX7_rain_197 : decode cX7_rain 197 = .ok (.aload_n 0, 1) := by decide +kernel
theorem dX7_rain_198 : decode cX7_rain 198 = .ok (.getfield 28, 3) := by decide +kernel
theorem dX7_rain_201 : decode cX7_rain 201 = .ok (.iload_n 1, 1) := by decide +kernel
theorem dX7_rain_202 : decode cX7_rain 202 = .ok (.iaload, 1) := by decide +kernel
theorem dX7_rain_203 : decode cX7_rain 203 = .ok (.iload_n 2, 1) := by decide +kernel
theorem dX7_rain_204 : decode cX7_rain 204 = .ok (.if_icmp .ne 8, 3) := by decide +kernel
theorem dX7_rain_207 : decode cX7_rain 207 = .ok (.lload 12, 2) := by decide +kernel
theorem dX7_rain_209 : decode cX7_rain 209 = .ok (.goto 4, 3) := by decide +kernel
theorem dX7_rain_212 : decode cX7_rain 212 = .ok (.lconst 0, 1) := by decide +kernel
theorem dX7_rain_213 : decode cX7_rain 213 = .ok (.ladd, 1) := by decide +kernel
theorem dX7_rain_214 : decode cX7_rain 214 = .ok (.lstore 7, 2) := by decide +kernel
theorem dX7_rain_216 : decode cX7_rain 216 = .ok (.aload_n 0, 1) := by decide +kernel
theorem dX7_rain_217 : decode cX7_rain 217 = .ok (.invokevirtual 346, 3) := by decide +kernel
theorem dX7_rain_220 : decode cX7_rain 220 = .ok (.iinc 11 1, 3) := by decide +kernel
theorem dX7_rain_223 : decode cX7_rain 223 = .ok (.goto (-109), 3) := by decide +kernel
theorem dX7_rain_226 : decode cX7_rain 226 = .ok (.lload 7, 2) := by decide +kernel
theorem dX7_rain_228 : decode cX7_rain 228 = .ok (.lload 9, 2) := by decide +kernel
theorem dX7_rain_230 : decode cX7_rain 230 = .ok (.iload 5, 2) := by decide +kernel
theorem dX7_rain_232 : decode cX7_rain 232 = .ok (.invokestatic 391, 3) := by decide +kernel
theorem dX7_rain_235 : decode cX7_rain 235 = .ok (.lreturn, 1) := by decide +kernel
theorem dX7_lettersOf_0 : decode cX7_lettersOf 0 = .ok (.iconst 0, 1) := by decide +kernel
theorem dX7_lettersOf_1 : decode cX7_lettersOf 1 = .ok (.istore_n 2, 1) := by decide +kernel
theorem dX7_lettersOf_2 : decode cX7_lettersOf 2 = .ok (.iconst 0, 1) := by decide +kernel
theorem dX7_lettersOf_3 : decode cX7_lettersOf 3 = .ok (.istore_n 3, 1) := by decide +kernel
theorem dX7_lettersOf_4 : decode cX7_lettersOf 4 = .ok (.iload_n 3, 1) := by decide +kernel
theorem dX7_lettersOf_5 : decode cX7_lettersOf 5 = .ok (.aload_n 0, 1) := by decide +kernel
theorem dX7_lettersOf_6 : decode cX7_lettersOf 6 = .ok (.getfield 43, 3) := by decide +kernel
theorem dX7_lettersOf_9 : decode cX7_lettersOf 9 = .ok (.iload_n 1, 1) := by decide +kernel
theorem dX7_lettersOf_10 : decode cX7_lettersOf 10 = .ok (.iaload, 1) := by decide +kernel
theorem dX7_lettersOf_11 : decode cX7_lettersOf 11 = .ok (.if_icmp .ge 25, 3) := by decide +kernel
theorem dX7_lettersOf_14 : decode cX7_lettersOf 14 = .ok (.iload_n 2, 1) := by decide +kernel
theorem dX7_lettersOf_15 : decode cX7_lettersOf 15 = .ok (.iconst 1, 1) := by decide +kernel
theorem dX7_lettersOf_16 : decode cX7_lettersOf 16 = .ok (.aload_n 0, 1) := by decide +kernel
theorem dX7_lettersOf_17 : decode cX7_lettersOf 17 = .ok (.getfield 46, 3) := by decide +kernel
theorem dX7_lettersOf_20 : decode cX7_lettersOf 20 = .ok (.bipush 6, 2) := by decide +kernel
theorem dX7_lettersOf_22 : decode cX7_lettersOf 22 = .ok (.iload_n 1, 1) := by decide +kernel
theorem dX7_lettersOf_23 : decode cX7_lettersOf 23 = .ok (.imul, 1) := by decide +kernel
theorem dX7_lettersOf_24 : decode cX7_lettersOf 24 = .ok (.iload_n 3, 1) := by decide +kernel
theorem dX7_lettersOf_25 : decode cX7_lettersOf 25 = .ok (.iadd, 1) := by decide +kernel
theorem dX7_lettersOf_26 : decode cX7_lettersOf 26 = .ok (.iaload, 1) := by decide +kernel
theorem dX7_lettersOf_27 : decode cX7_lettersOf 27 = .ok (.ishl, 1) := by decide +kernel
theorem dX7_lettersOf_28 : decode cX7_lettersOf 28 = .ok (.ior, 1) := by decide +kernel
theorem dX7_lettersOf_29 : decode cX7_lettersOf 29 = .ok (.istore_n 2, 1) := by decide +kernel
theorem dX7_lettersOf_30 : decode cX7_lettersOf 30 = .ok (.iinc 3 1, 3) := by decide +kernel
theorem dX7_lettersOf_33 : decode cX7_lettersOf 33 = .ok (.goto (-29), 3) := by decide +kernel
theorem dX7_lettersOf_36 : decode cX7_lettersOf 36 = .ok (.iload_n 2, 1) := by decide +kernel
theorem dX7_lettersOf_37 : decode cX7_lettersOf 37 = .ok (.ireturn, 1) := by decide +kernel
theorem dX7_samePlaces_0 : decode cX7_samePlaces 0 = .ok (.iconst 0, 1) := by decide +kernel
theorem dX7_samePlaces_1 : decode cX7_samePlaces 1 = .ok (.istore_n 3, 1) := by decide +kernel
theorem dX7_samePlaces_2 : decode cX7_samePlaces 2 = .ok (.iconst 0, 1) := by decide +kernel
theorem dX7_samePlaces_3 : decode cX7_samePlaces 3 = .ok (.istore 4, 2) := by decide +kernel
theorem dX7_samePlaces_5 : decode cX7_samePlaces 5 = .ok (.iload 4, 2) := by decide +kernel
theorem dX7_samePlaces_7 : decode cX7_samePlaces 7 = .ok (.aload_n 0, 1) := by decide +kernel
theorem dX7_samePlaces_8 : decode cX7_samePlaces 8 = .ok (.getfield 43, 3) := by decide +kernel
theorem dX7_samePlaces_11 : decode cX7_samePlaces 11 = .ok (.iload_n 1, 1) := by decide +kernel
theorem dX7_samePlaces_12 : decode cX7_samePlaces 12 = .ok (.iaload, 1) := by decide +kernel
theorem dX7_samePlaces_13 : decode cX7_samePlaces 13 = .ok (.if_icmp .ge 55, 3) := by decide +kernel
theorem dX7_samePlaces_16 : decode cX7_samePlaces 16 = .ok (.iload 4, 2) := by decide +kernel
theorem dX7_samePlaces_18 : decode cX7_samePlaces 18 = .ok (.aload_n 0, 1) := by decide +kernel
theorem dX7_samePlaces_19 : decode cX7_samePlaces 19 = .ok (.getfield 43, 3) := by decide +kernel
theorem dX7_samePlaces_22 : decode cX7_samePlaces 22 = .ok (.iload_n 2, 1) := by decide +kernel
theorem dX7_samePlaces_23 : decode cX7_samePlaces 23 = .ok (.iaload, 1) := by decide +kernel
theorem dX7_samePlaces_24 : decode cX7_samePlaces 24 = .ok (.if_icmp .ge 44, 3) := by decide +kernel
theorem dX7_samePlaces_27 : decode cX7_samePlaces 27 = .ok (.iload_n 3, 1) := by decide +kernel
theorem dX7_samePlaces_28 : decode cX7_samePlaces 28 = .ok (.aload_n 0, 1) := by decide +kernel
theorem dX7_samePlaces_29 : decode cX7_samePlaces 29 = .ok (.getfield 46, 3) := by decide +kernel
theorem dX7_samePlaces_32 : decode cX7_samePlaces 32 = .ok (.bipush 6, 2) := by decide +kernel
theorem dX7_samePlaces_34 : decode cX7_samePlaces 34 = .ok (.iload_n 1, 1) := by decide +kernel
theorem dX7_samePlaces_35 : decode cX7_samePlaces 35 = .ok (.imul, 1) := by decide +kernel
theorem dX7_samePlaces_36 : decode cX7_samePlaces 36 = .ok (.iload 4, 2) := by decide +kernel
theorem dX7_samePlaces_38 : decode cX7_samePlaces 38 = .ok (.iadd, 1) := by decide +kernel
theorem dX7_samePlaces_39 : decode cX7_samePlaces 39 = .ok (.iaload, 1) := by decide +kernel
theorem dX7_samePlaces_40 : decode cX7_samePlaces 40 = .ok (.aload_n 0, 1) := by decide +kernel
theorem dX7_samePlaces_41 : decode cX7_samePlaces 41 = .ok (.getfield 46, 3) := by decide +kernel
theorem dX7_samePlaces_44 : decode cX7_samePlaces 44 = .ok (.bipush 6, 2) := by decide +kernel
theorem dX7_samePlaces_46 : decode cX7_samePlaces 46 = .ok (.iload_n 2, 1) := by decide +kernel
theorem dX7_samePlaces_47 : decode cX7_samePlaces 47 = .ok (.imul, 1) := by decide +kernel
theorem dX7_samePlaces_48 : decode cX7_samePlaces 48 = .ok (.iload 4, 2) := by decide +kernel
theorem dX7_samePlaces_50 : decode cX7_samePlaces 50 = .ok (.iadd, 1) := by decide +kernel
theorem dX7_samePlaces_51 : decode cX7_samePlaces 51 = .ok (.iaload, 1) := by decide +kernel
theorem dX7_samePlaces_52 : decode cX7_samePlaces 52 = .ok (.if_icmp .ne 7, 3) := by decide +kernel
theorem dX7_samePlaces_55 : decode cX7_samePlaces 55 = .ok (.iconst 1, 1) := by decide +kernel
theorem dX7_samePlaces_56 : decode cX7_samePlaces 56 = .ok (.goto 4, 3) := by decide +kernel
theorem dX7_samePlaces_59 : decode cX7_samePlaces 59 = .ok (.iconst 0, 1) := by decide +kernel
theorem dX7_samePlaces_60 : decode cX7_samePlaces 60 = .ok (.iadd, 1) := by decide +kernel
theorem dX7_samePlaces_61 : decode cX7_samePlaces 61 = .ok (.istore_n 3, 1) := by decide +kernel
theorem dX7_samePlaces_62 : decode cX7_samePlaces 62 = .ok (.iinc 4 1, 3) := by decide +kernel
theorem dX7_samePlaces_65 : decode cX7_samePlaces 65 = .ok (.goto (-60), 3) := by decide +kernel
theorem dX7_samePlaces_68 : decode cX7_samePlaces 68 = .ok (.iload_n 3, 1) := by decide +kernel
theorem dX7_samePlaces_69 : decode cX7_samePlaces 69 = .ok (.ireturn, 1) := by decide +kernel
theorem dX7_like_0 : decode cX7_like 0 = .ok (.aload_n 0, 1) := by decide +kernel
theorem dX7_like_1 : decode cX7_like 1 = .ok (.iload_n 1, 1) := by decide +kernel
theorem dX7_like_2 : decode cX7_like 2 = .ok (.iload_n 2, 1) := by decide +kernel
theorem dX7_like_3 : decode cX7_like 3 = .ok (.invokevirtual 365, 3) := by decide +kernel
theorem dX7_like_6 : decode cX7_like 6 = .ok (.ifCond .ne 7, 3) := by decide +kernel
theorem dX7_like_9 : decode cX7_like 9 = .ok (.iconst (-1), 1) := by decide +kernel
theorem dX7_like_10 : decode cX7_like 10 = .ok (.goto 18, 3) := by decide +kernel
theorem dX7_like_13 : decode cX7_like 13 = .ok (.iload_n 3, 1) := by decide +kernel
theorem dX7_like_14 : decode cX7_like 14 = .ok (.iconst 0, 1) := by decide +kernel
theorem dX7_like_15 : decode cX7_like 15 = .ok (.iconst 2, 1) := by decide +kernel
theorem dX7_like_16 : decode cX7_like 16 = .ok (.invokestatic 85, 3) := by decide +kernel
theorem dX7_like_19 : decode cX7_like 19 = .ok (.ifCond .ne 8, 3) := by decide +kernel
theorem dX7_like_22 : decode cX7_like 22 = .ok (.bipush (-2), 2) := by decide +kernel
theorem dX7_like_24 : decode cX7_like 24 = .ok (.goto 4, 3) := by decide +kernel
theorem dX7_like_27 : decode cX7_like 27 = .ok (.iconst 0, 1) := by decide +kernel
theorem dX7_like_28 : decode cX7_like 28 = .ok (.istore 4, 2) := by decide +kernel
theorem dX7_like_30 : decode cX7_like 30 = .ok (.iload 4, 2) := by decide +kernel
theorem dX7_like_32 : decode cX7_like 32 = .ok (.ifCond .eq 10, 3) := by decide +kernel
theorem dX7_like_35 : decode cX7_like 35 = .ok (.aload_n 0, 1) := by decide +kernel
theorem dX7_like_36 : decode cX7_like 36 = .ok (.iload 4, 2) := by decide +kernel
theorem dX7_like_38 : decode cX7_like 38 = .ok (.invokevirtual 170, 3) := by decide +kernel
theorem dX7_like_41 : decode cX7_like 41 = .ok (.ireturn, 1) := by decide +kernel
theorem dX7_like_42 : decode cX7_like 42 = .ok (.iload_n 3, 1) := by decide +kernel
theorem dX7_like_43 : decode cX7_like 43 = .ok (.ifCond .ne 12, 3) := by decide +kernel
theorem dX7_like_46 : decode cX7_like 46 = .ok (.aload_n 0, 1) := by decide +kernel
theorem dX7_like_47 : decode cX7_like 47 = .ok (.iload_n 1, 1) := by decide +kernel
theorem dX7_like_48 : decode cX7_like 48 = .ok (.iload_n 2, 1) := by decide +kernel
theorem dX7_like_49 : decode cX7_like 49 = .ok (.invokevirtual 395, 3) := by decide +kernel
theorem dX7_like_52 : decode cX7_like 52 = .ok (.goto 31, 3) := by decide +kernel
theorem dX7_like_55 : decode cX7_like 55 = .ok (.iload_n 3, 1) := by decide +kernel
theorem dX7_like_56 : decode cX7_like 56 = .ok (.iconst 1, 1) := by decide +kernel
theorem dX7_like_57 : decode cX7_like 57 = .ok (.if_icmp .ne 12, 3) := by decide +kernel
theorem dX7_like_60 : decode cX7_like 60 = .ok (.aload_n 0, 1) := by decide +kernel
theorem dX7_like_61 : decode cX7_like 61 = .ok (.iload_n 1, 1) := by decide +kernel
theorem dX7_like_62 : decode cX7_like 62 = .ok (.iload_n 2, 1) := by decide +kernel
theorem dX7_like_63 : decode cX7_like 63 = .ok (.invokevirtual 118, 3) := by decide +kernel
theorem dX7_like_66 : decode cX7_like 66 = .ok (.goto 17, 3) := by decide +kernel
theorem dX7_like_69 : decode cX7_like 69 = .ok (.aload_n 0, 1) := by decide +kernel
theorem dX7_like_70 : decode cX7_like 70 = .ok (.iload_n 1, 1) := by decide +kernel
theorem dX7_like_71 : decode cX7_like 71 = .ok (.invokevirtual 398, 3) := by decide +kernel
theorem dX7_like_74 : decode cX7_like 74 = .ok (.aload_n 0, 1) := by decide +kernel
theorem dX7_like_75 : decode cX7_like 75 = .ok (.iload_n 2, 1) := by decide +kernel
theorem dX7_like_76 : decode cX7_like 76 = .ok (.invokevirtual 398, 3) := by decide +kernel
theorem dX7_like_79 : decode cX7_like 79 = .ok (.iand, 1) := by decide +kernel
theorem dX7_like_80 : decode cX7_like 80 = .ok (.invokestatic 401, 3) := by decide +kernel
theorem dX7_like_83 : decode cX7_like 83 = .ok (.ireturn, 1) := by decide +kernel
theorem dX7_rank_0 : decode cX7_rank 0 = .ok (.aload_n 0, 1) := by decide +kernel
theorem dX7_rank_1 : decode cX7_rank 1 = .ok (.iload_n 1, 1) := by decide +kernel
theorem dX7_rank_2 : decode cX7_rank 2 = .ok (.invokevirtual 89, 3) := by decide +kernel
theorem dX7_rank_5 : decode cX7_rank 5 = .ok (.ifCond .ne 9, 3) := by decide +kernel
theorem dX7_rank_8 : decode cX7_rank 8 = .ok (.aload_n 0, 1) := by decide +kernel
theorem dX7_rank_9 : decode cX7_rank 9 = .ok (.iconst (-1), 1) := by decide +kernel
theorem dX7_rank_10 : decode cX7_rank 10 = .ok (.invokevirtual 170, 3) := by decide +kernel
theorem dX7_rank_13 : decode cX7_rank 13 = .ok (.ireturn, 1) := by decide +kernel
theorem dX7_rank_14 : decode cX7_rank 14 = .ok (.iconst 0, 1) := by decide +kernel
theorem dX7_rank_15 : decode cX7_rank 15 = .ok (.istore_n 2, 1) := by decide +kernel
theorem dX7_rank_16 : decode cX7_rank 16 = .ok (.iconst 0, 1) := by decide +kernel
theorem dX7_rank_17 : decode cX7_rank 17 = .ok (.istore_n 3, 1) := by decide +kernel
theorem dX7_rank_18 : decode cX7_rank 18 = .ok (.iload_n 3, 1) := by decide +kernel
theorem dX7_rank_19 : decode cX7_rank 19 = .ok (.aload_n 0, 1) := by decide +kernel
theorem dX7_rank_20 : decode cX7_rank 20 = .ok (.getfield 79, 3) := by decide +kernel
theorem dX7_rank_23 : decode cX7_rank 23 = .ok (.if_icmp .ge 40, 3) := by decide +kernel
theorem dX7_rank_26 : decode cX7_rank 26 = .ok (.aload_n 0, 1) := by decide +kernel
theorem dX7_rank_27 : decode cX7_rank 27 = .ok (.iload_n 3, 1) := by decide +kernel
theorem dX7_rank_28 : decode cX7_rank 28 = .ok (.iload_n 1, 1) := by decide +kernel
theorem dX7_rank_29 : decode cX7_rank 29 = .ok (.invokevirtual 121, 3) := by decide +kernel
theorem dX7_rank_32 : decode cX7_rank 32 = .ok (.istore 4, 2) := by decide +kernel
theorem dX7_rank_34 : decode cX7_rank 34 = .ok (.iload_n 2, 1) := by decide +kernel
theorem dX7_rank_35 : decode cX7_rank 35 = .ok (.iload 4, 2) := by decide +kernel
theorem dX7_rank_37 : decode cX7_rank 37 = .ok (.ifCond .lt 13, 3) := by decide +kernel
theorem dX7_rank_40 : decode cX7_rank 40 = .ok (.iload 4, 2) := by decide +kernel
theorem dX7_rank_42 : decode cX7_rank 42 = .ok (.ifCond .ne 12, 3) := by decide +kernel
theorem dX7_rank_45 : decode cX7_rank 45 = .ok (.iload_n 3, 1) := by decide +kernel
theorem dX7_rank_46 : decode cX7_rank 46 = .ok (.iload_n 1, 1) := by decide +kernel
theorem dX7_rank_47 : decode cX7_rank 47 = .ok (.if_icmp .ge 7, 3) := by decide +kernel
theorem dX7_rank_50 : decode cX7_rank 50 = .ok (.iconst 1, 1) := by decide +kernel
theorem dX7_rank_51 : decode cX7_rank 51 = .ok (.goto 4, 3) := by decide +kernel
theorem dX7_rank_54 : decode cX7_rank 54 = .ok (.iconst 0, 1) := by decide +kernel
theorem dX7_rank_55 : decode cX7_rank 55 = .ok (.iadd, 1) := by decide +kernel
theorem dX7_rank_56 : decode cX7_rank 56 = .ok (.istore_n 2, 1) := by decide +kernel
theorem dX7_rank_57 : decode cX7_rank 57 = .ok (.iinc 3 1, 3) := by decide +kernel
theorem dX7_rank_60 : decode cX7_rank 60 = .ok (.goto (-42), 3) := by decide +kernel
theorem dX7_rank_63 : decode cX7_rank 63 = .ok (.iload_n 2, 1) := by decide +kernel
theorem dX7_rank_64 : decode cX7_rank 64 = .ok (.ireturn, 1) := by decide +kernel
theorem dX7_digitsOf_0 : decode cX7_digitsOf 0 = .ok (.iload_n 0, 1) := by decide +kernel
theorem dX7_digitsOf_1 : decode cX7_digitsOf 1 = .ok (.bipush 10, 2) := by decide +kernel
theorem dX7_digitsOf_3 : decode cX7_digitsOf 3 = .ok (.if_icmp .ge 7, 3) := by decide +kernel
theorem dX7_digitsOf_6 : decode cX7_digitsOf 6 = .ok (.iconst 1, 1) := by decide +kernel
theorem dX7_digitsOf_7 : decode cX7_digitsOf 7 = .ok (.goto 4, 3) := by decide +kernel
theorem dX7_digitsOf_10 : decode cX7_digitsOf 10 = .ok (.iconst 2, 1) := by decide +kernel
theorem dX7_digitsOf_11 : decode cX7_digitsOf 11 = .ok (.ireturn, 1) := by decide +kernel
theorem dX7_digitOf_0 : decode cX7_digitOf 0 = .ok (.bipush 48, 2) := by decide +kernel
theorem dX7_digitOf_2 : decode cX7_digitOf 2 = .ok (.iload_n 0, 1) := by decide +kernel
theorem dX7_digitOf_3 : decode cX7_digitOf 3 = .ok (.invokestatic 404, 3) := by decide +kernel
theorem dX7_digitOf_6 : decode cX7_digitOf 6 = .ok (.iconst 1, 1) := by decide +kernel
theorem dX7_digitOf_7 : decode cX7_digitOf 7 = .ok (.if_icmp .eq 8, 3) := by decide +kernel
theorem dX7_digitOf_10 : decode cX7_digitOf 10 = .ok (.iload_n 1, 1) := by decide +kernel
theorem dX7_digitOf_11 : decode cX7_digitOf 11 = .ok (.iconst 1, 1) := by decide +kernel
theorem dX7_digitOf_12 : decode cX7_digitOf 12 = .ok (.if_icmp .ne 10, 3) := by decide +kernel
theorem dX7_digitOf_15 : decode cX7_digitOf 15 = .ok (.iload_n 0, 1) := by decide +kernel
theorem dX7_digitOf_16 : decode cX7_digitOf 16 = .ok (.bipush 10, 2) := by decide +kernel
theorem dX7_digitOf_18 : decode cX7_digitOf 18 = .ok (.irem, 1) := by decide +kernel
theorem dX7_digitOf_19 : decode cX7_digitOf 19 = .ok (.goto 7, 3) := by decide +kernel
theorem dX7_digitOf_22 : decode cX7_digitOf 22 = .ok (.iload_n 0, 1) := by decide +kernel
theorem dX7_digitOf_23 : decode cX7_digitOf 23 = .ok (.bipush 10, 2) := by decide +kernel
theorem dX7_digitOf_25 : decode cX7_digitOf 25 = .ok (.idiv, 1) := by decide +kernel
theorem dX7_digitOf_26 : decode cX7_digitOf 26 = .ok (.iadd, 1) := by decide +kernel
theorem dX7_digitOf_27 : decode cX7_digitOf 27 = .ok (.ireturn, 1) := by decide +kernel
theorem dX7_sideOf_0 : decode cX7_sideOf 0 = .ok (.iload_n 0, 1) := by decide +kernel
theorem dX7_sideOf_1 : decode cX7_sideOf 1 = .ok (.ifCond .ne 8, 3) := by decide +kernel
theorem dX7_sideOf_4 : decode cX7_sideOf 4 = .ok (.bipush 110, 2) := by decide +kernel
theorem dX7_sideOf_6 : decode cX7_sideOf 6 = .ok (.goto 25, 3) := by decide +kernel
theorem dX7_sideOf_9 : decode cX7_sideOf 9 = .ok (.iload_n 0, 1) := by decide +kernel
theorem dX7_sideOf_10 : decode cX7_sideOf 10 = .ok (.iconst 1, 1) := by decide +kernel
theorem dX7_sideOf_11 : decode cX7_sideOf 11 = .ok (.if_icmp .ne 8, 3) := by decide +kernel
theorem dX7_sideOf_14 : decode cX7_sideOf 14 = .ok (.bipush 101, 2) := by decide +kernel
theorem dX7_sideOf_16 : decode cX7_sideOf 16 = .ok (.goto 15, 3) := by decide +kernel
theorem dX7_sideOf_19 : decode cX7_sideOf 19 = .ok (.iload_n 0, 1) := by decide +kernel
theorem dX7_sideOf_20 : decode cX7_sideOf 20 = .ok (.iconst 2, 1) := by decide +kernel
theorem dX7_sideOf_21 : decode cX7_sideOf 21 = .ok (.if_icmp .ne 8, 3) := by decide +kernel
theorem dX7_sideOf_24 : decode cX7_sideOf 24 = .ok (.bipush 115, 2) := by decide +kernel
theorem dX7_sideOf_26 : decode cX7_sideOf 26 = .ok (.goto 5, 3) := by decide +kernel
theorem dX7_sideOf_29 : decode cX7_sideOf 29 = .ok (.bipush 119, 2) := by decide +kernel
theorem dX7_sideOf_31 : decode cX7_sideOf 31 = .ok (.ireturn, 1) := by decide +kernel
theorem dX7_lineAt_0 : decode cX7_lineAt 0 = .ok (.aload_n 0, 1) := by decide +kernel
theorem dX7_lineAt_1 : decode cX7_lineAt 1 = .ok (.getfield 43, 3) := by decide +kernel
theorem dX7_lineAt_4 : decode cX7_lineAt 4 = .ok (.iload_n 1, 1) := by decide +kernel
theorem dX7_lineAt_5 : decode cX7_lineAt 5 = .ok (.iaload, 1) := by decide +kernel
theorem dX7_lineAt_6 : decode cX7_lineAt 6 = .ok (.istore_n 3, 1) := by decide +kernel
theorem dX7_lineAt_7 : decode cX7_lineAt 7 = .ok (.iload_n 2, 1) := by decide +kernel
theorem dX7_lineAt_8 : decode cX7_lineAt 8 = .ok (.iload_n 3, 1) := by decide +kernel
theorem dX7_lineAt_9 : decode cX7_lineAt 9 = .ok (.if_icmp .ge 18, 3) := by decide +kernel
theorem dX7_lineAt_12 : decode cX7_lineAt 12 = .ok (.bipush 97, 2) := by decide +kernel
theorem dX7_lineAt_14 : decode cX7_lineAt 14 = .ok (.aload_n 0, 1) := by decide +kernel
theorem dX7_lineAt_15 : decode cX7_lineAt 15 = .ok (.getfield 46, 3) := by decide +kernel
theorem dX7_lineAt_18 : decode cX7_lineAt 18 = .ok (.bipush 6, 2) := by decide +kernel
theorem dX7_lineAt_20 : decode cX7_lineAt 20 = .ok (.iload_n 1, 1) := by decide +kernel
theorem dX7_lineAt_21 : decode cX7_lineAt 21 = .ok (.imul, 1) := by decide +kernel
theorem dX7_lineAt_22 : decode cX7_lineAt 22 = .ok (.iload_n 2, 1) := by decide +kernel
theorem dX7_lineAt_23 : decode cX7_lineAt 23 = .ok (.iadd, 1) := by decide +kernel
theorem dX7_lineAt_24 : decode cX7_lineAt 24 = .ok (.iaload, 1) := by decide +kernel
theorem dX7_lineAt_25 : decode cX7_lineAt 25 = .ok (.iadd, 1) := by decide +kernel
theorem dX7_lineAt_26 : decode cX7_lineAt 26 = .ok (.ireturn, 1) := by decide +kernel
theorem dX7_lineAt_27 : decode cX7_lineAt 27 = .ok (.iload_n 2, 1) := by decide +kernel
theorem dX7_lineAt_28 : decode cX7_lineAt 28 = .ok (.iload_n 3, 1) := by decide +kernel
theorem dX7_lineAt_29 : decode cX7_lineAt 29 = .ok (.if_icmp .ne 6, 3) := by decide +kernel
theorem dX7_lineAt_32 : decode cX7_lineAt 32 = .ok (.bipush 32, 2) := by decide +kernel
theorem dX7_lineAt_34 : decode cX7_lineAt 34 = .ok (.ireturn, 1) := by decide +kernel
theorem dX7_lineAt_35 : decode cX7_lineAt 35 = .ok (.iload_n 2, 1) := by decide +kernel
theorem dX7_lineAt_36 : decode cX7_lineAt 36 = .ok (.iload_n 3, 1) := by decide +kernel
theorem dX7_lineAt_37 : decode cX7_lineAt 37 = .ok (.isub, 1) := by decide +kernel
theorem dX7_lineAt_38 : decode cX7_lineAt 38 = .ok (.iconst 1, 1) := by decide +kernel
theorem dX7_lineAt_39 : decode cX7_lineAt 39 = .ok (.isub, 1) := by decide +kernel
theorem dX7_lineAt_40 : decode cX7_lineAt 40 = .ok (.istore 4, 2) := by decide +kernel
theorem dX7_lineAt_42 : decode cX7_lineAt 42 = .ok (.aload_n 0, 1) := by decide +kernel
theorem dX7_lineAt_43 : decode cX7_lineAt 43 = .ok (.getfield 28, 3) := by decide +kernel
theorem dX7_lineAt_46 : decode cX7_lineAt 46 = .ok (.iload_n 1, 1) := by decide +kernel
theorem dX7_lineAt_47 : decode cX7_lineAt 47 = .ok (.iaload, 1) := by decide +kernel
theorem dX7_lineAt_48 : decode cX7_lineAt 48 = .ok (.invokestatic 404, 3) := by decide +kernel
theorem dX7_lineAt_51 : decode cX7_lineAt 51 = .ok (.istore 5, 2) := by decide +kernel
theorem dX7_lineAt_53 : decode cX7_lineAt 53 = .ok (.iload 4, 2) := by decide +kernel
theorem dX7_lineAt_55 : decode cX7_lineAt 55 = .ok (.iload 5, 2) := by decide +kernel
theorem dX7_lineAt_57 : decode cX7_lineAt 57 = .ok (.if_icmp .ge 15, 3) := by decide +kernel
theorem dX7_lineAt_60 : decode cX7_lineAt 60 = .ok (.aload_n 0, 1) := by decide +kernel
theorem dX7_lineAt_61 : decode cX7_lineAt 61 = .ok (.getfield 28, 3) := by decide +kernel
theorem dX7_lineAt_64 : decode cX7_lineAt 64 = .ok (.iload_n 1, 1) := by decide +kernel
theorem dX7_lineAt_65 : decode cX7_lineAt 65 = .ok (.iaload, 1) := by decide +kernel
theorem dX7_lineAt_66 : decode cX7_lineAt 66 = .ok (.iload 4, 2) := by decide +kernel
theorem dX7_lineAt_68 : decode cX7_lineAt 68 = .ok (.invokestatic 407, 3) := by decide +kernel
theorem dX7_lineAt_71 : decode cX7_lineAt 71 = .ok (.ireturn, 1) := by decide +kernel
theorem dX7_lineAt_72 : decode cX7_lineAt 72 = .ok (.iload 4, 2) := by decide +kernel
theorem dX7_lineAt_74 : decode cX7_lineAt 74 = .ok (.iload 5, 2) := by decide +kernel
theorem dX7_lineAt_76 : decode cX7_lineAt 76 = .ok (.isub, 1) := by decide +kernel
theorem dX7_lineAt_77 : decode cX7_lineAt 77 = .ok (.istore 4, 2) := by decide +kernel
theorem dX7_lineAt_79 : decode cX7_lineAt 79 = .ok (.iload 4, 2) := by decide +kernel
theorem dX7_lineAt_81 : decode cX7_lineAt 81 = .ok (.ifCond .ne 13, 3) := by decide +kernel
theorem dX7_lineAt_84 : decode cX7_lineAt 84 = .ok (.aload_n 0, 1) := by decide +kernel
theorem dX7_lineAt_85 : decode cX7_lineAt 85 = .ok (.getfield 31, 3) := by decide +kernel
theorem dX7_lineAt_88 : decode cX7_lineAt 88 = .ok (.iload_n 1, 1) := by decide +kernel
theorem dX7_lineAt_89 : decode cX7_lineAt 89 = .ok (.iaload, 1) := by decide +kernel
theorem dX7_lineAt_90 : decode cX7_lineAt 90 = .ok (.invokestatic 410, 3) := by decide +kernel
theorem dX7_lineAt_93 : decode cX7_lineAt 93 = .ok (.ireturn, 1) := by decide +kernel
theorem dX7_lineAt_94 : decode cX7_lineAt 94 = .ok (.aload_n 0, 1) := by decide +kernel
theorem dX7_lineAt_95 : decode cX7_lineAt 95 = .ok (.getfield 40, 3) := by decide +kernel
theorem dX7_lineAt_98 : decode cX7_lineAt 98 = .ok (.iload_n 1, 1) := by decide +kernel
theorem dX7_lineAt_99 : decode cX7_lineAt 99 = .ok (.iaload, 1) := by decide +kernel
theorem dX7_lineAt_100 : decode cX7_lineAt 100 = .ok (.iconst 1, 1) := by decide +kernel
theorem dX7_lineAt_101 : decode cX7_lineAt 101 = .ok (.if_icmp .ne 17, 3) := by decide +kernel
theorem dX7_lineAt_104 : decode cX7_lineAt 104 = .ok (.iload 4, 2) := by decide +kernel
theorem dX7_lineAt_106 : decode cX7_lineAt 106 = .ok (.iconst 1, 1) := by decide +kernel
theorem dX7_lineAt_107 : decode cX7_lineAt 107 = .ok (.if_icmp .ne 8, 3) := by decide +kernel
theorem dX7_lineAt_110 : decode cX7_lineAt 110 = .ok (.bipush 33, 2) := by decide +kernel
theorem dX7_lineAt_112 : decode cX7_lineAt 112 = .ok (.goto 5, 3) := by decide +kernel
theorem dX7_lineAt_115 : decode cX7_lineAt 115 = .ok (.bipush (-9), 2) := by decide +kernel
theorem dX7_lineAt_117 : decode cX7_lineAt 117 = .ok (.ireturn, 1) := by decide +kernel
theorem dX7_lineAt_118 : decode cX7_lineAt 118 = .ok (.iload 4, 2) := by decide +kernel
theorem dX7_lineAt_120 : decode cX7_lineAt 120 = .ok (.iconst 1, 1) := by decide +kernel
theorem dX7_lineAt_121 : decode cX7_lineAt 121 = .ok (.isub, 1) := by decide +kernel
theorem dX7_lineAt_122 : decode cX7_lineAt 122 = .ok (.aload_n 0, 1) := by decide +kernel
theorem dX7_lineAt_123 : decode cX7_lineAt 123 = .ok (.getfield 37, 3) := by decide +kernel
theorem dX7_lineAt_126 : decode cX7_lineAt 126 = .ok (.iload_n 1, 1) := by decide +kernel
theorem dX7_lineAt_127 : decode cX7_lineAt 127 = .ok (.iaload, 1) := by decide +kernel
theorem dX7_lineAt_128 : decode cX7_lineAt 128 = .ok (.invokestatic 404, 3) := by decide +kernel
theorem dX7_lineAt_131 : decode cX7_lineAt 131 = .ok (.if_icmp .ge 19, 3) := by decide +kernel
theorem dX7_lineAt_134 : decode cX7_lineAt 134 = .ok (.aload_n 0, 1) := by decide +kernel
theorem dX7_lineAt_135 : decode cX7_lineAt 135 = .ok (.getfield 37, 3) := by decide +kernel
theorem dX7_lineAt_138 : decode cX7_lineAt 138 = .ok (.iload_n 1, 1) := by decide +kernel
theorem dX7_lineAt_139 : decode cX7_lineAt 139 = .ok (.iaload, 1) := by decide +kernel
theorem dX7_lineAt_140 : decode cX7_lineAt 140 = .ok (.iload 4, 2) := by decide +kernel
theorem dX7_lineAt_142 : decode cX7_lineAt 142 = .ok (.iconst 1, 1) := by decide +kernel
theorem dX7_lineAt_143 : decode cX7_lineAt 143 = .ok (.isub, 1) := by decide +kernel
theorem dX7_lineAt_144 : decode cX7_lineAt 144 = .ok (.invokestatic 407, 3) := by decide +kernel
theorem dX7_lineAt_147 : decode cX7_lineAt 147 = .ok (.goto 5, 3) := by decide +kernel
theorem dX7_lineAt_150 : decode cX7_lineAt 150 = .ok (.bipush (-9), 2) := by decide +kernel
theorem dX7_lineAt_152 : decode cX7_lineAt 152 = .ok (.ireturn, 1) := by decide +kernel
theorem dX7_line_0 : decode cX7_line 0 = .ok (.aload_n 0, 1) := by decide +kernel
theorem dX7_line_1 : decode cX7_line 1 = .ok (.iload_n 1, 1) := by decide +kernel
theorem dX7_line_2 : decode cX7_line 2 = .ok (.invokevirtual 89, 3) := by decide +kernel
theorem dX7_line_5 : decode cX7_line 5 = .ok (.ifCond .ne 7, 3) := by decide +kernel
theorem dX7_line_8 : decode cX7_line 8 = .ok (.iconst (-1), 1) := by decide +kernel
theorem dX7_line_9 : decode cX7_line 9 = .ok (.goto 13, 3) := by decide +kernel
theorem dX7_line_12 : decode cX7_line 12 = .ok (.iload_n 2, 1) := by decide +kernel
theorem dX7_line_13 : decode cX7_line 13 = .ok (.ifCond .ge 8, 3) := by decide +kernel
theorem dX7_line_16 : decode cX7_line 16 = .ok (.bipush (-4), 2) := by decide +kernel
theorem dX7_line_18 : decode cX7_line 18 = .ok (.goto 4, 3) := by decide +kernel
theorem dX7_line_21 : decode cX7_line 21 = .ok (.iconst 0, 1) := by decide +kernel
theorem dX7_line_22 : decode cX7_line 22 = .ok (.istore_n 3, 1) := by decide +kernel
theorem dX7_line_23 : decode cX7_line 23 = .ok (.iload_n 3, 1) := by decide +kernel
theorem dX7_line_24 : decode cX7_line 24 = .ok (.ifCond .eq 9, 3) := by decide +kernel
theorem dX7_line_27 : decode cX7_line 27 = .ok (.aload_n 0, 1) := by decide +kernel
theorem dX7_line_28 : decode cX7_line 28 = .ok (.iload_n 3, 1) := by decide +kernel
theorem dX7_line_29 : decode cX7_line 29 = .ok (.invokevirtual 170, 3) := by decide +kernel
theorem dX7_line_32 : decode cX7_line 32 = .ok (.ireturn, 1) := by decide +kernel
theorem dX7_line_33 : decode cX7_line 33 = .ok (.iload_n 2, 1) := by decide +kernel
theorem dX7_line_34 : decode cX7_line 34 = .ok (.bipush 30, 2) := by decide +kernel
theorem dX7_line_36 : decode cX7_line 36 = .ok (.if_icmp .le 8, 3) := by decide +kernel
theorem dX7_line_39 : decode cX7_line 39 = .ok (.bipush (-9), 2) := by decide +kernel
theorem dX7_line_41 : decode cX7_line 41 = .ok (.goto 9, 3) := by decide +kernel
theorem dX7_line_44 : decode cX7_line 44 = .ok (.aload_n 0, 1) := by decide +kernel
theorem dX7_line_45 : decode cX7_line 45 = .ok (.iload_n 1, 1) := by decide +kernel
theorem dX7_line_46 : decode cX7_line 46 = .ok (.iload_n 2, 1) := by decide +kernel
theorem dX7_line_47 : decode cX7_line 47 = .ok (.invokevirtual 413, 3) := by decide +kernel
theorem dX7_line_50 : decode cX7_line 50 = .ok (.ireturn, 1) := by decide +kernel
theorem dX7_power_0 : decode cX7_power 0 = .ok (.aload_n 0, 1) := by decide +kernel
theorem dX7_power_1 : decode cX7_power 1 = .ok (.iload_n 1, 1) := by decide +kernel
theorem dX7_power_2 : decode cX7_power 2 = .ok (.invokevirtual 89, 3) := by decide +kernel
theorem dX7_power_5 : decode cX7_power 5 = .ok (.ifCond .ne 9, 3) := by decide +kernel
theorem dX7_power_8 : decode cX7_power 8 = .ok (.aload_n 0, 1) := by decide +kernel
theorem dX7_power_9 : decode cX7_power 9 = .ok (.iconst (-1), 1) := by decide +kernel
theorem dX7_power_10 : decode cX7_power 10 = .ok (.invokevirtual 170, 3) := by decide +kernel
theorem dX7_power_13 : decode cX7_power 13 = .ok (.ireturn, 1) := by decide +kernel
theorem dX7_power_14 : decode cX7_power 14 = .ok (.aload_n 0, 1) := by decide +kernel
theorem dX7_power_15 : decode cX7_power 15 = .ok (.getfield 37, 3) := by decide +kernel
theorem dX7_power_18 : decode cX7_power 18 = .ok (.aload_n 0, 1) := by decide +kernel
theorem dX7_power_19 : decode cX7_power 19 = .ok (.getfield 79, 3) := by decide +kernel
theorem dX7_power_22 : decode cX7_power 22 = .ok (.invokestatic 352, 3) := by decide +kernel
theorem dX7_power_25 : decode cX7_power 25 = .ok (.istore_n 2, 1) := by decide +kernel
theorem dX7_power_26 : decode cX7_power 26 = .ok (.iconst 0, 1) := by decide +kernel
theorem dX7_power_27 : decode cX7_power 27 = .ok (.istore_n 3, 1) := by decide +kernel
theorem dX7_power_28 : decode cX7_power 28 = .ok (.iconst 0, 1) := by decide +kernel
theorem dX7_power_29 : decode cX7_power 29 = .ok (.istore 4, 2) := by decide +kernel
theorem dX7_power_31 : decode cX7_power 31 = .ok (.iload 4, 2) := by decide +kernel
theorem dX7_power_33 : decode cX7_power 33 = .ok (.iconst 1, 1) := by decide +kernel
theorem dX7_power_34 : decode cX7_power 34 = .ok (.aload_n 0, 1) := by decide +kernel
theorem dX7_power_35 : decode cX7_power 35 = .ok (.getfield 79, 3) := by decide +kernel
theorem dX7_power_38 : decode cX7_power 38 = .ok (.ishl, 1) := by decide +kernel
theorem dX7_power_39 : decode cX7_power 39 = .ok (.if_icmp .ge 99, 3) := by decide +kernel
theorem dX7_power_42 : decode cX7_power 42 = .ok (.iload 4, 2) := by decide +kernel
theorem dX7_power_44 : decode cX7_power 44 = .ok (.iload_n 1, 1) := by decide +kernel
theorem dX7_power_45 : decode cX7_power 45 = .ok (.invokestatic 356, 3) := by decide +kernel
theorem dX7_power_48 : decode cX7_power 48 = .ok (.ifCond .eq 6, 3) := by decide +kernel
theorem dX7_power_51 : decode cX7_power 51 = .ok (.goto 81, 3) := by decide +kernel
theorem dX7_power_54 : decode cX7_power 54 = .ok (.iconst 0, 1) := by decide +kernel
theorem dX7_power_55 : decode cX7_power 55 = .ok (.istore 5, 2) := by decide +kernel
theorem dX7_power_57 : decode cX7_power 57 = .ok (.iconst 0, 1) := by decide +kernel
theorem dX7_power_58 : decode cX7_power 58 = .ok (.istore 6, 2) := by decide +kernel
theorem dX7_power_60 : decode cX7_power 60 = .ok (.iload 6, 2) := by decide +kernel
theorem dX7_power_62 : decode cX7_power 62 = .ok (.aload_n 0, 1) := by decide +kernel
theorem dX7_power_63 : decode cX7_power 63 = .ok (.getfield 79, 3) := by decide +kernel
theorem dX7_power_66 : decode cX7_power 66 = .ok (.if_icmp .ge 35, 3) := by decide +kernel
theorem dX7_power_69 : decode cX7_power 69 = .ok (.iload 5, 2) := by decide +kernel
theorem dX7_power_71 : decode cX7_power 71 = .ok (.iload 4, 2) := by decide +kernel
theorem dX7_power_73 : decode cX7_power 73 = .ok (.iload 6, 2) := by decide +kernel
theorem dX7_power_75 : decode cX7_power 75 = .ok (.invokestatic 356, 3) := by decide +kernel
theorem dX7_power_78 : decode cX7_power 78 = .ok (.ifCond .eq 13, 3) := by decide +kernel
theorem dX7_power_81 : decode cX7_power 81 = .ok (.aload_n 0, 1) := by decide +kernel
theorem dX7_power_82 : decode cX7_power 82 = .ok (.getfield 37, 3) := by decide +kernel
theorem dX7_power_85 : decode cX7_power 85 = .ok (.iload 6, 2) := by decide +kernel
theorem dX7_power_87 : decode cX7_power 87 = .ok (.iaload, 1) := by decide +kernel
theorem dX7_power_88 : decode cX7_power 88 = .ok (.goto 4, 3) := by decide +kernel
theorem dX7_power_91 : decode cX7_power 91 = .ok (.iconst 0, 1) := by decide +kernel
theorem dX7_power_92 : decode cX7_power 92 = .ok (.iadd, 1) := by decide +kernel
theorem dX7_power_93 : decode cX7_power 93 = .ok (.istore 5, 2) := by decide +kernel
theorem dX7_power_95 : decode cX7_power 95 = .ok (.iinc 6 1, 3) := by decide +kernel
theorem dX7_power_98 : decode cX7_power 98 = .ok (.goto (-38), 3) := by decide +kernel
theorem dX7_power_101 : decode cX7_power 101 = .ok (.iload_n 3, 1) := by decide +kernel
theorem dX7_power_102 : decode cX7_power 102 = .ok (.iconst 2, 1) := by decide +kernel
theorem dX7_power_103 : decode cX7_power 103 = .ok (.iload 5, 2) := by decide +kernel
theorem dX7_power_105 : decode cX7_power 105 = .ok (.imul, 1) := by decide +kernel
theorem dX7_power_106 : decode cX7_power 106 = .ok (.iload_n 2, 1) := by decide +kernel
theorem dX7_power_107 : decode cX7_power 107 = .ok (.if_icmp .gt 22, 3) := by decide +kernel
theorem dX7_power_110 : decode cX7_power 110 = .ok (.iconst 2, 1) := by decide +kernel
theorem dX7_power_111 : decode cX7_power 111 = .ok (.iload 5, 2) := by decide +kernel
theorem dX7_power_113 : decode cX7_power 113 = .ok (.aload_n 0, 1) := by decide +kernel
theorem dX7_power_114 : decode cX7_power 114 = .ok (.getfield 37, 3) := by decide +kernel
theorem dX7_power_117 : decode cX7_power 117 = .ok (.iload_n 1, 1) := by decide +kernel
theorem dX7_power_118 : decode cX7_power 118 = .ok (.iaload, 1) := by decide +kernel
theorem dX7_power_119 : decode cX7_power 119 = .ok (.iadd, 1) := by decide +kernel
theorem dX7_power_120 : decode cX7_power 120 = .ok (.imul, 1) := by decide +kernel
theorem dX7_power_121 : decode cX7_power 121 = .ok (.iload_n 2, 1) := by decide +kernel
theorem dX7_power_122 : decode cX7_power 122 = .ok (.if_icmp .le 7, 3) := by decide +kernel
theorem dX7_power_125 : decode cX7_power 125 = .ok (.iconst 1, 1) := by decide +kernel
theorem dX7_power_126 : decode cX7_power 126 = .ok (.goto 4, 3) := by decide +kernel
theorem dX7_power_129 : decode cX7_power 129 = .ok (.iconst 0, 1) := by decide +kernel
theorem dX7_power_130 : decode cX7_power 130 = .ok (.iadd, 1) := by decide +kernel
theorem dX7_power_131 : decode cX7_power 131 = .ok (.istore_n 3, 1) := by decide +kernel
theorem dX7_power_132 : decode cX7_power 132 = .ok (.iinc 4 1, 3) := by decide +kernel
theorem dX7_power_135 : decode cX7_power 135 = .ok (.goto (-104), 3) := by decide +kernel
theorem dX7_power_138 : decode cX7_power 138 = .ok (.iload_n 3, 1) := by decide +kernel
theorem dX7_power_139 : decode cX7_power 139 = .ok (.ireturn, 1) := by decide +kernel
theorem dX7_share_0 : decode cX7_share 0 = .ok (.aload_n 0, 1) := by decide +kernel
theorem dX7_share_1 : decode cX7_share 1 = .ok (.iload_n 1, 1) := by decide +kernel
theorem dX7_share_2 : decode cX7_share 2 = .ok (.invokevirtual 89, 3) := by decide +kernel
theorem dX7_share_5 : decode cX7_share 5 = .ok (.ifCond .ne 7, 3) := by decide +kernel
theorem dX7_share_8 : decode cX7_share 8 = .ok (.iconst (-1), 1) := by decide +kernel
theorem dX7_share_9 : decode cX7_share 9 = .ok (.goto 18, 3) := by decide +kernel
theorem dX7_share_12 : decode cX7_share 12 = .ok (.iload_n 2, 1) := by decide +kernel
theorem dX7_share_13 : decode cX7_share 13 = .ok (.iconst 0, 1) := by decide +kernel
theorem dX7_share_14 : decode cX7_share 14 = .ok (.iconst 1, 1) := by decide +kernel
theorem dX7_share_15 : decode cX7_share 15 = .ok (.invokestatic 85, 3) := by decide +kernel
theorem dX7_share_18 : decode cX7_share 18 = .ok (.ifCond .ne 8, 3) := by decide +kernel
theorem dX7_share_21 : decode cX7_share 21 = .ok (.bipush (-2), 2) := by decide +kernel
theorem dX7_share_23 : decode cX7_share 23 = .ok (.goto 4, 3) := by decide +kernel
theorem dX7_share_26 : decode cX7_share 26 = .ok (.iconst 0, 1) := by decide +kernel
theorem dX7_share_27 : decode cX7_share 27 = .ok (.istore_n 3, 1) := by decide +kernel
theorem dX7_share_28 : decode cX7_share 28 = .ok (.iload_n 3, 1) := by decide +kernel
theorem dX7_share_29 : decode cX7_share 29 = .ok (.ifCond .eq 9, 3) := by decide +kernel
theorem dX7_share_32 : decode cX7_share 32 = .ok (.aload_n 0, 1) := by decide +kernel
theorem dX7_share_33 : decode cX7_share 33 = .ok (.iload_n 3, 1) := by decide +kernel
theorem dX7_share_34 : decode cX7_share 34 = .ok (.invokevirtual 387, 3) := by decide +kernel
theorem dX7_share_37 : decode cX7_share 37 = .ok (.lreturn, 1) := by decide +kernel
theorem dX7_share_38 : decode cX7_share 38 = .ok (.aload_n 0, 1) := by decide +kernel
theorem dX7_share_39 : decode cX7_share 39 = .ok (.getfield 37, 3) := by decide +kernel
theorem dX7_share_42 : decode cX7_share 42 = .ok (.aload_n 0, 1) := by decide +kernel
theorem dX7_share_43 : decode cX7_share 43 = .ok (.getfield 79, 3) := by decide +kernel
theorem dX7_share_46 : decode cX7_share 46 = .ok (.invokestatic 352, 3) := by decide +kernel
theorem dX7_share_49 : decode cX7_share 49 = .ok (.istore 4, 2) := by decide +kernel
theorem dX7_share_51 : decode cX7_share 51 = .ok (.iload 4, 2) := by decide +kernel
theorem dX7_share_53 : decode cX7_share 53 = .ok (.ifCond .ne 8, 3) := by decide +kernel
theorem dX7_share_56 : decode cX7_share 56 = .ok (.iload_n 2, 1) := by decide +kernel
theorem dX7_share_57 : decode cX7_share 57 = .ok (.i2l, 1) := by decide +kernel
theorem dX7_share_58 : decode cX7_share 58 = .ok (.goto 17, 3) := by decide +kernel
theorem dX7_share_61 : decode cX7_share 61 = .ok (.aload_n 0, 1) := by decide +kernel
theorem dX7_share_62 : decode cX7_share 62 = .ok (.getfield 37, 3) := by decide +kernel
theorem dX7_share_65 : decode cX7_share 65 = .ok (.iload_n 1, 1) := by decide +kernel
theorem dX7_share_66 : decode cX7_share 66 = .ok (.iaload, 1) := by decide +kernel
theorem dX7_share_67 : decode cX7_share 67 = .ok (.i2l, 1) := by decide +kernel
theorem dX7_share_68 : decode cX7_share 68 = .ok (.iload 4, 2) := by decide +kernel
theorem dX7_share_70 : decode cX7_share 70 = .ok (.i2l, 1) := by decide +kernel
theorem dX7_share_71 : decode cX7_share 71 = .ok (.iload_n 2, 1) := by decide +kernel
theorem dX7_share_72 : decode cX7_share 72 = .ok (.invokestatic 391, 3) := by decide +kernel
theorem dX7_share_75 : decode cX7_share 75 = .ok (.lreturn, 1) := by decide +kernel
theorem dX7_far_0 : decode cX7_far 0 = .ok (.iload_n 0, 1) := by decide +kernel
theorem dX7_far_1 : decode cX7_far 1 = .ok (.bipush 8, 2) := by decide +kernel
theorem dX7_far_3 : decode cX7_far 3 = .ok (.idiv, 1) := by decide +kernel
theorem dX7_far_4 : decode cX7_far 4 = .ok (.iload_n 1, 1) := by decide +kernel
theorem dX7_far_5 : decode cX7_far 5 = .ok (.bipush 8, 2) := by decide +kernel
theorem dX7_far_7 : decode cX7_far 7 = .ok (.idiv, 1) := by decide +kernel
theorem dX7_far_8 : decode cX7_far 8 = .ok (.invokestatic 416, 3) := by decide +kernel
theorem dX7_far_11 : decode cX7_far 11 = .ok (.iload_n 0, 1) := by decide +kernel
theorem dX7_far_12 : decode cX7_far 12 = .ok (.bipush 8, 2) := by decide +kernel
theorem dX7_far_14 : decode cX7_far 14 = .ok (.irem, 1) := by decide +kernel
theorem dX7_far_15 : decode cX7_far 15 = .ok (.iload_n 1, 1) := by decide +kernel
theorem dX7_far_16 : decode cX7_far 16 = .ok (.bipush 8, 2) := by decide +kernel
theorem dX7_far_18 : decode cX7_far 18 = .ok (.irem, 1) := by decide +kernel
theorem dX7_far_19 : decode cX7_far 19 = .ok (.invokestatic 416, 3) := by decide +kernel
theorem dX7_far_22 : decode cX7_far 22 = .ok (.iadd, 1) := by decide +kernel
theorem dX7_far_23 : decode cX7_far 23 = .ok (.ireturn, 1) := by decide +kernel
theorem dX7_nearest_0 : decode cX7_nearest 0 = .ok (.iload_n 1, 1) := by decide +kernel
theorem dX7_nearest_1 : decode cX7_nearest 1 = .ok (.invokestatic 244, 3) := by decide +kernel
theorem dX7_nearest_4 : decode cX7_nearest 4 = .ok (.ifCond .ne 7, 3) := by decide +kernel
theorem dX7_nearest_7 : decode cX7_nearest 7 = .ok (.iconst (-1), 1) := by decide +kernel
theorem dX7_nearest_8 : decode cX7_nearest 8 = .ok (.goto 18, 3) := by decide +kernel
theorem dX7_nearest_11 : decode cX7_nearest 11 = .ok (.iload_n 2, 1) := by decide +kernel
theorem dX7_nearest_12 : decode cX7_nearest 12 = .ok (.iconst 0, 1) := by decide +kernel
theorem dX7_nearest_13 : decode cX7_nearest 13 = .ok (.iconst 1, 1) := by decide +kernel
theorem dX7_nearest_14 : decode cX7_nearest 14 = .ok (.invokestatic 85, 3) := by decide +kernel
theorem dX7_nearest_17 : decode cX7_nearest 17 = .ok (.ifCond .ne 8, 3) := by decide +kernel
theorem dX7_nearest_20 : decode cX7_nearest 20 = .ok (.bipush (-2), 2) := by decide +kernel
theorem dX7_nearest_22 : decode cX7_nearest 22 = .ok (.goto 4, 3) := by decide +kernel
theorem dX7_nearest_25 : decode cX7_nearest 25 = .ok (.iconst 0, 1) := by decide +kernel
theorem dX7_nearest_26 : decode cX7_nearest 26 = .ok (.istore_n 3, 1) := by decide +kernel
theorem dX7_nearest_27 : decode cX7_nearest 27 = .ok (.iload_n 3, 1) := by decide +kernel
theorem dX7_nearest_28 : decode cX7_nearest 28 = .ok (.ifCond .eq 9, 3) := by decide +kernel
theorem dX7_nearest_31 : decode cX7_nearest 31 = .ok (.aload_n 0, 1) := by decide +kernel
theorem dX7_nearest_32 : decode cX7_nearest 32 = .ok (.iload_n 3, 1) := by decide +kernel
theorem dX7_nearest_33 : decode cX7_nearest 33 = .ok (.invokevirtual 170, 3) := by decide +kernel
theorem dX7_nearest_36 : decode cX7_nearest 36 = .ok (.ireturn, 1) := by decide +kernel
theorem dX7_nearest_37 : decode cX7_nearest 37 = .ok (.bipush (-9), 2) := by decide +kernel
theorem dX7_nearest_39 : decode cX7_nearest 39 = .ok (.istore 4, 2) := by decide +kernel
theorem dX7_nearest_41 : decode cX7_nearest 41 = .ok (.iconst 0, 1) := by decide +kernel
theorem dX7_nearest_42 : decode cX7_nearest 42 = .ok (.istore 5, 2) := by decide +kernel
theorem dX7_nearest_44 : decode cX7_nearest 44 = .ok (.iload 5, 2) := by decide +kernel
theorem dX7_nearest_46 : decode cX7_nearest 46 = .ok (.aload_n 0, 1) := by decide +kernel
theorem dX7_nearest_47 : decode cX7_nearest 47 = .ok (.getfield 79, 3) := by decide +kernel
theorem dX7_nearest_50 : decode cX7_nearest 50 = .ok (.if_icmp .ge 43, 3) := by decide +kernel
theorem dX7_nearest_53 : decode cX7_nearest 53 = .ok (.iload 4, 2) := by decide +kernel
theorem dX7_nearest_55 : decode cX7_nearest 55 = .ok (.ifCond .lt 28, 3) := by decide +kernel
theorem dX7_nearest_58 : decode cX7_nearest 58 = .ok (.aload_n 0, 1) := by decide +kernel
theorem dX7_nearest_59 : decode cX7_nearest 59 = .ok (.getfield 28, 3) := by decide +kernel
theorem dX7_nearest_62 : decode cX7_nearest 62 = .ok (.iload 5, 2) := by decide +kernel
theorem dX7_nearest_64 : decode cX7_nearest 64 = .ok (.iaload, 1) := by decide +kernel
theorem dX7_nearest_65 : decode cX7_nearest 65 = .ok (.iload_n 1, 1) := by decide +kernel
theorem dX7_nearest_66 : decode cX7_nearest 66 = .ok (.invokestatic 419, 3) := by decide +kernel
theorem dX7_nearest_69 : decode cX7_nearest 69 = .ok (.aload_n 0, 1) := by decide +kernel
theorem dX7_nearest_70 : decode cX7_nearest 70 = .ok (.getfield 28, 3) := by decide +kernel
theorem dX7_nearest_73 : decode cX7_nearest 73 = .ok (.iload 4, 2) := by decide +kernel
theorem dX7_nearest_75 : decode cX7_nearest 75 = .ok (.iaload, 1) := by decide +kernel
theorem dX7_nearest_76 : decode cX7_nearest 76 = .ok (.iload_n 1, 1) := by decide +kernel
theorem dX7_nearest_77 : decode cX7_nearest 77 = .ok (.invokestatic 419, 3) := by decide +kernel
theorem dX7_nearest_80 : decode cX7_nearest 80 = .ok (.if_icmp .ge 7, 3) := by decide +kernel
theorem dX7_nearest_83 : decode cX7_nearest 83 = .ok (.iload 5, 2) := by decide +kernel
theorem dX7_nearest_85 : decode cX7_nearest 85 = .ok (.istore 4, 2) := by decide +kernel
theorem dX7_nearest_87 : decode cX7_nearest 87 = .ok (.iinc 5 1, 3) := by decide +kernel
theorem dX7_nearest_90 : decode cX7_nearest 90 = .ok (.goto (-46), 3) := by decide +kernel
theorem dX7_nearest_93 : decode cX7_nearest 93 = .ok (.iload 4, 2) := by decide +kernel
theorem dX7_nearest_95 : decode cX7_nearest 95 = .ok (.ifCond .ge 8, 3) := by decide +kernel
theorem dX7_nearest_98 : decode cX7_nearest 98 = .ok (.bipush (-9), 2) := by decide +kernel
theorem dX7_nearest_100 : decode cX7_nearest 100 = .ok (.goto 23, 3) := by decide +kernel
theorem dX7_nearest_103 : decode cX7_nearest 103 = .ok (.iload_n 2, 1) := by decide +kernel
theorem dX7_nearest_104 : decode cX7_nearest 104 = .ok (.ifCond .ne 8, 3) := by decide +kernel
theorem dX7_nearest_107 : decode cX7_nearest 107 = .ok (.iload 4, 2) := by decide +kernel
theorem dX7_nearest_109 : decode cX7_nearest 109 = .ok (.goto 14, 3) := by decide +kernel
theorem dX7_nearest_112 : decode cX7_nearest 112 = .ok (.aload_n 0, 1) := by decide +kernel
theorem dX7_nearest_113 : decode cX7_nearest 113 = .ok (.getfield 28, 3) := by decide +kernel
theorem dX7_nearest_116 : decode cX7_nearest 116 = .ok (.iload 4, 2) := by decide +kernel
theorem dX7_nearest_118 : decode cX7_nearest 118 = .ok (.iaload, 1) := by decide +kernel
theorem dX7_nearest_119 : decode cX7_nearest 119 = .ok (.iload_n 1, 1) := by decide +kernel
theorem dX7_nearest_120 : decode cX7_nearest 120 = .ok (.invokestatic 419, 3) := by decide +kernel
theorem dX7_nearest_123 : decode cX7_nearest 123 = .ok (.ireturn, 1) := by decide +kernel
theorem dX7_goesFurther_0 : decode cX7_goesFurther 0 = .ok (.iconst 0, 1) := by decide +kernel
theorem dX7_goesFurther_1 : decode cX7_goesFurther 1 = .ok (.istore_n 2, 1) := by decide +kernel
theorem dX7_goesFurther_2 : decode cX7_goesFurther 2 = .ok (.iconst 0, 1) := by decide +kernel
theorem dX7_goesFurther_3 : decode cX7_goesFurther 3 = .ok (.istore_n 3, 1) := by decide +kernel
theorem dX7_goesFurther_4 : decode cX7_goesFurther 4 = .ok (.iload_n 3, 1) := by decide +kernel
theorem dX7_goesFurther_5 : decode cX7_goesFurther 5 = .ok (.bipush 48, 2) := by decide +kernel
theorem dX7_goesFurther_7 : decode cX7_goesFurther 7 = .ok (.if_icmp .ge 82, 3) := by decide +kernel
theorem dX7_goesFurther_10 : decode cX7_goesFurther 10 = .ok (.iconst 0, 1) := by decide +kernel
theorem dX7_goesFurther_11 : decode cX7_goesFurther 11 = .ok (.istore 4, 2) := by decide +kernel
theorem dX7_goesFurther_13 : decode cX7_goesFurther 13 = .ok (.iload 4, 2) := by decide +kernel
theorem dX7_goesFurther_15 : decode cX7_goesFurther 15 = .ok (.iconst 4, 1) := by decide +kernel
theorem dX7_goesFurther_16 : decode cX7_goesFurther 16 = .ok (.if_icmp .ge 67, 3) := by decide +kernel
theorem dX7_goesFurther_19 : decode cX7_goesFurther 19 = .ok (.aload_n 0, 1) := by decide +kernel
theorem dX7_goesFurther_20 : decode cX7_goesFurther 20 = .ok (.getfield 76, 3) := by decide +kernel
theorem dX7_goesFurther_23 : decode cX7_goesFurther 23 = .ok (.iload_n 3, 1) := by decide +kernel
theorem dX7_goesFurther_24 : decode cX7_goesFurther 24 = .ok (.iaload, 1) := by decide +kernel
theorem dX7_goesFurther_25 : decode cX7_goesFurther 25 = .ok (.iload_n 1, 1) := by decide +kernel
theorem dX7_goesFurther_26 : decode cX7_goesFurther 26 = .ok (.if_icmp .ne 57, 3) := by decide +kernel
theorem dX7_goesFurther_29 : decode cX7_goesFurther 29 = .ok (.iload_n 3, 1) := by decide +kernel
theorem dX7_goesFurther_30 : decode cX7_goesFurther 30 = .ok (.iload 4, 2) := by decide +kernel
theorem dX7_goesFurther_32 : decode cX7_goesFurther 32 = .ok (.invokestatic 100, 3) := by decide +kernel
theorem dX7_goesFurther_35 : decode cX7_goesFurther 35 = .ok (.istore 5, 2) := by decide +kernel
theorem dX7_goesFurther_37 : decode cX7_goesFurther 37 = .ok (.iload 5, 2) := by decide +kernel
theorem dX7_goesFurther_39 : decode cX7_goesFurther 39 = .ok (.ifCond .lt 38, 3) := by decide +kernel
theorem dX7_goesFurther_42 : decode cX7_goesFurther 42 = .ok (.aload_n 0, 1) := by decide +kernel
theorem dX7_goesFurther_43 : decode cX7_goesFurther 43 = .ok (.getfield 76, 3) := by decide +kernel
theorem dX7_goesFurther_46 : decode cX7_goesFurther 46 = .ok (.iload 5, 2) := by decide +kernel
theorem dX7_goesFurther_48 : decode cX7_goesFurther 48 = .ok (.iaload, 1) := by decide +kernel
theorem dX7_goesFurther_49 : decode cX7_goesFurther 49 = .ok (.ifCond .ge 28, 3) := by decide +kernel
theorem dX7_goesFurther_52 : decode cX7_goesFurther 52 = .ok (.aload_n 0, 1) := by decide +kernel
theorem dX7_goesFurther_53 : decode cX7_goesFurther 53 = .ok (.getfield 13, 3) := by decide +kernel
theorem dX7_goesFurther_56 : decode cX7_goesFurther 56 = .ok (.iload 5, 2) := by decide +kernel
theorem dX7_goesFurther_58 : decode cX7_goesFurther 58 = .ok (.iaload, 1) := by decide +kernel
theorem dX7_goesFurther_59 : decode cX7_goesFurther 59 = .ok (.ifCond .le 6, 3) := by decide +kernel
theorem dX7_goesFurther_62 : decode cX7_goesFurther 62 = .ok (.goto 15, 3) := by decide +kernel
theorem dX7_goesFurther_65 : decode cX7_goesFurther 65 = .ok (.aload_n 0, 1) := by decide +kernel
theorem dX7_goesFurther_66 : decode cX7_goesFurther 66 = .ok (.getfield 76, 3) := by decide +kernel
theorem dX7_goesFurther_69 : decode cX7_goesFurther 69 = .ok (.iload 5, 2) := by decide +kernel
theorem dX7_goesFurther_71 : decode cX7_goesFurther 71 = .ok (.iload_n 1, 1) := by decide +kernel
theorem dX7_goesFurther_72 : decode cX7_goesFurther 72 = .ok (.iconst 1, 1) := by decide +kernel
theorem dX7_goesFurther_73 : decode cX7_goesFurther 73 = .ok (.iadd, 1) := by decide +kernel
theorem dX7_goesFurther_74 : decode cX7_goesFurther 74 = .ok (.iastore, 1) := by decide +kernel
theorem dX7_goesFurther_75 : decode cX7_goesFurther 75 = .ok (.iconst 1, 1) := by decide +kernel
theorem dX7_goesFurther_76 : decode cX7_goesFurther 76 = .ok (.istore_n 2, 1) := by decide +kernel
theorem dX7_goesFurther_77 : decode cX7_goesFurther 77 = .ok (.iinc 4 1, 3) := by decide +kernel
theorem dX7_goesFurther_80 : decode cX7_goesFurther 80 = .ok (.goto (-67), 3) := by decide +kernel
theorem dX7_goesFurther_83 : decode cX7_goesFurther 83 = .ok (.iinc 3 1, 3) := by decide +kernel
theorem dX7_goesFurther_86 : decode cX7_goesFurther 86 = .ok (.goto (-82), 3) := by decide +kernel
theorem dX7_goesFurther_89 : decode cX7_goesFurther 89 = .ok (.iload_n 2, 1) := by decide +kernel
theorem dX7_goesFurther_90 : decode cX7_goesFurther 90 = .ok (.ireturn, 1) := by decide +kernel
theorem dX7_way_0 : decode cX7_way 0 = .ok (.iload_n 1, 1) := by decide +kernel
theorem dX7_way_1 : decode cX7_way 1 = .ok (.invokestatic 244, 3) := by decide +kernel
theorem dX7_way_4 : decode cX7_way 4 = .ok (.ifCond .eq 10, 3) := by decide +kernel
theorem dX7_way_7 : decode cX7_way 7 = .ok (.iload_n 2, 1) := by decide +kernel
theorem dX7_way_8 : decode cX7_way 8 = .ok (.invokestatic 244, 3) := by decide +kernel
theorem dX7_way_11 : decode cX7_way 11 = .ok (.ifCond .ne 9, 3) := by decide +kernel
theorem dX7_way_14 : decode cX7_way 14 = .ok (.aload_n 0, 1) := by decide +kernel
theorem dX7_way_15 : decode cX7_way 15 = .ok (.iconst (-1), 1) := by decide +kernel
theorem dX7_way_16 : decode cX7_way 16 = .ok (.invokevirtual 170, 3) := by decide +kernel
theorem dX7_way_19 : decode cX7_way 19 = .ok (.ireturn, 1) := by decide +kernel
theorem dX7_way_20 : decode cX7_way 20 = .ok (.iconst 0, 1) := by decide +kernel
theorem dX7_way_21 : decode cX7_way 21 = .ok (.istore_n 3, 1) := by decide +kernel
theorem dX7_way_22 : decode cX7_way 22 = .ok (.iload_n 3, 1) := by decide +kernel
theorem dX7_way_23 : decode cX7_way 23 = .ok (.bipush 48, 2) := by decide +kernel
theorem dX7_way_25 : decode cX7_way 25 = .ok (.if_icmp .ge 17, 3) := by decide +kernel
theorem dX7_way_28 : decode cX7_way 28 = .ok (.aload_n 0, 1) := by decide +kernel
theorem dX7_way_29 : decode cX7_way 29 = .ok (.getfield 76, 3) := by decide +kernel
theorem dX7_way_32 : decode cX7_way 32 = .ok (.iload_n 3, 1) := by decide +kernel
theorem dX7_way_33 : decode cX7_way 33 = .ok (.bipush (-9), 2) := by decide +kernel
theorem dX7_way_35 : decode cX7_way 35 = .ok (.iastore, 1) := by decide +kernel
theorem dX7_way_36 : decode cX7_way 36 = .ok (.iinc 3 1, 3) := by decide +kernel
theorem dX7_way_39 : decode cX7_way 39 = .ok (.goto (-17), 3) := by decide +kernel
theorem dX7_way_42 : decode cX7_way 42 = .ok (.aload_n 0, 1) := by decide +kernel
theorem dX7_way_43 : decode cX7_way 43 = .ok (.getfield 76, 3) := by decide +kernel
theorem dX7_way_46 : decode cX7_way 46 = .ok (.iload_n 1, 1) := by decide +kernel
theorem dX7_way_47 : decode cX7_way 47 = .ok (.iconst 0, 1) := by decide +kernel
theorem dX7_way_48 : decode cX7_way 48 = .ok (.iastore, 1) := by decide +kernel
theorem dX7_way_49 : decode cX7_way 49 = .ok (.iconst 0, 1) := by decide +kernel
theorem dX7_way_50 : decode cX7_way 50 = .ok (.istore_n 3, 1) := by decide +kernel
theorem dX7_way_51 : decode cX7_way 51 = .ok (.aload_n 0, 1) := by decide +kernel
theorem dX7_way_52 : decode cX7_way 52 = .ok (.iload_n 3, 1) := by decide +kernel
theorem dX7_way_53 : decode cX7_way 53 = .ok (.invokevirtual 422, 3) := by decide +kernel
theorem dX7_way_56 : decode cX7_way 56 = .ok (.ifCond .eq 9, 3) := by decide +kernel
theorem dX7_way_59 : decode cX7_way 59 = .ok (.iinc 3 1, 3) := by decide +kernel
theorem dX7_way_62 : decode cX7_way 62 = .ok (.goto (-11), 3) := by decide +kernel
theorem dX7_way_65 : decode cX7_way 65 = .ok (.aload_n 0, 1) := by decide +kernel
theorem dX7_way_66 : decode cX7_way 66 = .ok (.getfield 76, 3) := by decide +kernel
theorem dX7_way_69 : decode cX7_way 69 = .ok (.iload_n 2, 1) := by decide +kernel
theorem dX7_way_70 : decode cX7_way 70 = .ok (.iaload, 1) := by decide +kernel
theorem dX7_way_71 : decode cX7_way 71 = .ok (.ireturn, 1) := by decide +kernel
theorem dX7_vowels_0 : decode cX7_vowels 0 = .ok (.iconst 0, 1) := by decide +kernel
theorem dX7_vowels_1 : decode cX7_vowels 1 = .ok (.istore_n 1, 1) := by decide +kernel
theorem dX7_vowels_2 : decode cX7_vowels 2 = .ok (.iconst 0, 1) := by decide +kernel
theorem dX7_vowels_3 : decode cX7_vowels 3 = .ok (.istore_n 2, 1) := by decide +kernel
theorem dX7_vowels_4 : decode cX7_vowels 4 = .ok (.iload_n 2, 1) := by decide +kernel
theorem dX7_vowels_5 : decode cX7_vowels 5 = .ok (.aload_n 0, 1) := by decide +kernel
theorem dX7_vowels_6 : decode cX7_vowels 6 = .ok (.getfield 79, 3) := by decide +kernel
theorem dX7_vowels_9 : decode cX7_vowels 9 = .ok (.if_icmp .ge 52, 3) := by decide +kernel
theorem dX7_vowels_12 : decode cX7_vowels 12 = .ok (.iconst 0, 1) := by decide +kernel
theorem dX7_vowels_13 : decode cX7_vowels 13 = .ok (.istore_n 3, 1) := by decide +kernel
theorem dX7_vowels_14 : decode cX7_vowels 14 = .ok (.iload_n 3, 1) := by decide +kernel
theorem dX7_vowels_15 : decode cX7_vowels 15 = .ok (.aload_n 0, 1) := by decide +kernel
theorem dX7_vowels_16 : decode cX7_vowels 16 = .ok (.getfield 43, 3) := by decide +kernel
theorem dX7_vowels_19 : decode cX7_vowels 19 = .ok (.iload_n 2, 1) := by decide +kernel
theorem dX7_vowels_20 : decode cX7_vowels 20 = .ok (.iaload, 1) := by decide +kernel
theorem dX7_vowels_21 : decode cX7_vowels 21 = .ok (.if_icmp .ge 34, 3) := by decide +kernel
theorem dX7_vowels_24 : decode cX7_vowels 24 = .ok (.iload_n 1, 1) := by decide +kernel
theorem dX7_vowels_25 : decode cX7_vowels 25 = .ok (.aload_n 0, 1) := by decide +kernel
theorem dX7_vowels_26 : decode cX7_vowels 26 = .ok (.getfield 46, 3) := by decide +kernel
theorem dX7_vowels_29 : decode cX7_vowels 29 = .ok (.bipush 6, 2) := by decide +kernel
theorem dX7_vowels_31 : decode cX7_vowels 31 = .ok (.iload_n 2, 1) := by decide +kernel
theorem dX7_vowels_32 : decode cX7_vowels 32 = .ok (.imul, 1) := by decide +kernel
theorem dX7_vowels_33 : decode cX7_vowels 33 = .ok (.iload_n 3, 1) := by decide +kernel
theorem dX7_vowels_34 : decode cX7_vowels 34 = .ok (.iadd, 1) := by decide +kernel
theorem dX7_vowels_35 : decode cX7_vowels 35 = .ok (.iaload, 1) := by decide +kernel
theorem dX7_vowels_36 : decode cX7_vowels 36 = .ok (.invokestatic 97, 3) := by decide +kernel
theorem dX7_vowels_39 : decode cX7_vowels 39 = .ok (.ifCond .eq 7, 3) := by decide +kernel
theorem dX7_vowels_42 : decode cX7_vowels 42 = .ok (.iconst 1, 1) := by decide +kernel
theorem dX7_vowels_43 : decode cX7_vowels 43 = .ok (.goto 4, 3) := by decide +kernel
theorem dX7_vowels_46 : decode cX7_vowels 46 = .ok (.iconst 0, 1) := by decide +kernel
theorem dX7_vowels_47 : decode cX7_vowels 47 = .ok (.iadd, 1) := by decide +kernel
theorem dX7_vowels_48 : decode cX7_vowels 48 = .ok (.istore_n 1, 1) := by decide +kernel
theorem dX7_vowels_49 : decode cX7_vowels 49 = .ok (.iinc 3 1, 3) := by decide +kernel
theorem dX7_vowels_52 : decode cX7_vowels 52 = .ok (.goto (-38), 3) := by decide +kernel
theorem dX7_vowels_55 : decode cX7_vowels 55 = .ok (.iinc 2 1, 3) := by decide +kernel
theorem dX7_vowels_58 : decode cX7_vowels 58 = .ok (.goto (-54), 3) := by decide +kernel
theorem dX7_vowels_61 : decode cX7_vowels 61 = .ok (.iload_n 1, 1) := by decide +kernel
theorem dX7_vowels_62 : decode cX7_vowels 62 = .ok (.ireturn, 1) := by decide +kernel
theorem dX7_hungry_0 : decode cX7_hungry 0 = .ok (.iconst 0, 1) := by decide +kernel
theorem dX7_hungry_1 : decode cX7_hungry 1 = .ok (.istore_n 1, 1) := by decide +kernel
theorem dX7_hungry_2 : decode cX7_hungry 2 = .ok (.iconst 0, 1) := by decide +kernel
theorem dX7_hungry_3 : decode cX7_hungry 3 = .ok (.istore_n 2, 1) := by decide +kernel
theorem dX7_hungry_4 : decode cX7_hungry 4 = .ok (.iload_n 2, 1) := by decide +kernel
theorem dX7_hungry_5 : decode cX7_hungry 5 = .ok (.aload_n 0, 1) := by decide +kernel
theorem dX7_hungry_6 : decode cX7_hungry 6 = .ok (.getfield 79, 3) := by decide +kernel
theorem dX7_hungry_9 : decode cX7_hungry 9 = .ok (.if_icmp .ge 17, 3) := by decide +kernel
theorem dX7_hungry_12 : decode cX7_hungry 12 = .ok (.iload_n 1, 1) := by decide +kernel
theorem dX7_hungry_13 : decode cX7_hungry 13 = .ok (.aload_n 0, 1) := by decide +kernel
theorem dX7_hungry_14 : decode cX7_hungry 14 = .ok (.iload_n 2, 1) := by decide +kernel
theorem dX7_hungry_15 : decode cX7_hungry 15 = .ok (.invokevirtual 398, 3) := by decide +kernel
theorem dX7_hungry_18 : decode cX7_hungry 18 = .ok (.ior, 1) := by decide +kernel
theorem dX7_hungry_19 : decode cX7_hungry 19 = .ok (.istore_n 1, 1) := by decide +kernel
theorem dX7_hungry_20 : decode cX7_hungry 20 = .ok (.iinc 2 1, 3) := by decide +kernel
theorem dX7_hungry_23 : decode cX7_hungry 23 = .ok (.goto (-19), 3) := by decide +kernel
theorem dX7_hungry_26 : decode cX7_hungry 26 = .ok (.iconst 0, 1) := by decide +kernel
theorem dX7_hungry_27 : decode cX7_hungry 27 = .ok (.istore_n 2, 1) := by decide +kernel
theorem dX7_hungry_28 : decode cX7_hungry 28 = .ok (.iconst 0, 1) := by decide +kernel
theorem dX7_hungry_29 : decode cX7_hungry 29 = .ok (.istore_n 3, 1) := by decide +kernel
theorem dX7_hungry_30 : decode cX7_hungry 30 = .ok (.iload_n 3, 1) := by decide +kernel
theorem dX7_hungry_31 : decode cX7_hungry 31 = .ok (.bipush 48, 2) := by decide +kernel
theorem dX7_hungry_33 : decode cX7_hungry 33 = .ok (.if_icmp .ge 35, 3) := by decide +kernel
theorem dX7_hungry_36 : decode cX7_hungry 36 = .ok (.iload_n 2, 1) := by decide +kernel
theorem dX7_hungry_37 : decode cX7_hungry 37 = .ok (.iload_n 1, 1) := by decide +kernel
theorem dX7_hungry_38 : decode cX7_hungry 38 = .ok (.aload_n 0, 1) := by decide +kernel
theorem dX7_hungry_39 : decode cX7_hungry 39 = .ok (.getfield 19, 3) := by decide +kernel
theorem dX7_hungry_42 : decode cX7_hungry 42 = .ok (.iload_n 3, 1) := by decide +kernel
theorem dX7_hungry_43 : decode cX7_hungry 43 = .ok (.iaload, 1) := by decide +kernel
theorem dX7_hungry_44 : decode cX7_hungry 44 = .ok (.invokestatic 356, 3) := by decide +kernel
theorem dX7_hungry_47 : decode cX7_hungry 47 = .ok (.ifCond .eq 7, 3) := by decide +kernel
theorem dX7_hungry_50 : decode cX7_hungry 50 = .ok (.iconst 0, 1) := by decide +kernel
theorem dX7_hungry_51 : decode cX7_hungry 51 = .ok (.goto 9, 3) := by decide +kernel
theorem dX7_hungry_54 : decode cX7_hungry 54 = .ok (.aload_n 0, 1) := by decide +kernel
theorem dX7_hungry_55 : decode cX7_hungry 55 = .ok (.getfield 16, 3) := by decide +kernel
theorem dX7_hungry_58 : decode cX7_hungry 58 = .ok (.iload_n 3, 1) := by decide +kernel
theorem dX7_hungry_59 : decode cX7_hungry 59 = .ok (.iaload, 1) := by decide +kernel
theorem dX7_hungry_60 : decode cX7_hungry 60 = .ok (.iadd, 1) := by decide +kernel
theorem dX7_hungry_61 : decode cX7_hungry 61 = .ok (.istore_n 2, 1) := by decide +kernel
theorem dX7_hungry_62 : decode cX7_hungry 62 = .ok (.iinc 3 1, 3) := by decide +kernel
theorem dX7_hungry_65 : decode cX7_hungry 65 = .ok (.goto (-35), 3) := by decide +kernel
theorem dX7_hungry_68 : decode cX7_hungry 68 = .ok (.iload_n 2, 1) := by decide +kernel
theorem dX7_hungry_69 : decode cX7_hungry 69 = .ok (.ireturn, 1) := by decide +kernel
theorem dX7_alone_0 : decode cX7_alone 0 = .ok (.iconst 0, 1) := by decide +kernel
theorem dX7_alone_1 : decode cX7_alone 1 = .ok (.istore_n 1, 1) := by decide +kernel
theorem dX7_alone_2 : decode cX7_alone 2 = .ok (.iconst 0, 1) := by decide +kernel
theorem dX7_alone_3 : decode cX7_alone 3 = .ok (.istore_n 2, 1) := by decide +kernel
theorem dX7_alone_4 : decode cX7_alone 4 = .ok (.iload_n 2, 1) := by decide +kernel
theorem dX7_alone_5 : decode cX7_alone 5 = .ok (.aload_n 0, 1) := by decide +kernel
theorem dX7_alone_6 : decode cX7_alone 6 = .ok (.getfield 79, 3) := by decide +kernel
theorem dX7_alone_9 : decode cX7_alone 9 = .ok (.if_icmp .ge 35, 3) := by decide +kernel
theorem dX7_alone_12 : decode cX7_alone 12 = .ok (.iload_n 1, 1) := by decide +kernel
theorem dX7_alone_13 : decode cX7_alone 13 = .ok (.aload_n 0, 1) := by decide +kernel
theorem dX7_alone_14 : decode cX7_alone 14 = .ok (.aload_n 0, 1) := by decide +kernel
theorem dX7_alone_15 : decode cX7_alone 15 = .ok (.getfield 28, 3) := by decide +kernel
theorem dX7_alone_18 : decode cX7_alone 18 = .ok (.iload_n 2, 1) := by decide +kernel
theorem dX7_alone_19 : decode cX7_alone 19 = .ok (.iaload, 1) := by decide +kernel
theorem dX7_alone_20 : decode cX7_alone 20 = .ok (.invokevirtual 333, 3) := by decide +kernel
theorem dX7_alone_23 : decode cX7_alone 23 = .ok (.iconst 1, 1) := by decide +kernel
theorem dX7_alone_24 : decode cX7_alone 24 = .ok (.iload_n 2, 1) := by decide +kernel
theorem dX7_alone_25 : decode cX7_alone 25 = .ok (.ishl, 1) := by decide +kernel
theorem dX7_alone_26 : decode cX7_alone 26 = .ok (.if_icmp .ne 9, 3) := by decide +kernel
theorem dX7_alone_29 : decode cX7_alone 29 = .ok (.iconst 1, 1) := by decide +kernel
theorem dX7_alone_30 : decode cX7_alone 30 = .ok (.iload_n 2, 1) := by decide +kernel
theorem dX7_alone_31 : decode cX7_alone 31 = .ok (.ishl, 1) := by decide +kernel
theorem dX7_alone_32 : decode cX7_alone 32 = .ok (.goto 4, 3) := by decide +kernel
theorem dX7_alone_35 : decode cX7_alone 35 = .ok (.iconst 0, 1) := by decide +kernel
theorem dX7_alone_36 : decode cX7_alone 36 = .ok (.ior, 1) := by decide +kernel
theorem dX7_alone_37 : decode cX7_alone 37 = .ok (.istore_n 1, 1) := by decide +kernel
theorem dX7_alone_38 : decode cX7_alone 38 = .ok (.iinc 2 1, 3) := by decide +kernel
theorem dX7_alone_41 : decode cX7_alone 41 = .ok (.goto (-37), 3) := by decide +kernel
theorem dX7_alone_44 : decode cX7_alone 44 = .ok (.iload_n 1, 1) := by decide +kernel
theorem dX7_alone_45 : decode cX7_alone 45 = .ok (.ireturn, 1) := by decide +kernel
theorem dX7_sight_0 : decode cX7_sight 0 = .ok (.iload_n 1, 1) := by decide +kernel
theorem dX7_sight_1 : decode cX7_sight 1 = .ok (.tableswitch 42 0 2 #[27, 32, 37], 27) := by decide +kernel
theorem dX7_sight_28 : decode cX7_sight 28 = .ok (.aload_n 0, 1) := by decide +kernel
theorem dX7_sight_29 : decode cX7_sight 29 = .ok (.invokevirtual 425, 3) := by decide +kernel
theorem dX7_sight_32 : decode cX7_sight 32 = .ok (.ireturn, 1) := by decide +kernel
theorem dX7_sight_33 : decode cX7_sight 33 = .ok (.aload_n 0, 1) := by decide +kernel
theorem dX7_sight_34 : decode cX7_sight 34 = .ok (.invokevirtual 428, 3) := by decide +kernel
theorem dX7_sight_37 : decode cX7_sight 37 = .ok (.ireturn, 1) := by decide +kernel
theorem dX7_sight_38 : decode cX7_sight 38 = .ok (.aload_n 0, 1) := by decide +kernel
theorem dX7_sight_39 : decode cX7_sight 39 = .ok (.invokevirtual 431, 3) := by decide +kernel
theorem dX7_sight_42 : decode cX7_sight 42 = .ok (.ireturn, 1) := by decide +kernel
theorem dX7_sight_43 : decode cX7_sight 43 = .ok (.aload_n 0, 1) := by decide +kernel
theorem dX7_sight_44 : decode cX7_sight 44 = .ok (.bipush (-2), 2) := by decide +kernel
theorem dX7_sight_46 : decode cX7_sight 46 = .ok (.invokevirtual 170, 3) := by decide +kernel
theorem dX7_sight_49 : decode cX7_sight 49 = .ok (.ireturn, 1) := by decide +kernel
theorem dX7_kinds_0 : decode cX7_kinds 0 = .ok (.iload_n 1, 1) := by decide +kernel
theorem dX7_kinds_1 : decode cX7_kinds 1 = .ok (.iconst 0, 1) := by decide +kernel
theorem dX7_kinds_2 : decode cX7_kinds 2 = .ok (.bipush 7, 2) := by decide +kernel
theorem dX7_kinds_4 : decode cX7_kinds 4 = .ok (.invokestatic 85, 3) := by decide +kernel
theorem dX7_kinds_7 : decode cX7_kinds 7 = .ok (.ifCond .ne 10, 3) := by decide +kernel
theorem dX7_kinds_10 : decode cX7_kinds 10 = .ok (.aload_n 0, 1) := by decide +kernel
theorem dX7_kinds_11 : decode cX7_kinds 11 = .ok (.bipush (-2), 2) := by decide +kernel
theorem dX7_kinds_13 : decode cX7_kinds 13 = .ok (.invokevirtual 170, 3) := by decide +kernel
theorem dX7_kinds_16 : decode cX7_kinds 16 = .ok (.ireturn, 1) := by decide +kernel
theorem dX7_kinds_17 : decode cX7_kinds 17 = .ok (.iconst 0, 1) := by decide +kernel
theorem dX7_kinds_18 : decode cX7_kinds 18 = .ok (.istore_n 2, 1) := by decide +kernel
theorem dX7_kinds_19 : decode cX7_kinds 19 = .ok (.iconst 0, 1) := by decide +kernel
theorem dX7_kinds_20 : decode cX7_kinds 20 = .ok (.istore_n 3, 1) := by decide +kernel
theorem dX7_kinds_21 : decode cX7_kinds 21 = .ok (.iload_n 3, 1) := by decide +kernel
theorem dX7_kinds_22 : decode cX7_kinds 22 = .ok (.aload_n 0, 1) := by decide +kernel
theorem dX7_kinds_23 : decode cX7_kinds 23 = .ok (.getfield 79, 3) := by decide +kernel
theorem dX7_kinds_26 : decode cX7_kinds 26 = .ok (.if_icmp .ge 27, 3) := by decide +kernel
theorem dX7_kinds_29 : decode cX7_kinds 29 = .ok (.iload_n 2, 1) := by decide +kernel
theorem dX7_kinds_30 : decode cX7_kinds 30 = .ok (.aload_n 0, 1) := by decide +kernel
theorem dX7_kinds_31 : decode cX7_kinds 31 = .ok (.getfield 22, 3) := by decide +kernel
theorem dX7_kinds_34 : decode cX7_kinds 34 = .ok (.iload_n 3, 1) := by decide +kernel
theorem dX7_kinds_35 : decode cX7_kinds 35 = .ok (.iaload, 1) := by decide +kernel
theorem dX7_kinds_36 : decode cX7_kinds 36 = .ok (.iload_n 1, 1) := by decide +kernel
theorem dX7_kinds_37 : decode cX7_kinds 37 = .ok (.if_icmp .ne 7, 3) := by decide +kernel
theorem dX7_kinds_40 : decode cX7_kinds 40 = .ok (.iconst 1, 1) := by decide +kernel
theorem dX7_kinds_41 : decode cX7_kinds 41 = .ok (.goto 4, 3) := by decide +kernel
theorem dX7_kinds_44 : decode cX7_kinds 44 = .ok (.iconst 0, 1) := by decide +kernel
theorem dX7_kinds_45 : decode cX7_kinds 45 = .ok (.iadd, 1) := by decide +kernel
theorem dX7_kinds_46 : decode cX7_kinds 46 = .ok (.istore_n 2, 1) := by decide +kernel
theorem dX7_kinds_47 : decode cX7_kinds 47 = .ok (.iinc 3 1, 3) := by decide +kernel
theorem dX7_kinds_50 : decode cX7_kinds 50 = .ok (.goto (-29), 3) := by decide +kernel
theorem dX7_kinds_53 : decode cX7_kinds 53 = .ok (.iload_n 2, 1) := by decide +kernel
theorem dX7_kinds_54 : decode cX7_kinds 54 = .ok (.ireturn, 1) := by decide +kernel
theorem dX7_row_0 : decode cX7_row 0 = .ok (.iload_n 1, 1) := by decide +kernel
theorem dX7_row_1 : decode cX7_row 1 = .ok (.iconst 0, 1) := by decide +kernel
theorem dX7_row_2 : decode cX7_row 2 = .ok (.bipush 99, 2) := by decide +kernel
theorem dX7_row_4 : decode cX7_row 4 = .ok (.invokestatic 163, 3) := by decide +kernel
theorem dX7_row_7 : decode cX7_row 7 = .ok (.istore_n 2, 1) := by decide +kernel
theorem dX7_row_8 : decode cX7_row 8 = .ok (.iload_n 2, 1) := by decide +kernel
theorem dX7_row_9 : decode cX7_row 9 = .ok (.ifCond .ne 15, 3) := by decide +kernel
theorem dX7_row_12 : decode cX7_row 12 = .ok (.aload_n 0, 1) := by decide +kernel
theorem dX7_row_13 : decode cX7_row 13 = .ok (.getfield 374, 3) := by decide +kernel
theorem dX7_row_16 : decode cX7_row 16 = .ok (.bipush 12, 2) := by decide +kernel
theorem dX7_row_18 : decode cX7_row 18 = .ok (.if_icmp .ne 6, 3) := by decide +kernel
theorem dX7_row_21 : decode cX7_row 21 = .ok (.bipush (-6), 2) := by decide +kernel
theorem dX7_row_23 : decode cX7_row 23 = .ok (.istore_n 2, 1) := by decide +kernel
theorem dX7_row_24 : decode cX7_row 24 = .ok (.iload_n 2, 1) := by decide +kernel
theorem dX7_row_25 : decode cX7_row 25 = .ok (.ifCond .eq 9, 3) := by decide +kernel
theorem dX7_row_28 : decode cX7_row 28 = .ok (.aload_n 0, 1) := by decide +kernel
theorem dX7_row_29 : decode cX7_row 29 = .ok (.iload_n 2, 1) := by decide +kernel
theorem dX7_row_30 : decode cX7_row 30 = .ok (.invokevirtual 170, 3) := by decide +kernel
theorem dX7_row_33 : decode cX7_row 33 = .ok (.ireturn, 1) := by decide +kernel
theorem dX7_row_34 : decode cX7_row 34 = .ok (.aload_n 0, 1) := by decide +kernel
theorem dX7_row_35 : decode cX7_row 35 = .ok (.getfield 70, 3) := by decide +kernel
theorem dX7_row_38 : decode cX7_row 38 = .ok (.aload_n 0, 1) := by decide +kernel
theorem dX7_row_39 : decode cX7_row 39 = .ok (.getfield 374, 3) := by decide +kernel
theorem dX7_row_42 : decode cX7_row 42 = .ok (.iload_n 1, 1) := by decide +kernel
theorem dX7_row_43 : decode cX7_row 43 = .ok (.iastore, 1) := by decide +kernel
theorem dX7_row_44 : decode cX7_row 44 = .ok (.aload_n 0, 1) := by decide +kernel
theorem dX7_row_45 : decode cX7_row 45 = .ok (.dup, 1) := by decide +kernel
theorem dX7_row_46 : decode cX7_row 46 = .ok (.getfield 374, 3) := by decide +kernel
theorem dX7_row_49 : decode cX7_row 49 = .ok (.iconst 1, 1) := by decide +kernel
theorem dX7_row_50 : decode cX7_row 50 = .ok (.iadd, 1) := by decide +kernel
theorem dX7_row_51 : decode cX7_row 51 = .ok (.putfield 374, 3) := by decide +kernel
theorem dX7_row_54 : decode cX7_row 54 = .ok (.aload_n 0, 1) := by decide +kernel
theorem dX7_row_55 : decode cX7_row 55 = .ok (.getfield 374, 3) := by decide +kernel
theorem dX7_row_58 : decode cX7_row 58 = .ok (.ireturn, 1) := by decide +kernel
theorem dX7_judge_0 : decode cX7_judge 0 = .ok (.aload_n 0, 1) := by decide +kernel
theorem dX7_judge_1 : decode cX7_judge 1 = .ok (.getfield 374, 3) := by decide +kernel
theorem dX7_judge_4 : decode cX7_judge 4 = .ok (.istore_n 1, 1) := by decide +kernel
theorem dX7_judge_5 : decode cX7_judge 5 = .ok (.aload_n 0, 1) := by decide +kernel
theorem dX7_judge_6 : decode cX7_judge 6 = .ok (.iconst 0, 1) := by decide +kernel
theorem dX7_judge_7 : decode cX7_judge 7 = .ok (.putfield 374, 3) := by decide +kernel
theorem dX7_judge_10 : decode cX7_judge 10 = .ok (.iconst 0, 1) := by decide +kernel
theorem dX7_judge_11 : decode cX7_judge 11 = .ok (.istore_n 2, 1) := by decide +kernel
theorem dX7_judge_12 : decode cX7_judge 12 = .ok (.iload_n 2, 1) := by decide +kernel
theorem dX7_judge_13 : decode cX7_judge 13 = .ok (.iload_n 1, 1) := by decide +kernel
theorem dX7_judge_14 : decode cX7_judge 14 = .ok (.if_icmp .ge 34, 3) := by decide +kernel
theorem dX7_judge_17 : decode cX7_judge 17 = .ok (.aload_n 0, 1) := by decide +kernel
theorem dX7_judge_18 : decode cX7_judge 18 = .ok (.iload_n 2, 1) := by decide +kernel
theorem dX7_judge_19 : decode cX7_judge 19 = .ok (.invokevirtual 89, 3) := by decide +kernel
theorem dX7_judge_22 : decode cX7_judge 22 = .ok (.ifCond .eq 18, 3) := by decide +kernel
theorem dX7_judge_25 : decode cX7_judge 25 = .ok (.aload_n 0, 1) := by decide +kernel
theorem dX7_judge_26 : decode cX7_judge 26 = .ok (.getfield 28, 3) := by decide +kernel
theorem dX7_judge_29 : decode cX7_judge 29 = .ok (.iload_n 2, 1) := by decide +kernel
theorem dX7_judge_30 : decode cX7_judge 30 = .ok (.iaload, 1) := by decide +kernel
theorem dX7_judge_31 : decode cX7_judge 31 = .ok (.aload_n 0, 1) := by decide +kernel
theorem dX7_judge_32 : decode cX7_judge 32 = .ok (.getfield 70, 3) := by decide +kernel
theorem dX7_judge_35 : decode cX7_judge 35 = .ok (.iload_n 2, 1) := by decide +kernel
theorem dX7_judge_36 : decode cX7_judge 36 = .ok (.iaload, 1) := by decide +kernel
theorem dX7_judge_37 : decode cX7_judge 37 = .ok (.if_icmp .eq 5, 3) := by decide +kernel
theorem dX7_judge_40 : decode cX7_judge 40 = .ok (.iload_n 2, 1) := by decide +kernel
theorem dX7_judge_41 : decode cX7_judge 41 = .ok (.ireturn, 1) := by decide +kernel
theorem dX7_judge_42 : decode cX7_judge 42 = .ok (.iinc 2 1, 3) := by decide +kernel
theorem dX7_judge_45 : decode cX7_judge 45 = .ok (.goto (-33), 3) := by decide +kernel
theorem dX7_judge_48 : decode cX7_judge 48 = .ok (.bipush (-9), 2) := by decide +kernel
theorem dX7_judge_50 : decode cX7_judge 50 = .ok (.ireturn, 1) := by decide +kernel
theorem dX7_clear_0 : decode cX7_clear 0 = .ok (.aload_n 0, 1) := by decide +kernel
theorem dX7_clear_1 : decode cX7_clear 1 = .ok (.getfield 374, 3) := by decide +kernel
theorem dX7_clear_4 : decode cX7_clear 4 = .ok (.istore_n 1, 1) := by decide +kernel
theorem dX7_clear_5 : decode cX7_clear 5 = .ok (.aload_n 0, 1) := by decide +kernel
theorem dX7_clear_6 : decode cX7_clear 6 = .ok (.iconst 0, 1) := by decide +kernel
theorem dX7_clear_7 : decode cX7_clear 7 = .ok (.putfield 374, 3) := by decide +kernel
theorem dX7_clear_10 : decode cX7_clear 10 = .ok (.iload_n 1, 1) := by decide +kernel
theorem dX7_clear_11 : decode cX7_clear 11 = .ok (.ireturn, 1) := by decide +kernel
theorem dX7_draw_0 : decode cX7_draw 0 = .ok (.aload_n 0, 1) := by decide +kernel
theorem dX7_draw_1 : decode cX7_draw 1 = .ok (.aload_n 0, 1) := by decide +kernel
theorem dX7_draw_2 : decode cX7_draw 2 = .ok (.getfield 434, 3) := by decide +kernel
theorem dX7_draw_5 : decode cX7_draw 5 = .ok (.ldc_w 437, 3) := by decide +kernel
theorem dX7_draw_8 : decode cX7_draw 8 = .ok (.imul, 1) := by decide +kernel
theorem dX7_draw_9 : decode cX7_draw 9 = .ok (.sipush 12345, 3) := by decide +kernel
theorem dX7_draw_12 : decode cX7_draw 12 = .ok (.iadd, 1) := by decide +kernel
theorem dX7_draw_13 : decode cX7_draw 13 = .ok (.putfield 434, 3) := by decide +kernel
theorem dX7_draw_16 : decode cX7_draw 16 = .ok (.aload_n 0, 1) := by decide +kernel
theorem dX7_draw_17 : decode cX7_draw 17 = .ok (.getfield 434, 3) := by decide +kernel
theorem dX7_draw_20 : decode cX7_draw 20 = .ok (.ldc_w 438, 3) := by decide +kernel
theorem dX7_draw_23 : decode cX7_draw 23 = .ok (.iand, 1) := by decide +kernel
theorem dX7_draw_24 : decode cX7_draw 24 = .ok (.ldc_w 439, 3) := by decide +kernel
theorem dX7_draw_27 : decode cX7_draw 27 = .ok (.idiv, 1) := by decide +kernel
theorem dX7_draw_28 : decode cX7_draw 28 = .ok (.iload_n 1, 1) := by decide +kernel
theorem dX7_draw_29 : decode cX7_draw 29 = .ok (.irem, 1) := by decide +kernel
theorem dX7_draw_30 : decode cX7_draw 30 = .ok (.ireturn, 1) := by decide +kernel
theorem dX7_standsByLot_0 : decode cX7_standsByLot 0 = .ok (.iconst 0, 1) := by decide +kernel
theorem dX7_standsByLot_1 : decode cX7_standsByLot 1 = .ok (.istore_n 1, 1) := by decide +kernel
theorem dX7_standsByLot_2 : decode cX7_standsByLot 2 = .ok (.iload_n 1, 1) := by decide +kernel
theorem dX7_standsByLot_3 : decode cX7_standsByLot 3 = .ok (.aload_n 0, 1) := by decide +kernel
theorem dX7_standsByLot_4 : decode cX7_standsByLot 4 = .ok (.getfield 79, 3) := by decide +kernel
theorem dX7_standsByLot_7 : decode cX7_standsByLot 7 = .ok (.if_icmp .ge 32, 3) := by decide +kernel
theorem dX7_standsByLot_10 : decode cX7_standsByLot 10 = .ok (.aload_n 0, 1) := by decide +kernel
theorem dX7_standsByLot_11 : decode cX7_standsByLot 11 = .ok (.getfield 28, 3) := by decide +kernel
theorem dX7_standsByLot_14 : decode cX7_standsByLot 14 = .ok (.iload_n 1, 1) := by decide +kernel
theorem dX7_standsByLot_15 : decode cX7_standsByLot 15 = .ok (.aload_n 0, 1) := by decide +kernel
theorem dX7_standsByLot_16 : decode cX7_standsByLot 16 = .ok (.bipush 48, 2) := by decide +kernel
theorem dX7_standsByLot_18 : decode cX7_standsByLot 18 = .ok (.invokevirtual 440, 3) := by decide +kernel
theorem dX7_standsByLot_21 : decode cX7_standsByLot 21 = .ok (.iastore, 1) := by decide +kernel
theorem dX7_standsByLot_22 : decode cX7_standsByLot 22 = .ok (.aload_n 0, 1) := by decide +kernel
theorem dX7_standsByLot_23 : decode cX7_standsByLot 23 = .ok (.getfield 31, 3) := by decide +kernel
theorem dX7_standsByLot_26 : decode cX7_standsByLot 26 = .ok (.iload_n 1, 1) := by decide +kernel
theorem dX7_standsByLot_27 : decode cX7_standsByLot 27 = .ok (.aload_n 0, 1) := by decide +kernel
theorem dX7_standsByLot_28 : decode cX7_standsByLot 28 = .ok (.iconst 4, 1) := by decide +kernel
theorem dX7_standsByLot_29 : decode cX7_standsByLot 29 = .ok (.invokevirtual 440, 3) := by decide +kernel
theorem dX7_standsByLot_32 : decode cX7_standsByLot 32 = .ok (.iastore, 1) := by decide +kernel
theorem dX7_standsByLot_33 : decode cX7_standsByLot 33 = .ok (.iinc 1 1, 3) := by decide +kernel
theorem dX7_standsByLot_36 : decode cX7_standsByLot 36 = .ok (.goto (-34), 3) := by decide +kernel
theorem dX7_standsByLot_39 : decode cX7_standsByLot 39 = .ok (.return_, 1) := by decide +kernel
theorem dX7_lots_0 : decode cX7_lots 0 = .ok (.iload_n 1, 1) := by decide +kernel
theorem dX7_lots_1 : decode cX7_lots 1 = .ok (.iconst 1, 1) := by decide +kernel
theorem dX7_lots_2 : decode cX7_lots 2 = .ok (.bipush 20, 2) := by decide +kernel
theorem dX7_lots_4 : decode cX7_lots 4 = .ok (.invokestatic 163, 3) := by decide +kernel
theorem dX7_lots_7 : decode cX7_lots 7 = .ok (.istore 4, 2) := by decide +kernel
theorem dX7_lots_9 : decode cX7_lots 9 = .ok (.iload 4, 2) := by decide +kernel
theorem dX7_lots_11 : decode cX7_lots 11 = .ok (.ifCond .ne 16, 3) := by decide +kernel
theorem dX7_lots_14 : decode cX7_lots 14 = .ok (.iload_n 3, 1) := by decide +kernel
theorem dX7_lots_15 : decode cX7_lots 15 = .ok (.iconst 0, 1) := by decide +kernel
theorem dX7_lots_16 : decode cX7_lots 16 = .ok (.iconst 1, 1) := by decide +kernel
theorem dX7_lots_17 : decode cX7_lots 17 = .ok (.invokestatic 85, 3) := by decide +kernel
theorem dX7_lots_20 : decode cX7_lots 20 = .ok (.ifCond .ne 7, 3) := by decide +kernel
theorem dX7_lots_23 : decode cX7_lots 23 = .ok (.bipush (-2), 2) := by decide +kernel
theorem dX7_lots_25 : decode cX7_lots 25 = .ok (.istore 4, 2) := by decide +kernel
theorem dX7_lots_27 : decode cX7_lots 27 = .ok (.iload 4, 2) := by decide +kernel
theorem dX7_lots_29 : decode cX7_lots 29 = .ok (.ifCond .eq 10, 3) := by decide +kernel
theorem dX7_lots_32 : decode cX7_lots 32 = .ok (.aload_n 0, 1) := by decide +kernel
theorem dX7_lots_33 : decode cX7_lots 33 = .ok (.iload 4, 2) := by decide +kernel
theorem dX7_lots_35 : decode cX7_lots 35 = .ok (.invokevirtual 170, 3) := by decide +kernel
theorem dX7_lots_38 : decode cX7_lots 38 = .ok (.ireturn, 1) := by decide +kernel
theorem dX7_lots_39 : decode cX7_lots 39 = .ok (.aload_n 0, 1) := by decide +kernel
theorem dX7_lots_40 : decode cX7_lots 40 = .ok (.iload_n 2, 1) := by decide +kernel
theorem dX7_lots_41 : decode cX7_lots 41 = .ok (.putfield 434, 3) := by decide +kernel
theorem dX7_lots_44 : decode cX7_lots 44 = .ok (.iconst 0, 1) := by decide +kernel
theorem dX7_lots_45 : decode cX7_lots 45 = .ok (.istore 5, 2) := by decide +kernel
theorem dX7_lots_47 : decode cX7_lots 47 = .ok (.iconst 0, 1) := by decide +kernel
theorem dX7_lots_48 : decode cX7_lots 48 = .ok (.istore 6, 2) := by decide +kernel
theorem dX7_lots_50 : decode cX7_lots 50 = .ok (.iload 6, 2) := by decide +kernel
theorem dX7_lots_52 : decode cX7_lots 52 = .ok (.iload_n 1, 1) := by decide +kernel
theorem dX7_lots_53 : decode cX7_lots 53 = .ok (.if_icmp .ge 81, 3) := by decide +kernel
theorem dX7_lots_56 : decode cX7_lots 56 = .ok (.iload_n 3, 1) := by decide +kernel
theorem dX7_lots_57 : decode cX7_lots 57 = .ok (.ifCond .ne 10, 3) := by decide +kernel
theorem dX7_lots_60 : decode cX7_lots 60 = .ok (.aload_n 0, 1) := by decide +kernel
theorem dX7_lots_61 : decode cX7_lots 61 = .ok (.getfield 127, 3) := by decide +kernel
theorem dX7_lots_64 : decode cX7_lots 64 = .ok (.goto 14, 3) := by decide +kernel
theorem dX7_lots_67 : decode cX7_lots 67 = .ok (.aload_n 0, 1) := by decide +kernel
theorem dX7_lots_68 : decode cX7_lots 68 = .ok (.getfield 40, 3) := by decide +kernel
theorem dX7_lots_71 : decode cX7_lots 71 = .ok (.aload_n 0, 1) := by decide +kernel
theorem dX7_lots_72 : decode cX7_lots 72 = .ok (.getfield 79, 3) := by decide +kernel
theorem dX7_lots_75 : decode cX7_lots 75 = .ok (.invokestatic 352, 3) := by decide +kernel
theorem dX7_lots_78 : decode cX7_lots 78 = .ok (.istore 7, 2) := by decide +kernel
theorem dX7_lots_80 : decode cX7_lots 80 = .ok (.aload_n 0, 1) := by decide +kernel
theorem dX7_lots_81 : decode cX7_lots 81 = .ok (.invokevirtual 343, 3) := by decide +kernel
theorem dX7_lots_84 : decode cX7_lots 84 = .ok (.aload_n 0, 1) := by decide +kernel
theorem dX7_lots_85 : decode cX7_lots 85 = .ok (.invokevirtual 443, 3) := by decide +kernel
theorem dX7_lots_88 : decode cX7_lots 88 = .ok (.aload_n 0, 1) := by decide +kernel
theorem dX7_lots_89 : decode cX7_lots 89 = .ok (.bipush 12, 2) := by decide +kernel
theorem dX7_lots_91 : decode cX7_lots 91 = .ok (.invokevirtual 261, 3) := by decide +kernel
theorem dX7_lots_94 : decode cX7_lots 94 = .ok (.iload 5, 2) := by decide +kernel
theorem dX7_lots_96 : decode cX7_lots 96 = .ok (.iload_n 3, 1) := by decide +kernel
theorem dX7_lots_97 : decode cX7_lots 97 = .ok (.ifCond .ne 10, 3) := by decide +kernel
theorem dX7_lots_100 : decode cX7_lots 100 = .ok (.aload_n 0, 1) := by decide +kernel
theorem dX7_lots_101 : decode cX7_lots 101 = .ok (.getfield 127, 3) := by decide +kernel
theorem dX7_lots_104 : decode cX7_lots 104 = .ok (.goto 14, 3) := by decide +kernel
theorem dX7_lots_107 : decode cX7_lots 107 = .ok (.aload_n 0, 1) := by decide +kernel
theorem dX7_lots_108 : decode cX7_lots 108 = .ok (.getfield 40, 3) := by decide +kernel
theorem dX7_lots_111 : decode cX7_lots 111 = .ok (.aload_n 0, 1) := by decide +kernel
theorem dX7_lots_112 : decode cX7_lots 112 = .ok (.getfield 79, 3) := by decide +kernel
theorem dX7_lots_115 : decode cX7_lots 115 = .ok (.invokestatic 352, 3) := by decide +kernel
theorem dX7_lots_118 : decode cX7_lots 118 = .ok (.iload 7, 2) := by decide +kernel
theorem dX7_lots_120 : decode cX7_lots 120 = .ok (.isub, 1) := by decide +kernel
theorem dX7_lots_121 : decode cX7_lots 121 = .ok (.iadd, 1) := by decide +kernel
theorem dX7_lots_122 : decode cX7_lots 122 = .ok (.istore 5, 2) := by decide +kernel
theorem dX7_lots_124 : decode cX7_lots 124 = .ok (.aload_n 0, 1) := by decide +kernel
theorem dX7_lots_125 : decode cX7_lots 125 = .ok (.invokevirtual 346, 3) := by decide +kernel
theorem dX7_lots_128 : decode cX7_lots 128 = .ok (.iinc 6 1, 3) := by decide +kernel
theorem dX7_lots_131 : decode cX7_lots 131 = .ok (.goto (-81), 3) := by decide +kernel
theorem dX7_lots_134 : decode cX7_lots 134 = .ok (.iload 5, 2) := by decide +kernel
theorem dX7_lots_136 : decode cX7_lots 136 = .ok (.ireturn, 1) := by decide +kernel
theorem dX7_count_0 : decode cX7_count 0 = .ok (.iload_n 1, 1) := by decide +kernel
theorem dX7_count_1 : decode cX7_count 1 = .ok (.bipush 11, 2) := by decide +kernel
theorem dX7_count_3 : decode cX7_count 3 = .ok (.bipush 16, 2) := by decide +kernel
theorem dX7_count_5 : decode cX7_count 5 = .ok (.invokestatic 85, 3) := by decide +kernel
theorem dX7_count_8 : decode cX7_count 8 = .ok (.ifCond .eq 13, 3) := by decide +kernel
theorem dX7_count_11 : decode cX7_count 11 = .ok (.aload_n 0, 1) := by decide +kernel
theorem dX7_count_12 : decode cX7_count 12 = .ok (.getfield 7, 3) := by decide +kernel
theorem dX7_count_15 : decode cX7_count 15 = .ok (.iload_n 1, 1) := by decide +kernel
theorem dX7_count_16 : decode cX7_count 16 = .ok (.bipush 10, 2) := by decide +kernel
theorem dX7_count_18 : decode cX7_count 18 = .ok (.isub, 1) := by decide +kernel
theorem dX7_count_19 : decode cX7_count 19 = .ok (.iaload, 1) := by decide +kernel
theorem dX7_count_20 : decode cX7_count 20 = .ok (.ireturn, 1) := by decide +kernel
theorem dX7_count_21 : decode cX7_count 21 = .ok (.iload_n 1, 1) := by decide +kernel
theorem dX7_count_22 : decode cX7_count 22 = .ok (.tableswitch 121 0 9 #[54, 59, 64, 69, 74, 86, 96, 106, 111, 116], 54) := by decide +kernel
theorem dX7_count_76 : decode cX7_count 76 = .ok (.aload_n 0, 1) := by decide +kernel
theorem dX7_count_77 : decode cX7_count 77 = .ok (.getfield 79, 3) := by decide +kernel
theorem dX7_count_80 : decode cX7_count 80 = .ok (.ireturn, 1) := by decide +kernel
theorem dX7_count_81 : decode cX7_count 81 = .ok (.aload_n 0, 1) := by decide +kernel
theorem dX7_count_82 : decode cX7_count 82 = .ok (.getfield 136, 3) := by decide +kernel
theorem dX7_count_85 : decode cX7_count 85 = .ok (.ireturn, 1) := by decide +kernel
theorem dX7_count_86 : decode cX7_count 86 = .ok (.aload_n 0, 1) := by decide +kernel
theorem dX7_count_87 : decode cX7_count 87 = .ok (.getfield 127, 3) := by decide +kernel
theorem dX7_count_90 : decode cX7_count 90 = .ok (.ireturn, 1) := by decide +kernel
theorem dX7_count_91 : decode cX7_count 91 = .ok (.aload_n 0, 1) := by decide +kernel
theorem dX7_count_92 : decode cX7_count 92 = .ok (.invokevirtual 349, 3) := by decide +kernel
theorem dX7_count_95 : decode cX7_count 95 = .ok (.ireturn, 1) := by decide +kernel
theorem dX7_count_96 : decode cX7_count 96 = .ok (.aload_n 0, 1) := by decide +kernel
theorem dX7_count_97 : decode cX7_count 97 = .ok (.getfield 37, 3) := by decide +kernel
theorem dX7_count_100 : decode cX7_count 100 = .ok (.aload_n 0, 1) := by decide +kernel
theorem dX7_count_101 : decode cX7_count 101 = .ok (.getfield 79, 3) := by decide +kernel
theorem dX7_count_104 : decode cX7_count 104 = .ok (.invokestatic 352, 3) := by decide +kernel
theorem dX7_count_107 : decode cX7_count 107 = .ok (.ireturn, 1) := by decide +kernel
theorem dX7_count_108 : decode cX7_count 108 = .ok (.aload_n 0, 1) := by decide +kernel
theorem dX7_count_109 : decode cX7_count 109 = .ok (.getfield 16, 3) := by decide +kernel
theorem dX7_count_112 : decode cX7_count 112 = .ok (.bipush 48, 2) := by decide +kernel
theorem dX7_count_114 : decode cX7_count 114 = .ok (.invokestatic 352, 3) := by decide +kernel
theorem dX7_count_117 : decode cX7_count 117 = .ok (.ireturn, 1) := by decide +kernel
theorem dX7_count_118 : decode cX7_count 118 = .ok (.aload_n 0, 1) := by decide +kernel
theorem dX7_count_119 : decode cX7_count 119 = .ok (.getfield 13, 3) := by decide +kernel
theorem dX7_count_122 : decode cX7_count 122 = .ok (.bipush 48, 2) := by decide +kernel
theorem dX7_count_124 : decode cX7_count 124 = .ok (.invokestatic 352, 3) := by decide +kernel
theorem dX7_count_127 : decode cX7_count 127 = .ok (.ireturn, 1) := by decide +kernel
theorem dX7_count_128 : decode cX7_count 128 = .ok (.aload_n 0, 1) := by decide +kernel
theorem dX7_count_129 : decode cX7_count 129 = .ok (.getfield 167, 3) := by decide +kernel
theorem dX7_count_132 : decode cX7_count 132 = .ok (.ireturn, 1) := by decide +kernel
theorem dX7_count_133 : decode cX7_count 133 = .ok (.aload_n 0, 1) := by decide +kernel
theorem dX7_count_134 : decode cX7_count 134 = .ok (.getfield 374, 3) := by decide +kernel
theorem dX7_count_137 : decode cX7_count 137 = .ok (.ireturn, 1) := by decide +kernel
theorem dX7_count_138 : decode cX7_count 138 = .ok (.aload_n 0, 1) := by decide +kernel
theorem dX7_count_139 : decode cX7_count 139 = .ok (.getfield 310, 3) := by decide +kernel
theorem dX7_count_142 : decode cX7_count 142 = .ok (.ireturn, 1) := by decide +kernel
theorem dX7_count_143 : decode cX7_count 143 = .ok (.bipush (-9), 2) := by decide +kernel
theorem dX7_count_145 : decode cX7_count 145 = .ok (.ireturn, 1) := by decide +kernel
