theorem dX4_number_66 : decode cX4_number 66 = .ok (.iinc 4 1, 3) := by decide +kernel
theorem dX4_number_69 : decode cX4_number 69 = .ok (.goto (-44), 3) := by decide +kernel
theorem dX4_number_72 : decode cX4_number 72 = .ok (.iload_n 3, 1) := by decide +kernel
theorem dX4_number_73 : decode cX4_number 73 = .ok (.iload_n 2, 1) := by decide +kernel
theorem dX4_number_74 : decode cX4_number 74 = .ok (.if_icmp .gt 7, 3) := by decide +kernel
theorem dX4_number_77 : decode cX4_number 77 = .ok (.iload_n 3, 1) := by decide +kernel
theorem dX4_number_78 : decode cX4_number 78 = .ok (.goto 4, 3) := by decide +kernel
theorem dX4_number_81 : decode cX4_number 81 = .ok (.iconst (-1), 1) := by decide +kernel
theorem dX4_number_82 : decode cX4_number 82 = .ok (.ireturn, 1) := by decide +kernel
theorem dX4_isName_0 : decode cX4_isName 0 = .ok (.iload_n 1, 1) := by decide +kernel
theorem dX4_isName_1 : decode cX4_isName 1 = .ok (.aload_n 0, 1) := by decide +kernel
theorem dX4_isName_2 : decode cX4_isName 2 = .ok (.getfield 36, 3) := by decide +kernel
theorem dX4_isName_5 : decode cX4_isName 5 = .ok (.if_icmp .gt 30, 3) := by decide +kernel
theorem dX4_isName_8 : decode cX4_isName 8 = .ok (.aload_n 0, 1) := by decide +kernel
theorem dX4_isName_9 : decode cX4_isName 9 = .ok (.getfield 18, 3) := by decide +kernel
theorem dX4_isName_12 : decode cX4_isName 12 = .ok (.iload_n 1, 1) := by decide +kernel
theorem dX4_isName_13 : decode cX4_isName 13 = .ok (.iaload, 1) := by decide +kernel
theorem dX4_isName_14 : decode cX4_isName 14 = .ok (.bipush 6, 2) := by decide +kernel
theorem dX4_isName_16 : decode cX4_isName 16 = .ok (.if_icmp .gt 19, 3) := by decide +kernel
theorem dX4_isName_19 : decode cX4_isName 19 = .ok (.aload_n 0, 1) := by decide +kernel
theorem dX4_isName_20 : decode cX4_isName 20 = .ok (.iload_n 1, 1) := by decide +kernel
theorem dX4_isName_21 : decode cX4_isName 21 = .ok (.iconst 0, 1) := by decide +kernel
theorem dX4_isName_22 : decode cX4_isName 22 = .ok (.invokevirtual 128, 3) := by decide +kernel
theorem dX4_isName_25 : decode cX4_isName 25 = .ok (.invokestatic 29, 3) := by decide +kernel
theorem dX4_isName_28 : decode cX4_isName 28 = .ok (.ifCond .eq 7, 3) := by decide +kernel
theorem dX4_isName_31 : decode cX4_isName 31 = .ok (.iconst 1, 1) := by decide +kernel
theorem dX4_isName_32 : decode cX4_isName 32 = .ok (.goto 4, 3) := by decide +kernel
theorem dX4_isName_35 : decode cX4_isName 35 = .ok (.iconst 0, 1) := by decide +kernel
theorem dX4_isName_36 : decode cX4_isName 36 = .ok (.ireturn, 1) := by decide +kernel
theorem dX4_letterAt_0 : decode cX4_letterAt 0 = .ok (.aload_n 0, 1) := by decide +kernel
theorem dX4_letterAt_1 : decode cX4_letterAt 1 = .ok (.iload_n 1, 1) := by decide +kernel
theorem dX4_letterAt_2 : decode cX4_letterAt 2 = .ok (.iload_n 2, 1) := by decide +kernel
theorem dX4_letterAt_3 : decode cX4_letterAt 3 = .ok (.invokevirtual 128, 3) := by decide +kernel
theorem dX4_letterAt_6 : decode cX4_letterAt 6 = .ok (.bipush 97, 2) := by decide +kernel
theorem dX4_letterAt_8 : decode cX4_letterAt 8 = .ok (.isub, 1) := by decide +kernel
theorem dX4_letterAt_9 : decode cX4_letterAt 9 = .ok (.ireturn, 1) := by decide +kernel
theorem dX4_headComes_0 : decode cX4_headComes 0 = .ok (.aload_n 0, 1) := by decide +kernel
theorem dX4_headComes_1 : decode cX4_headComes 1 = .ok (.iconst 1, 1) := by decide +kernel
theorem dX4_headComes_2 : decode cX4_headComes 2 = .ok (.bipush 9, 2) := by decide +kernel
theorem dX4_headComes_4 : decode cX4_headComes 4 = .ok (.invokevirtual 70, 3) := by decide +kernel
theorem dX4_headComes_7 : decode cX4_headComes 7 = .ok (.istore_n 3, 1) := by decide +kernel
theorem dX4_headComes_8 : decode cX4_headComes 8 = .ok (.aload_n 0, 1) := by decide +kernel
theorem dX4_headComes_9 : decode cX4_headComes 9 = .ok (.iconst 3, 1) := by decide +kernel
theorem dX4_headComes_10 : decode cX4_headComes 10 = .ok (.bipush 47, 2) := by decide +kernel
theorem dX4_headComes_12 : decode cX4_headComes 12 = .ok (.invokevirtual 70, 3) := by decide +kernel
theorem dX4_headComes_15 : decode cX4_headComes 15 = .ok (.istore 4, 2) := by decide +kernel
theorem dX4_headComes_17 : decode cX4_headComes 17 = .ok (.aload_n 0, 1) := by decide +kernel
theorem dX4_headComes_18 : decode cX4_headComes 18 = .ok (.getfield 36, 3) := by decide +kernel
theorem dX4_headComes_21 : decode cX4_headComes 21 = .ok (.iconst 3, 1) := by decide +kernel
theorem dX4_headComes_22 : decode cX4_headComes 22 = .ok (.if_icmp .ne 27, 3) := by decide +kernel
theorem dX4_headComes_25 : decode cX4_headComes 25 = .ok (.iload_n 3, 1) := by decide +kernel
theorem dX4_headComes_26 : decode cX4_headComes 26 = .ok (.ifCond .lt 23, 3) := by decide +kernel
theorem dX4_headComes_29 : decode cX4_headComes 29 = .ok (.aload_n 0, 1) := by decide +kernel
theorem dX4_headComes_30 : decode cX4_headComes 30 = .ok (.iconst 2, 1) := by decide +kernel
theorem dX4_headComes_31 : decode cX4_headComes 31 = .ok (.invokevirtual 74, 3) := by decide +kernel
theorem dX4_headComes_34 : decode cX4_headComes 34 = .ok (.ifCond .eq 15, 3) := by decide +kernel
theorem dX4_headComes_37 : decode cX4_headComes 37 = .ok (.iload 4, 2) := by decide +kernel
theorem dX4_headComes_39 : decode cX4_headComes 39 = .ok (.ifCond .lt 10, 3) := by decide +kernel
theorem dX4_headComes_42 : decode cX4_headComes 42 = .ok (.aload_n 1, 1) := by decide +kernel
theorem dX4_headComes_43 : decode cX4_headComes 43 = .ok (.invokevirtual 77, 3) := by decide +kernel
theorem dX4_headComes_46 : decode cX4_headComes 46 = .ok (.ifCond .eq 5, 3) := by decide +kernel
theorem dX4_headComes_49 : decode cX4_headComes 49 = .ok (.iconst 0, 1) := by decide +kernel
theorem dX4_headComes_50 : decode cX4_headComes 50 = .ok (.ireturn, 1) := by decide +kernel
theorem dX4_headComes_51 : decode cX4_headComes 51 = .ok (.aload_n 1, 1) := by decide +kernel
theorem dX4_headComes_52 : decode cX4_headComes 52 = .ok (.iload_n 2, 1) := by decide +kernel
theorem dX4_headComes_53 : decode cX4_headComes 53 = .ok (.iload_n 3, 1) := by decide +kernel
theorem dX4_headComes_54 : decode cX4_headComes 54 = .ok (.iload 4, 2) := by decide +kernel
theorem dX4_headComes_56 : decode cX4_headComes 56 = .ok (.invokevirtual 80, 3) := by decide +kernel
theorem dX4_headComes_59 : decode cX4_headComes 59 = .ok (.iconst 0, 1) := by decide +kernel
theorem dX4_headComes_60 : decode cX4_headComes 60 = .ok (.istore 5, 2) := by decide +kernel
theorem dX4_headComes_62 : decode cX4_headComes 62 = .ok (.iload 5, 2) := by decide +kernel
theorem dX4_headComes_64 : decode cX4_headComes 64 = .ok (.aload_n 0, 1) := by decide +kernel
theorem dX4_headComes_65 : decode cX4_headComes 65 = .ok (.getfield 18, 3) := by decide +kernel
theorem dX4_headComes_68 : decode cX4_headComes 68 = .ok (.iconst 2, 1) := by decide +kernel
theorem dX4_headComes_69 : decode cX4_headComes 69 = .ok (.iaload, 1) := by decide +kernel
theorem dX4_headComes_70 : decode cX4_headComes 70 = .ok (.if_icmp .ge 20, 3) := by decide +kernel
theorem dX4_headComes_73 : decode cX4_headComes 73 = .ok (.aload_n 1, 1) := by decide +kernel
theorem dX4_headComes_74 : decode cX4_headComes 74 = .ok (.aload_n 0, 1) := by decide +kernel
theorem dX4_headComes_75 : decode cX4_headComes 75 = .ok (.iconst 2, 1) := by decide +kernel
theorem dX4_headComes_76 : decode cX4_headComes 76 = .ok (.iload 5, 2) := by decide +kernel
theorem dX4_headComes_78 : decode cX4_headComes 78 = .ok (.invokevirtual 84, 3) := by decide +kernel
theorem dX4_headComes_81 : decode cX4_headComes 81 = .ok (.invokevirtual 87, 3) := by decide +kernel
theorem dX4_headComes_84 : decode cX4_headComes 84 = .ok (.iinc 5 1, 3) := by decide +kernel
theorem dX4_headComes_87 : decode cX4_headComes 87 = .ok (.goto (-25), 3) := by decide +kernel
theorem dX4_headComes_90 : decode cX4_headComes 90 = .ok (.iconst 1, 1) := by decide +kernel
theorem dX4_headComes_91 : decode cX4_headComes 91 = .ok (.ireturn, 1) := by decide +kernel
theorem dX4_wallComes_0 : decode cX4_wallComes 0 = .ok (.aload_n 0, 1) := by decide +kernel
theorem dX4_wallComes_1 : decode cX4_wallComes 1 = .ok (.iconst 1, 1) := by decide +kernel
theorem dX4_wallComes_2 : decode cX4_wallComes 2 = .ok (.bipush 47, 2) := by decide +kernel
theorem dX4_wallComes_4 : decode cX4_wallComes 4 = .ok (.invokevirtual 70, 3) := by decide +kernel
theorem dX4_wallComes_7 : decode cX4_wallComes 7 = .ok (.istore_n 2, 1) := by decide +kernel
theorem dX4_wallComes_8 : decode cX4_wallComes 8 = .ok (.aload_n 0, 1) := by decide +kernel
theorem dX4_wallComes_9 : decode cX4_wallComes 9 = .ok (.iconst 2, 1) := by decide +kernel
theorem dX4_wallComes_10 : decode cX4_wallComes 10 = .ok (.bipush 9, 2) := by decide +kernel
theorem dX4_wallComes_12 : decode cX4_wallComes 12 = .ok (.invokevirtual 70, 3) := by decide +kernel
theorem dX4_wallComes_15 : decode cX4_wallComes 15 = .ok (.istore_n 3, 1) := by decide +kernel
theorem dX4_wallComes_16 : decode cX4_wallComes 16 = .ok (.aload_n 0, 1) := by decide +kernel
theorem dX4_wallComes_17 : decode cX4_wallComes 17 = .ok (.getfield 36, 3) := by decide +kernel
theorem dX4_wallComes_20 : decode cX4_wallComes 20 = .ok (.iconst 2, 1) := by decide +kernel
theorem dX4_wallComes_21 : decode cX4_wallComes 21 = .ok (.if_icmp .ne 11, 3) := by decide +kernel
theorem dX4_wallComes_24 : decode cX4_wallComes 24 = .ok (.iload_n 2, 1) := by decide +kernel
theorem dX4_wallComes_25 : decode cX4_wallComes 25 = .ok (.ifCond .lt 7, 3) := by decide +kernel
theorem dX4_wallComes_28 : decode cX4_wallComes 28 = .ok (.iload_n 3, 1) := by decide +kernel
theorem dX4_wallComes_29 : decode cX4_wallComes 29 = .ok (.ifCond .ge 5, 3) := by decide +kernel
theorem dX4_wallComes_32 : decode cX4_wallComes 32 = .ok (.iconst 0, 1) := by decide +kernel
theorem dX4_wallComes_33 : decode cX4_wallComes 33 = .ok (.ireturn, 1) := by decide +kernel
theorem dX4_wallComes_34 : decode cX4_wallComes 34 = .ok (.aload_n 1, 1) := by decide +kernel
theorem dX4_wallComes_35 : decode cX4_wallComes 35 = .ok (.getfield 91, 3) := by decide +kernel
theorem dX4_wallComes_38 : decode cX4_wallComes 38 = .ok (.iload_n 2, 1) := by decide +kernel
theorem dX4_wallComes_39 : decode cX4_wallComes 39 = .ok (.iload_n 3, 1) := by decide +kernel
theorem dX4_wallComes_40 : decode cX4_wallComes 40 = .ok (.iastore, 1) := by decide +kernel
theorem dX4_wallComes_41 : decode cX4_wallComes 41 = .ok (.iconst 1, 1) := by decide +kernel
theorem dX4_wallComes_42 : decode cX4_wallComes 42 = .ok (.ireturn, 1) := by decide +kernel
theorem dX4_folkCome_0 : decode cX4_folkCome 0 = .ok (.aload_n 0, 1) := by decide +kernel
theorem dX4_folkCome_1 : decode cX4_folkCome 1 = .ok (.iconst 1, 1) := by decide +kernel
theorem dX4_folkCome_2 : decode cX4_folkCome 2 = .ok (.bipush 47, 2) := by decide +kernel
theorem dX4_folkCome_4 : decode cX4_folkCome 4 = .ok (.invokevirtual 70, 3) := by decide +kernel
theorem dX4_folkCome_7 : decode cX4_folkCome 7 = .ok (.istore_n 2, 1) := by decide +kernel
theorem dX4_folkCome_8 : decode cX4_folkCome 8 = .ok (.aload_n 0, 1) := by decide +kernel
theorem dX4_folkCome_9 : decode cX4_folkCome 9 = .ok (.iconst 2, 1) := by decide +kernel
theorem dX4_folkCome_10 : decode cX4_folkCome 10 = .ok (.bipush 9, 2) := by decide +kernel
theorem dX4_folkCome_12 : decode cX4_folkCome 12 = .ok (.invokevirtual 70, 3) := by decide +kernel
theorem dX4_folkCome_15 : decode cX4_folkCome 15 = .ok (.istore_n 3, 1) := by decide +kernel
theorem dX4_folkCome_16 : decode cX4_folkCome 16 = .ok (.aload_n 0, 1) := by decide +kernel
theorem dX4_folkCome_17 : decode cX4_folkCome 17 = .ok (.getfield 36, 3) := by decide +kernel
theorem dX4_folkCome_20 : decode cX4_folkCome 20 = .ok (.iconst 3, 1) := by decide +kernel
theorem dX4_folkCome_21 : decode cX4_folkCome 21 = .ok (.if_icmp .ne 29, 3) := by decide +kernel
theorem dX4_folkCome_24 : decode cX4_folkCome 24 = .ok (.iload_n 2, 1) := by decide +kernel
theorem dX4_folkCome_25 : decode cX4_folkCome 25 = .ok (.ifCond .lt 25, 3) := by decide +kernel
theorem dX4_folkCome_28 : decode cX4_folkCome 28 = .ok (.iload_n 3, 1) := by decide +kernel
theorem dX4_folkCome_29 : decode cX4_folkCome 29 = .ok (.ifCond .lt 21, 3) := by decide +kernel
theorem dX4_folkCome_32 : decode cX4_folkCome 32 = .ok (.aload_n 0, 1) := by decide +kernel
theorem dX4_folkCome_33 : decode cX4_folkCome 33 = .ok (.iconst 3, 1) := by decide +kernel
theorem dX4_folkCome_34 : decode cX4_folkCome 34 = .ok (.invokevirtual 74, 3) := by decide +kernel
theorem dX4_folkCome_37 : decode cX4_folkCome 37 = .ok (.ifCond .eq 13, 3) := by decide +kernel
theorem dX4_folkCome_40 : decode cX4_folkCome 40 = .ok (.aload_n 0, 1) := by decide +kernel
theorem dX4_folkCome_41 : decode cX4_folkCome 41 = .ok (.getfield 18, 3) := by decide +kernel
theorem dX4_folkCome_44 : decode cX4_folkCome 44 = .ok (.iconst 3, 1) := by decide +kernel
theorem dX4_folkCome_45 : decode cX4_folkCome 45 = .ok (.iaload, 1) := by decide +kernel
theorem dX4_folkCome_46 : decode cX4_folkCome 46 = .ok (.iconst 1, 1) := by decide +kernel
theorem dX4_folkCome_47 : decode cX4_folkCome 47 = .ok (.if_icmp .eq 5, 3) := by decide +kernel
theorem dX4_folkCome_50 : decode cX4_folkCome 50 = .ok (.iconst 0, 1) := by decide +kernel
theorem dX4_folkCome_51 : decode cX4_folkCome 51 = .ok (.ireturn, 1) := by decide +kernel
theorem dX4_folkCome_52 : decode cX4_folkCome 52 = .ok (.aload_n 1, 1) := by decide +kernel
theorem dX4_folkCome_53 : decode cX4_folkCome 53 = .ok (.getfield 94, 3) := by decide +kernel
theorem dX4_folkCome_56 : decode cX4_folkCome 56 = .ok (.iload_n 2, 1) := by decide +kernel
theorem dX4_folkCome_57 : decode cX4_folkCome 57 = .ok (.iload_n 3, 1) := by decide +kernel
theorem dX4_folkCome_58 : decode cX4_folkCome 58 = .ok (.iastore, 1) := by decide +kernel
theorem dX4_folkCome_59 : decode cX4_folkCome 59 = .ok (.aload_n 1, 1) := by decide +kernel
theorem dX4_folkCome_60 : decode cX4_folkCome 60 = .ok (.getfield 97, 3) := by decide +kernel
theorem dX4_folkCome_63 : decode cX4_folkCome 63 = .ok (.iload_n 2, 1) := by decide +kernel
theorem dX4_folkCome_64 : decode cX4_folkCome 64 = .ok (.aload_n 0, 1) := by decide +kernel
theorem dX4_folkCome_65 : decode cX4_folkCome 65 = .ok (.iconst 3, 1) := by decide +kernel
theorem dX4_folkCome_66 : decode cX4_folkCome 66 = .ok (.iconst 0, 1) := by decide +kernel
theorem dX4_folkCome_67 : decode cX4_folkCome 67 = .ok (.invokevirtual 84, 3) := by decide +kernel
theorem dX4_folkCome_70 : decode cX4_folkCome 70 = .ok (.iastore, 1) := by decide +kernel
theorem dX4_folkCome_71 : decode cX4_folkCome 71 = .ok (.iconst 1, 1) := by decide +kernel
theorem dX4_folkCome_72 : decode cX4_folkCome 72 = .ok (.ireturn, 1) := by decide +kernel
theorem dX4_followersCome_0 : decode cX4_followersCome 0 = .ok (.aload_n 0, 1) := by decide +kernel
theorem dX4_followersCome_1 : decode cX4_followersCome 1 = .ok (.iconst 1, 1) := by decide +kernel
theorem dX4_followersCome_2 : decode cX4_followersCome 2 = .ok (.aload_n 1, 1) := by decide +kernel
theorem dX4_followersCome_3 : decode cX4_followersCome 3 = .ok (.getfield 100, 3) := by decide +kernel
theorem dX4_followersCome_6 : decode cX4_followersCome 6 = .ok (.iconst 1, 1) := by decide +kernel
theorem dX4_followersCome_7 : decode cX4_followersCome 7 = .ok (.isub, 1) := by decide +kernel
theorem dX4_followersCome_8 : decode cX4_followersCome 8 = .ok (.invokevirtual 70, 3) := by decide +kernel
theorem dX4_followersCome_11 : decode cX4_followersCome 11 = .ok (.istore_n 2, 1) := by decide +kernel
theorem dX4_followersCome_12 : decode cX4_followersCome 12 = .ok (.aload_n 0, 1) := by decide +kernel
theorem dX4_followersCome_13 : decode cX4_followersCome 13 = .ok (.iconst 2, 1) := by decide +kernel
theorem dX4_followersCome_14 : decode cX4_followersCome 14 = .ok (.bipush 99, 2) := by decide +kernel
theorem dX4_followersCome_16 : decode cX4_followersCome 16 = .ok (.invokevirtual 70, 3) := by decide +kernel
theorem dX4_followersCome_19 : decode cX4_followersCome 19 = .ok (.istore_n 3, 1) := by decide +kernel
theorem dX4_followersCome_20 : decode cX4_followersCome 20 = .ok (.aload_n 0, 1) := by decide +kernel
theorem dX4_followersCome_21 : decode cX4_followersCome 21 = .ok (.getfield 36, 3) := by decide +kernel
theorem dX4_followersCome_24 : decode cX4_followersCome 24 = .ok (.iconst 2, 1) := by decide +kernel
theorem dX4_followersCome_25 : decode cX4_followersCome 25 = .ok (.if_icmp .ne 11, 3) := by decide +kernel
theorem dX4_followersCome_28 : decode cX4_followersCome 28 = .ok (.iload_n 2, 1) := by decide +kernel
theorem dX4_followersCome_29 : decode cX4_followersCome 29 = .ok (.ifCond .lt 7, 3) := by decide +kernel
theorem dX4_followersCome_32 : decode cX4_followersCome 32 = .ok (.iload_n 3, 1) := by decide +kernel
theorem dX4_followersCome_33 : decode cX4_followersCome 33 = .ok (.ifCond .ge 5, 3) := by decide +kernel
theorem dX4_followersCome_36 : decode cX4_followersCome 36 = .ok (.iconst 0, 1) := by decide +kernel
theorem dX4_followersCome_37 : decode cX4_followersCome 37 = .ok (.ireturn, 1) := by decide +kernel
theorem dX4_followersCome_38 : decode cX4_followersCome 38 = .ok (.aload_n 1, 1) := by decide +kernel
theorem dX4_followersCome_39 : decode cX4_followersCome 39 = .ok (.getfield 105, 3) := by decide +kernel
theorem dX4_followersCome_42 : decode cX4_followersCome 42 = .ok (.iload_n 2, 1) := by decide +kernel
theorem dX4_followersCome_43 : decode cX4_followersCome 43 = .ok (.aaload, 1) := by decide +kernel
theorem dX4_followersCome_44 : decode cX4_followersCome 44 = .ok (.iload_n 3, 1) := by decide +kernel
theorem dX4_followersCome_45 : decode cX4_followersCome 45 = .ok (.putfield 119, 3) := by decide +kernel
theorem dX4_followersCome_48 : decode cX4_followersCome 48 = .ok (.iconst 1, 1) := by decide +kernel
theorem dX4_followersCome_49 : decode cX4_followersCome 49 = .ok (.ireturn, 1) := by decide +kernel
theorem dX4_nightsGoBy_0 : decode cX4_nightsGoBy 0 = .ok (.aload_n 0, 1) := by decide +kernel
theorem dX4_nightsGoBy_1 : decode cX4_nightsGoBy 1 = .ok (.iconst 1, 1) := by decide +kernel
theorem dX4_nightsGoBy_2 : decode cX4_nightsGoBy 2 = .ok (.bipush 60, 2) := by decide +kernel
theorem dX4_nightsGoBy_4 : decode cX4_nightsGoBy 4 = .ok (.invokevirtual 70, 3) := by decide +kernel
theorem dX4_nightsGoBy_7 : decode cX4_nightsGoBy 7 = .ok (.istore_n 2, 1) := by decide +kernel
theorem dX4_nightsGoBy_8 : decode cX4_nightsGoBy 8 = .ok (.aload_n 0, 1) := by decide +kernel
theorem dX4_nightsGoBy_9 : decode cX4_nightsGoBy 9 = .ok (.getfield 36, 3) := by decide +kernel
theorem dX4_nightsGoBy_12 : decode cX4_nightsGoBy 12 = .ok (.iconst 1, 1) := by decide +kernel
theorem dX4_nightsGoBy_13 : decode cX4_nightsGoBy 13 = .ok (.if_icmp .ne 20, 3) := by decide +kernel
theorem dX4_nightsGoBy_16 : decode cX4_nightsGoBy 16 = .ok (.iload_n 2, 1) := by decide +kernel
theorem dX4_nightsGoBy_17 : decode cX4_nightsGoBy 17 = .ok (.iconst 1, 1) := by decide +kernel
theorem dX4_nightsGoBy_18 : decode cX4_nightsGoBy 18 = .ok (.if_icmp .lt 15, 3) := by decide +kernel
theorem dX4_nightsGoBy_21 : decode cX4_nightsGoBy 21 = .ok (.aload_n 1, 1) := by decide +kernel
theorem dX4_nightsGoBy_22 : decode cX4_nightsGoBy 22 = .ok (.getfield 122, 3) := by decide +kernel
theorem dX4_nightsGoBy_25 : decode cX4_nightsGoBy 25 = .ok (.iload_n 2, 1) := by decide +kernel
theorem dX4_nightsGoBy_26 : decode cX4_nightsGoBy 26 = .ok (.iadd, 1) := by decide +kernel
theorem dX4_nightsGoBy_27 : decode cX4_nightsGoBy 27 = .ok (.sipush 999, 3) := by decide +kernel
theorem dX4_nightsGoBy_30 : decode cX4_nightsGoBy 30 = .ok (.if_icmp .le 5, 3) := by decide +kernel
theorem dX4_nightsGoBy_33 : decode cX4_nightsGoBy 33 = .ok (.iconst 0, 1) := by decide +kernel
theorem dX4_nightsGoBy_34 : decode cX4_nightsGoBy 34 = .ok (.ireturn, 1) := by decide +kernel
theorem dX4_nightsGoBy_35 : decode cX4_nightsGoBy 35 = .ok (.aload_n 1, 1) := by decide +kernel
theorem dX4_nightsGoBy_36 : decode cX4_nightsGoBy 36 = .ok (.iload_n 2, 1) := by decide +kernel
theorem dX4_nightsGoBy_37 : decode cX4_nightsGoBy 37 = .ok (.invokevirtual 125, 3) := by decide +kernel
theorem dX4_nightsGoBy_40 : decode cX4_nightsGoBy 40 = .ok (.iconst 1, 1) := by decide +kernel
theorem dX4_nightsGoBy_41 : decode cX4_nightsGoBy 41 = .ok (.ireturn, 1) := by decide +kernel
theorem dX5_stepsOff_0 : decode cX5_stepsOff 0 = .ok (.iload_n 0, 1) := by decide +kernel
theorem dX5_stepsOff_1 : decode cX5_stepsOff 1 = .ok (.bipush 8, 2) := by decide +kernel
theorem dX5_stepsOff_3 : decode cX5_stepsOff 3 = .ok (.idiv, 1) := by decide +kernel
theorem dX5_stepsOff_4 : decode cX5_stepsOff 4 = .ok (.iload_n 1, 1) := by decide +kernel
theorem dX5_stepsOff_5 : decode cX5_stepsOff 5 = .ok (.bipush 8, 2) := by decide +kernel
theorem dX5_stepsOff_7 : decode cX5_stepsOff 7 = .ok (.idiv, 1) := by decide +kernel
theorem dX5_stepsOff_8 : decode cX5_stepsOff 8 = .ok (.isub, 1) := by decide +kernel
theorem dX5_stepsOff_9 : decode cX5_stepsOff 9 = .ok (.invokestatic 18, 3) := by decide +kernel
theorem dX5_stepsOff_12 : decode cX5_stepsOff 12 = .ok (.istore_n 2, 1) := by decide +kernel
theorem dX5_stepsOff_13 : decode cX5_stepsOff 13 = .ok (.iload_n 0, 1) := by decide +kernel
theorem dX5_stepsOff_14 : decode cX5_stepsOff 14 = .ok (.bipush 8, 2) := by decide +kernel
theorem dX5_stepsOff_16 : decode cX5_stepsOff 16 = .ok (.irem, 1) := by decide +kernel
theorem dX5_stepsOff_17 : decode cX5_stepsOff 17 = .ok (.iload_n 1, 1) := by decide +kernel
theorem dX5_stepsOff_18 : decode cX5_stepsOff 18 = .ok (.bipush 8, 2) := by decide +kernel
theorem dX5_stepsOff_20 : decode cX5_stepsOff 20 = .ok (.irem, 1) := by decide +kernel
theorem dX5_stepsOff_21 : decode cX5_stepsOff 21 = .ok (.isub, 1) := by decide +kernel
theorem dX5_stepsOff_22 : decode cX5_stepsOff 22 = .ok (.invokestatic 18, 3) := by decide +kernel
theorem dX5_stepsOff_25 : decode cX5_stepsOff 25 = .ok (.istore_n 3, 1) := by decide +kernel
theorem dX5_stepsOff_26 : decode cX5_stepsOff 26 = .ok (.iload_n 2, 1) := by decide +kernel
theorem dX5_stepsOff_27 : decode cX5_stepsOff 27 = .ok (.iload_n 3, 1) := by decide +kernel
theorem dX5_stepsOff_28 : decode cX5_stepsOff 28 = .ok (.iadd, 1) := by decide +kernel
theorem dX5_stepsOff_29 : decode cX5_stepsOff 29 = .ok (.ireturn, 1) := by decide +kernel
theorem dX5_stepOn_0 : decode cX5_stepOn 0 = .ok (.iload_n 3, 1) := by decide +kernel
theorem dX5_stepOn_1 : decode cX5_stepOn 1 = .ok (.istore 4, 2) := by decide +kernel
theorem dX5_stepOn_3 : decode cX5_stepOn 3 = .ok (.iconst 0, 1) := by decide +kernel
theorem dX5_stepOn_4 : decode cX5_stepOn 4 = .ok (.istore 5, 2) := by decide +kernel
theorem dX5_stepOn_6 : decode cX5_stepOn 6 = .ok (.iload 5, 2) := by decide +kernel
theorem dX5_stepOn_8 : decode cX5_stepOn 8 = .ok (.iconst 4, 1) := by decide +kernel
theorem dX5_stepOn_9 : decode cX5_stepOn 9 = .ok (.if_icmp .ge 78, 3) := by decide +kernel
theorem dX5_stepOn_12 : decode cX5_stepOn 12 = .ok (.iload_n 2, 1) := by decide +kernel
theorem dX5_stepOn_13 : decode cX5_stepOn 13 = .ok (.iload 5, 2) := by decide +kernel
theorem dX5_stepOn_15 : decode cX5_stepOn 15 = .ok (.invokestatic 28, 3) := by decide +kernel
theorem dX5_stepOn_18 : decode cX5_stepOn 18 = .ok (.istore 6, 2) := by decide +kernel
theorem dX5_stepOn_20 : decode cX5_stepOn 20 = .ok (.iload 6, 2) := by decide +kernel
theorem dX5_stepOn_22 : decode cX5_stepOn 22 = .ok (.iconst (-1), 1) := by decide +kernel
theorem dX5_stepOn_23 : decode cX5_stepOn 23 = .ok (.if_icmp .eq 58, 3) := by decide +kernel
theorem dX5_stepOn_26 : decode cX5_stepOn 26 = .ok (.aload_n 0, 1) := by decide +kernel
theorem dX5_stepOn_27 : decode cX5_stepOn 27 = .ok (.getfield 9, 3) := by decide +kernel
theorem dX5_stepOn_30 : decode cX5_stepOn 30 = .ok (.iload 6, 2) := by decide +kernel
theorem dX5_stepOn_32 : decode cX5_stepOn 32 = .ok (.iaload, 1) := by decide +kernel
theorem dX5_stepOn_33 : decode cX5_stepOn 33 = .ok (.iconst (-1), 1) := by decide +kernel
theorem dX5_stepOn_34 : decode cX5_stepOn 34 = .ok (.if_icmp .ne 47, 3) := by decide +kernel
theorem dX5_stepOn_37 : decode cX5_stepOn 37 = .ok (.aload_n 1, 1) := by decide +kernel
theorem dX5_stepOn_38 : decode cX5_stepOn 38 = .ok (.getfield 34, 3) := by decide +kernel
theorem dX5_stepOn_41 : decode cX5_stepOn 41 = .ok (.iload 6, 2) := by decide +kernel
theorem dX5_stepOn_43 : decode cX5_stepOn 43 = .ok (.iaload, 1) := by decide +kernel
theorem dX5_stepOn_44 : decode cX5_stepOn 44 = .ok (.ifCond .ne 37, 3) := by decide +kernel
theorem dX5_stepOn_47 : decode cX5_stepOn 47 = .ok (.iload 4, 2) := by decide +kernel
theorem dX5_stepOn_49 : decode cX5_stepOn 49 = .ok (.bipush 48, 2) := by decide +kernel
theorem dX5_stepOn_51 : decode cX5_stepOn 51 = .ok (.if_icmp .ge 30, 3) := by decide +kernel
theorem dX5_stepOn_54 : decode cX5_stepOn 54 = .ok (.aload_n 0, 1) := by decide +kernel
theorem dX5_stepOn_55 : decode cX5_stepOn 55 = .ok (.getfield 9, 3) := by decide +kernel
theorem dX5_stepOn_58 : decode cX5_stepOn 58 = .ok (.iload 6, 2) := by decide +kernel
theorem dX5_stepOn_60 : decode cX5_stepOn 60 = .ok (.aload_n 0, 1) := by decide +kernel
theorem dX5_stepOn_61 : decode cX5_stepOn 61 = .ok (.getfield 9, 3) := by decide +kernel
theorem dX5_stepOn_64 : decode cX5_stepOn 64 = .ok (.iload_n 2, 1) := by decide +kernel
theorem dX5_stepOn_65 : decode cX5_stepOn 65 = .ok (.iaload, 1) := by decide +kernel
theorem dX5_stepOn_66 : decode cX5_stepOn 66 = .ok (.iconst 1, 1) := by decide +kernel
theorem dX5_stepOn_67 : decode cX5_stepOn 67 = .ok (.iadd, 1) := by decide +kernel
theorem dX5_stepOn_68 : decode cX5_stepOn 68 = .ok (.iastore, 1) := by decide +kernel
theorem dX5_stepOn_69 : decode cX5_stepOn 69 = .ok (.aload_n 0, 1) := by decide +kernel
theorem dX5_stepOn_70 : decode cX5_stepOn 70 = .ok (.getfield 15, 3) := by decide +kernel
theorem dX5_stepOn_73 : decode cX5_stepOn 73 = .ok (.iload 4, 2) := by decide +kernel
theorem dX5_stepOn_75 : decode cX5_stepOn 75 = .ok (.iload 6, 2) := by decide +kernel
theorem dX5_stepOn_77 : decode cX5_stepOn 77 = .ok (.iastore, 1) := by decide +kernel
theorem dX5_stepOn_78 : decode cX5_stepOn 78 = .ok (.iinc 4 1, 3) := by decide +kernel
theorem dX5_stepOn_81 : decode cX5_stepOn 81 = .ok (.iinc 5 1, 3) := by decide +kernel
theorem dX5_stepOn_84 : decode cX5_stepOn 84 = .ok (.goto (-78), 3) := by decide +kernel
theorem dX5_stepOn_87 : decode cX5_stepOn 87 = .ok (.iload 4, 2) := by decide +kernel
theorem dX5_stepOn_89 : decode cX5_stepOn 89 = .ok (.ireturn, 1) := by decide +kernel
theorem dX5_fewestSteps_0 : decode cX5_fewestSteps 0 = .ok (.iconst 0, 1) := by decide +kernel
theorem dX5_fewestSteps_1 : decode cX5_fewestSteps 1 = .ok (.istore 4, 2) := by decide +kernel
theorem dX5_fewestSteps_3 : decode cX5_fewestSteps 3 = .ok (.iload 4, 2) := by decide +kernel
theorem dX5_fewestSteps_5 : decode cX5_fewestSteps 5 = .ok (.bipush 48, 2) := by decide +kernel
theorem dX5_fewestSteps_7 : decode cX5_fewestSteps 7 = .ok (.if_icmp .ge 17, 3) := by decide +kernel
theorem dX5_fewestSteps_10 : decode cX5_fewestSteps 10 = .ok (.aload_n 0, 1) := by decide +kernel
theorem dX5_fewestSteps_11 : decode cX5_fewestSteps 11 = .ok (.getfield 9, 3) := by decide +kernel
theorem dX5_fewestSteps_14 : decode cX5_fewestSteps 14 = .ok (.iload 4, 2) := by decide +kernel
theorem dX5_fewestSteps_16 : decode cX5_fewestSteps 16 = .ok (.iconst (-1), 1) := by decide +kernel
theorem dX5_fewestSteps_17 : decode cX5_fewestSteps 17 = .ok (.iastore, 1) := by decide +kernel
theorem dX5_fewestSteps_18 : decode cX5_fewestSteps 18 = .ok (.iinc 4 1, 3) := by decide +kernel
theorem dX5_fewestSteps_21 : decode cX5_fewestSteps 21 = .ok (.goto (-18), 3) := by decide +kernel
theorem dX5_fewestSteps_24 : decode cX5_fewestSteps 24 = .ok (.aload_n 0, 1) := by decide +kernel
theorem dX5_fewestSteps_25 : decode cX5_fewestSteps 25 = .ok (.getfield 9, 3) := by decide +kernel
theorem dX5_fewestSteps_28 : decode cX5_fewestSteps 28 = .ok (.iload_n 2, 1) := by decide +kernel
theorem dX5_fewestSteps_29 : decode cX5_fewestSteps 29 = .ok (.iconst 0, 1) := by decide +kernel
theorem dX5_fewestSteps_30 : decode cX5_fewestSteps 30 = .ok (.iastore, 1) := by decide +kernel
theorem dX5_fewestSteps_31 : decode cX5_fewestSteps 31 = .ok (.aload_n 0, 1) := by decide +kernel
theorem dX5_fewestSteps_32 : decode cX5_fewestSteps 32 = .ok (.getfield 15, 3) := by decide +kernel
theorem dX5_fewestSteps_35 : decode cX5_fewestSteps 35 = .ok (.iconst 0, 1) := by decide +kernel
theorem dX5_fewestSteps_36 : decode cX5_fewestSteps 36 = .ok (.iload_n 2, 1) := by decide +kernel
theorem dX5_fewestSteps_37 : decode cX5_fewestSteps 37 = .ok (.iastore, 1) := by decide +kernel
theorem dX5_fewestSteps_38 : decode cX5_fewestSteps 38 = .ok (.iconst 1, 1) := by decide +kernel
theorem dX5_fewestSteps_39 : decode cX5_fewestSteps 39 = .ok (.istore 4, 2) := by decide +kernel
theorem dX5_fewestSteps_41 : decode cX5_fewestSteps 41 = .ok (.iconst 0, 1) := by decide +kernel
theorem dX5_fewestSteps_42 : decode cX5_fewestSteps 42 = .ok (.istore 5, 2) := by decide +kernel
theorem dX5_fewestSteps_44 : decode cX5_fewestSteps 44 = .ok (.iload 5, 2) := by decide +kernel
theorem dX5_fewestSteps_46 : decode cX5_fewestSteps 46 = .ok (.iload 4, 2) := by decide +kernel
theorem dX5_fewestSteps_48 : decode cX5_fewestSteps 48 = .ok (.if_icmp .ge 32, 3) := by decide +kernel
theorem dX5_fewestSteps_51 : decode cX5_fewestSteps 51 = .ok (.iload 5, 2) := by decide +kernel
theorem dX5_fewestSteps_53 : decode cX5_fewestSteps 53 = .ok (.bipush 48, 2) := by decide +kernel
theorem dX5_fewestSteps_55 : decode cX5_fewestSteps 55 = .ok (.if_icmp .ge 25, 3) := by decide +kernel
theorem dX5_fewestSteps_58 : decode cX5_fewestSteps 58 = .ok (.aload_n 0, 1) := by decide +kernel
theorem dX5_fewestSteps_59 : decode cX5_fewestSteps 59 = .ok (.aload_n 1, 1) := by decide +kernel
theorem dX5_fewestSteps_60 : decode cX5_fewestSteps 60 = .ok (.aload_n 0, 1) := by decide +kernel
theorem dX5_fewestSteps_61 : decode cX5_fewestSteps 61 = .ok (.getfield 15, 3) := by decide +kernel
theorem dX5_fewestSteps_64 : decode cX5_fewestSteps 64 = .ok (.iload 5, 2) := by decide +kernel
theorem dX5_fewestSteps_66 : decode cX5_fewestSteps 66 = .ok (.iaload, 1) := by decide +kernel
theorem dX5_fewestSteps_67 : decode cX5_fewestSteps 67 = .ok (.iload 4, 2) := by decide +kernel
theorem dX5_fewestSteps_69 : decode cX5_fewestSteps 69 = .ok (.invokevirtual 24, 3) := by decide +kernel
theorem dX5_fewestSteps_72 : decode cX5_fewestSteps 72 = .ok (.istore 4, 2) := by decide +kernel
theorem dX5_fewestSteps_74 : decode cX5_fewestSteps 74 = .ok (.iinc 5 1, 3) := by decide +kernel
theorem dX5_fewestSteps_77 : decode cX5_fewestSteps 77 = .ok (.goto (-33), 3) := by decide +kernel
theorem dX5_fewestSteps_80 : decode cX5_fewestSteps 80 = .ok (.aload_n 0, 1) := by decide +kernel
theorem dX5_fewestSteps_81 : decode cX5_fewestSteps 81 = .ok (.getfield 9, 3) := by decide +kernel
theorem dX5_fewestSteps_84 : decode cX5_fewestSteps 84 = .ok (.iload_n 3, 1) := by decide +kernel
theorem dX5_fewestSteps_85 : decode cX5_fewestSteps 85 = .ok (.iaload, 1) := by decide +kernel
theorem dX5_fewestSteps_86 : decode cX5_fewestSteps 86 = .ok (.iconst (-1), 1) := by decide +kernel
theorem dX5_fewestSteps_87 : decode cX5_fewestSteps 87 = .ok (.if_icmp .ne 8, 3) := by decide +kernel
theorem dX5_fewestSteps_90 : decode cX5_fewestSteps 90 = .ok (.bipush (-9), 2) := by decide +kernel
theorem dX5_fewestSteps_92 : decode cX5_fewestSteps 92 = .ok (.goto 9, 3) := by decide +kernel
theorem dX5_fewestSteps_95 : decode cX5_fewestSteps 95 = .ok (.aload_n 0, 1) := by decide +kernel
theorem dX5_fewestSteps_96 : decode cX5_fewestSteps 96 = .ok (.getfield 9, 3) := by decide +kernel
theorem dX5_fewestSteps_99 : decode cX5_fewestSteps 99 = .ok (.iload_n 3, 1) := by decide +kernel
theorem dX5_fewestSteps_100 : decode cX5_fewestSteps 100 = .ok (.iaload, 1) := by decide +kernel
theorem dX5_fewestSteps_101 : decode cX5_fewestSteps 101 = .ok (.ireturn, 1) := by decide +kernel
theorem dX6_refuse_0 : decode cX6_refuse 0 = .ok (.iload_n 1, 1) := by decide +kernel
theorem dX6_refuse_1 : decode cX6_refuse 1 = .ok (.iconst (-1), 1) := by decide +kernel
theorem dX6_refuse_2 : decode cX6_refuse 2 = .ok (.if_icmp .gt 20, 3) := by decide +kernel
theorem dX6_refuse_5 : decode cX6_refuse 5 = .ok (.iload_n 1, 1) := by decide +kernel
theorem dX6_refuse_6 : decode cX6_refuse 6 = .ok (.bipush (-6), 2) := by decide +kernel
theorem dX6_refuse_8 : decode cX6_refuse 8 = .ok (.if_icmp .lt 14, 3) := by decide +kernel
theorem dX6_refuse_11 : decode cX6_refuse 11 = .ok (.aload_n 0, 1) := by decide +kernel
theorem dX6_refuse_12 : decode cX6_refuse 12 = .ok (.getfield 51, 3) := by decide +kernel
theorem dX6_refuse_15 : decode cX6_refuse 15 = .ok (.iload_n 1, 1) := by decide +kernel
theorem dX6_refuse_16 : decode cX6_refuse 16 = .ok (.ineg, 1) := by decide +kernel
theorem dX6_refuse_17 : decode cX6_refuse 17 = .ok (.dup2, 1) := by decide +kernel
theorem dX6_refuse_18 : decode cX6_refuse 18 = .ok (.iaload, 1) := by decide +kernel
theorem dX6_refuse_19 : decode cX6_refuse 19 = .ok (.iconst 1, 1) := by decide +kernel
theorem dX6_refuse_20 : decode cX6_refuse 20 = .ok (.iadd, 1) := by decide +kernel
theorem dX6_refuse_21 : decode cX6_refuse 21 = .ok (.iastore, 1) := by decide +kernel
theorem dX6_refuse_22 : decode cX6_refuse 22 = .ok (.iload_n 1, 1) := by decide +kernel
theorem dX6_refuse_23 : decode cX6_refuse 23 = .ok (.ireturn, 1) := by decide +kernel
theorem dX6_refuseLong_0 : decode cX6_refuseLong 0 = .ok (.ldc2_w 54, 3) := by decide +kernel
theorem dX6_refuseLong_3 : decode cX6_refuseLong 3 = .ok (.aload_n 0, 1) := by decide +kernel
theorem dX6_refuseLong_4 : decode cX6_refuseLong 4 = .ok (.iload_n 1, 1) := by decide +kernel
theorem dX6_refuseLong_5 : decode cX6_refuseLong 5 = .ok (.invokevirtual 56, 3) := by decide +kernel
theorem dX6_refuseLong_8 : decode cX6_refuseLong 8 = .ok (.i2l, 1) := by decide +kernel
theorem dX6_refuseLong_9 : decode cX6_refuseLong 9 = .ok (.lsub, 1) := by decide +kernel
theorem dX6_refuseLong_10 : decode cX6_refuseLong 10 = .ok (.lreturn, 1) := by decide +kernel
theorem dX6_noHead_0 : decode cX6_noHead 0 = .ok (.iload_n 1, 1) := by decide +kernel
theorem dX6_noHead_1 : decode cX6_noHead 1 = .ok (.ifCond .lt 14, 3) := by decide +kernel
theorem dX6_noHead_4 : decode cX6_noHead 4 = .ok (.iload_n 1, 1) := by decide +kernel
theorem dX6_noHead_5 : decode cX6_noHead 5 = .ok (.aload_n 0, 1) := by decide +kernel
theorem dX6_noHead_6 : decode cX6_noHead 6 = .ok (.getfield 10, 3) := by decide +kernel
theorem dX6_noHead_9 : decode cX6_noHead 9 = .ok (.getfield 60, 3) := by decide +kernel
theorem dX6_noHead_12 : decode cX6_noHead 12 = .ok (.if_icmp .lt 7, 3) := by decide +kernel
theorem dX6_noHead_15 : decode cX6_noHead 15 = .ok (.iconst 1, 1) := by decide +kernel
theorem dX6_noHead_16 : decode cX6_noHead 16 = .ok (.goto 4, 3) := by decide +kernel
theorem dX6_noHead_19 : decode cX6_noHead 19 = .ok (.iconst 0, 1) := by decide +kernel
theorem dX6_noHead_20 : decode cX6_noHead 20 = .ok (.ireturn, 1) := by decide +kernel
theorem dX6_noField_0 : decode cX6_noField 0 = .ok (.iload_n 0, 1) := by decide +kernel
theorem dX6_noField_1 : decode cX6_noField 1 = .ok (.ifCond .lt 9, 3) := by decide +kernel
theorem dX6_noField_4 : decode cX6_noField 4 = .ok (.iload_n 0, 1) := by decide +kernel
theorem dX6_noField_5 : decode cX6_noField 5 = .ok (.bipush 48, 2) := by decide +kernel
theorem dX6_noField_7 : decode cX6_noField 7 = .ok (.if_icmp .lt 7, 3) := by decide +kernel
theorem dX6_noField_10 : decode cX6_noField 10 = .ok (.iconst 1, 1) := by decide +kernel
theorem dX6_noField_11 : decode cX6_noField 11 = .ok (.goto 4, 3) := by decide +kernel
theorem dX6_noField_14 : decode cX6_noField 14 = .ok (.iconst 0, 1) := by decide +kernel
theorem dX6_noField_15 : decode cX6_noField 15 = .ok (.ireturn, 1) := by decide +kernel
theorem dX6_noPair_0 : decode cX6_noPair 0 = .ok (.aload_n 0, 1) := by decide +kernel
theorem dX6_noPair_1 : decode cX6_noPair 1 = .ok (.iload_n 1, 1) := by decide +kernel
theorem dX6_noPair_2 : decode cX6_noPair 2 = .ok (.invokevirtual 64, 3) := by decide +kernel
theorem dX6_noPair_5 : decode cX6_noPair 5 = .ok (.ifCond .ne 16, 3) := by decide +kernel
theorem dX6_noPair_8 : decode cX6_noPair 8 = .ok (.aload_n 0, 1) := by decide +kernel
theorem dX6_noPair_9 : decode cX6_noPair 9 = .ok (.iload_n 2, 1) := by decide +kernel
theorem dX6_noPair_10 : decode cX6_noPair 10 = .ok (.invokevirtual 64, 3) := by decide +kernel
theorem dX6_noPair_13 : decode cX6_noPair 13 = .ok (.ifCond .ne 8, 3) := by decide +kernel
theorem dX6_noPair_16 : decode cX6_noPair 16 = .ok (.iload_n 1, 1) := by decide +kernel
theorem dX6_noPair_17 : decode cX6_noPair 17 = .ok (.iload_n 2, 1) := by decide +kernel
theorem dX6_noPair_18 : decode cX6_noPair 18 = .ok (.if_icmp .ne 7, 3) := by decide +kernel
theorem dX6_noPair_21 : decode cX6_noPair 21 = .ok (.iconst 1, 1) := by decide +kernel
theorem dX6_noPair_22 : decode cX6_noPair 22 = .ok (.goto 4, 3) := by decide +kernel
theorem dX6_noPair_25 : decode cX6_noPair 25 = .ok (.iconst 0, 1) := by decide +kernel
theorem dX6_noPair_26 : decode cX6_noPair 26 = .ok (.ireturn, 1) := by decide +kernel
theorem dX6_faultOfNumber_0 : decode cX6_faultOfNumber 0 = .ok (.iload_n 0, 1) := by decide +kernel
theorem dX6_faultOfNumber_1 : decode cX6_faultOfNumber 1 = .ok (.ifCond .eq 5, 3) := by decide +kernel
theorem dX6_faultOfNumber_4 : decode cX6_faultOfNumber 4 = .ok (.iconst (-1), 1) := by decide +kernel
theorem dX6_faultOfNumber_5 : decode cX6_faultOfNumber 5 = .ok (.ireturn, 1) := by decide +kernel
theorem dX6_faultOfNumber_6 : decode cX6_faultOfNumber 6 = .ok (.iload_n 1, 1) := by decide +kernel
theorem dX6_faultOfNumber_7 : decode cX6_faultOfNumber 7 = .ok (.iload_n 2, 1) := by decide +kernel
theorem dX6_faultOfNumber_8 : decode cX6_faultOfNumber 8 = .ok (.if_icmp .ge 6, 3) := by decide +kernel
theorem dX6_faultOfNumber_11 : decode cX6_faultOfNumber 11 = .ok (.bipush (-4), 2) := by decide +kernel
theorem dX6_faultOfNumber_13 : decode cX6_faultOfNumber 13 = .ok (.ireturn, 1) := by decide +kernel
theorem dX6_faultOfNumber_14 : decode cX6_faultOfNumber 14 = .ok (.iload_n 1, 1) := by decide +kernel
theorem dX6_faultOfNumber_15 : decode cX6_faultOfNumber 15 = .ok (.iload_n 3, 1) := by decide +kernel
theorem dX6_faultOfNumber_16 : decode cX6_faultOfNumber 16 = .ok (.if_icmp .le 8, 3) := by decide +kernel
theorem dX6_faultOfNumber_19 : decode cX6_faultOfNumber 19 = .ok (.bipush (-6), 2) := by decide +kernel
theorem dX6_faultOfNumber_21 : decode cX6_faultOfNumber 21 = .ok (.goto 4, 3) := by decide +kernel
theorem dX6_faultOfNumber_24 : decode cX6_faultOfNumber 24 = .ok (.iconst 0, 1) := by decide +kernel
theorem dX6_faultOfNumber_25 : decode cX6_faultOfNumber 25 = .ok (.ireturn, 1) := by decide +kernel
theorem dX6_faultOfAsked_0 : decode cX6_faultOfAsked 0 = .ok (.iload_n 0, 1) := by decide +kernel
theorem dX6_faultOfAsked_1 : decode cX6_faultOfAsked 1 = .ok (.iload_n 1, 1) := by decide +kernel
theorem dX6_faultOfAsked_2 : decode cX6_faultOfAsked 2 = .ok (.iload_n 2, 1) := by decide +kernel
theorem dX6_faultOfAsked_3 : decode cX6_faultOfAsked 3 = .ok (.iload_n 3, 1) := by decide +kernel
theorem dX6_faultOfAsked_4 : decode cX6_faultOfAsked 4 = .ok (.invokestatic 68, 3) := by decide +kernel
theorem dX6_faultOfAsked_7 : decode cX6_faultOfAsked 7 = .ok (.istore 6, 2) := by decide +kernel
theorem dX6_faultOfAsked_9 : decode cX6_faultOfAsked 9 = .ok (.iload 4, 2) := by decide +kernel
theorem dX6_faultOfAsked_11 : decode cX6_faultOfAsked 11 = .ok (.ifCond .lt 10, 3) := by decide +kernel
theorem dX6_faultOfAsked_14 : decode cX6_faultOfAsked 14 = .ok (.iload 4, 2) := by decide +kernel
theorem dX6_faultOfAsked_16 : decode cX6_faultOfAsked 16 = .ok (.iload 5, 2) := by decide +kernel
theorem dX6_faultOfAsked_18 : decode cX6_faultOfAsked 18 = .ok (.if_icmp .le 7, 3) := by decide +kernel
theorem dX6_faultOfAsked_21 : decode cX6_faultOfAsked 21 = .ok (.iconst 1, 1) := by decide +kernel
theorem dX6_faultOfAsked_22 : decode cX6_faultOfAsked 22 = .ok (.goto 4, 3) := by decide +kernel
theorem dX6_faultOfAsked_25 : decode cX6_faultOfAsked 25 = .ok (.iconst 0, 1) := by decide +kernel
theorem dX6_faultOfAsked_26 : decode cX6_faultOfAsked 26 = .ok (.istore 7, 2) := by decide +kernel
theorem dX6_faultOfAsked_28 : decode cX6_faultOfAsked 28 = .ok (.iload 6, 2) := by decide +kernel
theorem dX6_faultOfAsked_30 : decode cX6_faultOfAsked 30 = .ok (.ifCond .ne 13, 3) := by decide +kernel
theorem dX6_faultOfAsked_33 : decode cX6_faultOfAsked 33 = .ok (.iload 7, 2) := by decide +kernel
theorem dX6_faultOfAsked_35 : decode cX6_faultOfAsked 35 = .ok (.ifCond .eq 8, 3) := by decide +kernel
theorem dX6_faultOfAsked_38 : decode cX6_faultOfAsked 38 = .ok (.bipush (-2), 2) := by decide +kernel
theorem dX6_faultOfAsked_40 : decode cX6_faultOfAsked 40 = .ok (.goto 5, 3) := by decide +kernel
theorem dX6_faultOfAsked_43 : decode cX6_faultOfAsked 43 = .ok (.iload 6, 2) := by decide +kernel
theorem dX6_faultOfAsked_45 : decode cX6_faultOfAsked 45 = .ok (.ireturn, 1) := by decide +kernel
theorem dX6_feed_0 : decode cX6_feed 0 = .ok (.iload_n 1, 1) := by decide +kernel
theorem dX6_feed_1 : decode cX6_feed 1 = .ok (.ifCond .ge 10, 3) := by decide +kernel
theorem dX6_feed_4 : decode cX6_feed 4 = .ok (.aload_n 0, 1) := by decide +kernel
theorem dX6_feed_5 : decode cX6_feed 5 = .ok (.bipush (-4), 2) := by decide +kernel
theorem dX6_feed_7 : decode cX6_feed 7 = .ok (.invokevirtual 56, 3) := by decide +kernel
theorem dX6_feed_10 : decode cX6_feed 10 = .ok (.ireturn, 1) := by decide +kernel
theorem dX6_feed_11 : decode cX6_feed 11 = .ok (.iload_n 1, 1) := by decide +kernel
theorem dX6_feed_12 : decode cX6_feed 12 = .ok (.sipush 255, 3) := by decide +kernel
theorem dX6_feed_15 : decode cX6_feed 15 = .ok (.if_icmp .gt 13, 3) := by decide +kernel
theorem dX6_feed_18 : decode cX6_feed 18 = .ok (.aload_n 0, 1) := by decide +kernel
theorem dX6_feed_19 : decode cX6_feed 19 = .ok (.getfield 29, 3) := by decide +kernel
theorem dX6_feed_22 : decode cX6_feed 22 = .ok (.invokevirtual 72, 3) := by decide +kernel
theorem dX6_feed_25 : decode cX6_feed 25 = .ok (.ifCond .eq 10, 3) := by decide +kernel
theorem dX6_feed_28 : decode cX6_feed 28 = .ok (.aload_n 0, 1) := by decide +kernel
theorem dX6_feed_29 : decode cX6_feed 29 = .ok (.bipush (-6), 2) := by decide +kernel
theorem dX6_feed_31 : decode cX6_feed 31 = .ok (.invokevirtual 56, 3) := by decide +kernel
theorem dX6_feed_34 : decode cX6_feed 34 = .ok (.ireturn, 1) := by decide +kernel
theorem dX6_feed_35 : decode cX6_feed 35 = .ok (.aload_n 0, 1) := by decide +kernel
theorem dX6_feed_36 : decode cX6_feed 36 = .ok (.getfield 29, 3) := by decide +kernel
theorem dX6_feed_39 : decode cX6_feed 39 = .ok (.iload_n 1, 1) := by decide +kernel
theorem dX6_feed_40 : decode cX6_feed 40 = .ok (.invokevirtual 76, 3) := by decide +kernel
theorem dX6_feed_43 : decode cX6_feed 43 = .ok (.ireturn, 1) := by decide +kernel
theorem dX6_head_0 : decode cX6_head 0 = .ok (.aload_n 0, 1) := by decide +kernel
theorem dX6_head_1 : decode cX6_head 1 = .ok (.iload_n 1, 1) := by decide +kernel
theorem dX6_head_2 : decode cX6_head 2 = .ok (.invokevirtual 64, 3) := by decide +kernel
theorem dX6_head_5 : decode cX6_head 5 = .ok (.ifCond .eq 9, 3) := by decide +kernel
theorem dX6_head_8 : decode cX6_head 8 = .ok (.aload_n 0, 1) := by decide +kernel
theorem dX6_head_9 : decode cX6_head 9 = .ok (.iconst (-1), 1) := by decide +kernel
theorem dX6_head_10 : decode cX6_head 10 = .ok (.invokevirtual 56, 3) := by decide +kernel
theorem dX6_head_13 : decode cX6_head 13 = .ok (.ireturn, 1) := by decide +kernel
theorem dX6_head_14 : decode cX6_head 14 = .ok (.aload_n 0, 1) := by decide +kernel
theorem dX6_head_15 : decode cX6_head 15 = .ok (.getfield 10, 3) := by decide +kernel
theorem dX6_head_18 : decode cX6_head 18 = .ok (.getfield 105, 3) := by decide +kernel
theorem dX6_head_21 : decode cX6_head 21 = .ok (.iload_n 1, 1) := by decide +kernel
theorem dX6_head_22 : decode cX6_head 22 = .ok (.aaload, 1) := by decide +kernel
theorem dX6_head_23 : decode cX6_head 23 = .ok (.astore_n 3, 1) := by decide +kernel
theorem dX6_head_24 : decode cX6_head 24 = .ok (.iload_n 2, 1) := by decide +kernel
theorem dX6_head_25 : decode cX6_head 25 = .ok (.tableswitch 140 0 11 #[63, 68, 73, 78, 83, 88, 93, 106, 111, 116, 121, 135], 63) := by decide +kernel
theorem dX6_head_88 : decode cX6_head 88 = .ok (.aload_n 3, 1) := by decide +kernel
theorem dX6_head_89 : decode cX6_head 89 = .ok (.getfield 109, 3) := by decide +kernel
theorem dX6_head_92 : decode cX6_head 92 = .ok (.ireturn, 1) := by decide +kernel
theorem dX6_head_93 : decode cX6_head 93 = .ok (.aload_n 3, 1) := by decide +kernel
theorem dX6_head_94 : decode cX6_head 94 = .ok (.getfield 114, 3) := by decide +kernel
theorem dX6_head_97 : decode cX6_head 97 = .ok (.ireturn, 1) := by decide +kernel
theorem dX6_head_98 : decode cX6_head 98 = .ok (.aload_n 3, 1) := by decide +kernel
theorem dX6_head_99 : decode cX6_head 99 = .ok (.getfield 117, 3) := by decide +kernel
theorem dX6_head_102 : decode cX6_head 102 = .ok (.ireturn, 1) := by decide +kernel
theorem dX6_head_103 : decode cX6_head 103 = .ok (.aload_n 3, 1) := by decide +kernel
theorem dX6_head_104 : decode cX6_head 104 = .ok (.getfield 120, 3) := by decide +kernel
theorem dX6_head_107 : decode cX6_head 107 = .ok (.ireturn, 1) := by decide +kernel
theorem dX6_head_108 : decode cX6_head 108 = .ok (.aload_n 3, 1) := by decide +kernel
theorem dX6_head_109 : decode cX6_head 109 = .ok (.getfield 123, 3) := by decide +kernel
theorem dX6_head_112 : decode cX6_head 112 = .ok (.ireturn, 1) := by decide +kernel
theorem dX6_head_113 : decode cX6_head 113 = .ok (.aload_n 3, 1) := by decide +kernel
theorem dX6_head_114 : decode cX6_head 114 = .ok (.getfield 126, 3) := by decide +kernel
theorem dX6_head_117 : decode cX6_head 117 = .ok (.ireturn, 1) := by decide +kernel
theorem dX6_head_118 : decode cX6_head 118 = .ok (.aload_n 3, 1) := by decide +kernel
theorem dX6_head_119 : decode cX6_head 119 = .ok (.getfield 129, 3) := by decide +kernel
theorem dX6_head_122 : decode cX6_head 122 = .ok (.ifCond .eq 7, 3) := by decide +kernel
theorem dX6_head_125 : decode cX6_head 125 = .ok (.iconst 1, 1) := by decide +kernel
theorem dX6_head_126 : decode cX6_head 126 = .ok (.goto 4, 3) := by decide +kernel
theorem dX6_head_129 : decode cX6_head 129 = .ok (.iconst 0, 1) := by decide +kernel
theorem dX6_head_130 : decode cX6_head 130 = .ok (.ireturn, 1) := by decide +kernel
theorem dX6_head_131 : decode cX6_head 131 = .ok (.aload_n 3, 1) := by decide +kernel
theorem dX6_head_132 : decode cX6_head 132 = .ok (.getfield 133, 3) := by decide +kernel
theorem dX6_head_135 : decode cX6_head 135 = .ok (.ireturn, 1) := by decide +kernel
theorem dX6_head_136 : decode cX6_head 136 = .ok (.aload_n 3, 1) := by decide +kernel
theorem dX6_head_137 : decode cX6_head 137 = .ok (.invokevirtual 136, 3) := by decide +kernel
theorem dX6_head_140 : decode cX6_head 140 = .ok (.ireturn, 1) := by decide +kernel
theorem dX6_head_141 : decode cX6_head 141 = .ok (.aload_n 3, 1) := by decide +kernel
theorem dX6_head_142 : decode cX6_head 142 = .ok (.invokevirtual 139, 3) := by decide +kernel
theorem dX6_head_145 : decode cX6_head 145 = .ok (.ireturn, 1) := by decide +kernel
theorem dX6_head_146 : decode cX6_head 146 = .ok (.aload_n 3, 1) := by decide +kernel
theorem dX6_head_147 : decode cX6_head 147 = .ok (.aload_n 0, 1) := by decide +kernel
theorem dX6_head_148 : decode cX6_head 148 = .ok (.getfield 10, 3) := by decide +kernel
theorem dX6_head_151 : decode cX6_head 151 = .ok (.getfield 142, 3) := by decide +kernel
theorem dX6_head_154 : decode cX6_head 154 = .ok (.iconst 1, 1) := by decide +kernel
theorem dX6_head_155 : decode cX6_head 155 = .ok (.iadd, 1) := by decide +kernel
theorem dX6_head_156 : decode cX6_head 156 = .ok (.invokevirtual 145, 3) := by decide +kernel
theorem dX6_head_159 : decode cX6_head 159 = .ok (.ireturn, 1) := by decide +kernel
theorem dX6_head_160 : decode cX6_head 160 = .ok (.aload_n 3, 1) := by decide +kernel
theorem dX6_head_161 : decode cX6_head 161 = .ok (.invokevirtual 148, 3) := by decide +kernel
theorem dX6_head_164 : decode cX6_head 164 = .ok (.ireturn, 1) := by decide +kernel
theorem dX6_head_165 : decode cX6_head 165 = .ok (.aload_n 0, 1) := by decide +kernel
theorem dX6_head_166 : decode cX6_head 166 = .ok (.bipush (-2), 2) := by decide +kernel
theorem dX6_head_168 : decode cX6_head 168 = .ok (.invokevirtual 56, 3) := by decide +kernel
theorem dX6_head_171 : decode cX6_head 171 = .ok (.ireturn, 1) := by decide +kernel
theorem dX6_field_0 : decode cX6_field 0 = .ok (.iload_n 1, 1) := by decide +kernel
theorem dX6_field_1 : decode cX6_field 1 = .ok (.invokestatic 151, 3) := by decide +kernel
theorem dX6_field_4 : decode cX6_field 4 = .ok (.ifCond .eq 9, 3) := by decide +kernel
theorem dX6_field_7 : decode cX6_field 7 = .ok (.aload_n 0, 1) := by decide +kernel
theorem dX6_field_8 : decode cX6_field 8 = .ok (.iconst (-1), 1) := by decide +kernel
theorem dX6_field_9 : decode cX6_field 9 = .ok (.invokevirtual 56, 3) := by decide +kernel
theorem dX6_field_12 : decode cX6_field 12 = .ok (.ireturn, 1) := by decide +kernel
theorem dX6_field_13 : decode cX6_field 13 = .ok (.iload_n 2, 1) := by decide +kernel
theorem dX6_field_14 : decode cX6_field 14 = .ok (.tableswitch 69 0 3 #[30, 40, 50, 60], 30) := by decide +kernel
theorem dX6_field_44 : decode cX6_field 44 = .ok (.aload_n 0, 1) := by decide +kernel
theorem dX6_field_45 : decode cX6_field 45 = .ok (.getfield 10, 3) := by decide +kernel
theorem dX6_field_48 : decode cX6_field 48 = .ok (.getfield 154, 3) := by decide +kernel
theorem dX6_field_51 : decode cX6_field 51 = .ok (.iload_n 1, 1) := by decide +kernel
theorem dX6_field_52 : decode cX6_field 52 = .ok (.iaload, 1) := by decide +kernel
theorem dX6_field_53 : decode cX6_field 53 = .ok (.ireturn, 1) := by decide +kernel
theorem dX6_field_54 : decode cX6_field 54 = .ok (.aload_n 0, 1) := by decide +kernel
theorem dX6_field_55 : decode cX6_field 55 = .ok (.getfield 10, 3) := by decide +kernel
theorem dX6_field_58 : decode cX6_field 58 = .ok (.getfield 157, 3) := by decide +kernel
theorem dX6_field_61 : decode cX6_field 61 = .ok (.iload_n 1, 1) := by decide +kernel
theorem dX6_field_62 : decode cX6_field 62 = .ok (.iaload, 1) := by decide +kernel
theorem dX6_field_63 : decode cX6_field 63 = .ok (.ireturn, 1) := by decide +kernel
theorem dX6_field_64 : decode cX6_field 64 = .ok (.aload_n 0, 1) := by decide +kernel
theorem dX6_field_65 : decode cX6_field 65 = .ok (.getfield 10, 3) := by decide +kernel
theorem dX6_field_68 : decode cX6_field 68 = .ok (.getfield 160, 3) := by decide +kernel
theorem dX6_field_71 : decode cX6_field 71 = .ok (.iload_n 1, 1) := by decide +kernel
theorem dX6_field_72 : decode cX6_field 72 = .ok (.iaload, 1) := by decide +kernel
theorem dX6_field_73 : decode cX6_field 73 = .ok (.ireturn, 1) := by decide +kernel
theorem dX6_field_74 : decode cX6_field 74 = .ok (.aload_n 0, 1) := by decide +kernel
theorem dX6_field_75 : decode cX6_field 75 = .ok (.getfield 10, 3) := by decide +kernel
theorem dX6_field_78 : decode cX6_field 78 = .ok (.iload_n 1, 1) := by decide +kernel
theorem dX6_field_79 : decode cX6_field 79 = .ok (.invokevirtual 163, 3) := by decide +kernel
theorem dX6_field_82 : decode cX6_field 82 = .ok (.ireturn, 1) := by decide +kernel
theorem dX6_field_83 : decode cX6_field 83 = .ok (.aload_n 0, 1) := by decide +kernel
theorem dX6_field_84 : decode cX6_field 84 = .ok (.bipush (-2), 2) := by decide +kernel
theorem dX6_field_86 : decode cX6_field 86 = .ok (.invokevirtual 56, 3) := by decide +kernel
theorem dX6_field_89 : decode cX6_field 89 = .ok (.ireturn, 1) := by decide +kernel
theorem dX6_comes_0 : decode cX6_comes 0 = .ok (.iload_n 1, 1) := by decide +kernel
theorem dX6_comes_1 : decode cX6_comes 1 = .ok (.ifCond .lt 9, 3) := by decide +kernel
theorem dX6_comes_4 : decode cX6_comes 4 = .ok (.iload_n 1, 1) := by decide +kernel
theorem dX6_comes_5 : decode cX6_comes 5 = .ok (.bipush 8, 2) := by decide +kernel
theorem dX6_comes_7 : decode cX6_comes 7 = .ok (.if_icmp .lt 10, 3) := by decide +kernel
theorem dX6_comes_10 : decode cX6_comes 10 = .ok (.aload_n 0, 1) := by decide +kernel
theorem dX6_comes_11 : decode cX6_comes 11 = .ok (.bipush (-2), 2) := by decide +kernel
theorem dX6_comes_13 : decode cX6_comes 13 = .ok (.invokevirtual 56, 3) := by decide +kernel
theorem dX6_comes_16 : decode cX6_comes 16 = .ok (.ireturn, 1) := by decide +kernel
theorem dX6_comes_17 : decode cX6_comes 17 = .ok (.iload_n 2, 1) := by decide +kernel
theorem dX6_comes_18 : decode cX6_comes 18 = .ok (.ifCond .lt 8, 3) := by decide +kernel
theorem dX6_comes_21 : decode cX6_comes 21 = .ok (.iload 4, 2) := by decide +kernel
theorem dX6_comes_23 : decode cX6_comes 23 = .ok (.ifCond .ge 10, 3) := by decide +kernel
theorem dX6_comes_26 : decode cX6_comes 26 = .ok (.aload_n 0, 1) := by decide +kernel
theorem dX6_comes_27 : decode cX6_comes 27 = .ok (.bipush (-4), 2) := by decide +kernel
theorem dX6_comes_29 : decode cX6_comes 29 = .ok (.invokevirtual 56, 3) := by decide +kernel
theorem dX6_comes_32 : decode cX6_comes 32 = .ok (.ireturn, 1) := by decide +kernel
theorem dX6_comes_33 : decode cX6_comes 33 = .ok (.iload_n 2, 1) := by decide +kernel
theorem dX6_comes_34 : decode cX6_comes 34 = .ok (.bipush 9, 2) := by decide +kernel
theorem dX6_comes_36 : decode cX6_comes 36 = .ok (.if_icmp .gt 20, 3) := by decide +kernel
theorem dX6_comes_39 : decode cX6_comes 39 = .ok (.iload 4, 2) := by decide +kernel
theorem dX6_comes_41 : decode cX6_comes 41 = .ok (.bipush 26, 2) := by decide +kernel
theorem dX6_comes_43 : decode cX6_comes 43 = .ok (.if_icmp .ge 13, 3) := by decide +kernel
theorem dX6_comes_46 : decode cX6_comes 46 = .ok (.aload_n 0, 1) := by decide +kernel
theorem dX6_comes_47 : decode cX6_comes 47 = .ok (.getfield 10, 3) := by decide +kernel
theorem dX6_comes_50 : decode cX6_comes 50 = .ok (.invokevirtual 166, 3) := by decide +kernel
theorem dX6_comes_53 : decode cX6_comes 53 = .ok (.ifCond .eq 10, 3) := by decide +kernel
theorem dX6_comes_56 : decode cX6_comes 56 = .ok (.aload_n 0, 1) := by decide +kernel
theorem dX6_comes_57 : decode cX6_comes 57 = .ok (.bipush (-6), 2) := by decide +kernel
theorem dX6_comes_59 : decode cX6_comes 59 = .ok (.invokevirtual 56, 3) := by decide +kernel
theorem dX6_comes_62 : decode cX6_comes 62 = .ok (.ireturn, 1) := by decide +kernel
theorem dX6_comes_63 : decode cX6_comes 63 = .ok (.iload_n 3, 1) := by decide +kernel
theorem dX6_comes_64 : decode cX6_comes 64 = .ok (.invokestatic 151, 3) := by decide +kernel
theorem dX6_comes_67 : decode cX6_comes 67 = .ok (.ifCond .eq 9, 3) := by decide +kernel
theorem dX6_comes_70 : decode cX6_comes 70 = .ok (.aload_n 0, 1) := by decide +kernel
theorem dX6_comes_71 : decode cX6_comes 71 = .ok (.iconst (-1), 1) := by decide +kernel
theorem dX6_comes_72 : decode cX6_comes 72 = .ok (.invokevirtual 56, 3) := by decide +kernel
theorem dX6_comes_75 : decode cX6_comes 75 = .ok (.ireturn, 1) := by decide +kernel
theorem dX6_comes_76 : decode cX6_comes 76 = .ok (.aload_n 0, 1) := by decide +kernel
theorem dX6_comes_77 : decode cX6_comes 77 = .ok (.getfield 22, 3) := by decide +kernel
theorem dX6_comes_80 : decode cX6_comes 80 = .ok (.invokevirtual 104, 3) := by decide +kernel
theorem dX6_comes_83 : decode cX6_comes 83 = .ok (.aload_n 0, 1) := by decide +kernel
theorem dX6_comes_84 : decode cX6_comes 84 = .ok (.getfield 10, 3) := by decide +kernel
theorem dX6_comes_87 : decode cX6_comes 87 = .ok (.iload_n 1, 1) := by decide +kernel
theorem dX6_comes_88 : decode cX6_comes 88 = .ok (.iload_n 2, 1) := by decide +kernel
theorem dX6_comes_89 : decode cX6_comes 89 = .ok (.iload_n 3, 1) := by decide +kernel
theorem dX6_comes_90 : decode cX6_comes 90 = .ok (.invokevirtual 167, 3) := by decide +kernel
theorem dX6_comes_93 : decode cX6_comes 93 = .ok (.aload_n 0, 1) := by decide +kernel
theorem dX6_comes_94 : decode cX6_comes 94 = .ok (.getfield 10, 3) := by decide +kernel
theorem dX6_comes_97 : decode cX6_comes 97 = .ok (.iload 4, 2) := by decide +kernel
theorem dX6_comes_99 : decode cX6_comes 99 = .ok (.invokevirtual 171, 3) := by decide +kernel
theorem dX6_comes_102 : decode cX6_comes 102 = .ok (.aload_n 0, 1) := by decide +kernel
theorem dX6_comes_103 : decode cX6_comes 103 = .ok (.getfield 10, 3) := by decide +kernel
theorem dX6_comes_106 : decode cX6_comes 106 = .ok (.getfield 60, 3) := by decide +kernel
theorem dX6_comes_109 : decode cX6_comes 109 = .ok (.iconst 1, 1) := by decide +kernel
theorem dX6_comes_110 : decode cX6_comes 110 = .ok (.isub, 1) := by decide +kernel
theorem dX6_comes_111 : decode cX6_comes 111 = .ok (.ireturn, 1) := by decide +kernel
theorem dX6_named_0 : decode cX6_named 0 = .ok (.aload_n 0, 1) := by decide +kernel
theorem dX6_named_1 : decode cX6_named 1 = .ok (.iload_n 1, 1) := by decide +kernel
theorem dX6_named_2 : decode cX6_named 2 = .ok (.invokevirtual 64, 3) := by decide +kernel
theorem dX6_named_5 : decode cX6_named 5 = .ok (.ifCond .eq 9, 3) := by decide +kernel
theorem dX6_named_8 : decode cX6_named 8 = .ok (.aload_n 0, 1) := by decide +kernel
theorem dX6_named_9 : decode cX6_named 9 = .ok (.iconst (-1), 1) := by decide +kernel
theorem dX6_named_10 : decode cX6_named 10 = .ok (.invokevirtual 56, 3) := by decide +kernel
theorem dX6_named_13 : decode cX6_named 13 = .ok (.ireturn, 1) := by decide +kernel
theorem dX6_named_14 : decode cX6_named 14 = .ok (.iload_n 2, 1) := by decide +kernel
theorem dX6_named_15 : decode cX6_named 15 = .ok (.ifCond .ge 10, 3) := by decide +kernel
theorem dX6_named_18 : decode cX6_named 18 = .ok (.aload_n 0, 1) := by decide +kernel
theorem dX6_named_19 : decode cX6_named 19 = .ok (.bipush (-4), 2) := by decide +kernel
theorem dX6_named_21 : decode cX6_named 21 = .ok (.invokevirtual 56, 3) := by decide +kernel
theorem dX6_named_24 : decode cX6_named 24 = .ok (.ireturn, 1) := by decide +kernel
theorem dX6_named_25 : decode cX6_named 25 = .ok (.aload_n 0, 1) := by decide +kernel
theorem dX6_named_26 : decode cX6_named 26 = .ok (.getfield 10, 3) := by decide +kernel
theorem dX6_named_29 : decode cX6_named 29 = .ok (.getfield 105, 3) := by decide +kernel
theorem dX6_named_32 : decode cX6_named 32 = .ok (.iload_n 1, 1) := by decide +kernel
theorem dX6_named_33 : decode cX6_named 33 = .ok (.aaload, 1) := by decide +kernel
theorem dX6_named_34 : decode cX6_named 34 = .ok (.astore_n 3, 1) := by decide +kernel
theorem dX6_named_35 : decode cX6_named 35 = .ok (.iload_n 2, 1) := by decide +kernel
theorem dX6_named_36 : decode cX6_named 36 = .ok (.bipush 26, 2) := by decide +kernel
theorem dX6_named_38 : decode cX6_named 38 = .ok (.if_icmp .ge 10, 3) := by decide +kernel
theorem dX6_named_41 : decode cX6_named 41 = .ok (.aload_n 3, 1) := by decide +kernel
theorem dX6_named_42 : decode cX6_named 42 = .ok (.invokevirtual 175, 3) := by decide +kernel
theorem dX6_named_45 : decode cX6_named 45 = .ok (.ifCond .eq 10, 3) := by decide +kernel
theorem dX6_named_48 : decode cX6_named 48 = .ok (.aload_n 0, 1) := by decide +kernel
theorem dX6_named_49 : decode cX6_named 49 = .ok (.bipush (-6), 2) := by decide +kernel
theorem dX6_named_51 : decode cX6_named 51 = .ok (.invokevirtual 56, 3) := by decide +kernel
theorem dX6_named_54 : decode cX6_named 54 = .ok (.ireturn, 1) := by decide +kernel
theorem dX6_named_55 : decode cX6_named 55 = .ok (.aload_n 0, 1) := by decide +kernel
theorem dX6_named_56 : decode cX6_named 56 = .ok (.getfield 22, 3) := by decide +kernel
theorem dX6_named_59 : decode cX6_named 59 = .ok (.aload_n 0, 1) := by decide +kernel
theorem dX6_named_60 : decode cX6_named 60 = .ok (.getfield 10, 3) := by decide +kernel
theorem dX6_named_63 : decode cX6_named 63 = .ok (.invokevirtual 178, 3) := by decide +kernel
theorem dX6_named_66 : decode cX6_named 66 = .ok (.aload_n 3, 1) := by decide +kernel
theorem dX6_named_67 : decode cX6_named 67 = .ok (.iload_n 2, 1) := by decide +kernel
theorem dX6_named_68 : decode cX6_named 68 = .ok (.invokevirtual 181, 3) := by decide +kernel
theorem dX6_named_71 : decode cX6_named 71 = .ok (.aload_n 3, 1) := by decide +kernel
theorem dX6_named_72 : decode cX6_named 72 = .ok (.getfield 133, 3) := by decide +kernel
theorem dX6_named_75 : decode cX6_named 75 = .ok (.ireturn, 1) := by decide +kernel
theorem dX6_faces_0 : decode cX6_faces 0 = .ok (.aload_n 0, 1) := by decide +kernel
theorem dX6_faces_1 : decode cX6_faces 1 = .ok (.iload_n 1, 1) := by decide +kernel
theorem dX6_faces_2 : decode cX6_faces 2 = .ok (.invokevirtual 64, 3) := by decide +kernel
theorem dX6_faces_5 : decode cX6_faces 5 = .ok (.iload_n 2, 1) := by decide +kernel
theorem dX6_faces_6 : decode cX6_faces 6 = .ok (.iconst 0, 1) := by decide +kernel
theorem dX6_faces_7 : decode cX6_faces 7 = .ok (.iconst 3, 1) := by decide +kernel
theorem dX6_faces_8 : decode cX6_faces 8 = .ok (.invokestatic 68, 3) := by decide +kernel
theorem dX6_faces_11 : decode cX6_faces 11 = .ok (.istore_n 3, 1) := by decide +kernel
theorem dX6_faces_12 : decode cX6_faces 12 = .ok (.iload_n 3, 1) := by decide +kernel
theorem dX6_faces_13 : decode cX6_faces 13 = .ok (.ifCond .eq 9, 3) := by decide +kernel
theorem dX6_faces_16 : decode cX6_faces 16 = .ok (.aload_n 0, 1) := by decide +kernel
theorem dX6_faces_17 : decode cX6_faces 17 = .ok (.iload_n 3, 1) := by decide +kernel
theorem dX6_faces_18 : decode cX6_faces 18 = .ok (.invokevirtual 56, 3) := by decide +kernel
theorem dX6_faces_21 : decode cX6_faces 21 = .ok (.ireturn, 1) := by decide +kernel
theorem dX6_faces_22 : decode cX6_faces 22 = .ok (.aload_n 0, 1) := by decide +kernel
theorem dX6_faces_23 : decode cX6_faces 23 = .ok (.getfield 22, 3) := by decide +kernel
theorem dX6_faces_26 : decode cX6_faces 26 = .ok (.aload_n 0, 1) := by decide +kernel
theorem dX6_faces_27 : decode cX6_faces 27 = .ok (.getfield 10, 3) := by decide +kernel
theorem dX6_faces_30 : decode cX6_faces 30 = .ok (.invokevirtual 178, 3) := by decide +kernel
theorem dX6_faces_33 : decode cX6_faces 33 = .ok (.aload_n 0, 1) := by decide +kernel
theorem dX6_faces_34 : decode cX6_faces 34 = .ok (.getfield 10, 3) := by decide +kernel
theorem dX6_faces_37 : decode cX6_faces 37 = .ok (.getfield 105, 3) := by decide +kernel
theorem dX6_faces_40 : decode cX6_faces 40 = .ok (.iload_n 1, 1) := by decide +kernel
theorem dX6_faces_41 : decode cX6_faces 41 = .ok (.aaload, 1) := by decide +kernel
theorem dX6_faces_42 : decode cX6_faces 42 = .ok (.getfield 120, 3) := by decide +kernel
theorem dX6_faces_45 : decode cX6_faces 45 = .ok (.istore 4, 2) := by decide +kernel
theorem dX6_faces_47 : decode cX6_faces 47 = .ok (.aload_n 0, 1) := by decide +kernel
theorem dX6_faces_48 : decode cX6_faces 48 = .ok (.getfield 10, 3) := by decide +kernel
theorem dX6_faces_51 : decode cX6_faces 51 = .ok (.getfield 105, 3) := by decide +kernel
theorem dX6_faces_54 : decode cX6_faces 54 = .ok (.iload_n 1, 1) := by decide +kernel
theorem dX6_faces_55 : decode cX6_faces 55 = .ok (.aaload, 1) := by decide +kernel
theorem dX6_faces_56 : decode cX6_faces 56 = .ok (.iload_n 2, 1) := by decide +kernel
theorem dX6_faces_57 : decode cX6_faces 57 = .ok (.putfield 120, 3) := by decide +kernel
theorem dX6_faces_60 : decode cX6_faces 60 = .ok (.iload 4, 2) := by decide +kernel
theorem dX6_faces_62 : decode cX6_faces 62 = .ok (.ireturn, 1) := by decide +kernel
theorem dX6_does_0 : decode cX6_does 0 = .ok (.aload_n 0, 1) := by decide +kernel
theorem dX6_does_1 : decode cX6_does 1 = .ok (.iload_n 1, 1) := by decide +kernel
theorem dX6_does_2 : decode cX6_does 2 = .ok (.invokevirtual 64, 3) := by decide +kernel
theorem dX6_does_5 : decode cX6_does 5 = .ok (.ifCond .eq 9, 3) := by decide +kernel
theorem dX6_does_8 : decode cX6_does 8 = .ok (.aload_n 0, 1) := by decide +kernel
theorem dX6_does_9 : decode cX6_does 9 = .ok (.iconst (-1), 1) := by decide +kernel
theorem dX6_does_10 : decode cX6_does 10 = .ok (.invokevirtual 56, 3) := by decide +kernel
theorem dX6_does_13 : decode cX6_does 13 = .ok (.ireturn, 1) := by decide +kernel
theorem dX6_does_14 : decode cX6_does 14 = .ok (.iload_n 2, 1) := by decide +kernel
theorem dX6_does_15 : decode cX6_does 15 = .ok (.ifCond .lt 8, 3) := by decide +kernel
theorem dX6_does_18 : decode cX6_does 18 = .ok (.iload_n 2, 1) := by decide +kernel
theorem dX6_does_19 : decode cX6_does 19 = .ok (.iconst 5, 1) := by decide +kernel
theorem dX6_does_20 : decode cX6_does 20 = .ok (.if_icmp .lt 10, 3) := by decide +kernel
theorem dX6_does_23 : decode cX6_does 23 = .ok (.aload_n 0, 1) := by decide +kernel
theorem dX6_does_24 : decode cX6_does 24 = .ok (.bipush (-2), 2) := by decide +kernel
theorem dX6_does_26 : decode cX6_does 26 = .ok (.invokevirtual 56, 3) := by decide +kernel
theorem dX6_does_29 : decode cX6_does 29 = .ok (.ireturn, 1) := by decide +kernel
theorem dX6_does_30 : decode cX6_does 30 = .ok (.aload_n 0, 1) := by decide +kernel
theorem dX6_does_31 : decode cX6_does 31 = .ok (.getfield 22, 3) := by decide +kernel
theorem dX6_does_34 : decode cX6_does 34 = .ok (.aload_n 0, 1) := by decide +kernel
theorem dX6_does_35 : decode cX6_does 35 = .ok (.getfield 10, 3) := by decide +kernel
theorem dX6_does_38 : decode cX6_does 38 = .ok (.invokevirtual 178, 3) := by decide +kernel
theorem dX6_does_41 : decode cX6_does 41 = .ok (.aload_n 0, 1) := by decide +kernel
theorem dX6_does_42 : decode cX6_does 42 = .ok (.getfield 10, 3) := by decide +kernel
theorem dX6_does_45 : decode cX6_does 45 = .ok (.getfield 105, 3) := by decide +kernel
theorem dX6_does_48 : decode cX6_does 48 = .ok (.iload_n 1, 1) := by decide +kernel
theorem dX6_does_49 : decode cX6_does 49 = .ok (.aaload, 1) := by decide +kernel
theorem dX6_does_50 : decode cX6_does 50 = .ok (.getfield 123, 3) := by decide +kernel
theorem dX6_does_53 : decode cX6_does 53 = .ok (.istore_n 3, 1) := by decide +kernel
theorem dX6_does_54 : decode cX6_does 54 = .ok (.aload_n 0, 1) := by decide +kernel
theorem dX6_does_55 : decode cX6_does 55 = .ok (.getfield 10, 3) := by decide +kernel
theorem dX6_does_58 : decode cX6_does 58 = .ok (.getfield 105, 3) := by decide +kernel
theorem dX6_does_61 : decode cX6_does 61 = .ok (.iload_n 1, 1) := by decide +kernel
theorem dX6_does_62 : decode cX6_does 62 = .ok (.aaload, 1) := by decide +kernel
theorem dX6_does_63 : decode cX6_does 63 = .ok (.iload_n 2, 1) := by decide +kernel
theorem dX6_does_64 : decode cX6_does 64 = .ok (.putfield 123, 3) := by decide +kernel
theorem dX6_does_67 : decode cX6_does 67 = .ok (.iload_n 3, 1) := by decide +kernel
theorem dX6_does_68 : decode cX6_does 68 = .ok (.ireturn, 1) := by decide +kernel
theorem dX6_joins_0 : decode cX6_joins 0 = .ok (.aload_n 0, 1) := by decide +kernel
theorem dX6_joins_1 : decode cX6_joins 1 = .ok (.iload_n 1, 1) := by decide +kernel
theorem dX6_joins_2 : decode cX6_joins 2 = .ok (.invokevirtual 64, 3) := by decide +kernel
theorem dX6_joins_5 : decode cX6_joins 5 = .ok (.iload_n 2, 1) := by decide +kernel
theorem dX6_joins_6 : decode cX6_joins 6 = .ok (.iconst 0, 1) := by decide +kernel
theorem dX6_joins_7 : decode cX6_joins 7 = .ok (.bipush 99, 2) := by decide +kernel
theorem dX6_joins_9 : decode cX6_joins 9 = .ok (.invokestatic 68, 3) := by decide +kernel
theorem dX6_joins_12 : decode cX6_joins 12 = .ok (.istore_n 3, 1) := by decide +kernel
theorem dX6_joins_13 : decode cX6_joins 13 = .ok (.iload_n 3, 1) := by decide +kernel
theorem dX6_joins_14 : decode cX6_joins 14 = .ok (.ifCond .eq 9, 3) := by decide +kernel
theorem dX6_joins_17 : decode cX6_joins 17 = .ok (.aload_n 0, 1) := by decide +kernel
theorem dX6_joins_18 : decode cX6_joins 18 = .ok (.iload_n 3, 1) := by decide +kernel
theorem dX6_joins_19 : decode cX6_joins 19 = .ok (.invokevirtual 56, 3) := by decide +kernel
theorem dX6_joins_22 : decode cX6_joins 22 = .ok (.ireturn, 1) := by decide +kernel
theorem dX6_joins_23 : decode cX6_joins 23 = .ok (.aload_n 0, 1) := by decide +kernel
theorem dX6_joins_24 : decode cX6_joins 24 = .ok (.getfield 22, 3) := by decide +kernel
theorem dX6_joins_27 : decode cX6_joins 27 = .ok (.aload_n 0, 1) := by decide +kernel
theorem dX6_joins_28 : decode cX6_joins 28 = .ok (.getfield 10, 3) := by decide +kernel
theorem dX6_joins_31 : decode cX6_joins 31 = .ok (.invokevirtual 178, 3) := by decide +kernel
theorem dX6_joins_34 : decode cX6_joins 34 = .ok (.aload_n 0, 1) := by decide +kernel
theorem dX6_joins_35 : decode cX6_joins 35 = .ok (.getfield 10, 3) := by decide +kernel
theorem dX6_joins_38 : decode cX6_joins 38 = .ok (.getfield 105, 3) := by decide +kernel
theorem dX6_joins_41 : decode cX6_joins 41 = .ok (.iload_n 1, 1) := by decide +kernel
theorem dX6_joins_42 : decode cX6_joins 42 = .ok (.aaload, 1) := by decide +kernel
theorem dX6_joins_43 : decode cX6_joins 43 = .ok (.getfield 126, 3) := by decide +kernel
theorem dX6_joins_46 : decode cX6_joins 46 = .ok (.istore 4, 2) := by decide +kernel
theorem dX6_joins_48 : decode cX6_joins 48 = .ok (.aload_n 0, 1) := by decide +kernel
theorem dX6_joins_49 : decode cX6_joins 49 = .ok (.getfield 10, 3) := by decide +kernel
theorem dX6_joins_52 : decode cX6_joins 52 = .ok (.getfield 105, 3) := by decide +kernel
theorem dX6_joins_55 : decode cX6_joins 55 = .ok (.iload_n 1, 1) := by decide +kernel
theorem dX6_joins_56 : decode cX6_joins 56 = .ok (.aaload, 1) := by decide +kernel
theorem dX6_joins_57 : decode cX6_joins 57 = .ok (.iload_n 2, 1) := by decide +kernel
theorem dX6_joins_58 : decode cX6_joins 58 = .ok (.putfield 126, 3) := by decide +kernel
theorem dX6_joins_61 : decode cX6_joins 61 = .ok (.iload 4, 2) := by decide +kernel
theorem dX6_joins_63 : decode cX6_joins 63 = .ok (.ireturn, 1) := by decide +kernel
theorem dX6_walls_0 : decode cX6_walls 0 = .ok (.iload_n 1, 1) := by decide +kernel
theorem dX6_walls_1 : decode cX6_walls 1 = .ok (.invokestatic 151, 3) := by decide +kernel
theorem dX6_walls_4 : decode cX6_walls 4 = .ok (.iload_n 2, 1) := by decide +kernel
theorem dX6_walls_5 : decode cX6_walls 5 = .ok (.iconst 0, 1) := by decide +kernel
theorem dX6_walls_6 : decode cX6_walls 6 = .ok (.bipush 9, 2) := by decide +kernel
theorem dX6_walls_8 : decode cX6_walls 8 = .ok (.invokestatic 68, 3) := by decide +kernel
theorem dX6_walls_11 : decode cX6_walls 11 = .ok (.istore_n 3, 1) := by decide +kernel
theorem dX6_walls_12 : decode cX6_walls 12 = .ok (.iload_n 3, 1) := by decide +kernel
theorem dX6_walls_13 : decode cX6_walls 13 = .ok (.ifCond .eq 9, 3) := by decide +kernel
theorem dX6_walls_16 : decode cX6_walls 16 = .ok (.aload_n 0, 1) := by decide +kernel
theorem dX6_walls_17 : decode cX6_walls 17 = .ok (.iload_n 3, 1) := by decide +kernel
theorem dX6_walls_18 : decode cX6_walls 18 = .ok (.invokevirtual 56, 3) := by decide +kernel
theorem dX6_walls_21 : decode cX6_walls 21 = .ok (.ireturn, 1) := by decide +kernel
theorem dX6_walls_22 : decode cX6_walls 22 = .ok (.aload_n 0, 1) := by decide +kernel
theorem dX6_walls_23 : decode cX6_walls 23 = .ok (.getfield 22, 3) := by decide +kernel
theorem dX6_walls_26 : decode cX6_walls 26 = .ok (.aload_n 0, 1) := by decide +kernel
theorem dX6_walls_27 : decode cX6_walls 27 = .ok (.getfield 10, 3) := by decide +kernel
theorem dX6_walls_30 : decode cX6_walls 30 = .ok (.invokevirtual 178, 3) := by decide +kernel
theorem dX6_walls_33 : decode cX6_walls 33 = .ok (.aload_n 0, 1) := by decide +kernel
theorem dX6_walls_34 : decode cX6_walls 34 = .ok (.getfield 10, 3) := by decide +kernel
theorem dX6_walls_37 : decode cX6_walls 37 = .ok (.getfield 154, 3) := by decide +kernel
theorem dX6_walls_40 : decode cX6_walls 40 = .ok (.iload_n 1, 1) := by decide +kernel
theorem dX6_walls_41 : decode cX6_walls 41 = .ok (.iaload, 1) := by decide +kernel
theorem dX6_walls_42 : decode cX6_walls 42 = .ok (.istore 4, 2) := by decide +kernel
theorem dX6_walls_44 : decode cX6_walls 44 = .ok (.aload_n 0, 1) := by decide +kernel
theorem dX6_walls_45 : decode cX6_walls 45 = .ok (.getfield 10, 3) := by decide +kernel
theorem dX6_walls_48 : decode cX6_walls 48 = .ok (.getfield 154, 3) := by decide +kernel
theorem dX6_walls_51 : decode cX6_walls 51 = .ok (.iload_n 1, 1) := by decide +kernel
theorem dX6_walls_52 : decode cX6_walls 52 = .ok (.iload_n 2, 1) := by decide +kernel
theorem dX6_walls_53 : decode cX6_walls 53 = .ok (.iastore, 1) := by decide +kernel
theorem dX6_walls_54 : decode cX6_walls 54 = .ok (.iload 4, 2) := by decide +kernel
theorem dX6_walls_56 : decode cX6_walls 56 = .ok (.ireturn, 1) := by decide +kernel
theorem dX6_folk_0 : decode cX6_folk 0 = .ok (.iload_n 1, 1) := by decide +kernel
theorem dX6_folk_1 : decode cX6_folk 1 = .ok (.invokestatic 151, 3) := by decide +kernel
theorem dX6_folk_4 : decode cX6_folk 4 = .ok (.ifCond .eq 9, 3) := by decide +kernel
theorem dX6_folk_7 : decode cX6_folk 7 = .ok (.aload_n 0, 1) := by decide +kernel
theorem dX6_folk_8 : decode cX6_folk 8 = .ok (.iconst (-1), 1) := by decide +kernel
theorem dX6_folk_9 : decode cX6_folk 9 = .ok (.invokevirtual 56, 3) := by decide +kernel
theorem dX6_folk_12 : decode cX6_folk 12 = .ok (.ireturn, 1) := by decide +kernel
theorem dX6_folk_13 : decode cX6_folk 13 = .ok (.iload_n 2, 1) := by decide +kernel
theorem dX6_folk_14 : decode cX6_folk 14 = .ok (.ifCond .lt 7, 3) := by decide +kernel
theorem dX6_folk_17 : decode cX6_folk 17 = .ok (.iload_n 3, 1) := by decide +kernel
theorem dX6_folk_18 : decode cX6_folk 18 = .ok (.ifCond .ge 10, 3) := by decide +kernel
theorem dX6_folk_21 : decode cX6_folk 21 = .ok (.aload_n 0, 1) := by decide +kernel
theorem dX6_folk_22 : decode cX6_folk 22 = .ok (.bipush (-4), 2) := by decide +kernel
theorem dX6_folk_24 : decode cX6_folk 24 = .ok (.invokevirtual 56, 3) := by decide +kernel
theorem dX6_folk_27 : decode cX6_folk 27 = .ok (.ireturn, 1) := by decide +kernel
theorem dX6_folk_28 : decode cX6_folk 28 = .ok (.iload_n 2, 1) := by decide +kernel
theorem dX6_folk_29 : decode cX6_folk 29 = .ok (.bipush 9, 2) := by decide +kernel
theorem dX6_folk_31 : decode cX6_folk 31 = .ok (.if_icmp .gt 9, 3) := by decide +kernel
theorem dX6_folk_34 : decode cX6_folk 34 = .ok (.iload_n 3, 1) := by decide +kernel
theorem dX6_folk_35 : decode cX6_folk 35 = .ok (.bipush 26, 2) := by decide +kernel
theorem dX6_folk_37 : decode cX6_folk 37 = .ok (.if_icmp .lt 10, 3) := by decide +kernel
theorem dX6_folk_40 : decode cX6_folk 40 = .ok (.aload_n 0, 1) := by decide +kernel
theorem dX6_folk_41 : decode cX6_folk 41 = .ok (.bipush (-6), 2) := by decide +kernel
theorem dX6_folk_43 : decode cX6_folk 43 = .ok (.invokevirtual 56, 3) := by decide +kernel
theorem dX6_folk_46 : decode cX6_folk 46 = .ok (.ireturn, 1) := by decide +kernel
theorem dX6_folk_47 : decode cX6_folk 47 = .ok (.aload_n 0, 1) := by decide +kernel
theorem dX6_folk_48 : decode cX6_folk 48 = .ok (.getfield 22, 3) := by decide +kernel
theorem dX6_folk_51 : decode cX6_folk 51 = .ok (.aload_n 0, 1) := by decide +kernel
theorem dX6_folk_52 : decode cX6_folk 52 = .ok (.getfield 10, 3) := by decide +kernel
theorem dX6_folk_55 : decode cX6_folk 55 = .ok (.invokevirtual 178, 3) := by decide +kernel
theorem dX6_folk_58 : decode cX6_folk 58 = .ok (.bipush 10, 2) := by decide +kernel
theorem dX6_folk_60 : decode cX6_folk 60 = .ok (.aload_n 0, 1) := by decide +kernel
theorem dX6_folk_61 : decode cX6_folk 61 = .ok (.getfield 10, 3) := by decide +kernel
theorem dX6_folk_64 : decode cX6_folk 64 = .ok (.getfield 160, 3) := by decide +kernel
theorem dX6_folk_67 : decode cX6_folk 67 = .ok (.iload_n 1, 1) := by decide +kernel
theorem dX6_folk_68 : decode cX6_folk 68 = .ok (.iaload, 1) := by decide +kernel
theorem dX6_folk_69 : decode cX6_folk 69 = .ok (.imul, 1) := by decide +kernel
theorem dX6_folk_70 : decode cX6_folk 70 = .ok (.aload_n 0, 1) := by decide +kernel
theorem dX6_folk_71 : decode cX6_folk 71 = .ok (.getfield 10, 3) := by decide +kernel
theorem dX6_folk_74 : decode cX6_folk 74 = .ok (.getfield 157, 3) := by decide +kernel
theorem dX6_folk_77 : decode cX6_folk 77 = .ok (.iload_n 1, 1) := by decide +kernel
theorem dX6_folk_78 : decode cX6_folk 78 = .ok (.iaload, 1) := by decide +kernel
theorem dX6_folk_79 : decode cX6_folk 79 = .ok (.iadd, 1) := by decide +kernel
theorem dX6_folk_80 : decode cX6_folk 80 = .ok (.istore 4, 2) := by decide +kernel
theorem dX6_folk_82 : decode cX6_folk 82 = .ok (.aload_n 0, 1) := by decide +kernel
theorem dX6_folk_83 : decode cX6_folk 83 = .ok (.getfield 10, 3) := by decide +kernel
theorem dX6_folk_86 : decode cX6_folk 86 = .ok (.getfield 157, 3) := by decide +kernel
theorem dX6_folk_89 : decode cX6_folk 89 = .ok (.iload_n 1, 1) := by decide +kernel
theorem dX6_folk_90 : decode cX6_folk 90 = .ok (.iload_n 2, 1) := by decide +kernel
theorem dX6_folk_91 : decode cX6_folk 91 = .ok (.iastore, 1) := by decide +kernel
theorem dX6_folk_92 : decode cX6_folk 92 = .ok (.aload_n 0, 1) := by decide +kernel
theorem dX6_folk_93 : decode cX6_folk 93 = .ok (.getfield 10, 3) := by decide +kernel
theorem dX6_folk_96 : decode cX6_folk 96 = .ok (.getfield 160, 3) := by decide +kernel
theorem dX6_folk_99 : decode cX6_folk 99 = .ok (.iload_n 1, 1) := by decide +kernel
theorem dX6_folk_100 : decode cX6_folk 100 = .ok (.iload_n 3, 1) := by decide +kernel
theorem dX6_folk_101 : decode cX6_folk 101 = .ok (.iastore, 1) := by decide +kernel
theorem dX6_folk_102 : decode cX6_folk 102 = .ok (.iload 4, 2) := by decide +kernel
theorem dX6_folk_104 : decode cX6_folk 104 = .ok (.ireturn, 1) := by decide +kernel
theorem dX6_nights_0 : decode cX6_nights 0 = .ok (.iload_n 1, 1) := by decide +kernel
theorem dX6_nights_1 : decode cX6_nights 1 = .ok (.iconst 1, 1) := by decide +kernel
theorem dX6_nights_2 : decode cX6_nights 2 = .ok (.if_icmp .ge 10, 3) := by decide +kernel
theorem dX6_nights_5 : decode cX6_nights 5 = .ok (.aload_n 0, 1) := by decide +kernel
theorem dX6_nights_6 : decode cX6_nights 6 = .ok (.bipush (-4), 2) := by decide +kernel
theorem dX6_nights_8 : decode cX6_nights 8 = .ok (.invokevirtual 56, 3) := by decide +kernel
theorem dX6_nights_11 : decode cX6_nights 11 = .ok (.ireturn, 1) := by decide +kernel
theorem dX6_nights_12 : decode cX6_nights 12 = .ok (.iload_n 1, 1) := by decide +kernel
theorem dX6_nights_13 : decode cX6_nights 13 = .ok (.bipush 60, 2) := by decide +kernel
theorem dX6_nights_15 : decode cX6_nights 15 = .ok (.if_icmp .gt 18, 3) := by decide +kernel
theorem dX6_nights_18 : decode cX6_nights 18 = .ok (.aload_n 0, 1) := by decide +kernel
theorem dX6_nights_19 : decode cX6_nights 19 = .ok (.getfield 10, 3) := by decide +kernel
theorem dX6_nights_22 : decode cX6_nights 22 = .ok (.getfield 142, 3) := by decide +kernel
theorem dX6_nights_25 : decode cX6_nights 25 = .ok (.iload_n 1, 1) := by decide +kernel
theorem dX6_nights_26 : decode cX6_nights 26 = .ok (.iadd, 1) := by decide +kernel
theorem dX6_nights_27 : decode cX6_nights 27 = .ok (.sipush 999, 3) := by decide +kernel
theorem dX6_nights_30 : decode cX6_nights 30 = .ok (.if_icmp .le 10, 3) := by decide +kernel
theorem dX6_nights_33 : decode cX6_nights 33 = .ok (.aload_n 0, 1) := by decide +kernel
theorem dX6_nights_34 : decode cX6_nights 34 = .ok (.bipush (-6), 2) := by decide +kernel
theorem dX6_nights_36 : decode cX6_nights 36 = .ok (.invokevirtual 56, 3) := by decide +kernel
theorem dX6_nights_39 : decode cX6_nights 39 = .ok (.ireturn, 1) := by decide +kernel
theorem dX6_nights_40 : decode cX6_nights 40 = .ok (.aload_n 0, 1) := by decide +kernel
theorem dX6_nights_41 : decode cX6_nights 41 = .ok (.getfield 22, 3) := by decide +kernel
theorem dX6_nights_44 : decode cX6_nights 44 = .ok (.aload_n 0, 1) := by decide +kernel
theorem dX6_nights_45 : decode cX6_nights 45 = .ok (.getfield 10, 3) := by decide +kernel
theorem dX6_nights_48 : decode cX6_nights 48 = .ok (.invokevirtual 178, 3) := by decide +kernel
theorem dX6_nights_51 : decode cX6_nights 51 = .ok (.aload_n 0, 1) := by decide +kernel
theorem dX6_nights_52 : decode cX6_nights 52 = .ok (.getfield 10, 3) := by decide +kernel
theorem dX6_nights_55 : decode cX6_nights 55 = .ok (.iload_n 1, 1) := by decide +kernel
theorem dX6_nights_56 : decode cX6_nights 56 = .ok (.invokevirtual 184, 3) := by decide +kernel
theorem dX6_nights_59 : decode cX6_nights 59 = .ok (.aload_n 0, 1) := by decide +kernel
theorem dX6_nights_60 : decode cX6_nights 60 = .ok (.getfield 10, 3) := by decide +kernel
theorem dX6_nights_63 : decode cX6_nights 63 = .ok (.getfield 187, 3) := by decide +kernel
theorem dX6_nights_66 : decode cX6_nights 66 = .ok (.ireturn, 1) := by decide +kernel
theorem dX6_back_0 : decode cX6_back 0 = .ok (.aload_n 0, 1) := by decide +kernel
theorem dX6_back_1 : decode cX6_back 1 = .ok (.getfield 22, 3) := by decide +kernel
theorem dX6_back_4 : decode cX6_back 4 = .ok (.getfield 190, 3) := by decide +kernel
theorem dX6_back_7 : decode cX6_back 7 = .ok (.ifCond .ne 10, 3) := by decide +kernel
theorem dX6_back_10 : decode cX6_back 10 = .ok (.aload_n 0, 1) := by decide +kernel
theorem dX6_back_11 : decode cX6_back 11 = .ok (.bipush (-3), 2) := by decide +kernel
theorem dX6_back_13 : decode cX6_back 13 = .ok (.invokevirtual 56, 3) := by decide +kernel
theorem dX6_back_16 : decode cX6_back 16 = .ok (.ireturn, 1) := by decide +kernel
theorem dX6_back_17 : decode cX6_back 17 = .ok (.aload_n 0, 1) := by decide +kernel
theorem dX6_back_18 : decode cX6_back 18 = .ok (.getfield 22, 3) := by decide +kernel
theorem dX6_back_21 : decode cX6_back 21 = .ok (.aload_n 0, 1) := by decide +kernel
theorem dX6_back_22 : decode cX6_back 22 = .ok (.getfield 10, 3) := by decide +kernel
theorem dX6_back_25 : decode cX6_back 25 = .ok (.invokevirtual 191, 3) := by decide +kernel
theorem dX6_back_28 : decode cX6_back 28 = .ok (.aload_n 0, 1) := by decide +kernel
theorem dX6_back_29 : decode cX6_back 29 = .ok (.getfield 22, 3) := by decide +kernel
theorem dX6_back_32 : decode cX6_back 32 = .ok (.getfield 190, 3) := by decide +kernel
theorem dX6_back_35 : decode cX6_back 35 = .ok (.ireturn, 1) := by decide +kernel
theorem dX6_headThen_0 : decode cX6_headThen 0 = .ok (.aload_n 0, 1) := by decide +kernel
theorem dX6_headThen_1 : decode cX6_headThen 1 = .ok (.iload_n 1, 1) := by decide +kernel
theorem dX6_headThen_2 : decode cX6_headThen 2 = .ok (.invokevirtual 64, 3) := by decide +kernel
theorem dX6_headThen_5 : decode cX6_headThen 5 = .ok (.iload_n 2, 1) := by decide +kernel
theorem dX6_headThen_6 : decode cX6_headThen 6 = .ok (.iconst 0, 1) := by decide +kernel
theorem dX6_headThen_7 : decode cX6_headThen 7 = .ok (.bipush 60, 2) := by decide +kernel
theorem dX6_headThen_9 : decode cX6_headThen 9 = .ok (.iload_n 3, 1) := by decide +kernel
theorem dX6_headThen_10 : decode cX6_headThen 10 = .ok (.iconst 3, 1) := by decide +kernel
theorem dX6_headThen_11 : decode cX6_headThen 11 = .ok (.invokestatic 194, 3) := by decide +kernel
theorem dX6_headThen_14 : decode cX6_headThen 14 = .ok (.istore 4, 2) := by decide +kernel
theorem dX6_headThen_16 : decode cX6_headThen 16 = .ok (.iload 4, 2) := by decide +kernel
theorem dX6_headThen_18 : decode cX6_headThen 18 = .ok (.ifCond .eq 10, 3) := by decide +kernel
theorem dX6_headThen_21 : decode cX6_headThen 21 = .ok (.aload_n 0, 1) := by decide +kernel
theorem dX6_headThen_22 : decode cX6_headThen 22 = .ok (.iload 4, 2) := by decide +kernel
theorem dX6_headThen_24 : decode cX6_headThen 24 = .ok (.invokevirtual 56, 3) := by decide +kernel
theorem dX6_headThen_27 : decode cX6_headThen 27 = .ok (.ireturn, 1) := by decide +kernel
theorem dX6_headThen_28 : decode cX6_headThen 28 = .ok (.aload_n 0, 1) := by decide +kernel
theorem dX6_headThen_29 : decode cX6_headThen 29 = .ok (.getfield 36, 3) := by decide +kernel
theorem dX6_headThen_32 : decode cX6_headThen 32 = .ok (.aload_n 0, 1) := by decide +kernel
theorem dX6_headThen_33 : decode cX6_headThen 33 = .ok (.getfield 10, 3) := by decide +kernel
theorem dX6_headThen_36 : decode cX6_headThen 36 = .ok (.iload_n 2, 1) := by decide +kernel
theorem dX6_headThen_37 : decode cX6_headThen 37 = .ok (.invokevirtual 198, 3) := by decide +kernel
theorem dX6_headThen_40 : decode cX6_headThen 40 = .ok (.getfield 105, 3) := by decide +kernel
theorem dX6_headThen_43 : decode cX6_headThen 43 = .ok (.iload_n 1, 1) := by decide +kernel
theorem dX6_headThen_44 : decode cX6_headThen 44 = .ok (.aaload, 1) := by decide +kernel
theorem dX6_headThen_45 : decode cX6_headThen 45 = .ok (.astore 5, 2) := by decide +kernel
theorem dX6_headThen_47 : decode cX6_headThen 47 = .ok (.iload_n 3, 1) := by decide +kernel
theorem dX6_headThen_48 : decode cX6_headThen 48 = .ok (.tableswitch 46 0 2 #[28, 34, 40], 28) := by decide +kernel
theorem dX6_headThen_76 : decode cX6_headThen 76 = .ok (.aload 5, 2) := by decide +kernel
theorem dX6_headThen_78 : decode cX6_headThen 78 = .ok (.getfield 117, 3) := by decide +kernel
theorem dX6_headThen_81 : decode cX6_headThen 81 = .ok (.ireturn, 1) := by decide +kernel
theorem dX6_headThen_82 : decode cX6_headThen 82 = .ok (.aload 5, 2) := by decide +kernel
theorem dX6_headThen_84 : decode cX6_headThen 84 = .ok (.getfield 120, 3) := by decide +kernel
theorem dX6_headThen_87 : decode cX6_headThen 87 = .ok (.ireturn, 1) := by decide +kernel
theorem dX6_headThen_88 : decode cX6_headThen 88 = .ok (.aload 5, 2) := by decide +kernel
theorem dX6_headThen_90 : decode cX6_headThen 90 = .ok (.getfield 126, 3) := by decide +kernel
theorem dX6_headThen_93 : decode cX6_headThen 93 = .ok (.ireturn, 1) := by decide +kernel
theorem dX6_headThen_94 : decode cX6_headThen 94 = .ok (.aload 5, 2) := by decide +kernel
theorem dX6_headThen_96 : decode cX6_headThen 96 = .ok (.getfield 129, 3) := by decide +kernel
theorem dX6_headThen_99 : decode cX6_headThen 99 = .ok (.ifCond .eq 7, 3) := by decide +kernel
theorem dX6_headThen_102 : decode cX6_headThen 102 = .ok (.iconst 1, 1) := by decide +kernel
theorem dX6_headThen_103 : decode cX6_headThen 103 = .ok (.goto 4, 3) := by decide +kernel
theorem dX6_headThen_106 : decode cX6_headThen 106 = .ok (.iconst 0, 1) := by decide +kernel
theorem dX6_headThen_107 : decode cX6_headThen 107 = .ok (.ireturn, 1) := by decide +kernel
theorem dX6_then_0 : decode cX6_then 0 = .ok (.iconst 0, 1) := by decide +kernel
theorem dX6_then_1 : decode cX6_then 1 = .ok (.iload_n 1, 1) := by decide +kernel
theorem dX6_then_2 : decode cX6_then 2 = .ok (.iconst 0, 1) := by decide +kernel
theorem dX6_then_3 : decode cX6_then 3 = .ok (.bipush 60, 2) := by decide +kernel
theorem dX6_then_5 : decode cX6_then 5 = .ok (.iload_n 2, 1) := by decide +kernel
theorem dX6_then_6 : decode cX6_then 6 = .ok (.iconst 3, 1) := by decide +kernel
theorem dX6_then_7 : decode cX6_then 7 = .ok (.invokestatic 194, 3) := by decide +kernel
theorem dX6_then_10 : decode cX6_then 10 = .ok (.istore_n 3, 1) := by decide +kernel
theorem dX6_then_11 : decode cX6_then 11 = .ok (.iload_n 3, 1) := by decide +kernel
theorem dX6_then_12 : decode cX6_then 12 = .ok (.ifCond .eq 9, 3) := by decide +kernel
theorem dX6_then_15 : decode cX6_then 15 = .ok (.aload_n 0, 1) := by decide +kernel
theorem dX6_then_16 : decode cX6_then 16 = .ok (.iload_n 3, 1) := by decide +kernel
theorem dX6_then_17 : decode cX6_then 17 = .ok (.invokevirtual 56, 3) := by decide +kernel
theorem dX6_then_20 : decode cX6_then 20 = .ok (.ireturn, 1) := by decide +kernel
theorem dX6_then_21 : decode cX6_then 21 = .ok (.aload_n 0, 1) := by decide +kernel
theorem dX6_then_22 : decode cX6_then 22 = .ok (.getfield 36, 3) := by decide +kernel
theorem dX6_then_25 : decode cX6_then 25 = .ok (.aload_n 0, 1) := by decide +kernel
theorem dX6_then_26 : decode cX6_then 26 = .ok (.getfield 10, 3) := by decide +kernel
theorem dX6_then_29 : decode cX6_then 29 = .ok (.iload_n 1, 1) := by decide +kernel
theorem dX6_then_30 : decode cX6_then 30 = .ok (.invokevirtual 198, 3) := by decide +kernel
theorem dX6_then_33 : decode cX6_then 33 = .ok (.astore 4, 2) := by decide +kernel
theorem dX6_then_35 : decode cX6_then 35 = .ok (.iload_n 2, 1) := by decide +kernel
theorem dX6_then_36 : decode cX6_then 36 = .ok (.tableswitch 46 0 2 #[28, 34, 40], 28) := by decide +kernel
theorem dX6_then_64 : decode cX6_then 64 = .ok (.aload 4, 2) := by decide +kernel
theorem dX6_then_66 : decode cX6_then 66 = .ok (.getfield 187, 3) := by decide +kernel
theorem dX6_then_69 : decode cX6_then 69 = .ok (.ireturn, 1) := by decide +kernel
theorem dX6_then_70 : decode cX6_then 70 = .ok (.aload 4, 2) := by decide +kernel
theorem dX6_then_72 : decode cX6_then 72 = .ok (.invokevirtual 202, 3) := by decide +kernel
theorem dX6_then_75 : decode cX6_then 75 = .ok (.ireturn, 1) := by decide +kernel
theorem dX6_then_76 : decode cX6_then 76 = .ok (.aload 4, 2) := by decide +kernel
theorem dX6_then_78 : decode cX6_then 78 = .ok (.invokevirtual 205, 3) := by decide +kernel
theorem dX6_then_81 : decode cX6_then 81 = .ok (.ireturn, 1) := by decide +kernel
theorem dX6_then_82 : decode cX6_then 82 = .ok (.aload 4, 2) := by decide +kernel
theorem dX6_then_84 : decode cX6_then 84 = .ok (.invokevirtual 208, 3) := by decide +kernel
theorem dX6_then_87 : decode cX6_then 87 = .ok (.ireturn, 1) := by decide +kernel
theorem dX6_when_0 : decode cX6_when 0 = .ok (.aload_n 0, 1) := by decide +kernel
theorem dX6_when_1 : decode cX6_when 1 = .ok (.iload_n 1, 1) := by decide +kernel
theorem dX6_when_2 : decode cX6_when 2 = .ok (.invokevirtual 64, 3) := by decide +kernel
theorem dX6_when_5 : decode cX6_when 5 = .ok (.ifCond .ne 10, 3) := by decide +kernel
theorem dX6_when_8 : decode cX6_when 8 = .ok (.iload_n 2, 1) := by decide +kernel
theorem dX6_when_9 : decode cX6_when 9 = .ok (.invokestatic 151, 3) := by decide +kernel
theorem dX6_when_12 : decode cX6_when 12 = .ok (.ifCond .eq 9, 3) := by decide +kernel
theorem dX6_when_15 : decode cX6_when 15 = .ok (.aload_n 0, 1) := by decide +kernel
theorem dX6_when_16 : decode cX6_when 16 = .ok (.iconst (-1), 1) := by decide +kernel
theorem dX6_when_17 : decode cX6_when 17 = .ok (.invokevirtual 56, 3) := by decide +kernel
theorem dX6_when_20 : decode cX6_when 20 = .ok (.ireturn, 1) := by decide +kernel
theorem dX6_when_21 : decode cX6_when 21 = .ok (.aload_n 0, 1) := by decide +kernel
theorem dX6_when_22 : decode cX6_when 22 = .ok (.getfield 36, 3) := by decide +kernel
theorem dX6_when_25 : decode cX6_when 25 = .ok (.aload_n 0, 1) := by decide +kernel
theorem dX6_when_26 : decode cX6_when 26 = .ok (.getfield 10, 3) := by decide +kernel
theorem dX6_when_29 : decode cX6_when 29 = .ok (.iload_n 1, 1) := by decide +kernel
theorem dX6_when_30 : decode cX6_when 30 = .ok (.iload_n 2, 1) := by decide +kernel
theorem dX6_when_31 : decode cX6_when 31 = .ok (.invokevirtual 211, 3) := by decide +kernel
theorem dX6_when_34 : decode cX6_when 34 = .ok (.ireturn, 1) := by decide +kernel
theorem dX6_settles_0 : decode cX6_settles 0 = .ok (.iload_n 1, 1) := by decide +kernel
theorem dX6_settles_1 : decode cX6_settles 1 = .ok (.iconst (-1), 1) := by decide +kernel
theorem dX6_settles_2 : decode cX6_settles 2 = .ok (.if_icmp .ne 15, 3) := by decide +kernel
theorem dX6_settles_5 : decode cX6_settles 5 = .ok (.aload_n 0, 1) := by decide +kernel
theorem dX6_settles_6 : decode cX6_settles 6 = .ok (.getfield 36, 3) := by decide +kernel
theorem dX6_settles_9 : decode cX6_settles 9 = .ok (.aload_n 0, 1) := by decide +kernel
theorem dX6_settles_10 : decode cX6_settles 10 = .ok (.getfield 10, 3) := by decide +kernel
theorem dX6_settles_13 : decode cX6_settles 13 = .ok (.invokevirtual 215, 3) := by decide +kernel
theorem dX6_settles_16 : decode cX6_settles 16 = .ok (.ireturn, 1) := by decide +kernel
theorem dX6_settles_17 : decode cX6_settles 17 = .ok (.aload_n 0, 1) := by decide +kernel
theorem dX6_settles_18 : decode cX6_settles 18 = .ok (.iload_n 1, 1) := by decide +kernel
theorem dX6_settles_19 : decode cX6_settles 19 = .ok (.invokevirtual 64, 3) := by decide +kernel
theorem dX6_settles_22 : decode cX6_settles 22 = .ok (.ifCond .eq 9, 3) := by decide +kernel
theorem dX6_settles_25 : decode cX6_settles 25 = .ok (.aload_n 0, 1) := by decide +kernel
theorem dX6_settles_26 : decode cX6_settles 26 = .ok (.iconst (-1), 1) := by decide +kernel
theorem dX6_settles_27 : decode cX6_settles 27 = .ok (.invokevirtual 56, 3) := by decide +kernel
theorem dX6_settles_30 : decode cX6_settles 30 = .ok (.ireturn, 1) := by decide +kernel
theorem dX6_settles_31 : decode cX6_settles 31 = .ok (.aload_n 0, 1) := by decide +kernel
theorem dX6_settles_32 : decode cX6_settles 32 = .ok (.getfield 36, 3) := by decide +kernel
theorem dX6_settles_35 : decode cX6_settles 35 = .ok (.aload_n 0, 1) := by decide +kernel
theorem dX6_settles_36 : decode cX6_settles 36 = .ok (.getfield 10, 3) := by decide +kernel
theorem dX6_settles_39 : decode cX6_settles 39 = .ok (.iload_n 1, 1) := by decide +kernel
theorem dX6_settles_40 : decode cX6_settles 40 = .ok (.invokevirtual 219, 3) := by decide +kernel
theorem dX6_settles_43 : decode cX6_settles 43 = .ok (.ireturn, 1) := by decide +kernel
theorem dX6_meeting_0 : decode cX6_meeting 0 = .ok (.aload_n 0, 1) := by decide +kernel
theorem dX6_meeting_1 : decode cX6_meeting 1 = .ok (.iload_n 1, 1) := by decide +kernel
theorem dX6_meeting_2 : decode cX6_meeting 2 = .ok (.iload_n 2, 1) := by decide +kernel
theorem dX6_meeting_3 : decode cX6_meeting 3 = .ok (.invokevirtual 223, 3) := by decide +kernel
theorem dX6_meeting_6 : decode cX6_meeting 6 = .ok (.ifCond .eq 9, 3) := by decide +kernel
theorem dX6_meeting_9 : decode cX6_meeting 9 = .ok (.aload_n 0, 1) := by decide +kernel
theorem dX6_meeting_10 : decode cX6_meeting 10 = .ok (.iconst (-1), 1) := by decide +kernel
theorem dX6_meeting_11 : decode cX6_meeting 11 = .ok (.invokevirtual 56, 3) := by decide +kernel
theorem dX6_meeting_14 : decode cX6_meeting 14 = .ok (.ireturn, 1) := by decide +kernel
theorem dX6_meeting_15 : decode cX6_meeting 15 = .ok (.aload_n 0, 1) := by decide +kernel
theorem dX6_meeting_16 : decode cX6_meeting 16 = .ok (.getfield 36, 3) := by decide +kernel
theorem dX6_meeting_19 : decode cX6_meeting 19 = .ok (.aload_n 0, 1) := by decide +kernel
theorem dX6_meeting_20 : decode cX6_meeting 20 = .ok (.getfield 10, 3) := by decide +kernel
theorem dX6_meeting_23 : decode cX6_meeting 23 = .ok (.iload_n 1, 1) := by decide +kernel
theorem dX6_meeting_24 : decode cX6_meeting 24 = .ok (.iload_n 2, 1) := by decide +kernel
theorem dX6_meeting_25 : decode cX6_meeting 25 = .ok (.invokevirtual 227, 3) := by decide +kernel
theorem dX6_meeting_28 : decode cX6_meeting 28 = .ok (.ireturn, 1) := by decide +kernel
theorem dX6_bestWord_0 : decode cX6_bestWord 0 = .ok (.aload_n 0, 1) := by decide +kernel
theorem dX6_bestWord_1 : decode cX6_bestWord 1 = .ok (.iload_n 1, 1) := by decide +kernel
theorem dX6_bestWord_2 : decode cX6_bestWord 2 = .ok (.invokevirtual 64, 3) := by decide +kernel
theorem dX6_bestWord_5 : decode cX6_bestWord 5 = .ok (.iload_n 2, 1) := by decide +kernel
theorem dX6_bestWord_6 : decode cX6_bestWord 6 = .ok (.iconst 0, 1) := by decide +kernel
theorem dX6_bestWord_7 : decode cX6_bestWord 7 = .ok (.bipush 60, 2) := by decide +kernel
theorem dX6_bestWord_9 : decode cX6_bestWord 9 = .ok (.iload_n 3, 1) := by decide +kernel
theorem dX6_bestWord_10 : decode cX6_bestWord 10 = .ok (.iconst 1, 1) := by decide +kernel
theorem dX6_bestWord_11 : decode cX6_bestWord 11 = .ok (.invokestatic 194, 3) := by decide +kernel
theorem dX6_bestWord_14 : decode cX6_bestWord 14 = .ok (.istore 4, 2) := by decide +kernel
theorem dX6_bestWord_16 : decode cX6_bestWord 16 = .ok (.iload 4, 2) := by decide +kernel
theorem dX6_bestWord_18 : decode cX6_bestWord 18 = .ok (.ifCond .eq 10, 3) := by decide +kernel
theorem dX6_bestWord_21 : decode cX6_bestWord 21 = .ok (.aload_n 0, 1) := by decide +kernel
theorem dX6_bestWord_22 : decode cX6_bestWord 22 = .ok (.iload 4, 2) := by decide +kernel
theorem dX6_bestWord_24 : decode cX6_bestWord 24 = .ok (.invokevirtual 56, 3) := by decide +kernel
theorem dX6_bestWord_27 : decode cX6_bestWord 27 = .ok (.ireturn, 1) := by decide +kernel
theorem dX6_bestWord_28 : decode cX6_bestWord 28 = .ok (.aload_n 0, 1) := by decide +kernel
theorem dX6_bestWord_29 : decode cX6_bestWord 29 = .ok (.getfield 36, 3) := by decide +kernel
theorem dX6_bestWord_32 : decode cX6_bestWord 32 = .ok (.aload_n 0, 1) := by decide +kernel
theorem dX6_bestWord_33 : decode cX6_bestWord 33 = .ok (.getfield 10, 3) := by decide +kernel
theorem dX6_bestWord_36 : decode cX6_bestWord 36 = .ok (.iload_n 1, 1) := by decide +kernel
theorem dX6_bestWord_37 : decode cX6_bestWord 37 = .ok (.iload_n 2, 1) := by decide +kernel
theorem dX6_bestWord_38 : decode cX6_bestWord 38 = .ok (.iconst 2, 1) := by decide +kernel
theorem dX6_bestWord_39 : decode cX6_bestWord 39 = .ok (.iload_n 3, 1) := by decide +kernel
theorem dX6_bestWord_40 : decode cX6_bestWord 40 = .ok (.iconst 1, 1) := by decide +kernel
theorem dX6_bestWord_41 : decode cX6_bestWord 41 = .ok (.if_icmp .ne 7, 3) := by decide +kernel
theorem dX6_bestWord_44 : decode cX6_bestWord 44 = .ok (.iconst 1, 1) := by decide +kernel
theorem dX6_bestWord_45 : decode cX6_bestWord 45 = .ok (.goto 4, 3) := by decide +kernel
theorem dX6_bestWord_48 : decode cX6_bestWord 48 = .ok (.iconst 0, 1) := by decide +kernel
theorem dX6_bestWord_49 : decode cX6_bestWord 49 = .ok (.invokevirtual 230, 3) := by decide +kernel
theorem dX6_bestWord_52 : decode cX6_bestWord 52 = .ok (.ireturn, 1) := by decide +kernel
theorem dX6_bestLetter_0 : decode cX6_bestLetter 0 = .ok (.aload_n 0, 1) := by decide +kernel
theorem dX6_bestLetter_1 : decode cX6_bestLetter 1 = .ok (.iload_n 1, 1) := by decide +kernel
theorem dX6_bestLetter_2 : decode cX6_bestLetter 2 = .ok (.invokevirtual 64, 3) := by decide +kernel
theorem dX6_bestLetter_5 : decode cX6_bestLetter 5 = .ok (.iload_n 2, 1) := by decide +kernel
theorem dX6_bestLetter_6 : decode cX6_bestLetter 6 = .ok (.iconst 0, 1) := by decide +kernel
theorem dX6_bestLetter_7 : decode cX6_bestLetter 7 = .ok (.bipush 30, 2) := by decide +kernel
theorem dX6_bestLetter_9 : decode cX6_bestLetter 9 = .ok (.iload_n 3, 1) := by decide +kernel
theorem dX6_bestLetter_10 : decode cX6_bestLetter 10 = .ok (.iconst 1, 1) := by decide +kernel
theorem dX6_bestLetter_11 : decode cX6_bestLetter 11 = .ok (.invokestatic 194, 3) := by decide +kernel
theorem dX6_bestLetter_14 : decode cX6_bestLetter 14 = .ok (.istore 4, 2) := by decide +kernel
theorem dX6_bestLetter_16 : decode cX6_bestLetter 16 = .ok (.iload 4, 2) := by decide +kernel
theorem dX6_bestLetter_18 : decode cX6_bestLetter 18 = .ok (.ifCond .eq 10, 3) := by decide +kernel
theorem dX6_bestLetter_21 : decode cX6_bestLetter 21 = .ok (.aload_n 0, 1) := by decide +kernel
theorem dX6_bestLetter_22 : decode cX6_bestLetter 22 = .ok (.iload 4, 2) := by decide +kernel
theorem dX6_bestLetter_24 : decode cX6_bestLetter 24 = .ok (.invokevirtual 56, 3) := by decide +kernel
theorem dX6_bestLetter_27 : decode cX6_bestLetter 27 = .ok (.ireturn, 1) := by decide +kernel
theorem dX6_bestLetter_28 : decode cX6_bestLetter 28 = .ok (.aload_n 0, 1) := by decide +kernel
theorem dX6_bestLetter_29 : decode cX6_bestLetter 29 = .ok (.getfield 10, 3) := by decide +kernel
theorem dX6_bestLetter_32 : decode cX6_bestLetter 32 = .ok (.getfield 105, 3) := by decide +kernel
theorem dX6_bestLetter_35 : decode cX6_bestLetter 35 = .ok (.iload_n 1, 1) := by decide +kernel
theorem dX6_bestLetter_36 : decode cX6_bestLetter 36 = .ok (.aaload, 1) := by decide +kernel
theorem dX6_bestLetter_37 : decode cX6_bestLetter 37 = .ok (.invokevirtual 175, 3) := by decide +kernel
theorem dX6_bestLetter_40 : decode cX6_bestLetter 40 = .ok (.ifCond .eq 6, 3) := by decide +kernel
theorem dX6_bestLetter_43 : decode cX6_bestLetter 43 = .ok (.bipush (-9), 2) := by decide +kernel
theorem dX6_bestLetter_45 : decode cX6_bestLetter 45 = .ok (.ireturn, 1) := by decide +kernel
theorem dX6_bestLetter_46 : decode cX6_bestLetter 46 = .ok (.aload_n 0, 1) := by decide +kernel
theorem dX6_bestLetter_47 : decode cX6_bestLetter 47 = .ok (.getfield 36, 3) := by decide +kernel
theorem dX6_bestLetter_50 : decode cX6_bestLetter 50 = .ok (.aload_n 0, 1) := by decide +kernel
theorem dX6_bestLetter_51 : decode cX6_bestLetter 51 = .ok (.getfield 10, 3) := by decide +kernel
theorem dX6_bestLetter_54 : decode cX6_bestLetter 54 = .ok (.iload_n 1, 1) := by decide +kernel
theorem dX6_bestLetter_55 : decode cX6_bestLetter 55 = .ok (.iload_n 2, 1) := by decide +kernel
theorem dX6_bestLetter_56 : decode cX6_bestLetter 56 = .ok (.iconst 3, 1) := by decide +kernel
theorem dX6_bestLetter_57 : decode cX6_bestLetter 57 = .ok (.iload_n 3, 1) := by decide +kernel
theorem dX6_bestLetter_58 : decode cX6_bestLetter 58 = .ok (.iconst 1, 1) := by decide +kernel
theorem dX6_bestLetter_59 : decode cX6_bestLetter 59 = .ok (.if_icmp .ne 7, 3) := by decide +kernel
theorem dX6_bestLetter_62 : decode cX6_bestLetter 62 = .ok (.iconst 1, 1) := by decide +kernel
theorem dX6_bestLetter_63 : decode cX6_bestLetter 63 = .ok (.goto 4, 3) := by decide +kernel
theorem dX6_bestLetter_66 : decode cX6_bestLetter 66 = .ok (.iconst 0, 1) := by decide +kernel
theorem dX6_bestLetter_67 : decode cX6_bestLetter 67 = .ok (.invokevirtual 230, 3) := by decide +kernel
theorem dX6_bestLetter_70 : decode cX6_bestLetter 70 = .ok (.ireturn, 1) := by decide +kernel
theorem dX6_holds_0 : decode cX6_holds 0 = .ok (.aload_n 0, 1) := by decide +kernel
theorem dX6_holds_1 : decode cX6_holds 1 = .ok (.iload_n 1, 1) := by decide +kernel
theorem dX6_holds_2 : decode cX6_holds 2 = .ok (.invokevirtual 64, 3) := by decide +kernel
theorem dX6_holds_5 : decode cX6_holds 5 = .ok (.ifCond .ne 10, 3) := by decide +kernel
theorem dX6_holds_8 : decode cX6_holds 8 = .ok (.iload_n 2, 1) := by decide +kernel
theorem dX6_holds_9 : decode cX6_holds 9 = .ok (.invokestatic 151, 3) := by decide +kernel
theorem dX6_holds_12 : decode cX6_holds 12 = .ok (.ifCond .eq 7, 3) := by decide +kernel
theorem dX6_holds_15 : decode cX6_holds 15 = .ok (.iconst 1, 1) := by decide +kernel
theorem dX6_holds_16 : decode cX6_holds 16 = .ok (.goto 4, 3) := by decide +kernel
theorem dX6_holds_19 : decode cX6_holds 19 = .ok (.iconst 0, 1) := by decide +kernel
theorem dX6_holds_20 : decode cX6_holds 20 = .ok (.iload_n 3, 1) := by decide +kernel
theorem dX6_holds_21 : decode cX6_holds 21 = .ok (.iconst 1, 1) := by decide +kernel
theorem dX6_holds_22 : decode cX6_holds 22 = .ok (.bipush 60, 2) := by decide +kernel
theorem dX6_holds_24 : decode cX6_holds 24 = .ok (.invokestatic 68, 3) := by decide +kernel
theorem dX6_holds_27 : decode cX6_holds 27 = .ok (.istore 4, 2) := by decide +kernel
theorem dX6_holds_29 : decode cX6_holds 29 = .ok (.iload 4, 2) := by decide +kernel
theorem dX6_holds_31 : decode cX6_holds 31 = .ok (.ifCond .eq 10, 3) := by decide +kernel
theorem dX6_holds_34 : decode cX6_holds 34 = .ok (.aload_n 0, 1) := by decide +kernel
theorem dX6_holds_35 : decode cX6_holds 35 = .ok (.iload 4, 2) := by decide +kernel
theorem dX6_holds_37 : decode cX6_holds 37 = .ok (.invokevirtual 56, 3) := by decide +kernel
theorem dX6_holds_40 : decode cX6_holds 40 = .ok (.ireturn, 1) := by decide +kernel
theorem dX6_holds_41 : decode cX6_holds 41 = .ok (.aload_n 0, 1) := by decide +kernel
theorem dX6_holds_42 : decode cX6_holds 42 = .ok (.getfield 36, 3) := by decide +kernel
theorem dX6_holds_45 : decode cX6_holds 45 = .ok (.aload_n 0, 1) := by decide +kernel
theorem dX6_holds_46 : decode cX6_holds 46 = .ok (.getfield 10, 3) := by decide +kernel
theorem dX6_holds_49 : decode cX6_holds 49 = .ok (.iload_n 1, 1) := by decide +kernel
theorem dX6_holds_50 : decode cX6_holds 50 = .ok (.iload_n 2, 1) := by decide +kernel
theorem dX6_holds_51 : decode cX6_holds 51 = .ok (.iload_n 3, 1) := by decide +kernel
theorem dX6_holds_52 : decode cX6_holds 52 = .ok (.invokevirtual 234, 3) := by decide +kernel
theorem dX6_holds_55 : decode cX6_holds 55 = .ok (.ireturn, 1) := by decide +kernel
theorem dX6_wallFor_0 : decode cX6_wallFor 0 = .ok (.aload_n 0, 1) := by decide +kernel
theorem dX6_wallFor_1 : decode cX6_wallFor 1 = .ok (.iload_n 1, 1) := by decide +kernel
theorem dX6_wallFor_2 : decode cX6_wallFor 2 = .ok (.invokevirtual 64, 3) := by decide +kernel
theorem dX6_wallFor_5 : decode cX6_wallFor 5 = .ok (.ifCond .ne 10, 3) := by decide +kernel
theorem dX6_wallFor_8 : decode cX6_wallFor 8 = .ok (.iload_n 2, 1) := by decide +kernel
theorem dX6_wallFor_9 : decode cX6_wallFor 9 = .ok (.invokestatic 151, 3) := by decide +kernel
theorem dX6_wallFor_12 : decode cX6_wallFor 12 = .ok (.ifCond .eq 7, 3) := by decide +kernel
theorem dX6_wallFor_15 : decode cX6_wallFor 15 = .ok (.iconst 1, 1) := by decide +kernel
theorem dX6_wallFor_16 : decode cX6_wallFor 16 = .ok (.goto 4, 3) := by decide +kernel
theorem dX6_wallFor_19 : decode cX6_wallFor 19 = .ok (.iconst 0, 1) := by decide +kernel
theorem dX6_wallFor_20 : decode cX6_wallFor 20 = .ok (.iload_n 3, 1) := by decide +kernel
theorem dX6_wallFor_21 : decode cX6_wallFor 21 = .ok (.iconst 0, 1) := by decide +kernel
theorem dX6_wallFor_22 : decode cX6_wallFor 22 = .ok (.bipush 30, 2) := by decide +kernel
theorem dX6_wallFor_24 : decode cX6_wallFor 24 = .ok (.invokestatic 68, 3) := by decide +kernel
theorem dX6_wallFor_27 : decode cX6_wallFor 27 = .ok (.istore 4, 2) := by decide +kernel
theorem dX6_wallFor_29 : decode cX6_wallFor 29 = .ok (.iload 4, 2) := by decide +kernel
theorem dX6_wallFor_31 : decode cX6_wallFor 31 = .ok (.ifCond .eq 10, 3) := by decide +kernel
theorem dX6_wallFor_34 : decode cX6_wallFor 34 = .ok (.aload_n 0, 1) := by decide +kernel
theorem dX6_wallFor_35 : decode cX6_wallFor 35 = .ok (.iload 4, 2) := by decide +kernel
theorem dX6_wallFor_37 : decode cX6_wallFor 37 = .ok (.invokevirtual 56, 3) := by decide +kernel
theorem dX6_wallFor_40 : decode cX6_wallFor 40 = .ok (.ireturn, 1) := by decide +kernel
theorem dX6_wallFor_41 : decode cX6_wallFor 41 = .ok (.aload_n 0, 1) := by decide +kernel
theorem dX6_wallFor_42 : decode cX6_wallFor 42 = .ok (.getfield 36, 3) := by decide +kernel
theorem dX6_wallFor_45 : decode cX6_wallFor 45 = .ok (.aload_n 0, 1) := by decide +kernel
theorem dX6_wallFor_46 : decode cX6_wallFor 46 = .ok (.getfield 10, 3) := by decide +kernel
theorem dX6_wallFor_49 : decode cX6_wallFor 49 = .ok (.iload_n 1, 1) := by decide +kernel
theorem dX6_wallFor_50 : decode cX6_wallFor 50 = .ok (.iload_n 2, 1) := by decide +kernel
theorem dX6_wallFor_51 : decode cX6_wallFor 51 = .ok (.iload_n 3, 1) := by decide +kernel
theorem dX6_wallFor_52 : decode cX6_wallFor 52 = .ok (.invokevirtual 238, 3) := by decide +kernel
theorem dX6_wallFor_55 : decode cX6_wallFor 55 = .ok (.ireturn, 1) := by decide +kernel
theorem dX6_names_0 : decode cX6_names 0 = .ok (.iconst 0, 1) := by decide +kernel
theorem dX6_names_1 : decode cX6_names 1 = .ok (.iload_n 1, 1) := by decide +kernel
theorem dX6_names_2 : decode cX6_names 2 = .ok (.iconst 0, 1) := by decide +kernel
theorem dX6_names_3 : decode cX6_names 3 = .ok (.bipush 30, 2) := by decide +kernel
theorem dX6_names_5 : decode cX6_names 5 = .ok (.invokestatic 68, 3) := by decide +kernel
theorem dX6_names_8 : decode cX6_names 8 = .ok (.istore_n 2, 1) := by decide +kernel
theorem dX6_names_9 : decode cX6_names 9 = .ok (.iload_n 2, 1) := by decide +kernel
theorem dX6_names_10 : decode cX6_names 10 = .ok (.ifCond .eq 9, 3) := by decide +kernel
theorem dX6_names_13 : decode cX6_names 13 = .ok (.aload_n 0, 1) := by decide +kernel
theorem dX6_names_14 : decode cX6_names 14 = .ok (.iload_n 2, 1) := by decide +kernel
theorem dX6_names_15 : decode cX6_names 15 = .ok (.invokevirtual 56, 3) := by decide +kernel
theorem dX6_names_18 : decode cX6_names 18 = .ok (.ireturn, 1) := by decide +kernel
theorem dX6_names_19 : decode cX6_names 19 = .ok (.aload_n 0, 1) := by decide +kernel
theorem dX6_names_20 : decode cX6_names 20 = .ok (.getfield 36, 3) := by decide +kernel
theorem dX6_names_23 : decode cX6_names 23 = .ok (.aload_n 0, 1) := by decide +kernel
theorem dX6_names_24 : decode cX6_names 24 = .ok (.getfield 10, 3) := by decide +kernel
theorem dX6_names_27 : decode cX6_names 27 = .ok (.iload_n 1, 1) := by decide +kernel
theorem dX6_names_28 : decode cX6_names 28 = .ok (.invokevirtual 241, 3) := by decide +kernel
theorem dX6_names_31 : decode cX6_names 31 = .ok (.ireturn, 1) := by decide +kernel
theorem dX6_whatKind_0 : decode cX6_whatKind 0 = .ok (.aload_n 0, 1) := by decide +kernel
theorem dX6_whatKind_1 : decode cX6_whatKind 1 = .ok (.iload_n 1, 1) := by decide +kernel
theorem dX6_whatKind_2 : decode cX6_whatKind 2 = .ok (.invokevirtual 64, 3) := by decide +kernel
theorem dX6_whatKind_5 : decode cX6_whatKind 5 = .ok (.ifCond .eq 9, 3) := by decide +kernel
theorem dX6_whatKind_8 : decode cX6_whatKind 8 = .ok (.aload_n 0, 1) := by decide +kernel
theorem dX6_whatKind_9 : decode cX6_whatKind 9 = .ok (.iconst (-1), 1) := by decide +kernel
theorem dX6_whatKind_10 : decode cX6_whatKind 10 = .ok (.invokevirtual 56, 3) := by decide +kernel
theorem dX6_whatKind_13 : decode cX6_whatKind 13 = .ok (.ireturn, 1) := by decide +kernel
theorem dX6_whatKind_14 : decode cX6_whatKind 14 = .ok (.iload_n 2, 1) := by decide +kernel
theorem dX6_whatKind_15 : decode cX6_whatKind 15 = .ok (.lookupswitch 69 #[(0, 25), (1, 47)], 25) := by decide +kernel
theorem dX6_whatKind_40 : decode cX6_whatKind 40 = .ok (.aload_n 0, 1) := by decide +kernel
theorem dX6_whatKind_41 : decode cX6_whatKind 41 = .ok (.getfield 36, 3) := by decide +kernel
theorem dX6_whatKind_44 : decode cX6_whatKind 44 = .ok (.aload_n 0, 1) := by decide +kernel
theorem dX6_whatKind_45 : decode cX6_whatKind 45 = .ok (.getfield 10, 3) := by decide +kernel
theorem dX6_whatKind_48 : decode cX6_whatKind 48 = .ok (.iload_n 1, 1) := by decide +kernel
theorem dX6_whatKind_49 : decode cX6_whatKind 49 = .ok (.iconst 0, 1) := by decide +kernel
theorem dX6_whatKind_50 : decode cX6_whatKind 50 = .ok (.aload_n 0, 1) := by decide +kernel
theorem dX6_whatKind_51 : decode cX6_whatKind 51 = .ok (.getfield 47, 3) := by decide +kernel
theorem dX6_whatKind_54 : decode cX6_whatKind 54 = .ok (.aload_n 0, 1) := by decide +kernel
theorem dX6_whatKind_55 : decode cX6_whatKind 55 = .ok (.getfield 244, 3) := by decide +kernel
theorem dX6_whatKind_58 : decode cX6_whatKind 58 = .ok (.invokevirtual 247, 3) := by decide +kernel
theorem dX6_whatKind_61 : decode cX6_whatKind 61 = .ok (.ireturn, 1) := by decide +kernel
theorem dX6_whatKind_62 : decode cX6_whatKind 62 = .ok (.aload_n 0, 1) := by decide +kernel
theorem dX6_whatKind_63 : decode cX6_whatKind 63 = .ok (.getfield 36, 3) := by decide +kernel
theorem dX6_whatKind_66 : decode cX6_whatKind 66 = .ok (.aload_n 0, 1) := by decide +kernel
theorem dX6_whatKind_67 : decode cX6_whatKind 67 = .ok (.getfield 10, 3) := by decide +kernel
theorem dX6_whatKind_70 : decode cX6_whatKind 70 = .ok (.iload_n 1, 1) := by decide +kernel
theorem dX6_whatKind_71 : decode cX6_whatKind 71 = .ok (.iconst 1, 1) := by decide +kernel
theorem dX6_whatKind_72 : decode cX6_whatKind 72 = .ok (.aload_n 0, 1) := by decide +kernel
theorem dX6_whatKind_73 : decode cX6_whatKind 73 = .ok (.getfield 47, 3) := by decide +kernel
theorem dX6_whatKind_76 : decode cX6_whatKind 76 = .ok (.aload_n 0, 1) := by decide +kernel
theorem dX6_whatKind_77 : decode cX6_whatKind 77 = .ok (.getfield 244, 3) := by decide +kernel
theorem dX6_whatKind_80 : decode cX6_whatKind 80 = .ok (.invokevirtual 247, 3) := by decide +kernel
theorem dX6_whatKind_83 : decode cX6_whatKind 83 = .ok (.ireturn, 1) := by decide +kernel
theorem dX6_whatKind_84 : decode cX6_whatKind 84 = .ok (.aload_n 0, 1) := by decide +kernel
theorem dX6_whatKind_85 : decode cX6_whatKind 85 = .ok (.bipush (-2), 2) := by decide +kernel
theorem dX6_whatKind_87 : decode cX6_whatKind 87 = .ok (.invokevirtual 56, 3) := by decide +kernel
theorem dX6_whatKind_90 : decode cX6_whatKind 90 = .ok (.ireturn, 1) := by decide +kernel
theorem dX6_whatWord_0 : decode cX6_whatWord 0 = .ok (.aload_n 0, 1) := by decide +kernel
theorem dX6_whatWord_1 : decode cX6_whatWord 1 = .ok (.iload_n 1, 1) := by decide +kernel
theorem dX6_whatWord_2 : decode cX6_whatWord 2 = .ok (.invokevirtual 64, 3) := by decide +kernel
theorem dX6_whatWord_5 : decode cX6_whatWord 5 = .ok (.ifCond .eq 9, 3) := by decide +kernel
theorem dX6_whatWord_8 : decode cX6_whatWord 8 = .ok (.aload_n 0, 1) := by decide +kernel
theorem dX6_whatWord_9 : decode cX6_whatWord 9 = .ok (.iconst (-1), 1) := by decide +kernel
theorem dX6_whatWord_10 : decode cX6_whatWord 10 = .ok (.invokevirtual 56, 3) := by decide +kernel
theorem dX6_whatWord_13 : decode cX6_whatWord 13 = .ok (.ireturn, 1) := by decide +kernel
theorem dX6_whatWord_14 : decode cX6_whatWord 14 = .ok (.aload_n 0, 1) := by decide +kernel
theorem dX6_whatWord_15 : decode cX6_whatWord 15 = .ok (.getfield 36, 3) := by decide +kernel
theorem dX6_whatWord_18 : decode cX6_whatWord 18 = .ok (.aload_n 0, 1) := by decide +kernel
theorem dX6_whatWord_19 : decode cX6_whatWord 19 = .ok (.getfield 10, 3) := by decide +kernel
theorem dX6_whatWord_22 : decode cX6_whatWord 22 = .ok (.iload_n 1, 1) := by decide +kernel
theorem dX6_whatWord_23 : decode cX6_whatWord 23 = .ok (.iconst 2, 1) := by decide +kernel
theorem dX6_whatWord_24 : decode cX6_whatWord 24 = .ok (.aload_n 0, 1) := by decide +kernel
theorem dX6_whatWord_25 : decode cX6_whatWord 25 = .ok (.getfield 47, 3) := by decide +kernel
theorem dX6_whatWord_28 : decode cX6_whatWord 28 = .ok (.aload_n 0, 1) := by decide +kernel
theorem dX6_whatWord_29 : decode cX6_whatWord 29 = .ok (.getfield 244, 3) := by decide +kernel
theorem dX6_whatWord_32 : decode cX6_whatWord 32 = .ok (.invokevirtual 247, 3) := by decide +kernel
theorem dX6_whatWord_35 : decode cX6_whatWord 35 = .ok (.ireturn, 1) := by decide +kernel
theorem dX6_two_0 : decode cX6_two 0 = .ok (.aload_n 0, 1) := by decide +kernel
theorem dX6_two_1 : decode cX6_two 1 = .ok (.iload_n 1, 1) := by decide +kernel
theorem dX6_two_2 : decode cX6_two 2 = .ok (.iload_n 2, 1) := by decide +kernel
theorem dX6_two_3 : decode cX6_two 3 = .ok (.invokevirtual 223, 3) := by decide +kernel
theorem dX6_two_6 : decode cX6_two 6 = .ok (.iload_n 3, 1) := by decide +kernel
theorem dX6_two_7 : decode cX6_two 7 = .ok (.iconst 1, 1) := by decide +kernel
theorem dX6_two_8 : decode cX6_two 8 = .ok (.bipush 30, 2) := by decide +kernel
theorem dX6_two_10 : decode cX6_two 10 = .ok (.invokestatic 68, 3) := by decide +kernel
theorem dX6_two_13 : decode cX6_two 13 = .ok (.istore 4, 2) := by decide +kernel
theorem dX6_two_15 : decode cX6_two 15 = .ok (.iload 4, 2) := by decide +kernel
theorem dX6_two_17 : decode cX6_two 17 = .ok (.ifCond .eq 10, 3) := by decide +kernel
theorem dX6_two_20 : decode cX6_two 20 = .ok (.aload_n 0, 1) := by decide +kernel
theorem dX6_two_21 : decode cX6_two 21 = .ok (.iload 4, 2) := by decide +kernel
theorem dX6_two_23 : decode cX6_two 23 = .ok (.invokevirtual 56, 3) := by decide +kernel
theorem dX6_two_26 : decode cX6_two 26 = .ok (.ireturn, 1) := by decide +kernel
theorem dX6_two_27 : decode cX6_two 27 = .ok (.aload_n 0, 1) := by decide +kernel
theorem dX6_two_28 : decode cX6_two 28 = .ok (.getfield 36, 3) := by decide +kernel
theorem dX6_two_31 : decode cX6_two 31 = .ok (.aload_n 0, 1) := by decide +kernel
theorem dX6_two_32 : decode cX6_two 32 = .ok (.getfield 10, 3) := by decide +kernel
theorem dX6_two_35 : decode cX6_two 35 = .ok (.iload_n 1, 1) := by decide +kernel
theorem dX6_two_36 : decode cX6_two 36 = .ok (.iload_n 2, 1) := by decide +kernel
theorem dX6_two_37 : decode cX6_two 37 = .ok (.iload_n 3, 1) := by decide +kernel
theorem dX6_two_38 : decode cX6_two 38 = .ok (.invokevirtual 251, 3) := by decide +kernel
theorem dX6_two_41 : decode cX6_two 41 = .ok (.ireturn, 1) := by decide +kernel
theorem dX6_inLowestTerms_0 : decode cX6_inLowestTerms 0 = .ok (.lload_n 0, 1) := by decide +kernel
theorem dX6_inLowestTerms_1 : decode cX6_inLowestTerms 1 = .ok (.lconst 0, 1) := by decide +kernel
theorem dX6_inLowestTerms_2 : decode cX6_inLowestTerms 2 = .ok (.lcmp, 1) := by decide +kernel
theorem dX6_inLowestTerms_3 : decode cX6_inLowestTerms 3 = .ok (.ifCond .eq 9, 3) := by decide +kernel
theorem dX6_inLowestTerms_6 : decode cX6_inLowestTerms 6 = .ok (.lload_n 2, 1) := by decide +kernel
theorem dX6_inLowestTerms_7 : decode cX6_inLowestTerms 7 = .ok (.lconst 0, 1) := by decide +kernel
theorem dX6_inLowestTerms_8 : decode cX6_inLowestTerms 8 = .ok (.lcmp, 1) := by decide +kernel
theorem dX6_inLowestTerms_9 : decode cX6_inLowestTerms 9 = .ok (.ifCond .ne 7, 3) := by decide +kernel
theorem dX6_inLowestTerms_12 : decode cX6_inLowestTerms 12 = .ok (.iload 4, 2) := by decide +kernel
theorem dX6_inLowestTerms_14 : decode cX6_inLowestTerms 14 = .ok (.i2l, 1) := by decide +kernel
theorem dX6_inLowestTerms_15 : decode cX6_inLowestTerms 15 = .ok (.lreturn, 1) := by decide +kernel
theorem dX6_inLowestTerms_16 : decode cX6_inLowestTerms 16 = .ok (.lload_n 0, 1) := by decide +kernel
theorem dX6_inLowestTerms_17 : decode cX6_inLowestTerms 17 = .ok (.lstore 5, 2) := by decide +kernel
theorem dX6_inLowestTerms_19 : decode cX6_inLowestTerms 19 = .ok (.lload_n 2, 1) := by decide +kernel
theorem dX6_inLowestTerms_20 : decode cX6_inLowestTerms 20 = .ok (.lstore 7, 2) := by decide +kernel
theorem dX6_inLowestTerms_22 : decode cX6_inLowestTerms 22 = .ok (.iconst 0, 1) := by decide +kernel
theorem dX6_inLowestTerms_23 : decode cX6_inLowestTerms 23 = .ok (.istore 9, 2) := by decide +kernel
theorem dX6_inLowestTerms_25 : decode cX6_inLowestTerms 25 = .ok (.iload 9, 2) := by decide +kernel
theorem dX6_inLowestTerms_27 : decode cX6_inLowestTerms 27 = .ok (.bipush 100, 2) := by decide +kernel
theorem dX6_inLowestTerms_29 : decode cX6_inLowestTerms 29 = .ok (.if_icmp .ge 31, 3) := by decide +kernel
theorem dX6_inLowestTerms_32 : decode cX6_inLowestTerms 32 = .ok (.lload 7, 2) := by decide +kernel
theorem dX6_inLowestTerms_34 : decode cX6_inLowestTerms 34 = .ok (.lconst 0, 1) := by decide +kernel
theorem dX6_inLowestTerms_35 : decode cX6_inLowestTerms 35 = .ok (.lcmp, 1) := by decide +kernel
theorem dX6_inLowestTerms_36 : decode cX6_inLowestTerms 36 = .ok (.ifCond .eq 24, 3) := by decide +kernel
theorem dX6_inLowestTerms_39 : decode cX6_inLowestTerms 39 = .ok (.lload 5, 2) := by decide +kernel
theorem dX6_inLowestTerms_41 : decode cX6_inLowestTerms 41 = .ok (.lload 7, 2) := by decide +kernel
theorem dX6_inLowestTerms_43 : decode cX6_inLowestTerms 43 = .ok (.lrem, 1) := by decide +kernel
theorem dX6_inLowestTerms_44 : decode cX6_inLowestTerms 44 = .ok (.lstore 10, 2) := by decide +kernel
theorem dX6_inLowestTerms_46 : decode cX6_inLowestTerms 46 = .ok (.lload 7, 2) := by decide +kernel
theorem dX6_inLowestTerms_48 : decode cX6_inLowestTerms 48 = .ok (.lstore 5, 2) := by decide +kernel
theorem dX6_inLowestTerms_50 : decode cX6_inLowestTerms 50 = .ok (.lload 10, 2) := by decide +kernel
theorem dX6_inLowestTerms_52 : decode cX6_inLowestTerms 52 = .ok (.lstore 7, 2) := by decide +kernel
theorem dX6_inLowestTerms_54 : decode cX6_inLowestTerms 54 = .ok (.iinc 9 1, 3) := by decide +kernel
theorem dX6_inLowestTerms_57 : decode cX6_inLowestTerms 57 = .ok (.goto (-32), 3) := by decide +kernel
theorem dX6_inLowestTerms_60 : decode cX6_inLowestTerms 60 = .ok (.iload 4, 2) := by decide +kernel
theorem dX6_inLowestTerms_62 : decode cX6_inLowestTerms 62 = .ok (.ifCond .ne 7, 3) := by decide +kernel
theorem dX6_inLowestTerms_65 : decode cX6_inLowestTerms 65 = .ok (.lload_n 0, 1) := by decide +kernel
theorem dX6_inLowestTerms_66 : decode cX6_inLowestTerms 66 = .ok (.goto 4, 3) := by decide +kernel
theorem dX6_inLowestTerms_69 : decode cX6_inLowestTerms 69 = .ok (.lload_n 2, 1) := by decide +kernel
theorem dX6_inLowestTerms_70 : decode cX6_inLowestTerms 70 = .ok (.lstore 9, 2) := by decide +kernel
theorem dX6_inLowestTerms_72 : decode cX6_inLowestTerms 72 = .ok (.lload 5, 2) := by decide +kernel
theorem dX6_inLowestTerms_74 : decode cX6_inLowestTerms 74 = .ok (.lconst 0, 1) := by decide +kernel
theorem dX6_inLowestTerms_75 : decode cX6_inLowestTerms 75 = .ok (.lcmp, 1) := by decide +kernel
theorem dX6_inLowestTerms_76 : decode cX6_inLowestTerms 76 = .ok (.ifCond .ne 8, 3) := by decide +kernel
theorem dX6_inLowestTerms_79 : decode cX6_inLowestTerms 79 = .ok (.lload 9, 2) := by decide +kernel
theorem dX6_inLowestTerms_81 : decode cX6_inLowestTerms 81 = .ok (.goto 8, 3) := by decide +kernel
theorem dX6_inLowestTerms_84 : decode cX6_inLowestTerms 84 = .ok (.lload 9, 2) := by decide +kernel
theorem dX6_inLowestTerms_86 : decode cX6_inLowestTerms 86 = .ok (.lload 5, 2) := by decide +kernel
theorem dX6_inLowestTerms_88 : decode cX6_inLowestTerms 88 = .ok (.ldiv, 1) := by decide +kernel
theorem dX6_inLowestTerms_89 : decode cX6_inLowestTerms 89 = .ok (.lreturn, 1) := by decide +kernel
theorem dX6_rain_0 : decode cX6_rain 0 = .ok (.aload_n 0, 1) := by decide +kernel
theorem dX6_rain_1 : decode cX6_rain 1 = .ok (.iload_n 1, 1) := by decide +kernel
theorem dX6_rain_2 : decode cX6_rain 2 = .ok (.invokevirtual 64, 3) := by decide +kernel
theorem dX6_rain_5 : decode cX6_rain 5 = .ok (.ifCond .ne 10, 3) := by decide +kernel
theorem dX6_rain_8 : decode cX6_rain 8 = .ok (.iload_n 2, 1) := by decide +kernel
theorem dX6_rain_9 : decode cX6_rain 9 = .ok (.invokestatic 151, 3) := by decide +kernel
theorem dX6_rain_12 : decode cX6_rain 12 = .ok (.ifCond .eq 9, 3) := by decide +kernel
theorem dX6_rain_15 : decode cX6_rain 15 = .ok (.aload_n 0, 1) := by decide +kernel
theorem dX6_rain_16 : decode cX6_rain 16 = .ok (.iconst (-1), 1) := by decide +kernel
theorem dX6_rain_17 : decode cX6_rain 17 = .ok (.invokevirtual 254, 3) := by decide +kernel
theorem dX6_rain_20 : decode cX6_rain 20 = .ok (.lreturn, 1) := by decide +kernel
theorem dX6_rain_21 : decode cX6_rain 21 = .ok (.iload_n 3, 1) := by decide +kernel
theorem dX6_rain_22 : decode cX6_rain 22 = .ok (.ifCond .lt 9, 3) := by decide +kernel
theorem dX6_rain_25 : decode cX6_rain 25 = .ok (.iload 4, 2) := by decide +kernel
theorem dX6_rain_27 : decode cX6_rain 27 = .ok (.iconst 2, 1) := by decide +kernel
theorem dX6_rain_28 : decode cX6_rain 28 = .ok (.if_icmp .ge 10, 3) := by decide +kernel
theorem dX6_rain_31 : decode cX6_rain 31 = .ok (.aload_n 0, 1) := by decide +kernel
theorem dX6_rain_32 : decode cX6_rain 32 = .ok (.bipush (-4), 2) := by decide +kernel
theorem dX6_rain_34 : decode cX6_rain 34 = .ok (.invokevirtual 254, 3) := by decide +kernel
theorem dX6_rain_37 : decode cX6_rain 37 = .ok (.lreturn, 1) := by decide +kernel
theorem dX6_rain_38 : decode cX6_rain 38 = .ok (.iload_n 3, 1) := by decide +kernel
theorem dX6_rain_39 : decode cX6_rain 39 = .ok (.bipush 7, 2) := by decide +kernel
theorem dX6_rain_41 : decode cX6_rain 41 = .ok (.if_icmp .gt 10, 3) := by decide +kernel
theorem dX6_rain_44 : decode cX6_rain 44 = .ok (.iload 4, 2) := by decide +kernel
theorem dX6_rain_46 : decode cX6_rain 46 = .ok (.bipush 20, 2) := by decide +kernel
theorem dX6_rain_48 : decode cX6_rain 48 = .ok (.if_icmp .le 10, 3) := by decide +kernel
theorem dX6_rain_51 : decode cX6_rain 51 = .ok (.aload_n 0, 1) := by decide +kernel
theorem dX6_rain_52 : decode cX6_rain 52 = .ok (.bipush (-6), 2) := by decide +kernel
theorem dX6_rain_54 : decode cX6_rain 54 = .ok (.invokevirtual 254, 3) := by decide +kernel
theorem dX6_rain_57 : decode cX6_rain 57 = .ok (.lreturn, 1) := by decide +kernel
theorem dX6_rain_58 : decode cX6_rain 58 = .ok (.iload 5, 2) := by decide +kernel
theorem dX6_rain_60 : decode cX6_rain 60 = .ok (.ifCond .lt 9, 3) := by decide +kernel
theorem dX6_rain_63 : decode cX6_rain 63 = .ok (.iload 5, 2) := by decide +kernel
theorem dX6_rain_65 : decode cX6_rain 65 = .ok (.iconst 1, 1) := by decide +kernel
theorem dX6_rain_66 : decode cX6_rain 66 = .ok (.if_icmp .le 10, 3) := by decide +kernel
theorem dX6_rain_69 : decode cX6_rain 69 = .ok (.aload_n 0, 1) := by decide +kernel
theorem dX6_rain_70 : decode cX6_rain 70 = .ok (.bipush (-2), 2) := by decide +kernel
theorem dX6_rain_72 : decode cX6_rain 72 = .ok (.invokevirtual 254, 3) := by decide +kernel
theorem dX6_rain_75 : decode cX6_rain 75 = .ok (.lreturn, 1) := by decide +kernel
theorem dX6_rain_76 : decode cX6_rain 76 = .ok (.lconst 1, 1) := by decide +kernel
theorem dX6_rain_77 : decode cX6_rain 77 = .ok (.lstore 6, 2) := by decide +kernel
theorem dX6_rain_79 : decode cX6_rain 79 = .ok (.iconst 0, 1) := by decide +kernel
theorem dX6_rain_80 : decode cX6_rain 80 = .ok (.istore 8, 2) := by decide +kernel
theorem dX6_rain_82 : decode cX6_rain 82 = .ok (.iload 8, 2) := by decide +kernel
theorem dX6_rain_84 : decode cX6_rain 84 = .ok (.iload_n 3, 1) := by decide +kernel
theorem dX6_rain_85 : decode cX6_rain 85 = .ok (.if_icmp .ge 17, 3) := by decide +kernel
theorem dX6_rain_88 : decode cX6_rain 88 = .ok (.lload 6, 2) := by decide +kernel
theorem dX6_rain_90 : decode cX6_rain 90 = .ok (.iload 4, 2) := by decide +kernel
theorem dX6_rain_92 : decode cX6_rain 92 = .ok (.i2l, 1) := by decide +kernel
theorem dX6_rain_93 : decode cX6_rain 93 = .ok (.lmul, 1) := by decide +kernel
theorem dX6_rain_94 : decode cX6_rain 94 = .ok (.lstore 6, 2) := by decide +kernel
theorem dX6_rain_96 : decode cX6_rain 96 = .ok (.iinc 8 1, 3) := by decide +kernel
theorem dX6_rain_99 : decode cX6_rain 99 = .ok (.goto (-17), 3) := by decide +kernel
theorem dX6_rain_102 : decode cX6_rain 102 = .ok (.aload_n 0, 1) := by decide +kernel
theorem dX6_rain_103 : decode cX6_rain 103 = .ok (.getfield 36, 3) := by decide +kernel
theorem dX6_rain_106 : decode cX6_rain 106 = .ok (.aload_n 0, 1) := by decide +kernel
theorem dX6_rain_107 : decode cX6_rain 107 = .ok (.getfield 10, 3) := by decide +kernel
theorem dX6_rain_110 : decode cX6_rain 110 = .ok (.iload_n 1, 1) := by decide +kernel
theorem dX6_rain_111 : decode cX6_rain 111 = .ok (.iload_n 2, 1) := by decide +kernel
theorem dX6_rain_112 : decode cX6_rain 112 = .ok (.iload_n 3, 1) := by decide +kernel
theorem dX6_rain_113 : decode cX6_rain 113 = .ok (.iload 4, 2) := by decide +kernel
theorem dX6_rain_115 : decode cX6_rain 115 = .ok (.invokevirtual 258, 3) := by decide +kernel
theorem dX6_rain_118 : decode cX6_rain 118 = .ok (.lload 6, 2) := by decide +kernel
theorem dX6_rain_120 : decode cX6_rain 120 = .ok (.iload 5, 2) := by decide +kernel
theorem dX6_rain_122 : decode cX6_rain 122 = .ok (.invokestatic 262, 3) := by decide +kernel
theorem dX6_rain_125 : decode cX6_rain 125 = .ok (.lreturn, 1) := by decide +kernel
theorem dX6_like_0 : decode cX6_like 0 = .ok (.aload_n 0, 1) := by decide +kernel
theorem dX6_like_1 : decode cX6_like 1 = .ok (.iload_n 1, 1) := by decide +kernel
theorem dX6_like_2 : decode cX6_like 2 = .ok (.iload_n 2, 1) := by decide +kernel
theorem dX6_like_3 : decode cX6_like 3 = .ok (.invokevirtual 223, 3) := by decide +kernel
theorem dX6_like_6 : decode cX6_like 6 = .ok (.ifCond .eq 9, 3) := by decide +kernel
theorem dX6_like_9 : decode cX6_like 9 = .ok (.aload_n 0, 1) := by decide +kernel
theorem dX6_like_10 : decode cX6_like 10 = .ok (.iconst (-1), 1) := by decide +kernel
theorem dX6_like_11 : decode cX6_like 11 = .ok (.invokevirtual 56, 3) := by decide +kernel
theorem dX6_like_14 : decode cX6_like 14 = .ok (.ireturn, 1) := by decide +kernel
theorem dX6_like_15 : decode cX6_like 15 = .ok (.aload_n 0, 1) := by decide +kernel
theorem dX6_like_16 : decode cX6_like 16 = .ok (.getfield 10, 3) := by decide +kernel
theorem dX6_like_19 : decode cX6_like 19 = .ok (.getfield 105, 3) := by decide +kernel
theorem dX6_like_22 : decode cX6_like 22 = .ok (.iload_n 1, 1) := by decide +kernel
theorem dX6_like_23 : decode cX6_like 23 = .ok (.aaload, 1) := by decide +kernel
theorem dX6_like_24 : decode cX6_like 24 = .ok (.astore 4, 2) := by decide +kernel
theorem dX6_like_26 : decode cX6_like 26 = .ok (.aload_n 0, 1) := by decide +kernel
theorem dX6_like_27 : decode cX6_like 27 = .ok (.getfield 10, 3) := by decide +kernel
theorem dX6_like_30 : decode cX6_like 30 = .ok (.getfield 105, 3) := by decide +kernel
theorem dX6_like_33 : decode cX6_like 33 = .ok (.iload_n 2, 1) := by decide +kernel
theorem dX6_like_34 : decode cX6_like 34 = .ok (.aaload, 1) := by decide +kernel
theorem dX6_like_35 : decode cX6_like 35 = .ok (.astore 5, 2) := by decide +kernel
theorem dX6_like_37 : decode cX6_like 37 = .ok (.iload_n 3, 1) := by decide +kernel
theorem dX6_like_38 : decode cX6_like 38 = .ok (.tableswitch 50 0 2 #[26, 34, 42], 26) := by decide +kernel
theorem dX6_like_64 : decode cX6_like 64 = .ok (.aload 4, 2) := by decide +kernel
theorem dX6_like_66 : decode cX6_like 66 = .ok (.aload 5, 2) := by decide +kernel
theorem dX6_like_68 : decode cX6_like 68 = .ok (.invokevirtual 266, 3) := by decide +kernel
theorem dX6_like_71 : decode cX6_like 71 = .ok (.ireturn, 1) := by decide +kernel
theorem dX6_like_72 : decode cX6_like 72 = .ok (.aload 4, 2) := by decide +kernel
theorem dX6_like_74 : decode cX6_like 74 = .ok (.aload 5, 2) := by decide +kernel
theorem dX6_like_76 : decode cX6_like 76 = .ok (.invokevirtual 270, 3) := by decide +kernel
theorem dX6_like_79 : decode cX6_like 79 = .ok (.ireturn, 1) := by decide +kernel
theorem dX6_like_80 : decode cX6_like 80 = .ok (.aload 4, 2) := by decide +kernel
theorem dX6_like_82 : decode cX6_like 82 = .ok (.aload 5, 2) := by decide +kernel
theorem dX6_like_84 : decode cX6_like 84 = .ok (.invokevirtual 273, 3) := by decide +kernel
theorem dX6_like_87 : decode cX6_like 87 = .ok (.ireturn, 1) := by decide +kernel
theorem dX6_like_88 : decode cX6_like 88 = .ok (.aload_n 0, 1) := by decide +kernel
theorem dX6_like_89 : decode cX6_like 89 = .ok (.bipush (-2), 2) := by decide +kernel
theorem dX6_like_91 : decode cX6_like 91 = .ok (.invokevirtual 56, 3) := by decide +kernel
theorem dX6_like_94 : decode cX6_like 94 = .ok (.ireturn, 1) := by decide +kernel
theorem dX6_rank_0 : decode cX6_rank 0 = .ok (.aload_n 0, 1) := by decide +kernel
theorem dX6_rank_1 : decode cX6_rank 1 = .ok (.iload_n 1, 1) := by decide +kernel
theorem dX6_rank_2 : decode cX6_rank 2 = .ok (.invokevirtual 64, 3) := by decide +kernel
theorem dX6_rank_5 : decode cX6_rank 5 = .ok (.ifCond .eq 9, 3) := by decide +kernel
theorem dX6_rank_8 : decode cX6_rank 8 = .ok (.aload_n 0, 1) := by decide +kernel
theorem dX6_rank_9 : decode cX6_rank 9 = .ok (.iconst (-1), 1) := by decide +kernel
theorem dX6_rank_10 : decode cX6_rank 10 = .ok (.invokevirtual 56, 3) := by decide +kernel
theorem dX6_rank_13 : decode cX6_rank 13 = .ok (.ireturn, 1) := by decide +kernel
theorem dX6_rank_14 : decode cX6_rank 14 = .ok (.iconst 0, 1) := by decide +kernel
theorem dX6_rank_15 : decode cX6_rank 15 = .ok (.istore_n 2, 1) := by decide +kernel
theorem dX6_rank_16 : decode cX6_rank 16 = .ok (.iconst 0, 1) := by decide +kernel
theorem dX6_rank_17 : decode cX6_rank 17 = .ok (.istore_n 3, 1) := by decide +kernel
theorem dX6_rank_18 : decode cX6_rank 18 = .ok (.iload_n 3, 1) := by decide +kernel
theorem dX6_rank_19 : decode cX6_rank 19 = .ok (.aload_n 0, 1) := by decide +kernel
theorem dX6_rank_20 : decode cX6_rank 20 = .ok (.getfield 10, 3) := by decide +kernel
theorem dX6_rank_23 : decode cX6_rank 23 = .ok (.getfield 60, 3) := by decide +kernel
theorem dX6_rank_26 : decode cX6_rank 26 = .ok (.if_icmp .ge 50, 3) := by decide +kernel
theorem dX6_rank_29 : decode cX6_rank 29 = .ok (.aload_n 0, 1) := by decide +kernel
theorem dX6_rank_30 : decode cX6_rank 30 = .ok (.getfield 10, 3) := by decide +kernel
theorem dX6_rank_33 : decode cX6_rank 33 = .ok (.getfield 105, 3) := by decide +kernel
theorem dX6_rank_36 : decode cX6_rank 36 = .ok (.iload_n 3, 1) := by decide +kernel
theorem dX6_rank_37 : decode cX6_rank 37 = .ok (.aaload, 1) := by decide +kernel
theorem dX6_rank_38 : decode cX6_rank 38 = .ok (.aload_n 0, 1) := by decide +kernel
theorem dX6_rank_39 : decode cX6_rank 39 = .ok (.getfield 10, 3) := by decide +kernel
theorem dX6_rank_42 : decode cX6_rank 42 = .ok (.getfield 105, 3) := by decide +kernel
theorem dX6_rank_45 : decode cX6_rank 45 = .ok (.iload_n 1, 1) := by decide +kernel
theorem dX6_rank_46 : decode cX6_rank 46 = .ok (.aaload, 1) := by decide +kernel
theorem dX6_rank_47 : decode cX6_rank 47 = .ok (.invokevirtual 276, 3) := by decide +kernel
theorem dX6_rank_50 : decode cX6_rank 50 = .ok (.istore 4, 2) := by decide +kernel
theorem dX6_rank_52 : decode cX6_rank 52 = .ok (.iload 4, 2) := by decide +kernel
theorem dX6_rank_54 : decode cX6_rank 54 = .ok (.ifCond .lt 13, 3) := by decide +kernel
theorem dX6_rank_57 : decode cX6_rank 57 = .ok (.iload 4, 2) := by decide +kernel
theorem dX6_rank_59 : decode cX6_rank 59 = .ok (.ifCond .ne 11, 3) := by decide +kernel
theorem dX6_rank_62 : decode cX6_rank 62 = .ok (.iload_n 3, 1) := by decide +kernel
theorem dX6_rank_63 : decode cX6_rank 63 = .ok (.iload_n 1, 1) := by decide +kernel
theorem dX6_rank_64 : decode cX6_rank 64 = .ok (.if_icmp .ge 6, 3) := by decide +kernel
theorem dX6_rank_67 : decode cX6_rank 67 = .ok (.iinc 2 1, 3) := by decide +kernel
theorem dX6_rank_70 : decode cX6_rank 70 = .ok (.iinc 3 1, 3) := by decide +kernel
theorem dX6_rank_73 : decode cX6_rank 73 = .ok (.goto (-55), 3) := by decide +kernel
theorem dX6_rank_76 : decode cX6_rank 76 = .ok (.iload_n 2, 1) := by decide +kernel
theorem dX6_rank_77 : decode cX6_rank 77 = .ok (.ireturn, 1) := by decide +kernel
theorem dX6_power_0 : decode cX6_power 0 = .ok (.aload_n 0, 1) := by decide +kernel
theorem dX6_power_1 : decode cX6_power 1 = .ok (.iload_n 1, 1) := by decide +kernel
theorem dX6_power_2 : decode cX6_power 2 = .ok (.invokevirtual 64, 3) := by decide +kernel
theorem dX6_power_5 : decode cX6_power 5 = .ok (.ifCond .eq 9, 3) := by decide +kernel
theorem dX6_power_8 : decode cX6_power 8 = .ok (.aload_n 0, 1) := by decide +kernel
theorem dX6_power_9 : decode cX6_power 9 = .ok (.iconst (-1), 1) := by decide +kernel
theorem dX6_power_10 : decode cX6_power 10 = .ok (.invokevirtual 56, 3) := by decide +kernel
theorem dX6_power_13 : decode cX6_power 13 = .ok (.ireturn, 1) := by decide +kernel
theorem dX6_power_14 : decode cX6_power 14 = .ok (.aload_n 0, 1) := by decide +kernel
theorem dX6_power_15 : decode cX6_power 15 = .ok (.getfield 10, 3) := by decide +kernel
theorem dX6_power_18 : decode cX6_power 18 = .ok (.invokevirtual 292, 3) := by decide +kernel
theorem dX6_power_21 : decode cX6_power 21 = .ok (.istore_n 2, 1) := by decide +kernel
theorem dX6_power_22 : decode cX6_power 22 = .ok (.aload_n 0, 1) := by decide +kernel
theorem dX6_power_23 : decode cX6_power 23 = .ok (.getfield 10, 3) := by decide +kernel
theorem dX6_power_26 : decode cX6_power 26 = .ok (.getfield 105, 3) := by decide +kernel
theorem dX6_power_29 : decode cX6_power 29 = .ok (.iload_n 1, 1) := by decide +kernel
theorem dX6_power_30 : decode cX6_power 30 = .ok (.aaload, 1) := by decide +kernel
theorem dX6_power_31 : decode cX6_power 31 = .ok (.getfield 126, 3) := by decide +kernel
theorem dX6_power_34 : decode cX6_power 34 = .ok (.istore_n 3, 1) := by decide +kernel
theorem dX6_power_35 : decode cX6_power 35 = .ok (.iconst 0, 1) := by decide +kernel
theorem dX6_power_36 : decode cX6_power 36 = .ok (.istore 4, 2) := by decide +kernel
theorem dX6_power_38 : decode cX6_power 38 = .ok (.iconst 0, 1) := by decide +kernel
theorem dX6_power_39 : decode cX6_power 39 = .ok (.istore 5, 2) := by decide +kernel
theorem dX6_power_41 : decode cX6_power 41 = .ok (.iload 5, 2) := by decide +kernel
theorem dX6_power_43 : decode cX6_power 43 = .ok (.iconst 1, 1) := by decide +kernel
theorem dX6_power_44 : decode cX6_power 44 = .ok (.aload_n 0, 1) := by decide +kernel
theorem dX6_power_45 : decode cX6_power 45 = .ok (.getfield 10, 3) := by decide +kernel
theorem dX6_power_48 : decode cX6_power 48 = .ok (.getfield 60, 3) := by decide +kernel
theorem dX6_power_51 : decode cX6_power 51 = .ok (.ishl, 1) := by decide +kernel
theorem dX6_power_52 : decode cX6_power 52 = .ok (.if_icmp .ge 50, 3) := by decide +kernel
theorem dX6_power_55 : decode cX6_power 55 = .ok (.iload 5, 2) := by decide +kernel
theorem dX6_power_57 : decode cX6_power 57 = .ok (.iload_n 1, 1) := by decide +kernel
theorem dX6_power_58 : decode cX6_power 58 = .ok (.ishr, 1) := by decide +kernel
theorem dX6_power_59 : decode cX6_power 59 = .ok (.iconst 1, 1) := by decide +kernel
theorem dX6_power_60 : decode cX6_power 60 = .ok (.iand, 1) := by decide +kernel
theorem dX6_power_61 : decode cX6_power 61 = .ok (.ifCond .ne 35, 3) := by decide +kernel
theorem dX6_power_64 : decode cX6_power 64 = .ok (.aload_n 0, 1) := by decide +kernel
theorem dX6_power_65 : decode cX6_power 65 = .ok (.getfield 10, 3) := by decide +kernel
theorem dX6_power_68 : decode cX6_power 68 = .ok (.iload 5, 2) := by decide +kernel
theorem dX6_power_70 : decode cX6_power 70 = .ok (.invokevirtual 295, 3) := by decide +kernel
theorem dX6_power_73 : decode cX6_power 73 = .ok (.istore 6, 2) := by decide +kernel
theorem dX6_power_75 : decode cX6_power 75 = .ok (.iconst 2, 1) := by decide +kernel
theorem dX6_power_76 : decode cX6_power 76 = .ok (.iload 6, 2) := by decide +kernel
theorem dX6_power_78 : decode cX6_power 78 = .ok (.imul, 1) := by decide +kernel
theorem dX6_power_79 : decode cX6_power 79 = .ok (.iload_n 2, 1) := by decide +kernel
theorem dX6_power_80 : decode cX6_power 80 = .ok (.if_icmp .gt 16, 3) := by decide +kernel
theorem dX6_power_83 : decode cX6_power 83 = .ok (.iconst 2, 1) := by decide +kernel
theorem dX6_power_84 : decode cX6_power 84 = .ok (.iload 6, 2) := by decide +kernel
theorem dX6_power_86 : decode cX6_power 86 = .ok (.iload_n 3, 1) := by decide +kernel
theorem dX6_power_87 : decode cX6_power 87 = .ok (.iadd, 1) := by decide +kernel
theorem dX6_power_88 : decode cX6_power 88 = .ok (.imul, 1) := by decide +kernel
theorem dX6_power_89 : decode cX6_power 89 = .ok (.iload_n 2, 1) := by decide +kernel
theorem dX6_power_90 : decode cX6_power 90 = .ok (.if_icmp .le 6, 3) := by decide +kernel
theorem dX6_power_93 : decode cX6_power 93 = .ok (.iinc 4 1, 3) := by decide +kernel
theorem dX6_power_96 : decode cX6_power 96 = .ok (.iinc 5 1, 3) := by decide +kernel
theorem dX6_power_99 : decode cX6_power 99 = .ok (.goto (-58), 3) := by decide +kernel
theorem dX6_power_102 : decode cX6_power 102 = .ok (.iload 4, 2) := by decide +kernel
theorem dX6_power_104 : decode cX6_power 104 = .ok (.ireturn, 1) := by decide +kernel
theorem dX6_share_0 : decode cX6_share 0 = .ok (.aload_n 0, 1) := by decide +kernel
theorem dX6_share_1 : decode cX6_share 1 = .ok (.iload_n 1, 1) := by decide +kernel
theorem dX6_share_2 : decode cX6_share 2 = .ok (.invokevirtual 64, 3) := by decide +kernel
theorem dX6_share_5 : decode cX6_share 5 = .ok (.ifCond .eq 9, 3) := by decide +kernel
theorem dX6_share_8 : decode cX6_share 8 = .ok (.aload_n 0, 1) := by decide +kernel
theorem dX6_share_9 : decode cX6_share 9 = .ok (.iconst (-1), 1) := by decide +kernel
theorem dX6_share_10 : decode cX6_share 10 = .ok (.invokevirtual 254, 3) := by decide +kernel
theorem dX6_share_13 : decode cX6_share 13 = .ok (.lreturn, 1) := by decide +kernel
theorem dX6_share_14 : decode cX6_share 14 = .ok (.iload_n 2, 1) := by decide +kernel
theorem dX6_share_15 : decode cX6_share 15 = .ok (.ifCond .lt 8, 3) := by decide +kernel
theorem dX6_share_18 : decode cX6_share 18 = .ok (.iload_n 2, 1) := by decide +kernel
theorem dX6_share_19 : decode cX6_share 19 = .ok (.iconst 1, 1) := by decide +kernel
theorem dX6_share_20 : decode cX6_share 20 = .ok (.if_icmp .le 10, 3) := by decide +kernel
theorem dX6_share_23 : decode cX6_share 23 = .ok (.aload_n 0, 1) := by decide +kernel
theorem dX6_share_24 : decode cX6_share 24 = .ok (.bipush (-2), 2) := by decide +kernel
theorem dX6_share_26 : decode cX6_share 26 = .ok (.invokevirtual 254, 3) := by decide +kernel
theorem dX6_share_29 : decode cX6_share 29 = .ok (.lreturn, 1) := by decide +kernel
theorem dX6_share_30 : decode cX6_share 30 = .ok (.aload_n 0, 1) := by decide +kernel
theorem dX6_share_31 : decode cX6_share 31 = .ok (.getfield 10, 3) := by decide +kernel
theorem dX6_share_34 : decode cX6_share 34 = .ok (.getfield 105, 3) := by decide +kernel
theorem dX6_share_37 : decode cX6_share 37 = .ok (.iload_n 1, 1) := by decide +kernel
theorem dX6_share_38 : decode cX6_share 38 = .ok (.aaload, 1) := by decide +kernel
theorem dX6_share_39 : decode cX6_share 39 = .ok (.getfield 126, 3) := by decide +kernel
theorem dX6_share_42 : decode cX6_share 42 = .ok (.i2l, 1) := by decide +kernel
theorem dX6_share_43 : decode cX6_share 43 = .ok (.aload_n 0, 1) := by decide +kernel
theorem dX6_share_44 : decode cX6_share 44 = .ok (.getfield 10, 3) := by decide +kernel
theorem dX6_share_47 : decode cX6_share 47 = .ok (.invokevirtual 292, 3) := by decide +kernel
theorem dX6_share_50 : decode cX6_share 50 = .ok (.i2l, 1) := by decide +kernel
theorem dX6_share_51 : decode cX6_share 51 = .ok (.iload_n 2, 1) := by decide +kernel
theorem dX6_share_52 : decode cX6_share 52 = .ok (.invokestatic 262, 3) := by decide +kernel
theorem dX6_share_55 : decode cX6_share 55 = .ok (.lreturn, 1) := by decide +kernel
theorem dX6_nearest_0 : decode cX6_nearest 0 = .ok (.iload_n 1, 1) := by decide +kernel
theorem dX6_nearest_1 : decode cX6_nearest 1 = .ok (.invokestatic 151, 3) := by decide +kernel
theorem dX6_nearest_4 : decode cX6_nearest 4 = .ok (.ifCond .eq 9, 3) := by decide +kernel
theorem dX6_nearest_7 : decode cX6_nearest 7 = .ok (.aload_n 0, 1) := by decide +kernel
theorem dX6_nearest_8 : decode cX6_nearest 8 = .ok (.iconst (-1), 1) := by decide +kernel
theorem dX6_nearest_9 : decode cX6_nearest 9 = .ok (.invokevirtual 56, 3) := by decide +kernel
theorem dX6_nearest_12 : decode cX6_nearest 12 = .ok (.ireturn, 1) := by decide +kernel
theorem dX6_nearest_13 : decode cX6_nearest 13 = .ok (.iload_n 2, 1) := by decide +kernel
theorem dX6_nearest_14 : decode cX6_nearest 14 = .ok (.ifCond .lt 8, 3) := by decide +kernel
theorem dX6_nearest_17 : decode cX6_nearest 17 = .ok (.iload_n 2, 1) := by decide +kernel
theorem dX6_nearest_18 : decode cX6_nearest 18 = .ok (.iconst 1, 1) := by decide +kernel
theorem dX6_nearest_19 : decode cX6_nearest 19 = .ok (.if_icmp .le 10, 3) := by decide +kernel
theorem dX6_nearest_22 : decode cX6_nearest 22 = .ok (.aload_n 0, 1) := by decide +kernel
theorem dX6_nearest_23 : decode cX6_nearest 23 = .ok (.bipush (-2), 2) := by decide +kernel
theorem dX6_nearest_25 : decode cX6_nearest 25 = .ok (.invokevirtual 56, 3) := by decide +kernel
theorem dX6_nearest_28 : decode cX6_nearest 28 = .ok (.ireturn, 1) := by decide +kernel
theorem dX6_nearest_29 : decode cX6_nearest 29 = .ok (.bipush (-9), 2) := by decide +kernel
theorem dX6_nearest_31 : decode cX6_nearest 31 = .ok (.istore_n 3, 1) := by decide +kernel
theorem dX6_nearest_32 : decode cX6_nearest 32 = .ok (.bipush (-9), 2) := by decide +kernel
theorem dX6_nearest_34 : decode cX6_nearest 34 = .ok (.istore 4, 2) := by decide +kernel
theorem dX6_nearest_36 : decode cX6_nearest 36 = .ok (.iconst 0, 1) := by decide +kernel
theorem dX6_nearest_37 : decode cX6_nearest 37 = .ok (.istore 5, 2) := by decide +kernel
theorem dX6_nearest_39 : decode cX6_nearest 39 = .ok (.iload 5, 2) := by decide +kernel
theorem dX6_nearest_41 : decode cX6_nearest 41 = .ok (.aload_n 0, 1) := by decide +kernel
theorem dX6_nearest_42 : decode cX6_nearest 42 = .ok (.getfield 10, 3) := by decide +kernel
theorem dX6_nearest_45 : decode cX6_nearest 45 = .ok (.getfield 60, 3) := by decide +kernel
theorem dX6_nearest_48 : decode cX6_nearest 48 = .ok (.if_icmp .ge 48, 3) := by decide +kernel
theorem dX6_nearest_51 : decode cX6_nearest 51 = .ok (.aload_n 0, 1) := by decide +kernel
theorem dX6_nearest_52 : decode cX6_nearest 52 = .ok (.getfield 10, 3) := by decide +kernel
theorem dX6_nearest_55 : decode cX6_nearest 55 = .ok (.getfield 105, 3) := by decide +kernel
theorem dX6_nearest_58 : decode cX6_nearest 58 = .ok (.iload 5, 2) := by decide +kernel
theorem dX6_nearest_60 : decode cX6_nearest 60 = .ok (.aaload, 1) := by decide +kernel
theorem dX6_nearest_61 : decode cX6_nearest 61 = .ok (.getfield 117, 3) := by decide +kernel
theorem dX6_nearest_64 : decode cX6_nearest 64 = .ok (.iload_n 1, 1) := by decide +kernel
theorem dX6_nearest_65 : decode cX6_nearest 65 = .ok (.invokestatic 298, 3) := by decide +kernel
theorem dX6_nearest_68 : decode cX6_nearest 68 = .ok (.istore 6, 2) := by decide +kernel
theorem dX6_nearest_70 : decode cX6_nearest 70 = .ok (.iload_n 3, 1) := by decide +kernel
theorem dX6_nearest_71 : decode cX6_nearest 71 = .ok (.bipush (-9), 2) := by decide +kernel
theorem dX6_nearest_73 : decode cX6_nearest 73 = .ok (.if_icmp .eq 10, 3) := by decide +kernel
theorem dX6_nearest_76 : decode cX6_nearest 76 = .ok (.iload 6, 2) := by decide +kernel
theorem dX6_nearest_78 : decode cX6_nearest 78 = .ok (.iload 4, 2) := by decide +kernel
theorem dX6_nearest_80 : decode cX6_nearest 80 = .ok (.if_icmp .ge 10, 3) := by decide +kernel
theorem dX6_nearest_83 : decode cX6_nearest 83 = .ok (.iload 5, 2) := by decide +kernel
theorem dX6_nearest_85 : decode cX6_nearest 85 = .ok (.istore_n 3, 1) := by decide +kernel
theorem dX6_nearest_86 : decode cX6_nearest 86 = .ok (.iload 6, 2) := by decide +kernel
theorem dX6_nearest_88 : decode cX6_nearest 88 = .ok (.istore 4, 2) := by decide +kernel
theorem dX6_nearest_90 : decode cX6_nearest 90 = .ok (.iinc 5 1, 3) := by decide +kernel
theorem dX6_nearest_93 : decode cX6_nearest 93 = .ok (.goto (-54), 3) := by decide +kernel
theorem dX6_nearest_96 : decode cX6_nearest 96 = .ok (.iload_n 2, 1) := by decide +kernel
theorem dX6_nearest_97 : decode cX6_nearest 97 = .ok (.ifCond .ne 7, 3) := by decide +kernel
theorem dX6_nearest_100 : decode cX6_nearest 100 = .ok (.iload_n 3, 1) := by decide +kernel
theorem dX6_nearest_101 : decode cX6_nearest 101 = .ok (.goto 5, 3) := by decide +kernel
theorem dX6_nearest_104 : decode cX6_nearest 104 = .ok (.iload 4, 2) := by decide +kernel
theorem dX6_nearest_106 : decode cX6_nearest 106 = .ok (.ireturn, 1) := by decide +kernel
theorem dX6_way_0 : decode cX6_way 0 = .ok (.iload_n 1, 1) := by decide +kernel
theorem dX6_way_1 : decode cX6_way 1 = .ok (.invokestatic 151, 3) := by decide +kernel
theorem dX6_way_4 : decode cX6_way 4 = .ok (.ifCond .ne 10, 3) := by decide +kernel
theorem dX6_way_7 : decode cX6_way 7 = .ok (.iload_n 2, 1) := by decide +kernel
theorem dX6_way_8 : decode cX6_way 8 = .ok (.invokestatic 151, 3) := by decide +kernel
theorem dX6_way_11 : decode cX6_way 11 = .ok (.ifCond .eq 9, 3) := by decide +kernel
theorem dX6_way_14 : decode cX6_way 14 = .ok (.aload_n 0, 1) := by decide +kernel
theorem dX6_way_15 : decode cX6_way 15 = .ok (.iconst (-1), 1) := by decide +kernel
theorem dX6_way_16 : decode cX6_way 16 = .ok (.invokevirtual 56, 3) := by decide +kernel
theorem dX6_way_19 : decode cX6_way 19 = .ok (.ireturn, 1) := by decide +kernel
theorem dX6_way_20 : decode cX6_way 20 = .ok (.aload_n 0, 1) := by decide +kernel
theorem dX6_way_21 : decode cX6_way 21 = .ok (.getfield 43, 3) := by decide +kernel
theorem dX6_way_24 : decode cX6_way 24 = .ok (.aload_n 0, 1) := by decide +kernel
theorem dX6_way_25 : decode cX6_way 25 = .ok (.getfield 10, 3) := by decide +kernel
theorem dX6_way_28 : decode cX6_way 28 = .ok (.iload_n 1, 1) := by decide +kernel
theorem dX6_way_29 : decode cX6_way 29 = .ok (.iload_n 2, 1) := by decide +kernel
theorem dX6_way_30 : decode cX6_way 30 = .ok (.invokevirtual 302, 3) := by decide +kernel
theorem dX6_way_33 : decode cX6_way 33 = .ok (.ireturn, 1) := by decide +kernel
theorem dX6_sight_0 : decode cX6_sight 0 = .ok (.iload_n 1, 1) := by decide +kernel
theorem dX6_sight_1 : decode cX6_sight 1 = .ok (.tableswitch 51 0 2 #[27, 35, 43], 27) := by decide +kernel
theorem dX6_sight_28 : decode cX6_sight 28 = .ok (.aload_n 0, 1) := by decide +kernel
theorem dX6_sight_29 : decode cX6_sight 29 = .ok (.getfield 10, 3) := by decide +kernel
theorem dX6_sight_32 : decode cX6_sight 32 = .ok (.invokevirtual 305, 3) := by decide +kernel
theorem dX6_sight_35 : decode cX6_sight 35 = .ok (.ireturn, 1) := by decide +kernel
theorem dX6_sight_36 : decode cX6_sight 36 = .ok (.aload_n 0, 1) := by decide +kernel
theorem dX6_sight_37 : decode cX6_sight 37 = .ok (.getfield 10, 3) := by decide +kernel
theorem dX6_sight_40 : decode cX6_sight 40 = .ok (.invokevirtual 308, 3) := by decide +kernel
theorem dX6_sight_43 : decode cX6_sight 43 = .ok (.ireturn, 1) := by decide +kernel
theorem dX6_sight_44 : decode cX6_sight 44 = .ok (.aload_n 0, 1) := by decide +kernel
theorem dX6_sight_45 : decode cX6_sight 45 = .ok (.getfield 10, 3) := by decide +kernel
theorem dX6_sight_48 : decode cX6_sight 48 = .ok (.invokevirtual 311, 3) := by decide +kernel
theorem dX6_sight_51 : decode cX6_sight 51 = .ok (.ireturn, 1) := by decide +kernel
theorem dX6_sight_52 : decode cX6_sight 52 = .ok (.aload_n 0, 1) := by decide +kernel
theorem dX6_sight_53 : decode cX6_sight 53 = .ok (.bipush (-2), 2) := by decide +kernel
theorem dX6_sight_55 : decode cX6_sight 55 = .ok (.invokevirtual 56, 3) := by decide +kernel
theorem dX6_sight_58 : decode cX6_sight 58 = .ok (.ireturn, 1) := by decide +kernel
theorem dX6_kinds_0 : decode cX6_kinds 0 = .ok (.iload_n 1, 1) := by decide +kernel
theorem dX6_kinds_1 : decode cX6_kinds 1 = .ok (.ifCond .lt 9, 3) := by decide +kernel
theorem dX6_kinds_4 : decode cX6_kinds 4 = .ok (.iload_n 1, 1) := by decide +kernel
theorem dX6_kinds_5 : decode cX6_kinds 5 = .ok (.bipush 8, 2) := by decide +kernel
theorem dX6_kinds_7 : decode cX6_kinds 7 = .ok (.if_icmp .lt 10, 3) := by decide +kernel
theorem dX6_kinds_10 : decode cX6_kinds 10 = .ok (.aload_n 0, 1) := by decide +kernel
theorem dX6_kinds_11 : decode cX6_kinds 11 = .ok (.bipush (-2), 2) := by decide +kernel
theorem dX6_kinds_13 : decode cX6_kinds 13 = .ok (.invokevirtual 56, 3) := by decide +kernel
theorem dX6_kinds_16 : decode cX6_kinds 16 = .ok (.ireturn, 1) := by decide +kernel
theorem dX6_kinds_17 : decode cX6_kinds 17 = .ok (.iconst 0, 1) := by decide +kernel
theorem dX6_kinds_18 : decode cX6_kinds 18 = .ok (.istore_n 2, 1) := by decide +kernel
theorem dX6_kinds_19 : decode cX6_kinds 19 = .ok (.iconst 0, 1) := by decide +kernel
theorem dX6_kinds_20 : decode cX6_kinds 20 = .ok (.istore_n 3, 1) := by decide +kernel
theorem dX6_kinds_21 : decode cX6_kinds 21 = .ok (.iload_n 3, 1) := by decide +kernel
theorem dX6_kinds_22 : decode cX6_kinds 22 = .ok (.aload_n 0, 1) := by decide +kernel
theorem dX6_kinds_23 : decode cX6_kinds 23 = .ok (.getfield 10, 3) := by decide +kernel
theorem dX6_kinds_26 : decode cX6_kinds 26 = .ok (.getfield 60, 3) := by decide +kernel
theorem dX6_kinds_29 : decode cX6_kinds 29 = .ok (.if_icmp .ge 28, 3) := by decide +kernel
theorem dX6_kinds_32 : decode cX6_kinds 32 = .ok (.aload_n 0, 1) := by decide +kernel
theorem dX6_kinds_33 : decode cX6_kinds 33 = .ok (.getfield 10, 3) := by decide +kernel
theorem dX6_kinds_36 : decode cX6_kinds 36 = .ok (.getfield 105, 3) := by decide +kernel
theorem dX6_kinds_39 : decode cX6_kinds 39 = .ok (.iload_n 3, 1) := by decide +kernel
theorem dX6_kinds_40 : decode cX6_kinds 40 = .ok (.aaload, 1) := by decide +kernel
theorem dX6_kinds_41 : decode cX6_kinds 41 = .ok (.getfield 109, 3) := by decide +kernel
theorem dX6_kinds_44 : decode cX6_kinds 44 = .ok (.iload_n 1, 1) := by decide +kernel
theorem dX6_kinds_45 : decode cX6_kinds 45 = .ok (.if_icmp .ne 6, 3) := by decide +kernel
theorem dX6_kinds_48 : decode cX6_kinds 48 = .ok (.iinc 2 1, 3) := by decide +kernel
theorem dX6_kinds_51 : decode cX6_kinds 51 = .ok (.iinc 3 1, 3) := by decide +kernel
theorem dX6_kinds_54 : decode cX6_kinds 54 = .ok (.goto (-33), 3) := by decide +kernel
theorem dX6_kinds_57 : decode cX6_kinds 57 = .ok (.iload_n 2, 1) := by decide +kernel
theorem dX6_kinds_58 : decode cX6_kinds 58 = .ok (.ireturn, 1) := by decide +kernel
theorem dX6_row_0 : decode cX6_row 0 = .ok (.iload_n 1, 1) := by decide +kernel
theorem dX6_row_1 : decode cX6_row 1 = .ok (.ifCond .ge 10, 3) := by decide +kernel
theorem dX6_row_4 : decode cX6_row 4 = .ok (.aload_n 0, 1) := by decide +kernel
theorem dX6_row_5 : decode cX6_row 5 = .ok (.bipush (-4), 2) := by decide +kernel
theorem dX6_row_7 : decode cX6_row 7 = .ok (.invokevirtual 56, 3) := by decide +kernel
theorem dX6_row_10 : decode cX6_row 10 = .ok (.ireturn, 1) := by decide +kernel
theorem dX6_row_11 : decode cX6_row 11 = .ok (.iload_n 1, 1) := by decide +kernel
theorem dX6_row_12 : decode cX6_row 12 = .ok (.bipush 99, 2) := by decide +kernel
theorem dX6_row_14 : decode cX6_row 14 = .ok (.if_icmp .gt 12, 3) := by decide +kernel
theorem dX6_row_17 : decode cX6_row 17 = .ok (.aload_n 0, 1) := by decide +kernel
theorem dX6_row_18 : decode cX6_row 18 = .ok (.getfield 244, 3) := by decide +kernel
theorem dX6_row_21 : decode cX6_row 21 = .ok (.bipush 12, 2) := by decide +kernel
theorem dX6_row_23 : decode cX6_row 23 = .ok (.if_icmp .lt 10, 3) := by decide +kernel
theorem dX6_row_26 : decode cX6_row 26 = .ok (.aload_n 0, 1) := by decide +kernel
theorem dX6_row_27 : decode cX6_row 27 = .ok (.bipush (-6), 2) := by decide +kernel
theorem dX6_row_29 : decode cX6_row 29 = .ok (.invokevirtual 56, 3) := by decide +kernel
theorem dX6_row_32 : decode cX6_row 32 = .ok (.ireturn, 1) := by decide +kernel
theorem dX6_row_33 : decode cX6_row 33 = .ok (.aload_n 0, 1) := by decide +kernel
theorem dX6_row_34 : decode cX6_row 34 = .ok (.getfield 47, 3) := by decide +kernel
theorem dX6_row_37 : decode cX6_row 37 = .ok (.aload_n 0, 1) := by decide +kernel
theorem dX6_row_38 : decode cX6_row 38 = .ok (.getfield 244, 3) := by decide +kernel
theorem dX6_row_41 : decode cX6_row 41 = .ok (.iload_n 1, 1) := by decide +kernel
theorem dX6_row_42 : decode cX6_row 42 = .ok (.iastore, 1) := by decide +kernel
theorem dX6_row_43 : decode cX6_row 43 = .ok (.aload_n 0, 1) := by decide +kernel
theorem dX6_row_44 : decode cX6_row 44 = .ok (.dup, 1) := by decide +kernel
theorem dX6_row_45 : decode cX6_row 45 = .ok (.getfield 244, 3) := by decide +kernel
theorem dX6_row_48 : decode cX6_row 48 = .ok (.iconst 1, 1) := by decide +kernel
theorem dX6_row_49 : decode cX6_row 49 = .ok (.iadd, 1) := by decide +kernel
theorem dX6_row_50 : decode cX6_row 50 = .ok (.putfield 244, 3) := by decide +kernel
theorem dX6_row_53 : decode cX6_row 53 = .ok (.aload_n 0, 1) := by decide +kernel
theorem dX6_row_54 : decode cX6_row 54 = .ok (.getfield 244, 3) := by decide +kernel
theorem dX6_row_57 : decode cX6_row 57 = .ok (.ireturn, 1) := by decide +kernel
theorem dX6_judge_0 : decode cX6_judge 0 = .ok (.bipush (-9), 2) := by decide +kernel
theorem dX6_judge_2 : decode cX6_judge 2 = .ok (.istore_n 1, 1) := by decide +kernel
theorem dX6_judge_3 : decode cX6_judge 3 = .ok (.iconst 0, 1) := by decide +kernel
theorem dX6_judge_4 : decode cX6_judge 4 = .ok (.istore_n 2, 1) := by decide +kernel
theorem dX6_judge_5 : decode cX6_judge 5 = .ok (.iload_n 2, 1) := by decide +kernel
theorem dX6_judge_6 : decode cX6_judge 6 = .ok (.aload_n 0, 1) := by decide +kernel
theorem dX6_judge_7 : decode cX6_judge 7 = .ok (.getfield 244, 3) := by decide +kernel
theorem dX6_judge_10 : decode cX6_judge 10 = .ok (.if_icmp .ge 49, 3) := by decide +kernel
theorem dX6_judge_13 : decode cX6_judge 13 = .ok (.iload_n 1, 1) := by decide +kernel
theorem dX6_judge_14 : decode cX6_judge 14 = .ok (.bipush (-9), 2) := by decide +kernel
theorem dX6_judge_16 : decode cX6_judge 16 = .ok (.if_icmp .ne 43, 3) := by decide +kernel
theorem dX6_judge_19 : decode cX6_judge 19 = .ok (.iload_n 2, 1) := by decide +kernel
theorem dX6_judge_20 : decode cX6_judge 20 = .ok (.aload_n 0, 1) := by decide +kernel
theorem dX6_judge_21 : decode cX6_judge 21 = .ok (.getfield 10, 3) := by decide +kernel
theorem dX6_judge_24 : decode cX6_judge 24 = .ok (.getfield 60, 3) := by decide +kernel
theorem dX6_judge_27 : decode cX6_judge 27 = .ok (.if_icmp .ge 24, 3) := by decide +kernel
theorem dX6_judge_30 : decode cX6_judge 30 = .ok (.aload_n 0, 1) := by decide +kernel
theorem dX6_judge_31 : decode cX6_judge 31 = .ok (.getfield 10, 3) := by decide +kernel
theorem dX6_judge_34 : decode cX6_judge 34 = .ok (.getfield 105, 3) := by decide +kernel
theorem dX6_judge_37 : decode cX6_judge 37 = .ok (.iload_n 2, 1) := by decide +kernel
theorem dX6_judge_38 : decode cX6_judge 38 = .ok (.aaload, 1) := by decide +kernel
theorem dX6_judge_39 : decode cX6_judge 39 = .ok (.getfield 117, 3) := by decide +kernel
theorem dX6_judge_42 : decode cX6_judge 42 = .ok (.aload_n 0, 1) := by decide +kernel
theorem dX6_judge_43 : decode cX6_judge 43 = .ok (.getfield 47, 3) := by decide +kernel
theorem dX6_judge_46 : decode cX6_judge 46 = .ok (.iload_n 2, 1) := by decide +kernel
theorem dX6_judge_47 : decode cX6_judge 47 = .ok (.iaload, 1) := by decide +kernel
theorem dX6_judge_48 : decode cX6_judge 48 = .ok (.if_icmp .eq 5, 3) := by decide +kernel
theorem dX6_judge_51 : decode cX6_judge 51 = .ok (.iload_n 2, 1) := by decide +kernel
theorem dX6_judge_52 : decode cX6_judge 52 = .ok (.istore_n 1, 1) := by decide +kernel
theorem dX6_judge_53 : decode cX6_judge 53 = .ok (.iinc 2 1, 3) := by decide +kernel
theorem dX6_judge_56 : decode cX6_judge 56 = .ok (.goto (-51), 3) := by decide +kernel
theorem dX6_judge_59 : decode cX6_judge 59 = .ok (.aload_n 0, 1) := by decide +kernel
theorem dX6_judge_60 : decode cX6_judge 60 = .ok (.iconst 0, 1) := by decide +kernel
theorem dX6_judge_61 : decode cX6_judge 61 = .ok (.putfield 244, 3) := by decide +kernel
theorem dX6_judge_64 : decode cX6_judge 64 = .ok (.iload_n 1, 1) := by decide +kernel
theorem dX6_judge_65 : decode cX6_judge 65 = .ok (.ireturn, 1) := by decide +kernel
theorem dX6_clear_0 : decode cX6_clear 0 = .ok (.aload_n 0, 1) := by decide +kernel
theorem dX6_clear_1 : decode cX6_clear 1 = .ok (.getfield 244, 3) := by decide +kernel
theorem dX6_clear_4 : decode cX6_clear 4 = .ok (.istore_n 1, 1) := by decide +kernel
theorem dX6_clear_5 : decode cX6_clear 5 = .ok (.aload_n 0, 1) := by decide +kernel
theorem dX6_clear_6 : decode cX6_clear 6 = .ok (.iconst 0, 1) := by decide +kernel
theorem dX6_clear_7 : decode cX6_clear 7 = .ok (.putfield 244, 3) := by decide +kernel
theorem dX6_clear_10 : decode cX6_clear 10 = .ok (.iload_n 1, 1) := by decide +kernel
theorem dX6_clear_11 : decode cX6_clear 11 = .ok (.ireturn, 1) := by decide +kernel
theorem dX6_lots_0 : decode cX6_lots 0 = .ok (.iconst 0, 1) := by decide +kernel
theorem dX6_lots_1 : decode cX6_lots 1 = .ok (.iload_n 1, 1) := by decide +kernel
theorem dX6_lots_2 : decode cX6_lots 2 = .ok (.iconst 1, 1) := by decide +kernel
theorem dX6_lots_3 : decode cX6_lots 3 = .ok (.bipush 20, 2) := by decide +kernel
theorem dX6_lots_5 : decode cX6_lots 5 = .ok (.iload_n 3, 1) := by decide +kernel
theorem dX6_lots_6 : decode cX6_lots 6 = .ok (.iconst 1, 1) := by decide +kernel
theorem dX6_lots_7 : decode cX6_lots 7 = .ok (.invokestatic 194, 3) := by decide +kernel
theorem dX6_lots_10 : decode cX6_lots 10 = .ok (.istore 4, 2) := by decide +kernel
theorem dX6_lots_12 : decode cX6_lots 12 = .ok (.iload 4, 2) := by decide +kernel
theorem dX6_lots_14 : decode cX6_lots 14 = .ok (.ifCond .eq 10, 3) := by decide +kernel
theorem dX6_lots_17 : decode cX6_lots 17 = .ok (.aload_n 0, 1) := by decide +kernel
theorem dX6_lots_18 : decode cX6_lots 18 = .ok (.iload 4, 2) := by decide +kernel
theorem dX6_lots_20 : decode cX6_lots 20 = .ok (.invokevirtual 56, 3) := by decide +kernel
theorem dX6_lots_23 : decode cX6_lots 23 = .ok (.ireturn, 1) := by decide +kernel
theorem dX6_lots_24 : decode cX6_lots 24 = .ok (.aload_n 0, 1) := by decide +kernel
theorem dX6_lots_25 : decode cX6_lots 25 = .ok (.getfield 36, 3) := by decide +kernel
theorem dX6_lots_28 : decode cX6_lots 28 = .ok (.aload_n 0, 1) := by decide +kernel
theorem dX6_lots_29 : decode cX6_lots 29 = .ok (.getfield 10, 3) := by decide +kernel
theorem dX6_lots_32 : decode cX6_lots 32 = .ok (.iload_n 1, 1) := by decide +kernel
theorem dX6_lots_33 : decode cX6_lots 33 = .ok (.iload_n 2, 1) := by decide +kernel
theorem dX6_lots_34 : decode cX6_lots 34 = .ok (.iload_n 3, 1) := by decide +kernel
theorem dX6_lots_35 : decode cX6_lots 35 = .ok (.iconst 1, 1) := by decide +kernel
theorem dX6_lots_36 : decode cX6_lots 36 = .ok (.if_icmp .ne 7, 3) := by decide +kernel
theorem dX6_lots_39 : decode cX6_lots 39 = .ok (.iconst 1, 1) := by decide +kernel
theorem dX6_lots_40 : decode cX6_lots 40 = .ok (.goto 4, 3) := by decide +kernel
theorem dX6_lots_43 : decode cX6_lots 43 = .ok (.iconst 0, 1) := by decide +kernel
theorem dX6_lots_44 : decode cX6_lots 44 = .ok (.invokevirtual 314, 3) := by decide +kernel
theorem dX6_lots_47 : decode cX6_lots 47 = .ok (.ireturn, 1) := by decide +kernel
theorem dX6_image_0 : decode cX6_image 0 = .ok (.aload_n 0, 1) := by decide +kernel
theorem dX6_image_1 : decode cX6_image 1 = .ok (.getfield 16, 3) := by decide +kernel
theorem dX6_image_4 : decode cX6_image 4 = .ok (.aload_n 0, 1) := by decide +kernel
theorem dX6_image_5 : decode cX6_image 5 = .ok (.getfield 10, 3) := by decide +kernel
theorem dX6_image_8 : decode cX6_image 8 = .ok (.invokevirtual 100, 3) := by decide +kernel
theorem dX6_image_11 : decode cX6_image 11 = .ok (.aload_n 0, 1) := by decide +kernel
theorem dX6_image_12 : decode cX6_image 12 = .ok (.iconst 1, 1) := by decide +kernel
theorem dX6_image_13 : decode cX6_image 13 = .ok (.putfield 318, 3) := by decide +kernel
theorem dX6_image_16 : decode cX6_image 16 = .ok (.aload_n 0, 1) := by decide +kernel
theorem dX6_image_17 : decode cX6_image 17 = .ok (.getfield 10, 3) := by decide +kernel
theorem dX6_image_20 : decode cX6_image 20 = .ok (.getfield 142, 3) := by decide +kernel
theorem dX6_image_23 : decode cX6_image 23 = .ok (.ireturn, 1) := by decide +kernel
theorem dX6_restore_0 : decode cX6_restore 0 = .ok (.aload_n 0, 1) := by decide +kernel
theorem dX6_restore_1 : decode cX6_restore 1 = .ok (.getfield 318, 3) := by decide +kernel
theorem dX6_restore_4 : decode cX6_restore 4 = .ok (.ifCond .ne 10, 3) := by decide +kernel
theorem dX6_restore_7 : decode cX6_restore 7 = .ok (.aload_n 0, 1) := by decide +kernel
theorem dX6_restore_8 : decode cX6_restore 8 = .ok (.bipush (-3), 2) := by decide +kernel
theorem dX6_restore_10 : decode cX6_restore 10 = .ok (.invokevirtual 56, 3) := by decide +kernel
theorem dX6_restore_13 : decode cX6_restore 13 = .ok (.ireturn, 1) := by decide +kernel
theorem dX6_restore_14 : decode cX6_restore 14 = .ok (.aload_n 0, 1) := by decide +kernel
theorem dX6_restore_15 : decode cX6_restore 15 = .ok (.getfield 10, 3) := by decide +kernel
theorem dX6_restore_18 : decode cX6_restore 18 = .ok (.aload_n 0, 1) := by decide +kernel
theorem dX6_restore_19 : decode cX6_restore 19 = .ok (.getfield 16, 3) := by decide +kernel
theorem dX6_restore_22 : decode cX6_restore 22 = .ok (.invokevirtual 100, 3) := by decide +kernel
theorem dX6_restore_25 : decode cX6_restore 25 = .ok (.aload_n 0, 1) := by decide +kernel
theorem dX6_restore_26 : decode cX6_restore 26 = .ok (.getfield 22, 3) := by decide +kernel
theorem dX6_restore_29 : decode cX6_restore 29 = .ok (.invokevirtual 104, 3) := by decide +kernel
theorem dX6_restore_32 : decode cX6_restore 32 = .ok (.aload_n 0, 1) := by decide +kernel
theorem dX6_restore_33 : decode cX6_restore 33 = .ok (.getfield 10, 3) := by decide +kernel
theorem dX6_restore_36 : decode cX6_restore 36 = .ok (.getfield 142, 3) := by decide +kernel
theorem dX6_restore_39 : decode cX6_restore 39 = .ok (.ireturn, 1) := by decide +kernel
theorem dX6_count_0 : decode cX6_count 0 = .ok (.iload_n 1, 1) := by decide +kernel
theorem dX6_count_1 : decode cX6_count 1 = .ok (.tableswitch 132 0 9 #[55, 63, 71, 79, 87, 95, 103, 111, 119, 124], 55) := by decide +kernel
theorem dX6_count_56 : decode cX6_count 56 = .ok (.aload_n 0, 1) := by decide +kernel
theorem dX6_count_57 : decode cX6_count 57 = .ok (.getfield 10, 3) := by decide +kernel
theorem dX6_count_60 : decode cX6_count 60 = .ok (.getfield 60, 3) := by decide +kernel
theorem dX6_count_63 : decode cX6_count 63 = .ok (.ireturn, 1) := by decide +kernel
theorem dX6_count_64 : decode cX6_count 64 = .ok (.aload_n 0, 1) := by decide +kernel
theorem dX6_count_65 : decode cX6_count 65 = .ok (.getfield 10, 3) := by decide +kernel
theorem dX6_count_68 : decode cX6_count 68 = .ok (.getfield 142, 3) := by decide +kernel
theorem dX6_count_71 : decode cX6_count 71 = .ok (.ireturn, 1) := by decide +kernel
theorem dX6_count_72 : decode cX6_count 72 = .ok (.aload_n 0, 1) := by decide +kernel
theorem dX6_count_73 : decode cX6_count 73 = .ok (.getfield 10, 3) := by decide +kernel
theorem dX6_count_76 : decode cX6_count 76 = .ok (.getfield 187, 3) := by decide +kernel
theorem dX6_count_79 : decode cX6_count 79 = .ok (.ireturn, 1) := by decide +kernel
theorem dX6_count_80 : decode cX6_count 80 = .ok (.aload_n 0, 1) := by decide +kernel
theorem dX6_count_81 : decode cX6_count 81 = .ok (.getfield 10, 3) := by decide +kernel
theorem dX6_count_84 : decode cX6_count 84 = .ok (.invokevirtual 202, 3) := by decide +kernel
theorem dX6_count_87 : decode cX6_count 87 = .ok (.ireturn, 1) := by decide +kernel
theorem dX6_count_88 : decode cX6_count 88 = .ok (.aload_n 0, 1) := by decide +kernel
theorem dX6_count_89 : decode cX6_count 89 = .ok (.getfield 10, 3) := by decide +kernel
theorem dX6_count_92 : decode cX6_count 92 = .ok (.invokevirtual 292, 3) := by decide +kernel
theorem dX6_count_95 : decode cX6_count 95 = .ok (.ireturn, 1) := by decide +kernel
theorem dX6_count_96 : decode cX6_count 96 = .ok (.aload_n 0, 1) := by decide +kernel
theorem dX6_count_97 : decode cX6_count 97 = .ok (.getfield 10, 3) := by decide +kernel
theorem dX6_count_100 : decode cX6_count 100 = .ok (.invokevirtual 205, 3) := by decide +kernel
theorem dX6_count_103 : decode cX6_count 103 = .ok (.ireturn, 1) := by decide +kernel
theorem dX6_count_104 : decode cX6_count 104 = .ok (.aload_n 0, 1) := by decide +kernel
theorem dX6_count_105 : decode cX6_count 105 = .ok (.getfield 10, 3) := by decide +kernel
theorem dX6_count_108 : decode cX6_count 108 = .ok (.invokevirtual 208, 3) := by decide +kernel
theorem dX6_count_111 : decode cX6_count 111 = .ok (.ireturn, 1) := by decide +kernel
theorem dX6_count_112 : decode cX6_count 112 = .ok (.aload_n 0, 1) := by decide +kernel
theorem dX6_count_113 : decode cX6_count 113 = .ok (.getfield 29, 3) := by decide +kernel
theorem dX6_count_116 : decode cX6_count 116 = .ok (.getfield 87, 3) := by decide +kernel
theorem dX6_count_119 : decode cX6_count 119 = .ok (.ireturn, 1) := by decide +kernel
theorem dX6_count_120 : decode cX6_count 120 = .ok (.aload_n 0, 1) := by decide +kernel
theorem dX6_count_121 : decode cX6_count 121 = .ok (.getfield 244, 3) := by decide +kernel
theorem dX6_count_124 : decode cX6_count 124 = .ok (.ireturn, 1) := by decide +kernel
theorem dX6_count_125 : decode cX6_count 125 = .ok (.aload_n 0, 1) := by decide +kernel
theorem dX6_count_126 : decode cX6_count 126 = .ok (.getfield 22, 3) := by decide +kernel
theorem dX6_count_129 : decode cX6_count 129 = .ok (.getfield 190, 3) := by decide +kernel
theorem dX6_count_132 : decode cX6_count 132 = .ok (.ireturn, 1) := by decide +kernel
theorem dX6_count_133 : decode cX6_count 133 = .ok (.iload_n 1, 1) := by decide +kernel
theorem dX6_count_134 : decode cX6_count 134 = .ok (.bipush 11, 2) := by decide +kernel
theorem dX6_count_136 : decode cX6_count 136 = .ok (.if_icmp .lt 21, 3) := by decide +kernel
theorem dX6_count_139 : decode cX6_count 139 = .ok (.iload_n 1, 1) := by decide +kernel
theorem dX6_count_140 : decode cX6_count 140 = .ok (.bipush 16, 2) := by decide +kernel
theorem dX6_count_142 : decode cX6_count 142 = .ok (.if_icmp .gt 15, 3) := by decide +kernel
theorem dX6_count_145 : decode cX6_count 145 = .ok (.aload_n 0, 1) := by decide +kernel
theorem dX6_count_146 : decode cX6_count 146 = .ok (.getfield 51, 3) := by decide +kernel
theorem dX6_count_149 : decode cX6_count 149 = .ok (.iload_n 1, 1) := by decide +kernel
theorem dX6_count_150 : decode cX6_count 150 = .ok (.bipush 10, 2) := by decide +kernel
theorem dX6_count_152 : decode cX6_count 152 = .ok (.isub, 1) := by decide +kernel
theorem dX6_count_153 : decode cX6_count 153 = .ok (.iaload, 1) := by decide +kernel
theorem dX6_count_154 : decode cX6_count 154 = .ok (.goto 5, 3) := by decide +kernel
theorem dX6_count_157 : decode cX6_count 157 = .ok (.bipush (-9), 2) := by decide +kernel
theorem dX6_count_159 : decode cX6_count 159 = .ok (.ireturn, 1) := by decide +kernel
theorem dX7_no_0 : decode cX7_no 0 = .ok (.aload_n 0, 1) := by decide +kernel
theorem dX7_no_1 : decode cX7_no 1 = .ok (.getfield 7, 3) := by decide +kernel
theorem dX7_no_4 : decode cX7_no 4 = .ok (.iload_n 1, 1) := by decide +kernel
theorem dX7_no_5 : decode cX7_no 5 = .ok (.ineg, 1) := by decide +kernel
theorem dX7_no_6 : decode cX7_no 6 = .ok (.dup2, 1) := by decide +kernel
theorem dX7_no_7 : decode cX7_no 7 = .ok (.iaload, 1) := by decide +kernel
theorem dX7_no_8 : decode cX7_no 8 = .ok (.iconst 1, 1) := by decide +kernel
theorem dX7_no_9 : decode cX7_no 9 = .ok (.iadd, 1) := by decide +kernel
theorem dX7_no_10 : decode cX7_no 10 = .ok (.iastore, 1) := by decide +kernel
theorem dX7_no_11 : decode cX7_no 11 = .ok (.iload_n 1, 1) := by decide +kernel
theorem dX7_no_12 : decode cX7_no 12 = .ok (.ireturn, 1) := by decide +kernel
theorem dX7_lowestOf_0 : decode cX7_lowestOf 0 = .ok (.aload_n 0, 1) := by decide +kernel
theorem dX7_lowestOf_1 : decode cX7_lowestOf 1 = .ok (.getfield 7, 3) := by decide +kernel
theorem dX7_lowestOf_4 : decode cX7_lowestOf 4 = .ok (.iload_n 1, 1) := by decide +kernel
theorem dX7_lowestOf_5 : decode cX7_lowestOf 5 = .ok (.ineg, 1) := by decide +kernel
theorem dX7_lowestOf_6 : decode cX7_lowestOf 6 = .ok (.dup2, 1) := by decide +kernel
theorem dX7_lowestOf_7 : decode cX7_lowestOf 7 = .ok (.iaload, 1) := by decide +kernel
theorem dX7_lowestOf_8 : decode cX7_lowestOf 8 = .ok (.iconst 1, 1) := by decide +kernel
theorem dX7_lowestOf_9 : decode cX7_lowestOf 9 = .ok (.iadd, 1) := by decide +kernel
theorem dX7_lowestOf_10 : decode cX7_lowestOf 10 = .ok (.iastore, 1) := by decide +kernel
theorem dX7_lowestOf_11 : decode cX7_lowestOf 11 = .ok (.ldc2_w 83, 3) := by decide +kernel
theorem dX7_lowestOf_14 : decode cX7_lowestOf 14 = .ok (.iload_n 1, 1) := by decide +kernel
theorem dX7_lowestOf_15 : decode cX7_lowestOf 15 = .ok (.i2l, 1) := by decide +kernel
theorem dX7_lowestOf_16 : decode cX7_lowestOf 16 = .ok (.lsub, 1) := by decide +kernel
theorem dX7_lowestOf_17 : decode cX7_lowestOf 17 = .ok (.lreturn, 1) := by decide +kernel
theorem dX7_isIn_0 : decode cX7_isIn 0 = .ok (.iload_n 0, 1) := by decide +kernel
theorem dX7_isIn_1 : decode cX7_isIn 1 = .ok (.iload_n 1, 1) := by decide +kernel
theorem dX7_isIn_2 : decode cX7_isIn 2 = .ok (.if_icmp .lt 12, 3) := by decide +kernel
theorem dX7_isIn_5 : decode cX7_isIn 5 = .ok (.iload_n 0, 1) := by decide +kernel
theorem dX7_isIn_6 : decode cX7_isIn 6 = .ok (.iload_n 2, 1) := by decide +kernel
theorem dX7_isIn_7 : decode cX7_isIn 7 = .ok (.if_icmp .gt 7, 3) := by decide +kernel
theorem dX7_isIn_10 : decode cX7_isIn 10 = .ok (.iconst 1, 1) := by decide +kernel
theorem dX7_isIn_11 : decode cX7_isIn 11 = .ok (.goto 4, 3) := by decide +kernel
theorem dX7_isIn_14 : decode cX7_isIn 14 = .ok (.iconst 0, 1) := by decide +kernel
theorem dX7_isIn_15 : decode cX7_isIn 15 = .ok (.ireturn, 1) := by decide +kernel
theorem dX7_bound_0 : decode cX7_bound 0 = .ok (.iload_n 0, 1) := by decide +kernel
theorem dX7_bound_1 : decode cX7_bound 1 = .ok (.iload_n 1, 1) := by decide +kernel
theorem dX7_bound_2 : decode cX7_bound 2 = .ok (.if_icmp .ge 8, 3) := by decide +kernel
theorem dX7_bound_5 : decode cX7_bound 5 = .ok (.bipush (-4), 2) := by decide +kernel
theorem dX7_bound_7 : decode cX7_bound 7 = .ok (.goto 14, 3) := by decide +kernel
theorem dX7_bound_10 : decode cX7_bound 10 = .ok (.iload_n 0, 1) := by decide +kernel
theorem dX7_bound_11 : decode cX7_bound 11 = .ok (.iload_n 2, 1) := by decide +kernel
theorem dX7_bound_12 : decode cX7_bound 12 = .ok (.if_icmp .le 8, 3) := by decide +kernel
theorem dX7_bound_15 : decode cX7_bound 15 = .ok (.bipush (-6), 2) := by decide +kernel
theorem dX7_bound_17 : decode cX7_bound 17 = .ok (.goto 4, 3) := by decide +kernel
theorem dX7_bound_20 : decode cX7_bound 20 = .ok (.iconst 0, 1) := by decide +kernel
theorem dX7_bound_21 : decode cX7_bound 21 = .ok (.ireturn, 1) := by decide +kernel
theorem dX7_held_0 : decode cX7_held 0 = .ok (.iload_n 0, 1) := by decide +kernel
theorem dX7_held_1 : decode cX7_held 1 = .ok (.iload_n 1, 1) := by decide +kernel
theorem dX7_held_2 : decode cX7_held 2 = .ok (.if_icmp .le 7, 3) := by decide +kernel
theorem dX7_held_5 : decode cX7_held 5 = .ok (.iload_n 1, 1) := by decide +kernel
theorem dX7_held_6 : decode cX7_held 6 = .ok (.goto 4, 3) := by decide +kernel
theorem dX7_held_9 : decode cX7_held 9 = .ok (.iload_n 0, 1) := by decide +kernel
theorem dX7_held_10 : decode cX7_held 10 = .ok (.ireturn, 1) := by decide +kernel
theorem dX7_has_0 : decode cX7_has 0 = .ok (.iload_n 0, 1) := by decide +kernel
theorem dX7_has_1 : decode cX7_has 1 = .ok (.iload_n 1, 1) := by decide +kernel
theorem dX7_has_2 : decode cX7_has 2 = .ok (.ishr, 1) := by decide +kernel
theorem dX7_has_3 : decode cX7_has 3 = .ok (.iconst 1, 1) := by decide +kernel
theorem dX7_has_4 : decode cX7_has 4 = .ok (.iand, 1) := by decide +kernel
theorem dX7_has_5 : decode cX7_has 5 = .ok (.iconst 1, 1) := by decide +kernel
theorem dX7_has_6 : decode cX7_has 6 = .ok (.if_icmp .ne 7, 3) := by decide +kernel
theorem dX7_has_9 : decode cX7_has 9 = .ok (.iconst 1, 1) := by decide +kernel
theorem dX7_has_10 : decode cX7_has 10 = .ok (.goto 4, 3) := by decide +kernel
theorem dX7_has_13 : decode cX7_has 13 = .ok (.iconst 0, 1) := by decide +kernel
theorem dX7_has_14 : decode cX7_has 14 = .ok (.ireturn, 1) := by decide +kernel
theorem dX7_apart_0 : decode cX7_apart 0 = .ok (.iload_n 0, 1) := by decide +kernel
theorem dX7_apart_1 : decode cX7_apart 1 = .ok (.iload_n 1, 1) := by decide +kernel
theorem dX7_apart_2 : decode cX7_apart 2 = .ok (.if_icmp .ge 9, 3) := by decide +kernel
theorem dX7_apart_5 : decode cX7_apart 5 = .ok (.iload_n 1, 1) := by decide +kernel
theorem dX7_apart_6 : decode cX7_apart 6 = .ok (.iload_n 0, 1) := by decide +kernel
theorem dX7_apart_7 : decode cX7_apart 7 = .ok (.isub, 1) := by decide +kernel
theorem dX7_apart_8 : decode cX7_apart 8 = .ok (.goto 6, 3) := by decide +kernel
theorem dX7_apart_11 : decode cX7_apart 11 = .ok (.iload_n 0, 1) := by decide +kernel
theorem dX7_apart_12 : decode cX7_apart 12 = .ok (.iload_n 1, 1) := by decide +kernel
theorem dX7_apart_13 : decode cX7_apart 13 = .ok (.isub, 1) := by decide +kernel
theorem dX7_apart_14 : decode cX7_apart 14 = .ok (.ireturn, 1) := by decide +kernel
theorem dX7_bits_0 : decode cX7_bits 0 = .ok (.iconst 0, 1) := by decide +kernel
theorem dX7_bits_1 : decode cX7_bits 1 = .ok (.istore_n 1, 1) := by decide +kernel
theorem dX7_bits_2 : decode cX7_bits 2 = .ok (.iconst 0, 1) := by decide +kernel
theorem dX7_bits_3 : decode cX7_bits 3 = .ok (.istore_n 2, 1) := by decide +kernel
theorem dX7_bits_4 : decode cX7_bits 4 = .ok (.iload_n 2, 1) := by decide +kernel
theorem dX7_bits_5 : decode cX7_bits 5 = .ok (.bipush 31, 2) := by decide +kernel
theorem dX7_bits_7 : decode cX7_bits 7 = .ok (.if_icmp .ge 17, 3) := by decide +kernel
theorem dX7_bits_10 : decode cX7_bits 10 = .ok (.iload_n 1, 1) := by decide +kernel
theorem dX7_bits_11 : decode cX7_bits 11 = .ok (.iload_n 0, 1) := by decide +kernel
theorem dX7_bits_12 : decode cX7_bits 12 = .ok (.iload_n 2, 1) := by decide +kernel
theorem dX7_bits_13 : decode cX7_bits 13 = .ok (.ishr, 1) := by decide +kernel
theorem dX7_bits_14 : decode cX7_bits 14 = .ok (.iconst 1, 1) := by decide +kernel
theorem dX7_bits_15 : decode cX7_bits 15 = .ok (.iand, 1) := by decide +kernel
theorem dX7_bits_16 : decode cX7_bits 16 = .ok (.iadd, 1) := by decide +kernel
theorem dX7_bits_17 : decode cX7_bits 17 = .ok (.istore_n 1, 1) := by decide +kernel
theorem dX7_bits_18 : decode cX7_bits 18 = .ok (.iinc 2 1, 3) := by decide +kernel
theorem dX7_bits_21 : decode cX7_bits 21 = .ok (.goto (-17), 3) := by decide +kernel
theorem dX7_bits_24 : decode cX7_bits 24 = .ok (.iload_n 1, 1) := by decide +kernel
theorem dX7_bits_25 : decode cX7_bits 25 = .ok (.ireturn, 1) := by decide +kernel
theorem dX7_isHead_0 : decode cX7_isHead 0 = .ok (.iload_n 1, 1) := by decide +kernel
theorem dX7_isHead_1 : decode cX7_isHead 1 = .ok (.iconst 0, 1) := by decide +kernel
theorem dX7_isHead_2 : decode cX7_isHead 2 = .ok (.aload_n 0, 1) := by decide +kernel
theorem dX7_isHead_3 : decode cX7_isHead 3 = .ok (.getfield 79, 3) := by decide +kernel
theorem dX7_isHead_6 : decode cX7_isHead 6 = .ok (.iconst 1, 1) := by decide +kernel
theorem dX7_isHead_7 : decode cX7_isHead 7 = .ok (.isub, 1) := by decide +kernel
theorem dX7_isHead_8 : decode cX7_isHead 8 = .ok (.invokestatic 85, 3) := by decide +kernel
theorem dX7_isHead_11 : decode cX7_isHead 11 = .ok (.ireturn, 1) := by decide +kernel
theorem dX7_isField_0 : decode cX7_isField 0 = .ok (.iload_n 0, 1) := by decide +kernel
theorem dX7_isField_1 : decode cX7_isField 1 = .ok (.iconst 0, 1) := by decide +kernel
theorem dX7_isField_2 : decode cX7_isField 2 = .ok (.bipush 47, 2) := by decide +kernel
theorem dX7_isField_4 : decode cX7_isField 4 = .ok (.invokestatic 85, 3) := by decide +kernel
theorem dX7_isField_7 : decode cX7_isField 7 = .ok (.ireturn, 1) := by decide +kernel
theorem dX7_areTwo_0 : decode cX7_areTwo 0 = .ok (.aload_n 0, 1) := by decide +kernel
theorem dX7_areTwo_1 : decode cX7_areTwo 1 = .ok (.iload_n 1, 1) := by decide +kernel
theorem dX7_areTwo_2 : decode cX7_areTwo 2 = .ok (.invokevirtual 89, 3) := by decide +kernel
theorem dX7_areTwo_5 : decode cX7_areTwo 5 = .ok (.ifCond .eq 20, 3) := by decide +kernel
theorem dX7_areTwo_8 : decode cX7_areTwo 8 = .ok (.aload_n 0, 1) := by decide +kernel
theorem dX7_areTwo_9 : decode cX7_areTwo 9 = .ok (.iload_n 2, 1) := by decide +kernel
theorem dX7_areTwo_10 : decode cX7_areTwo 10 = .ok (.invokevirtual 89, 3) := by decide +kernel
theorem dX7_areTwo_13 : decode cX7_areTwo 13 = .ok (.ifCond .eq 12, 3) := by decide +kernel
theorem dX7_areTwo_16 : decode cX7_areTwo 16 = .ok (.iload_n 1, 1) := by decide +kernel
theorem dX7_areTwo_17 : decode cX7_areTwo 17 = .ok (.iload_n 2, 1) := by decide +kernel
theorem dX7_areTwo_18 : decode cX7_areTwo 18 = .ok (.if_icmp .eq 7, 3) := by decide +kernel
theorem dX7_areTwo_21 : decode cX7_areTwo 21 = .ok (.iconst 1, 1) := by decide +kernel
theorem dX7_areTwo_22 : decode cX7_areTwo 22 = .ok (.goto 4, 3) := by decide +kernel
theorem dX7_areTwo_25 : decode cX7_areTwo 25 = .ok (.iconst 0, 1) := by decide +kernel
theorem dX7_areTwo_26 : decode cX7_areTwo 26 = .ok (.ireturn, 1) := by decide +kernel
theorem dX7_isVowel_0 : decode cX7_isVowel 0 = .ok (.iload_n 0, 1) := by decide +kernel
theorem dX7_isVowel_1 : decode cX7_isVowel 1 = .ok (.ifCond .eq 26, 3) := by decide +kernel
theorem dX7_isVowel_4 : decode cX7_isVowel 4 = .ok (.iload_n 0, 1) := by decide +kernel
theorem dX7_isVowel_5 : decode cX7_isVowel 5 = .ok (.iconst 4, 1) := by decide +kernel
theorem dX7_isVowel_6 : decode cX7_isVowel 6 = .ok (.if_icmp .eq 21, 3) := by decide +kernel
theorem dX7_isVowel_9 : decode cX7_isVowel 9 = .ok (.iload_n 0, 1) := by decide +kernel
theorem dX7_isVowel_10 : decode cX7_isVowel 10 = .ok (.bipush 8, 2) := by decide +kernel
theorem dX7_isVowel_12 : decode cX7_isVowel 12 = .ok (.if_icmp .eq 15, 3) := by decide +kernel
theorem dX7_isVowel_15 : decode cX7_isVowel 15 = .ok (.iload_n 0, 1) := by decide +kernel
theorem dX7_isVowel_16 : decode cX7_isVowel 16 = .ok (.bipush 14, 2) := by decide +kernel
theorem dX7_isVowel_18 : decode cX7_isVowel 18 = .ok (.if_icmp .eq 9, 3) := by decide +kernel
theorem dX7_isVowel_21 : decode cX7_isVowel 21 = .ok (.iload_n 0, 1) := by decide +kernel
theorem dX7_isVowel_22 : decode cX7_isVowel 22 = .ok (.bipush 20, 2) := by decide +kernel
theorem dX7_isVowel_24 : decode cX7_isVowel 24 = .ok (.if_icmp .ne 7, 3) := by decide +kernel
theorem dX7_isVowel_27 : decode cX7_isVowel 27 = .ok (.iconst 1, 1) := by decide +kernel
theorem dX7_isVowel_28 : decode cX7_isVowel 28 = .ok (.goto 4, 3) := by decide +kernel
theorem dX7_isVowel_31 : decode cX7_isVowel 31 = .ok (.iconst 0, 1) := by decide +kernel
theorem dX7_isVowel_32 : decode cX7_isVowel 32 = .ok (.ireturn, 1) := by decide +kernel
theorem dX7_steps_0 : decode cX7_steps 0 = .ok (.aload_n 0, 1) := by decide +kernel
theorem dX7_steps_1 : decode cX7_steps 1 = .ok (.getfield 25, 3) := by decide +kernel
theorem dX7_steps_4 : decode cX7_steps 4 = .ok (.iload_n 1, 1) := by decide +kernel
theorem dX7_steps_5 : decode cX7_steps 5 = .ok (.iaload, 1) := by decide +kernel
theorem dX7_steps_6 : decode cX7_steps 6 = .ok (.istore_n 2, 1) := by decide +kernel
theorem dX7_steps_7 : decode cX7_steps 7 = .ok (.aload_n 0, 1) := by decide +kernel
theorem dX7_steps_8 : decode cX7_steps 8 = .ok (.getfield 22, 3) := by decide +kernel
theorem dX7_steps_11 : decode cX7_steps 11 = .ok (.iload_n 1, 1) := by decide +kernel
theorem dX7_steps_12 : decode cX7_steps 12 = .ok (.iaload, 1) := by decide +kernel
theorem dX7_steps_13 : decode cX7_steps 13 = .ok (.tableswitch 66 1 7 #[43, 45, 66, 66, 51, 60, 43], 43) := by decide +kernel
theorem dX7_steps_56 : decode cX7_steps 56 = .ok (.iconst 2, 1) := by decide +kernel
theorem dX7_steps_57 : decode cX7_steps 57 = .ok (.ireturn, 1) := by decide +kernel
theorem dX7_steps_58 : decode cX7_steps 58 = .ok (.iload_n 2, 1) := by decide +kernel
theorem dX7_steps_59 : decode cX7_steps 59 = .ok (.iconst 3, 1) := by decide +kernel
theorem dX7_steps_60 : decode cX7_steps 60 = .ok (.idiv, 1) := by decide +kernel
theorem dX7_steps_61 : decode cX7_steps 61 = .ok (.iconst 1, 1) := by decide +kernel
theorem dX7_steps_62 : decode cX7_steps 62 = .ok (.iadd, 1) := by decide +kernel
theorem dX7_steps_63 : decode cX7_steps 63 = .ok (.ireturn, 1) := by decide +kernel
theorem dX7_steps_64 : decode cX7_steps 64 = .ok (.aload_n 0, 1) := by decide +kernel
theorem dX7_steps_65 : decode cX7_steps 65 = .ok (.getfield 43, 3) := by decide +kernel
theorem dX7_steps_68 : decode cX7_steps 68 = .ok (.iload_n 1, 1) := by decide +kernel
theorem dX7_steps_69 : decode cX7_steps 69 = .ok (.iaload, 1) := by decide +kernel
theorem dX7_steps_70 : decode cX7_steps 70 = .ok (.iconst 2, 1) := by decide +kernel
theorem dX7_steps_71 : decode cX7_steps 71 = .ok (.idiv, 1) := by decide +kernel
theorem dX7_steps_72 : decode cX7_steps 72 = .ok (.ireturn, 1) := by decide +kernel
theorem dX7_steps_73 : decode cX7_steps 73 = .ok (.iload_n 2, 1) := by decide +kernel
theorem dX7_steps_74 : decode cX7_steps 74 = .ok (.iconst 3, 1) := by decide +kernel
theorem dX7_steps_75 : decode cX7_steps 75 = .ok (.idiv, 1) := by decide +kernel
theorem dX7_steps_76 : decode cX7_steps 76 = .ok (.iconst 2, 1) := by decide +kernel
theorem dX7_steps_77 : decode cX7_steps 77 = .ok (.iadd, 1) := by decide +kernel
theorem dX7_steps_78 : decode cX7_steps 78 = .ok (.ireturn, 1) := by decide +kernel
theorem dX7_steps_79 : decode cX7_steps 79 = .ok (.iconst 1, 1) := by decide +kernel
theorem dX7_steps_80 : decode cX7_steps 80 = .ok (.ireturn, 1) := by decide +kernel
theorem dX7_weight_0 : decode cX7_weight 0 = .ok (.aload_n 0, 1) := by decide +kernel
theorem dX7_weight_1 : decode cX7_weight 1 = .ok (.getfield 25, 3) := by decide +kernel
theorem dX7_weight_4 : decode cX7_weight 4 = .ok (.iload_n 1, 1) := by decide +kernel
theorem dX7_weight_5 : decode cX7_weight 5 = .ok (.iaload, 1) := by decide +kernel
theorem dX7_weight_6 : decode cX7_weight 6 = .ok (.istore_n 2, 1) := by decide +kernel
theorem dX7_weight_7 : decode cX7_weight 7 = .ok (.aload_n 0, 1) := by decide +kernel
theorem dX7_weight_8 : decode cX7_weight 8 = .ok (.getfield 22, 3) := by decide +kernel
theorem dX7_weight_11 : decode cX7_weight 11 = .ok (.iload_n 1, 1) := by decide +kernel
theorem dX7_weight_12 : decode cX7_weight 12 = .ok (.iaload, 1) := by decide +kernel
theorem dX7_weight_13 : decode cX7_weight 13 = .ok (.tableswitch 77 1 7 #[43, 49, 52, 58, 64, 72, 58], 43) := by decide +kernel
theorem dX7_weight_56 : decode cX7_weight 56 = .ok (.iconst 2, 1) := by decide +kernel
theorem dX7_weight_57 : decode cX7_weight 57 = .ok (.iload_n 2, 1) := by decide +kernel
theorem dX7_weight_58 : decode cX7_weight 58 = .ok (.imul, 1) := by decide +kernel
theorem dX7_weight_59 : decode cX7_weight 59 = .ok (.iconst 2, 1) := by decide +kernel
theorem dX7_weight_60 : decode cX7_weight 60 = .ok (.iadd, 1) := by decide +kernel
theorem dX7_weight_61 : decode cX7_weight 61 = .ok (.ireturn, 1) := by decide +kernel
theorem dX7_weight_62 : decode cX7_weight 62 = .ok (.bipush 9, 2) := by decide +kernel
theorem dX7_weight_64 : decode cX7_weight 64 = .ok (.ireturn, 1) := by decide +kernel
theorem dX7_weight_65 : decode cX7_weight 65 = .ok (.iload_n 2, 1) := by decide +kernel
theorem dX7_weight_66 : decode cX7_weight 66 = .ok (.iconst 1, 1) := by decide +kernel
theorem dX7_weight_67 : decode cX7_weight 67 = .ok (.iadd, 1) := by decide +kernel
theorem dX7_weight_68 : decode cX7_weight 68 = .ok (.iconst 2, 1) := by decide +kernel
theorem dX7_weight_69 : decode cX7_weight 69 = .ok (.idiv, 1) := by decide +kernel
theorem dX7_weight_70 : decode cX7_weight 70 = .ok (.ireturn, 1) := by decide +kernel
theorem dX7_weight_71 : decode cX7_weight 71 = .ok (.iconst 2, 1) := by decide +kernel
theorem dX7_weight_72 : decode cX7_weight 72 = .ok (.iload_n 2, 1) := by decide +kernel
theorem dX7_weight_73 : decode cX7_weight 73 = .ok (.imul, 1) := by decide +kernel
theorem dX7_weight_74 : decode cX7_weight 74 = .ok (.iconst 5, 1) := by decide +kernel
theorem dX7_weight_75 : decode cX7_weight 75 = .ok (.iadd, 1) := by decide +kernel
theorem dX7_weight_76 : decode cX7_weight 76 = .ok (.ireturn, 1) := by decide +kernel
theorem dX7_weight_77 : decode cX7_weight 77 = .ok (.iload_n 2, 1) := by decide +kernel
theorem dX7_weight_78 : decode cX7_weight 78 = .ok (.iconst 1, 1) := by decide +kernel
theorem dX7_weight_79 : decode cX7_weight 79 = .ok (.iadd, 1) := by decide +kernel
theorem dX7_weight_80 : decode cX7_weight 80 = .ok (.iconst 2, 1) := by decide +kernel
theorem dX7_weight_81 : decode cX7_weight 81 = .ok (.idiv, 1) := by decide +kernel
theorem dX7_weight_82 : decode cX7_weight 82 = .ok (.iconst 2, 1) := by decide +kernel
theorem dX7_weight_83 : decode cX7_weight 83 = .ok (.iadd, 1) := by decide +kernel
theorem dX7_weight_84 : decode cX7_weight 84 = .ok (.ireturn, 1) := by decide +kernel
theorem dX7_weight_85 : decode cX7_weight 85 = .ok (.bipush 9, 2) := by decide +kernel
theorem dX7_weight_87 : decode cX7_weight 87 = .ok (.iload_n 2, 1) := by decide +kernel
theorem dX7_weight_88 : decode cX7_weight 88 = .ok (.isub, 1) := by decide +kernel
theorem dX7_weight_89 : decode cX7_weight 89 = .ok (.ireturn, 1) := by decide +kernel
theorem dX7_weight_90 : decode cX7_weight 90 = .ok (.iload_n 2, 1) := by decide +kernel
theorem dX7_weight_91 : decode cX7_weight 91 = .ok (.iconst 1, 1) := by decide +kernel
theorem dX7_weight_92 : decode cX7_weight 92 = .ok (.iadd, 1) := by decide +kernel
theorem dX7_weight_93 : decode cX7_weight 93 = .ok (.ireturn, 1) := by decide +kernel
theorem dX7_veersAsSaint_0 : decode cX7_veersAsSaint 0 = .ok (.aload_n 0, 1) := by decide +kernel
theorem dX7_veersAsSaint_1 : decode cX7_veersAsSaint 1 = .ok (.getfield 37, 3) := by decide +kernel
theorem dX7_veersAsSaint_4 : decode cX7_veersAsSaint 4 = .ok (.iload_n 1, 1) := by decide +kernel
theorem dX7_veersAsSaint_5 : decode cX7_veersAsSaint 5 = .ok (.iaload, 1) := by decide +kernel
theorem dX7_veersAsSaint_6 : decode cX7_veersAsSaint 6 = .ok (.ifCond .ne 7, 3) := by decide +kernel
theorem dX7_veersAsSaint_9 : decode cX7_veersAsSaint 9 = .ok (.iconst 2, 1) := by decide +kernel
theorem dX7_veersAsSaint_10 : decode cX7_veersAsSaint 10 = .ok (.goto 14, 3) := by decide +kernel
theorem dX7_veersAsSaint_13 : decode cX7_veersAsSaint 13 = .ok (.iload_n 2, 1) := by decide +kernel
theorem dX7_veersAsSaint_14 : decode cX7_veersAsSaint 14 = .ok (.iconst 4, 1) := by decide +kernel
theorem dX7_veersAsSaint_15 : decode cX7_veersAsSaint 15 = .ok (.irem, 1) := by decide +kernel
theorem dX7_veersAsSaint_16 : decode cX7_veersAsSaint 16 = .ok (.ifCond .ne 7, 3) := by decide +kernel
theorem dX7_veersAsSaint_19 : decode cX7_veersAsSaint 19 = .ok (.iconst 1, 1) := by decide +kernel
theorem dX7_veersAsSaint_20 : decode cX7_veersAsSaint 20 = .ok (.goto 4, 3) := by decide +kernel
theorem dX7_veersAsSaint_23 : decode cX7_veersAsSaint 23 = .ok (.iconst 0, 1) := by decide +kernel
theorem dX7_veersAsSaint_24 : decode cX7_veersAsSaint 24 = .ok (.ireturn, 1) := by decide +kernel
theorem dX7_veers_0 : decode cX7_veers 0 = .ok (.aload_n 0, 1) := by decide +kernel
theorem dX7_veers_1 : decode cX7_veers 1 = .ok (.getfield 25, 3) := by decide +kernel
theorem dX7_veers_4 : decode cX7_veers 4 = .ok (.iload_n 1, 1) := by decide +kernel
theorem dX7_veers_5 : decode cX7_veers 5 = .ok (.iaload, 1) := by decide +kernel
theorem dX7_veers_6 : decode cX7_veers 6 = .ok (.istore_n 3, 1) := by decide +kernel
theorem dX7_veers_7 : decode cX7_veers 7 = .ok (.aload_n 0, 1) := by decide +kernel
theorem dX7_veers_8 : decode cX7_veers 8 = .ok (.getfield 22, 3) := by decide +kernel
theorem dX7_veers_11 : decode cX7_veers 11 = .ok (.iload_n 1, 1) := by decide +kernel
theorem dX7_veers_12 : decode cX7_veers 12 = .ok (.iaload, 1) := by decide +kernel
theorem dX7_veers_13 : decode cX7_veers 13 = .ok (.tableswitch 120 1 7 #[43, 120, 55, 69, 76, 90, 94], 43) := by decide +kernel
theorem dX7_veers_56 : decode cX7_veers 56 = .ok (.iload_n 2, 1) := by decide +kernel
theorem dX7_veers_57 : decode cX7_veers 57 = .ok (.iconst 4, 1) := by decide +kernel
theorem dX7_veers_58 : decode cX7_veers 58 = .ok (.irem, 1) := by decide +kernel
theorem dX7_veers_59 : decode cX7_veers 59 = .ok (.ifCond .ne 7, 3) := by decide +kernel
theorem dX7_veers_62 : decode cX7_veers 62 = .ok (.iconst 1, 1) := by decide +kernel
theorem dX7_veers_63 : decode cX7_veers 63 = .ok (.goto 4, 3) := by decide +kernel
theorem dX7_veers_66 : decode cX7_veers 66 = .ok (.iconst 0, 1) := by decide +kernel
theorem dX7_veers_67 : decode cX7_veers 67 = .ok (.ireturn, 1) := by decide +kernel
theorem dX7_veers_68 : decode cX7_veers 68 = .ok (.iload_n 2, 1) := by decide +kernel
theorem dX7_veers_69 : decode cX7_veers 69 = .ok (.iload_n 3, 1) := by decide +kernel
theorem dX7_veers_70 : decode cX7_veers 70 = .ok (.iconst 2, 1) := by decide +kernel
theorem dX7_veers_71 : decode cX7_veers 71 = .ok (.iadd, 1) := by decide +kernel
theorem dX7_veers_72 : decode cX7_veers 72 = .ok (.irem, 1) := by decide +kernel
theorem dX7_veers_73 : decode cX7_veers 73 = .ok (.ifCond .ne 7, 3) := by decide +kernel
theorem dX7_veers_76 : decode cX7_veers 76 = .ok (.iconst 3, 1) := by decide +kernel
theorem dX7_veers_77 : decode cX7_veers 77 = .ok (.goto 4, 3) := by decide +kernel
theorem dX7_veers_80 : decode cX7_veers 80 = .ok (.iconst 0, 1) := by decide +kernel
theorem dX7_veers_81 : decode cX7_veers 81 = .ok (.ireturn, 1) := by decide +kernel
theorem dX7_veers_82 : decode cX7_veers 82 = .ok (.aload_n 0, 1) := by decide +kernel
theorem dX7_veers_83 : decode cX7_veers 83 = .ok (.iload_n 1, 1) := by decide +kernel
theorem dX7_veers_84 : decode cX7_veers 84 = .ok (.iload_n 2, 1) := by decide +kernel
theorem dX7_veers_85 : decode cX7_veers 85 = .ok (.invokevirtual 93, 3) := by decide +kernel
theorem dX7_veers_88 : decode cX7_veers 88 = .ok (.ireturn, 1) := by decide +kernel
theorem dX7_veers_89 : decode cX7_veers 89 = .ok (.iload_n 2, 1) := by decide +kernel
theorem dX7_veers_90 : decode cX7_veers 90 = .ok (.iload_n 3, 1) := by decide +kernel
theorem dX7_veers_91 : decode cX7_veers 91 = .ok (.iconst 2, 1) := by decide +kernel
theorem dX7_veers_92 : decode cX7_veers 92 = .ok (.iadd, 1) := by decide +kernel
theorem dX7_veers_93 : decode cX7_veers 93 = .ok (.irem, 1) := by decide +kernel
theorem dX7_veers_94 : decode cX7_veers 94 = .ok (.ifCond .ne 7, 3) := by decide +kernel
theorem dX7_veers_97 : decode cX7_veers 97 = .ok (.iconst 4, 1) := by decide +kernel
theorem dX7_veers_98 : decode cX7_veers 98 = .ok (.goto 4, 3) := by decide +kernel
theorem dX7_veers_101 : decode cX7_veers 101 = .ok (.iconst 1, 1) := by decide +kernel
theorem dX7_veers_102 : decode cX7_veers 102 = .ok (.ireturn, 1) := by decide +kernel
theorem dX7_veers_103 : decode cX7_veers 103 = .ok (.iload_n 2, 1) := by decide +kernel
theorem dX7_veers_104 : decode cX7_veers 104 = .ok (.iconst 2, 1) := by decide +kernel
theorem dX7_veers_105 : decode cX7_veers 105 = .ok (.irem, 1) := by decide +kernel
theorem dX7_veers_106 : decode cX7_veers 106 = .ok (.ireturn, 1) := by decide +kernel
theorem dX7_veers_107 : decode cX7_veers 107 = .ok (.aload_n 0, 1) := by decide +kernel
theorem dX7_veers_108 : decode cX7_veers 108 = .ok (.getfield 46, 3) := by decide +kernel
theorem dX7_veers_111 : decode cX7_veers 111 = .ok (.bipush 6, 2) := by decide +kernel
theorem dX7_veers_113 : decode cX7_veers 113 = .ok (.iload_n 1, 1) := by decide +kernel
theorem dX7_veers_114 : decode cX7_veers 114 = .ok (.imul, 1) := by decide +kernel
theorem dX7_veers_115 : decode cX7_veers 115 = .ok (.iaload, 1) := by decide +kernel
theorem dX7_veers_116 : decode cX7_veers 116 = .ok (.invokestatic 97, 3) := by decide +kernel
theorem dX7_veers_119 : decode cX7_veers 119 = .ok (.ifCond .eq 7, 3) := by decide +kernel
theorem dX7_veers_122 : decode cX7_veers 122 = .ok (.iconst 3, 1) := by decide +kernel
theorem dX7_veers_123 : decode cX7_veers 123 = .ok (.goto 9, 3) := by decide +kernel
theorem dX7_veers_126 : decode cX7_veers 126 = .ok (.aload_n 0, 1) := by decide +kernel
theorem dX7_veers_127 : decode cX7_veers 127 = .ok (.iload_n 1, 1) := by decide +kernel
theorem dX7_veers_128 : decode cX7_veers 128 = .ok (.iload_n 2, 1) := by decide +kernel
theorem dX7_veers_129 : decode cX7_veers 129 = .ok (.invokevirtual 93, 3) := by decide +kernel
