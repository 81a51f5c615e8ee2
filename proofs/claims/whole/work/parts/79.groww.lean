theorem dX2_steadyPair_0 : decode cX2_steadyPair 0 = .ok (.iconst 4, 1) := by decide +kernel
theorem dX2_steadyPair_1 : decode cX2_steadyPair 1 = .ok (.newarray .int, 2) := by decide +kernel
theorem dX2_steadyPair_3 : decode cX2_steadyPair 3 = .ok (.astore 5, 2) := by decide +kernel
theorem dX2_steadyPair_5 : decode cX2_steadyPair 5 = .ok (.iconst 4, 1) := by decide +kernel
theorem dX2_steadyPair_6 : decode cX2_steadyPair 6 = .ok (.newarray .int, 2) := by decide +kernel
theorem dX2_steadyPair_8 : decode cX2_steadyPair 8 = .ok (.astore 6, 2) := by decide +kernel
theorem dX2_steadyPair_10 : decode cX2_steadyPair 10 = .ok (.iconst 0, 1) := by decide +kernel
theorem dX2_steadyPair_11 : decode cX2_steadyPair 11 = .ok (.istore 7, 2) := by decide +kernel
theorem dX2_steadyPair_13 : decode cX2_steadyPair 13 = .ok (.iload 7, 2) := by decide +kernel
theorem dX2_steadyPair_15 : decode cX2_steadyPair 15 = .ok (.iconst 4, 1) := by decide +kernel
theorem dX2_steadyPair_16 : decode cX2_steadyPair 16 = .ok (.if_icmp .ge 90, 3) := by decide +kernel
theorem dX2_steadyPair_19 : decode cX2_steadyPair 19 = .ok (.aload_n 0, 1) := by decide +kernel
theorem dX2_steadyPair_20 : decode cX2_steadyPair 20 = .ok (.aload_n 1, 1) := by decide +kernel
theorem dX2_steadyPair_21 : decode cX2_steadyPair 21 = .ok (.invokevirtual 22, 3) := by decide +kernel
theorem dX2_steadyPair_24 : decode cX2_steadyPair 24 = .ok (.pop, 1) := by decide +kernel
theorem dX2_steadyPair_25 : decode cX2_steadyPair 25 = .ok (.aload_n 0, 1) := by decide +kernel
theorem dX2_steadyPair_26 : decode cX2_steadyPair 26 = .ok (.iload_n 2, 1) := by decide +kernel
theorem dX2_steadyPair_27 : decode cX2_steadyPair 27 = .ok (.iload 7, 2) := by decide +kernel
theorem dX2_steadyPair_29 : decode cX2_steadyPair 29 = .ok (.iconst 1, 1) := by decide +kernel
theorem dX2_steadyPair_30 : decode cX2_steadyPair 30 = .ok (.ishr, 1) := by decide +kernel
theorem dX2_steadyPair_31 : decode cX2_steadyPair 31 = .ok (.invokevirtual 98, 3) := by decide +kernel
theorem dX2_steadyPair_34 : decode cX2_steadyPair 34 = .ok (.aload_n 0, 1) := by decide +kernel
theorem dX2_steadyPair_35 : decode cX2_steadyPair 35 = .ok (.iload_n 3, 1) := by decide +kernel
theorem dX2_steadyPair_36 : decode cX2_steadyPair 36 = .ok (.iload 7, 2) := by decide +kernel
theorem dX2_steadyPair_38 : decode cX2_steadyPair 38 = .ok (.iconst 1, 1) := by decide +kernel
theorem dX2_steadyPair_39 : decode cX2_steadyPair 39 = .ok (.iand, 1) := by decide +kernel
theorem dX2_steadyPair_40 : decode cX2_steadyPair 40 = .ok (.invokevirtual 98, 3) := by decide +kernel
theorem dX2_steadyPair_43 : decode cX2_steadyPair 43 = .ok (.aload_n 0, 1) := by decide +kernel
theorem dX2_steadyPair_44 : decode cX2_steadyPair 44 = .ok (.getfield 12, 3) := by decide +kernel
theorem dX2_steadyPair_47 : decode cX2_steadyPair 47 = .ok (.iload 4, 2) := by decide +kernel
theorem dX2_steadyPair_49 : decode cX2_steadyPair 49 = .ok (.invokevirtual 26, 3) := by decide +kernel
theorem dX2_steadyPair_52 : decode cX2_steadyPair 52 = .ok (.aload 5, 2) := by decide +kernel
theorem dX2_steadyPair_54 : decode cX2_steadyPair 54 = .ok (.iload 7, 2) := by decide +kernel
theorem dX2_steadyPair_56 : decode cX2_steadyPair 56 = .ok (.aload_n 0, 1) := by decide +kernel
theorem dX2_steadyPair_57 : decode cX2_steadyPair 57 = .ok (.getfield 12, 3) := by decide +kernel
theorem dX2_steadyPair_60 : decode cX2_steadyPair 60 = .ok (.getfield 30, 3) := by decide +kernel
theorem dX2_steadyPair_63 : decode cX2_steadyPair 63 = .ok (.iload_n 2, 1) := by decide +kernel
theorem dX2_steadyPair_64 : decode cX2_steadyPair 64 = .ok (.aaload, 1) := by decide +kernel
theorem dX2_steadyPair_65 : decode cX2_steadyPair 65 = .ok (.getfield 73, 3) := by decide +kernel
theorem dX2_steadyPair_68 : decode cX2_steadyPair 68 = .ok (.iconst 5, 1) := by decide +kernel
theorem dX2_steadyPair_69 : decode cX2_steadyPair 69 = .ok (.iload 7, 2) := by decide +kernel
theorem dX2_steadyPair_71 : decode cX2_steadyPair 71 = .ok (.iconst 1, 1) := by decide +kernel
theorem dX2_steadyPair_72 : decode cX2_steadyPair 72 = .ok (.ishr, 1) := by decide +kernel
theorem dX2_steadyPair_73 : decode cX2_steadyPair 73 = .ok (.imul, 1) := by decide +kernel
theorem dX2_steadyPair_74 : decode cX2_steadyPair 74 = .ok (.iadd, 1) := by decide +kernel
theorem dX2_steadyPair_75 : decode cX2_steadyPair 75 = .ok (.iastore, 1) := by decide +kernel
theorem dX2_steadyPair_76 : decode cX2_steadyPair 76 = .ok (.aload 6, 2) := by decide +kernel
theorem dX2_steadyPair_78 : decode cX2_steadyPair 78 = .ok (.iload 7, 2) := by decide +kernel
theorem dX2_steadyPair_80 : decode cX2_steadyPair 80 = .ok (.aload_n 0, 1) := by decide +kernel
theorem dX2_steadyPair_81 : decode cX2_steadyPair 81 = .ok (.getfield 12, 3) := by decide +kernel
theorem dX2_steadyPair_84 : decode cX2_steadyPair 84 = .ok (.getfield 30, 3) := by decide +kernel
theorem dX2_steadyPair_87 : decode cX2_steadyPair 87 = .ok (.iload_n 3, 1) := by decide +kernel
theorem dX2_steadyPair_88 : decode cX2_steadyPair 88 = .ok (.aaload, 1) := by decide +kernel
theorem dX2_steadyPair_89 : decode cX2_steadyPair 89 = .ok (.getfield 73, 3) := by decide +kernel
theorem dX2_steadyPair_92 : decode cX2_steadyPair 92 = .ok (.iconst 5, 1) := by decide +kernel
theorem dX2_steadyPair_93 : decode cX2_steadyPair 93 = .ok (.iload 7, 2) := by decide +kernel
theorem dX2_steadyPair_95 : decode cX2_steadyPair 95 = .ok (.iconst 1, 1) := by decide +kernel
theorem dX2_steadyPair_96 : decode cX2_steadyPair 96 = .ok (.iand, 1) := by decide +kernel
theorem dX2_steadyPair_97 : decode cX2_steadyPair 97 = .ok (.imul, 1) := by decide +kernel
theorem dX2_steadyPair_98 : decode cX2_steadyPair 98 = .ok (.iadd, 1) := by decide +kernel
theorem dX2_steadyPair_99 : decode cX2_steadyPair 99 = .ok (.iastore, 1) := by decide +kernel
theorem dX2_steadyPair_100 : decode cX2_steadyPair 100 = .ok (.iinc 7 1, 3) := by decide +kernel
theorem dX2_steadyPair_103 : decode cX2_steadyPair 103 = .ok (.goto (-90), 3) := by decide +kernel
theorem dX2_steadyPair_106 : decode cX2_steadyPair 106 = .ok (.iconst 0, 1) := by decide +kernel
theorem dX2_steadyPair_107 : decode cX2_steadyPair 107 = .ok (.istore 7, 2) := by decide +kernel
theorem dX2_steadyPair_109 : decode cX2_steadyPair 109 = .ok (.iload 7, 2) := by decide +kernel
theorem dX2_steadyPair_111 : decode cX2_steadyPair 111 = .ok (.iconst 4, 1) := by decide +kernel
theorem dX2_steadyPair_112 : decode cX2_steadyPair 112 = .ok (.if_icmp .ge 52, 3) := by decide +kernel
theorem dX2_steadyPair_115 : decode cX2_steadyPair 115 = .ok (.aload 5, 2) := by decide +kernel
theorem dX2_steadyPair_117 : decode cX2_steadyPair 117 = .ok (.iload 7, 2) := by decide +kernel
theorem dX2_steadyPair_119 : decode cX2_steadyPair 119 = .ok (.iconst 2, 1) := by decide +kernel
theorem dX2_steadyPair_120 : decode cX2_steadyPair 120 = .ok (.ixor, 1) := by decide +kernel
theorem dX2_steadyPair_121 : decode cX2_steadyPair 121 = .ok (.iaload, 1) := by decide +kernel
theorem dX2_steadyPair_122 : decode cX2_steadyPair 122 = .ok (.aload 5, 2) := by decide +kernel
theorem dX2_steadyPair_124 : decode cX2_steadyPair 124 = .ok (.iload 7, 2) := by decide +kernel
theorem dX2_steadyPair_126 : decode cX2_steadyPair 126 = .ok (.iaload, 1) := by decide +kernel
theorem dX2_steadyPair_127 : decode cX2_steadyPair 127 = .ok (.if_icmp .gt 31, 3) := by decide +kernel
theorem dX2_steadyPair_130 : decode cX2_steadyPair 130 = .ok (.aload 6, 2) := by decide +kernel
theorem dX2_steadyPair_132 : decode cX2_steadyPair 132 = .ok (.iload 7, 2) := by decide +kernel
theorem dX2_steadyPair_134 : decode cX2_steadyPair 134 = .ok (.iconst 1, 1) := by decide +kernel
theorem dX2_steadyPair_135 : decode cX2_steadyPair 135 = .ok (.ixor, 1) := by decide +kernel
theorem dX2_steadyPair_136 : decode cX2_steadyPair 136 = .ok (.iaload, 1) := by decide +kernel
theorem dX2_steadyPair_137 : decode cX2_steadyPair 137 = .ok (.aload 6, 2) := by decide +kernel
theorem dX2_steadyPair_139 : decode cX2_steadyPair 139 = .ok (.iload 7, 2) := by decide +kernel
theorem dX2_steadyPair_141 : decode cX2_steadyPair 141 = .ok (.iaload, 1) := by decide +kernel
theorem dX2_steadyPair_142 : decode cX2_steadyPair 142 = .ok (.if_icmp .gt 16, 3) := by decide +kernel
theorem dX2_steadyPair_145 : decode cX2_steadyPair 145 = .ok (.bipush 10, 2) := by decide +kernel
theorem dX2_steadyPair_147 : decode cX2_steadyPair 147 = .ok (.iload 7, 2) := by decide +kernel
theorem dX2_steadyPair_149 : decode cX2_steadyPair 149 = .ok (.iconst 1, 1) := by decide +kernel
theorem dX2_steadyPair_150 : decode cX2_steadyPair 150 = .ok (.ishr, 1) := by decide +kernel
theorem dX2_steadyPair_151 : decode cX2_steadyPair 151 = .ok (.imul, 1) := by decide +kernel
theorem dX2_steadyPair_152 : decode cX2_steadyPair 152 = .ok (.iload 7, 2) := by decide +kernel
theorem dX2_steadyPair_154 : decode cX2_steadyPair 154 = .ok (.iconst 1, 1) := by decide +kernel
theorem dX2_steadyPair_155 : decode cX2_steadyPair 155 = .ok (.iand, 1) := by decide +kernel
theorem dX2_steadyPair_156 : decode cX2_steadyPair 156 = .ok (.iadd, 1) := by decide +kernel
theorem dX2_steadyPair_157 : decode cX2_steadyPair 157 = .ok (.ireturn, 1) := by decide +kernel
theorem dX2_steadyPair_158 : decode cX2_steadyPair 158 = .ok (.iinc 7 1, 3) := by decide +kernel
theorem dX2_steadyPair_161 : decode cX2_steadyPair 161 = .ok (.goto (-52), 3) := by decide +kernel
theorem dX2_steadyPair_164 : decode cX2_steadyPair 164 = .ok (.bipush (-9), 2) := by decide +kernel
theorem dX2_steadyPair_166 : decode cX2_steadyPair 166 = .ok (.ireturn, 1) := by decide +kernel
theorem dX6_two_0 : decode cX6_two 0 = .ok (.aload_n 0, 1) := by decide +kernel
theorem dX6_two_1 : decode cX6_two 1 = .ok (.iload_n 1, 1) := by decide +kernel
theorem dX6_two_2 : decode cX6_two 2 = .ok (.iload_n 2, 1) := by decide +kernel
theorem dX6_two_3 : decode cX6_two 3 = .ok (.invokevirtual 223, 3) := by decide +kernel
theorem dX6_two_6 : decode cX6_two 6 = .ok (.iload_n 3, 1) := by decide +kernel
theorem dX6_two_7 : decode cX6_two 7 = .ok (.iconst 1, 1) := by decide +kernel
theorem dX6_two_8 : decode cX6_two 8 = .ok (.bipush 30, 2) := by decide +kernel
theorem dX6_two_10 : decode cX6_two 10 = .ok (.invokestatic 68, 3) := by decide +kernel
theorem dX6_two_13 : decode cX6_two 13 = .ok (.istore 4, 2) := by decide +kernel
theorem dX6_two_15 : decode cX6_two 15 = .ok (.iload 4, 2) := by decide +kernel
theorem dX6_two_17 : decode cX6_two 17 = .ok (.ifCond .eq 10, 3) := by decide +kernel
theorem dX6_two_20 : decode cX6_two 20 = .ok (.aload_n 0, 1) := by decide +kernel
theorem dX6_two_21 : decode cX6_two 21 = .ok (.iload 4, 2) := by decide +kernel
theorem dX6_two_23 : decode cX6_two 23 = .ok (.invokevirtual 56, 3) := by decide +kernel
theorem dX6_two_26 : decode cX6_two 26 = .ok (.ireturn, 1) := by decide +kernel
theorem dX6_two_27 : decode cX6_two 27 = .ok (.aload_n 0, 1) := by decide +kernel
theorem dX6_two_28 : decode cX6_two 28 = .ok (.getfield 36, 3) := by decide +kernel
theorem dX6_two_31 : decode cX6_two 31 = .ok (.aload_n 0, 1) := by decide +kernel
theorem dX6_two_32 : decode cX6_two 32 = .ok (.getfield 10, 3) := by decide +kernel
theorem dX6_two_35 : decode cX6_two 35 = .ok (.iload_n 1, 1) := by decide +kernel
theorem dX6_two_36 : decode cX6_two 36 = .ok (.iload_n 2, 1) := by decide +kernel
theorem dX6_two_37 : decode cX6_two 37 = .ok (.iload_n 3, 1) := by decide +kernel
theorem dX6_two_38 : decode cX6_two 38 = .ok (.invokevirtual 251, 3) := by decide +kernel
theorem dX6_two_41 : decode cX6_two 41 = .ok (.ireturn, 1) := by decide +kernel
theorem dX6_line_0 : decode cX6_line 0 = .ok (.aload_n 0, 1) := by decide +kernel
theorem dX6_line_1 : decode cX6_line 1 = .ok (.iload_n 1, 1) := by decide +kernel
theorem dX6_line_2 : decode cX6_line 2 = .ok (.invokevirtual 64, 3) := by decide +kernel
theorem dX6_line_5 : decode cX6_line 5 = .ok (.ifCond .eq 9, 3) := by decide +kernel
theorem dX6_line_8 : decode cX6_line 8 = .ok (.aload_n 0, 1) := by decide +kernel
theorem dX6_line_9 : decode cX6_line 9 = .ok (.iconst (-1), 1) := by decide +kernel
theorem dX6_line_10 : decode cX6_line 10 = .ok (.invokevirtual 56, 3) := by decide +kernel
theorem dX6_line_13 : decode cX6_line 13 = .ok (.ireturn, 1) := by decide +kernel
theorem dX6_line_14 : decode cX6_line 14 = .ok (.iload_n 2, 1) := by decide +kernel
theorem dX6_line_15 : decode cX6_line 15 = .ok (.ifCond .ge 10, 3) := by decide +kernel
theorem dX6_line_18 : decode cX6_line 18 = .ok (.aload_n 0, 1) := by decide +kernel
theorem dX6_line_19 : decode cX6_line 19 = .ok (.bipush (-4), 2) := by decide +kernel
theorem dX6_line_21 : decode cX6_line 21 = .ok (.invokevirtual 56, 3) := by decide +kernel
theorem dX6_line_24 : decode cX6_line 24 = .ok (.ireturn, 1) := by decide +kernel
theorem dX6_line_25 : decode cX6_line 25 = .ok (.new 279, 3) := by decide +kernel
theorem dX6_line_28 : decode cX6_line 28 = .ok (.dup, 1) := by decide +kernel
theorem dX6_line_29 : decode cX6_line 29 = .ok (.invokespecial 281, 3) := by decide +kernel
theorem dX6_line_32 : decode cX6_line 32 = .ok (.astore_n 3, 1) := by decide +kernel
theorem dX6_line_33 : decode cX6_line 33 = .ok (.aload_n 0, 1) := by decide +kernel
theorem dX6_line_34 : decode cX6_line 34 = .ok (.getfield 10, 3) := by decide +kernel
theorem dX6_line_37 : decode cX6_line 37 = .ok (.getfield 105, 3) := by decide +kernel
theorem dX6_line_40 : decode cX6_line 40 = .ok (.iload_n 1, 1) := by decide +kernel
theorem dX6_line_41 : decode cX6_line 41 = .ok (.aaload, 1) := by decide +kernel
theorem dX6_line_42 : decode cX6_line 42 = .ok (.aload_n 3, 1) := by decide +kernel
theorem dX6_line_43 : decode cX6_line 43 = .ok (.invokevirtual 282, 3) := by decide +kernel
theorem dX6_line_46 : decode cX6_line 46 = .ok (.iload_n 2, 1) := by decide +kernel
theorem dX6_line_47 : decode cX6_line 47 = .ok (.aload_n 3, 1) := by decide +kernel
theorem dX6_line_48 : decode cX6_line 48 = .ok (.invokevirtual 286, 3) := by decide +kernel
theorem dX6_line_51 : decode cX6_line 51 = .ok (.if_icmp .ge 11, 3) := by decide +kernel
theorem dX6_line_54 : decode cX6_line 54 = .ok (.aload_n 3, 1) := by decide +kernel
theorem dX6_line_55 : decode cX6_line 55 = .ok (.iload_n 2, 1) := by decide +kernel
theorem dX6_line_56 : decode cX6_line 56 = .ok (.invokevirtual 288, 3) := by decide +kernel
theorem dX6_line_59 : decode cX6_line 59 = .ok (.goto 5, 3) := by decide +kernel
theorem dX6_line_62 : decode cX6_line 62 = .ok (.bipush (-9), 2) := by decide +kernel
theorem dX6_line_64 : decode cX6_line 64 = .ok (.ireturn, 1) := by decide +kernel
theorem cl_X6_279 : Cond.classLink RX6 279 RJ4 ∈ lw_tbl := tbl_in (List.mem_append_right _ (List.mem_append_right _ (List.mem_append_right _ (List.mem_append_left _ (List.mem_of_getElem? (l := tables_1_4) (i := 64) rfl)))))
theorem in_J4 : Cond.instantiable RJ4 4 ∈ lw_tbl := tbl_in (List.mem_append_right _ (List.mem_append_right _ (List.mem_append_right _ (List.mem_append_left _ (List.mem_of_getElem? (l := tables_1_4) (i := 65) rfl)))))
theorem wl_X6_281 : Cond.methodLink RX6 281 yJ4_init_da8c8 ∈ lw_tbl := tbl_in (List.mem_append_right _ (List.mem_append_right _ (List.mem_append_right _ (List.mem_append_left _ (List.mem_of_getElem? (l := tables_1_4) (i := 66) rfl)))))
theorem wn_J4_init_da8c8 : Cond.instanceMethod yJ4_init_da8c8 ∈ lw_tbl := tbl_in (List.mem_append_right _ (List.mem_append_right _ (List.mem_append_right _ (List.mem_append_left _ (List.mem_of_getElem? (l := tables_1_4) (i := 67) rfl)))))
theorem wc_J4_init_da8c8 : Cond.code yJ4_init_da8c8 cJ4_init_da8c8 1 none ∈ lw_tbl := tbl_in (List.mem_append_right _ (List.mem_append_right _ (List.mem_append_right _ (List.mem_append_left _ (List.mem_of_getElem? (l := tables_1_4) (i := 68) rfl)))))
theorem ci_X6_281 : CWi RX6 281 yJ4_init_da8c8 cJ4_init_da8c8 1 0 := ⟨Or.inl wl_X6_281, wn_J4_init_da8c8, rfl, wi_J4, wc_J4_init_da8c8, by decide +kernel, by decide +kernel, by decide +kernel⟩
theorem wc_X2_steadyPair : Cond.code yX2_steadyPair cX2_steadyPair 8 (some .int) ∈ lw_tbl := tbl_in (List.mem_append_right _ (List.mem_append_right _ (List.mem_append_right _ (List.mem_append_left _ (List.mem_of_getElem? (l := tables_1_4) (i := 13) rfl)))))
theorem wl_X6_251 : Cond.methodLink RX6 251 yX2_steadyPair ∈ lw_tbl := tbl_in (List.mem_append_right _ (List.mem_append_right _ (List.mem_append_right _ (List.mem_append_left _ (List.mem_of_getElem? (l := tables_1_4) (i := 10) rfl)))))
theorem wn_X2_steadyPair : Cond.instanceMethod yX2_steadyPair ∈ lw_tbl := tbl_in (List.mem_append_right _ (List.mem_append_right _ (List.mem_append_right _ (List.mem_append_left _ (List.mem_of_getElem? (l := tables_1_4) (i := 11) rfl)))))
theorem we_X2_steadyPair : Cond.selects RX2 yX2_steadyPair yX2_steadyPair ∈ lw_tbl := tbl_in (List.mem_append_right _ (List.mem_append_right _ (List.mem_append_right _ (List.mem_append_left _ (List.mem_of_getElem? (l := tables_1_4) (i := 12) rfl)))))
theorem cw_X6_251 : CWv RX6 251 RX2 yX2_steadyPair cX2_steadyPair 8 (some .int) 4 := ⟨⟨wl_X6_251, wn_X2_steadyPair, we_X2_steadyPair⟩, wi_X2, wc_X2_steadyPair, by decide +kernel, by decide +kernel, by decide +kernel⟩
theorem wc_X0_tell : Cond.code yX0_tell cX0_tell 3 none ∈ lw_tbl := tbl_in (List.mem_append_right _ (List.mem_append_right _ (List.mem_append_right _ (List.mem_append_left _ (List.mem_of_getElem? (l := tables_1_4) (i := 96) rfl)))))
theorem wl_X6_282 : Cond.methodLink RX6 282 yX0_tell ∈ lw_tbl := tbl_in (List.mem_append_right _ (List.mem_append_right _ (List.mem_append_right _ (List.mem_append_left _ (List.mem_of_getElem? (l := tables_1_4) (i := 93) rfl)))))
theorem wn_X0_tell : Cond.instanceMethod yX0_tell ∈ lw_tbl := tbl_in (List.mem_append_right _ (List.mem_append_right _ (List.mem_append_right _ (List.mem_append_left _ (List.mem_of_getElem? (l := tables_1_4) (i := 94) rfl)))))
theorem we_X0_tell : Cond.selects RX0 yX0_tell yX0_tell ∈ lw_tbl := tbl_in (List.mem_append_right _ (List.mem_append_right _ (List.mem_append_right _ (List.mem_append_left _ (List.mem_of_getElem? (l := tables_1_4) (i := 95) rfl)))))
theorem cw_X6_282 : CWv RX6 282 RX0 yX0_tell cX0_tell 3 none 1 := ⟨⟨wl_X6_282, wn_X0_tell, we_X0_tell⟩, wi_X0, wc_X0_tell, by decide +kernel, by decide +kernel, by decide +kernel⟩
theorem wc_J4_length_8abf5 : Cond.code yJ4_length_8abf5 cJ4_length_8abf5 1 (some .int) ∈ lw_tbl := tbl_in (List.mem_append_right _ (List.mem_append_right _ (List.mem_append_right _ (List.mem_append_left _ (List.mem_of_getElem? (l := tables_1_4) (i := 205) rfl)))))
theorem wl_X6_286 : Cond.methodLink RX6 286 yJ4_length_8abf5 ∈ lw_tbl := tbl_in (List.mem_append_right _ (List.mem_append_right _ (List.mem_append_right _ (List.mem_append_left _ (List.mem_of_getElem? (l := tables_1_4) (i := 202) rfl)))))
theorem wn_J4_length_8abf5 : Cond.instanceMethod yJ4_length_8abf5 ∈ lw_tbl := tbl_in (List.mem_append_right _ (List.mem_append_right _ (List.mem_append_right _ (List.mem_append_left _ (List.mem_of_getElem? (l := tables_1_4) (i := 203) rfl)))))
theorem we_J4_length_8abf5 : Cond.selects RJ4 yJ4_length_8abf5 yJ4_length_8abf5 ∈ lw_tbl := tbl_in (List.mem_append_right _ (List.mem_append_right _ (List.mem_append_right _ (List.mem_append_left _ (List.mem_of_getElem? (l := tables_1_4) (i := 204) rfl)))))
theorem cw_X6_286 : CWv RX6 286 RJ4 yJ4_length_8abf5 cJ4_length_8abf5 1 (some .int) 0 := ⟨⟨wl_X6_286, wn_J4_length_8abf5, we_J4_length_8abf5⟩, wi_J4, wc_J4_length_8abf5, by decide +kernel, by decide +kernel, by decide +kernel⟩
theorem wc_J4_charAt_5068e : Cond.code yJ4_charAt_5068e cJ4_charAt_5068e 2 (some .char) ∈ lw_tbl := tbl_in (List.mem_append_right _ (List.mem_append_right _ (List.mem_append_right _ (List.mem_append_left _ (List.mem_of_getElem? (l := tables_1_4) (i := 212) rfl)))))
theorem wl_X6_288 : Cond.methodLink RX6 288 yJ4_charAt_5068e ∈ lw_tbl := tbl_in (List.mem_append_right _ (List.mem_append_right _ (List.mem_append_right _ (List.mem_append_left _ (List.mem_of_getElem? (l := tables_1_4) (i := 209) rfl)))))
theorem wn_J4_charAt_5068e : Cond.instanceMethod yJ4_charAt_5068e ∈ lw_tbl := tbl_in (List.mem_append_right _ (List.mem_append_right _ (List.mem_append_right _ (List.mem_append_left _ (List.mem_of_getElem? (l := tables_1_4) (i := 210) rfl)))))
theorem we_J4_charAt_5068e : Cond.selects RJ4 yJ4_charAt_5068e yJ4_charAt_5068e ∈ lw_tbl := tbl_in (List.mem_append_right _ (List.mem_append_right _ (List.mem_append_right _ (List.mem_append_left _ (List.mem_of_getElem? (l := tables_1_4) (i := 211) rfl)))))
theorem cw_X6_288 : CWv RX6 288 RJ4 yJ4_charAt_5068e cJ4_charAt_5068e 2 (some .char) 1 := ⟨⟨wl_X6_288, wn_J4_charAt_5068e, we_J4_charAt_5068e⟩, wi_J4, wc_J4_charAt_5068e, by decide +kernel, by decide +kernel, by decide +kernel⟩
theorem wc_X2_restIf : Cond.code yX2_restIf cX2_restIf 3 none ∈ lw_tbl := tbl_in (List.mem_append_right _ (List.mem_append_right _ (List.mem_append_right _ (List.mem_append_left _ (List.mem_of_getElem? (l := tables_1_4) (i := 17) rfl)))))
theorem wl_X2_98 : Cond.methodLink RX2 98 yX2_restIf ∈ lw_tbl := tbl_in (List.mem_append_right _ (List.mem_append_right _ (List.mem_append_right _ (List.mem_append_left _ (List.mem_of_getElem? (l := tables_1_4) (i := 14) rfl)))))
theorem wn_X2_restIf : Cond.instanceMethod yX2_restIf ∈ lw_tbl := tbl_in (List.mem_append_right _ (List.mem_append_right _ (List.mem_append_right _ (List.mem_append_left _ (List.mem_of_getElem? (l := tables_1_4) (i := 16) rfl)))))
theorem we_X2_restIf : Cond.selects RX2 yX2_restIf yX2_restIf ∈ lw_tbl := sel_priv (q := (yX2_restIf, 2)) (List.mem_append_right _ (List.mem_append_left _ (List.mem_of_getElem? (l := lw_privs_2) (i := 7) rfl)))
theorem cw_X2_98 : CWv RX2 98 RX2 yX2_restIf cX2_restIf 3 none 2 := ⟨⟨wl_X2_98, wn_X2_restIf, we_X2_restIf⟩, wi_X2, wc_X2_restIf, by decide +kernel, by decide +kernel, by decide +kernel⟩
def w_X2_steadyPair_c109 (S : St) (sz : Nat) (v5 : Nat) (v6 : Nat) (v7 : Int32) (h : Hp) (Q : Int32 → St → Nat → Hp → Prop) : Prop := ∀ P109 : Int32 → Hp → Prop, (∀ (v7 : Int32) (h : Hp), (if (nI 4) ≤ v7 then (Q (-9) S sz h) else (ain S v5 (v7 ^^^ (nI 2)) ∧ (ain S v5 v7 ∧ (if (h v5 (ix v7)) < (h v5 (ix (v7 ^^^ (nI 2)))) then (P109 (v7 + (nI 1)) h) else (ain S v6 (v7 ^^^ (nI 1)) ∧ (ain S v6 v7 ∧ (if (h v6 (ix v7)) < (h v6 (ix (v7 ^^^ (nI 1)))) then (P109 (v7 + (nI 1)) h) else (Q (((nI 10) * (ishr v7 (nI 1))) + (v7 &&& (nI 1))) S sz h)))))))) → P109 v7 h) → P109 v7 h
def w_X2_steadyPair_c13 (S : St) (sz : Nat) (v0 : Nat) (v1 : Nat) (v2 : Int32) (v3 : Int32) (v4 : Int32) (v5 : Nat) (v6 : Nat) (v7 : Int32) (h : Hp) (Q : Int32 → St → Nat → Hp → Prop) : Prop := ∀ P13 : Int32 → Hp → Prop, (∀ (v7 : Int32) (h : Hp), (if (nI 4) ≤ v7 then (w_X2_steadyPair_c109 S sz v5 v6 (nI 0) h Q) else (ob S v0 2 ∧ (w_X2_think S v0 v1 h (fun r4 h3 => (w_X2_restIf S v0 v2 (ishr v7 (nI 1)) h3 (fun h5 => (w_X2_restIf S v0 v3 (v7 &&& (nI 1)) h5 (fun h6 => (ob S (S.2 v0 0) 1 ∧ (w_X1_passNights S (S.2 v0 0) v4 h6 (fun h8 => (rin S 1 (S.2 (S.2 v0 0) 3) v2 ∧ (ob S (S.2 (S.2 (S.2 v0 0) 3) (ix v2)) 0 ∧ (ain S v5 v7 ∧ (rin S 1 (S.2 (S.2 v0 0) 3) v3 ∧ (ob S (S.2 (S.2 (S.2 v0 0) 3) (ix v3)) 0 ∧ (ain S v6 v7 ∧ (P13 (v7 + (nI 1)) (up (up h8 v5 (ix v7) ((h8 (S.2 (S.2 (S.2 v0 0) 3) (ix v2)) 7) + ((nI 5) * (ishr v7 (nI 1))))) v6 (ix v7) (((up h8 v5 (ix v7) ((h8 (S.2 (S.2 (S.2 v0 0) 3) (ix v2)) 7) + ((nI 5) * (ishr v7 (nI 1))))) (S.2 (S.2 (S.2 v0 0) 3) (ix v3)) 7) + ((nI 5) * (v7 &&& (nI 1))))))))))))))))))))))) → P13 v7 h) → P13 v7 h
def w_X2_steadyPair (S : St) (sz : Nat) (v0 : Nat) (v1 : Nat) (v2 : Int32) (v3 : Int32) (v4 : Int32) (h : Hp) (Q : Int32 → St → Nat → Hp → Prop) : Prop := ∀ (S1 : St) (r1 sz1 : Nat) (h2 : Hp), S1 = nwS S sz 4 → r1 = sz → sz1 = sz + 1 → h2 = zr h sz → (fun (S : St) (sz : Nat) => (∀ (S1 : St) (r7 sz1 : Nat) (h8 : Hp), S1 = nwS S sz 4 → r7 = sz → sz1 = sz + 1 → h8 = zr h2 sz → (fun (S : St) (sz : Nat) => (w_X2_steadyPair_c13 S sz v0 v1 v2 v3 v4 r1 r7 (nI 0) h8 Q)) S1 sz1)) S1 sz1
def w_X6_two (S : St) (sz : Nat) (v0 : Nat) (v1 : Int32) (v2 : Int32) (v3 : Int32) (h : Hp) (Q : Int32 → St → Nat → Hp → Prop) : Prop := ob S v0 6 ∧ (w_X6_noPair S v0 v1 v2 h (fun r3 h2 => (w_X6_faultOfNumber S r3 v3 (nI 1) (nI 30) h2 (fun r5 h4 => (if r5 = 0 then (ob S (S.2 v0 5) 2 ∧ (w_X2_steadyPair S sz (S.2 v0 5) (S.2 v0 0) v1 v2 v3 h4 (fun r11 S sz h10 => (Q r11 S sz h10)))) else (w_X6_refuse S v0 r5 h4 (fun r13 h12 => (Q r13 S sz h12))))))))
def w_X6_line (S : St) (sz : Nat) (v0 : Nat) (v1 : Int32) (v2 : Int32) (h : Hp) (Q : Int32 → St → Nat → Hp → Prop) : Prop := ob S v0 6 ∧ (w_X6_noHead S v0 v1 h (fun r3 h2 => (if r3 = 0 then (if 0 ≤ v2 then (∀ (S1 : St) (r6 sz1 : Nat) (h7 : Hp), S1 = sbS S sz → r6 = sz → sz1 = sz + 2 → h7 = zr (zr h2 sz) (sz + 1) → (fun (S : St) (sz : Nat) => (ob S v0 6 ∧ (ob S (S.2 v0 0) 1 ∧ (rin S 1 (S.2 (S.2 v0 0) 3) v1 ∧ (ob S (S.2 (S.2 (S.2 v0 0) 3) (ix v1)) 0 ∧ (w_X0_tell S (S.2 (S.2 (S.2 v0 0) 3) (ix v1)) r6 h7 (fun h16 => (ob S r6 8 ∧ (w_J4_length_8abf5 S r6 h16 (fun r19 h18 => (if r19 ≤ v2 then (Q (-9) S sz h18) else (w_J4_charAt_5068e S r6 v2 h18 (fun r22 h21 => (Q r22 S sz h21)))))))))))))) S1 sz1) else (w_X6_refuse S v0 (-4) h2 (fun r24 h23 => (Q r24 S sz h23)))) else (w_X6_refuse S v0 (-1) h2 (fun r26 h25 => (Q r26 S sz h25))))))
