theorem dX6_line_0 : decode cX6_line 0 = .ok (.aload_n 0, 1) := by decide +kernel
theorem dX6_line_1 : decode cX6_line 1 = .ok (.iload_n 1, 1) := by decide +kernel
theorem dX6_line_2 : decode cX6_line 2 = .ok (.invokevirtual 64, 3) := by decide +kernel
theorem dX6_line_5 : decode cX6_line 5 = .ok (.ifCond .eq 9, 3) := by decide +kernel
theorem dX6_line_8 : decode cX6_line 8 = .ok (.aload_n 0, 1) := by decide +kernel
theorem dX6_line_9 : decode cX6_line 9 = .ok (.iconst (-1), 1) := by decide +kernel
theorem dX6_line_10 : decode cX6_line 10 = .ok (.invokevirtual 56, 3) := by decide +kernel
theorem dX6_line_13 : decode cX6_line 13 = .ok (.ireturn, 1) := by decide +kernel
theorem dX6_line_14 : decode cX6_line 14 = .ok (.iload_n 2, 1) := by decide +kernel
theorem dX6_line_15 : decode cX6_line 15 = .ok (.ifCond .ge 10, 3) := by decide +kernel
theorem dX6_line_18 : decode cX6_line 18 = .ok (.aload_n 0, 1) := by decide +kernel
theorem dX6_line_19 : decode cX6_line 19 = .ok (.bipush (-4), 2) := by decide +kernel
theorem dX6_line_21 : decode cX6_line 21 = .ok (.invokevirtual 56, 3) := by decide +kernel
theorem dX6_line_24 : decode cX6_line 24 = .ok (.ireturn, 1) := by decide +kernel
theorem dX6_line_25 : decode cX6_line 25 = .ok (.new 279, 3) := by decide +kernel
theorem dX6_line_28 : decode cX6_line 28 = .ok (.dup, 1) := by decide +kernel
theorem dX6_line_29 : decode cX6_line 29 = .ok (.invokespecial 281, 3) := by decide +kernel
theorem dX6_line_32 : decode cX6_line 32 = .ok (.astore_n 3, 1) := by decide +kernel
theorem dX6_line_33 : decode cX6_line 33 = .ok (.aload_n 0, 1) := by decide +kernel
theorem dX6_line_34 : decode cX6_line 34 = .ok (.getfield 10, 3) := by decide +kernel
theorem dX6_line_37 : decode cX6_line 37 = .ok (.getfield 105, 3) := by decide +kernel
theorem dX6_line_40 : decode cX6_line 40 = .ok (.iload_n 1, 1) := by decide +kernel
theorem dX6_line_41 : decode cX6_line 41 = .ok (.aaload, 1) := by decide +kernel
theorem dX6_line_42 : decode cX6_line 42 = .ok (.aload_n 3, 1) := by decide +kernel
theorem dX6_line_43 : decode cX6_line 43 = .ok (.invokevirtual 282, 3) := by decide +kernel
theorem dX6_line_46 : decode cX6_line 46 = .ok (.iload_n 2, 1) := by decide +kernel
theorem dX6_line_47 : decode cX6_line 47 = .ok (.aload_n 3, 1) := by decide +kernel
theorem dX6_line_48 : decode cX6_line 48 = .ok (.invokevirtual 286, 3) := by decide +kernel
theorem dX6_line_51 : decode cX6_line 51 = .ok (.if_icmp .ge 11, 3) := by decide +kernel
theorem dX6_line_54 : decode cX6_line 54 = .ok (.aload_n 3, 1) := by decide +kernel
theorem dX6_line_55 : decode cX6_line 55 = .ok (.iload_n 2, 1) := by decide +kernel
theorem dX6_line_56 : decode cX6_line 56 = .ok (.invokevirtual 288, 3) := by decide +kernel
theorem dX6_line_59 : decode cX6_line 59 = .ok (.goto 5, 3) := by decide +kernel
theorem dX6_line_62 : decode cX6_line 62 = .ok (.bipush (-9), 2) := by decide +kernel
theorem dX6_line_64 : decode cX6_line 64 = .ok (.ireturn, 1) := by decide +kernel
theorem cl_X6_279 : Cond.classLink RX6 279 RJ4 ∈ lw_tbl := tbl_in (List.mem_append_right _ (List.mem_append_right _ (List.mem_append_right _ (List.mem_append_left _ (List.mem_of_getElem? (l := tables_1_4) (i := 70) rfl)))))
theorem in_J4 : Cond.instantiable RJ4 4 ∈ lw_tbl := tbl_in (List.mem_append_right _ (List.mem_append_right _ (List.mem_append_right _ (List.mem_append_left _ (List.mem_of_getElem? (l := tables_1_4) (i := 71) rfl)))))
theorem wl_X6_281 : Cond.methodLink RX6 281 yJ4_init_da8c8 ∈ lw_tbl := tbl_in (List.mem_append_right _ (List.mem_append_right _ (List.mem_append_right _ (List.mem_append_left _ (List.mem_of_getElem? (l := tables_1_4) (i := 72) rfl)))))
theorem wn_J4_init_da8c8 : Cond.instanceMethod yJ4_init_da8c8 ∈ lw_tbl := tbl_in (List.mem_append_right _ (List.mem_append_right _ (List.mem_append_right _ (List.mem_append_left _ (List.mem_of_getElem? (l := tables_1_4) (i := 73) rfl)))))
theorem wc_J4_init_da8c8 : Cond.code yJ4_init_da8c8 cJ4_init_da8c8 1 none ∈ lw_tbl := tbl_in (List.mem_append_right _ (List.mem_append_right _ (List.mem_append_right _ (List.mem_append_left _ (List.mem_of_getElem? (l := tables_1_4) (i := 74) rfl)))))
theorem ci_X6_281 : CWi RX6 281 yJ4_init_da8c8 cJ4_init_da8c8 1 0 := ⟨Or.inl wl_X6_281, wn_J4_init_da8c8, rfl, wi_J4, wc_J4_init_da8c8, by decide +kernel, by decide +kernel, by decide +kernel⟩
theorem wc_X0_tell : Cond.code yX0_tell cX0_tell 3 none ∈ lw_tbl := tbl_in (List.mem_append_right _ (List.mem_append_right _ (List.mem_append_right _ (List.mem_append_left _ (List.mem_of_getElem? (l := tables_1_4) (i := 102) rfl)))))
theorem wl_X6_282 : Cond.methodLink RX6 282 yX0_tell ∈ lw_tbl := tbl_in (List.mem_append_right _ (List.mem_append_right _ (List.mem_append_right _ (List.mem_append_left _ (List.mem_of_getElem? (l := tables_1_4) (i := 99) rfl)))))
theorem wn_X0_tell : Cond.instanceMethod yX0_tell ∈ lw_tbl := tbl_in (List.mem_append_right _ (List.mem_append_right _ (List.mem_append_right _ (List.mem_append_left _ (List.mem_of_getElem? (l := tables_1_4) (i := 100) rfl)))))
theorem we_X0_tell : Cond.selects RX0 yX0_tell yX0_tell ∈ lw_tbl := tbl_in (List.mem_append_right _ (List.mem_append_right _ (List.mem_append_right _ (List.mem_append_left _ (List.mem_of_getElem? (l := tables_1_4) (i := 101) rfl)))))
theorem cw_X6_282 : CWv RX6 282 RX0 yX0_tell cX0_tell 3 none 1 := ⟨⟨wl_X6_282, wn_X0_tell, we_X0_tell⟩, wi_X0, wc_X0_tell, by decide +kernel, by decide +kernel, by decide +kernel⟩
theorem wc_J4_length_8abf5 : Cond.code yJ4_length_8abf5 cJ4_length_8abf5 1 (some .int) ∈ lw_tbl := tbl_in (List.mem_append_right _ (List.mem_append_right _ (List.mem_append_right _ (List.mem_append_left _ (List.mem_of_getElem? (l := tables_1_4) (i := 211) rfl)))))
theorem wl_X6_286 : Cond.methodLink RX6 286 yJ4_length_8abf5 ∈ lw_tbl := tbl_in (List.mem_append_right _ (List.mem_append_right _ (List.mem_append_right _ (List.mem_append_left _ (List.mem_of_getElem? (l := tables_1_4) (i := 208) rfl)))))
theorem wn_J4_length_8abf5 : Cond.instanceMethod yJ4_length_8abf5 ∈ lw_tbl := tbl_in (List.mem_append_right _ (List.mem_append_right _ (List.mem_append_right _ (List.mem_append_left _ (List.mem_of_getElem? (l := tables_1_4) (i := 209) rfl)))))
theorem we_J4_length_8abf5 : Cond.selects RJ4 yJ4_length_8abf5 yJ4_length_8abf5 ∈ lw_tbl := tbl_in (List.mem_append_right _ (List.mem_append_right _ (List.mem_append_right _ (List.mem_append_left _ (List.mem_of_getElem? (l := tables_1_4) (i := 210) rfl)))))
theorem cw_X6_286 : CWv RX6 286 RJ4 yJ4_length_8abf5 cJ4_length_8abf5 1 (some .int) 0 := ⟨⟨wl_X6_286, wn_J4_length_8abf5, we_J4_length_8abf5⟩, wi_J4, wc_J4_length_8abf5, by decide +kernel, by decide +kernel, by decide +kernel⟩
theorem wc_J4_charAt_5068e : Cond.code yJ4_charAt_5068e cJ4_charAt_5068e 2 (some .char) ∈ lw_tbl := tbl_in (List.mem_append_right _ (List.mem_append_right _ (List.mem_append_right _ (List.mem_append_left _ (List.mem_of_getElem? (l := tables_1_4) (i := 218) rfl)))))
theorem wl_X6_288 : Cond.methodLink RX6 288 yJ4_charAt_5068e ∈ lw_tbl := tbl_in (List.mem_append_right _ (List.mem_append_right _ (List.mem_append_right _ (List.mem_append_left _ (List.mem_of_getElem? (l := tables_1_4) (i := 215) rfl)))))
theorem wn_J4_charAt_5068e : Cond.instanceMethod yJ4_charAt_5068e ∈ lw_tbl := tbl_in (List.mem_append_right _ (List.mem_append_right _ (List.mem_append_right _ (List.mem_append_left _ (List.mem_of_getElem? (l := tables_1_4) (i := 216) rfl)))))
theorem we_J4_charAt_5068e : Cond.selects RJ4 yJ4_charAt_5068e yJ4_charAt_5068e ∈ lw_tbl := tbl_in (List.mem_append_right _ (List.mem_append_right _ (List.mem_append_right _ (List.mem_append_left _ (List.mem_of_getElem? (l := tables_1_4) (i := 217) rfl)))))
theorem cw_X6_288 : CWv RX6 288 RJ4 yJ4_charAt_5068e cJ4_charAt_5068e 2 (some .char) 1 := ⟨⟨wl_X6_288, wn_J4_charAt_5068e, we_J4_charAt_5068e⟩, wi_J4, wc_J4_charAt_5068e, by decide +kernel, by decide +kernel, by decide +kernel⟩
def w_X6_line (S : St) (sz : Nat) (v0 : Nat) (v1 : Int32) (v2 : Int32) (h : Hp) (Q : Int32 → St → Nat → Hp → Prop) : Prop := ob S v0 6 ∧ (w_X6_noHead S v0 v1 h (fun r3 h2 => (if r3 = 0 then (if 0 ≤ v2 then (∀ (S1 : St) (r6 sz1 : Nat) (h7 : Hp), S1 = sbS S sz → r6 = sz → sz1 = sz + 2 → h7 = zr (zr h2 sz) (sz + 1) → (fun (S : St) (sz : Nat) => (ob S v0 6 ∧ (ob S (S.2 v0 0) 1 ∧ (rin S 1 (S.2 (S.2 v0 0) 3) v1 ∧ (ob S (S.2 (S.2 (S.2 v0 0) 3) (ix v1)) 0 ∧ (w_X0_tell S (S.2 (S.2 (S.2 v0 0) 3) (ix v1)) r6 h7 (fun h16 => (ob S r6 8 ∧ (w_J4_length_8abf5 S r6 h16 (fun r19 h18 => (if r19 ≤ v2 then (Q (-9) S sz h18) else (w_J4_charAt_5068e S r6 v2 h18 (fun r22 h21 => (Q r22 S sz h21)))))))))))))) S1 sz1) else (w_X6_refuse S v0 (-4) h2 (fun r24 h23 => (Q r24 S sz h23)))) else (w_X6_refuse S v0 (-1) h2 (fun r26 h25 => (Q r26 S sz h25))))))
