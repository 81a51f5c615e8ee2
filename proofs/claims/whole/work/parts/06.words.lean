theorem lay_X0_0 : u_lay RX0 TX0 0 ∈ lw_tbl := tbl_in (List.mem_append_left _ (List.mem_of_getElem? (l := tables_1_1) (i := 72) rfl))
theorem lay_X0_1 : u_lay RX0 TX0 1 ∈ lw_tbl := tbl_in (List.mem_append_left _ (List.mem_of_getElem? (l := tables_1_1) (i := 74) rfl))
theorem lay_X0_2 : u_lay RX0 TX0 2 ∈ lw_tbl := tbl_in (List.mem_append_left _ (List.mem_of_getElem? (l := tables_1_1) (i := 76) rfl))
theorem lay_X0_3 : u_lay RX0 TX0 3 ∈ lw_tbl := tbl_in (List.mem_append_left _ (List.mem_of_getElem? (l := tables_1_1) (i := 78) rfl))
theorem lay_X0_4 : u_lay RX0 TX0 4 ∈ lw_tbl := tbl_in (List.mem_append_left _ (List.mem_of_getElem? (l := tables_1_1) (i := 80) rfl))
theorem lay_X0_5 : u_lay RX0 TX0 5 ∈ lw_tbl := tbl_in (List.mem_append_left _ (List.mem_of_getElem? (l := tables_1_1) (i := 82) rfl))
theorem lay_X0_6 : u_lay RX0 TX0 6 ∈ lw_tbl := tbl_in (List.mem_append_left _ (List.mem_of_getElem? (l := tables_1_1) (i := 84) rfl))
theorem lay_X0_7 : u_lay RX0 TX0 7 ∈ lw_tbl := tbl_in (List.mem_append_left _ (List.mem_of_getElem? (l := tables_1_1) (i := 86) rfl))
theorem lay_X0_8 : u_lay RX0 TX0 8 ∈ lw_tbl := tbl_in (List.mem_append_left _ (List.mem_of_getElem? (l := tables_1_1) (i := 88) rfl))
theorem cf0 : CF 0 RX0 TX0 9 tyX0 := ⟨rfl, fun w hw => by
  obtain ⟨k, hk, rfl⟩ := List.mem_map.mp hw
  have hk := List.mem_range.mp hk
  match k, hk with
  | 0, _ => exact ⟨lay_X0_0, rfl⟩
  | 1, _ => exact ⟨lay_X0_1, rfl⟩
  | 2, _ => exact ⟨lay_X0_2, rfl⟩
  | 3, _ => exact ⟨lay_X0_3, rfl⟩
  | 4, _ => exact ⟨lay_X0_4, rfl⟩
  | 5, _ => exact ⟨lay_X0_5, rfl⟩
  | 6, _ => exact ⟨lay_X0_6, rfl⟩
  | 7, _ => exact ⟨lay_X0_7, rfl⟩
  | 8, _ => exact ⟨lay_X0_8, rfl⟩
  | k + 9, hk => exact absurd hk (by omega), tyX0_ok, nmX0⟩
theorem lay_X1_0 : u_lay RX1 TX1 0 ∈ lw_tbl := tbl_in (List.mem_append_left _ (List.mem_of_getElem? (l := tables_1_1) (i := 117) rfl))
theorem lay_X1_1 : u_lay RX1 TX1 1 ∈ lw_tbl := tbl_in (List.mem_append_left _ (List.mem_of_getElem? (l := tables_1_1) (i := 119) rfl))
theorem lay_X1_2 : u_lay RX1 TX1 2 ∈ lw_tbl := tbl_in (List.mem_append_left _ (List.mem_of_getElem? (l := tables_1_1) (i := 121) rfl))
theorem lay_X1_3 : u_lay RX1 TX1 3 ∈ lw_tbl := tbl_in (List.mem_append_left _ (List.mem_of_getElem? (l := tables_1_1) (i := 123) rfl))
theorem lay_X1_4 : u_lay RX1 TX1 4 ∈ lw_tbl := tbl_in (List.mem_append_left _ (List.mem_of_getElem? (l := tables_1_1) (i := 125) rfl))
theorem lay_X1_5 : u_lay RX1 TX1 5 ∈ lw_tbl := tbl_in (List.mem_append_left _ (List.mem_of_getElem? (l := tables_1_1) (i := 127) rfl))
theorem lay_X1_6 : u_lay RX1 TX1 6 ∈ lw_tbl := tbl_in (List.mem_append_left _ (List.mem_of_getElem? (l := tables_1_1) (i := 129) rfl))
theorem cf1 : CF 1 RX1 TX1 7 tyX1 := ⟨rfl, fun w hw => by
  obtain ⟨k, hk, rfl⟩ := List.mem_map.mp hw
  have hk := List.mem_range.mp hk
  match k, hk with
  | 0, _ => exact ⟨lay_X1_0, rfl⟩
  | 1, _ => exact ⟨lay_X1_1, rfl⟩
  | 2, _ => exact ⟨lay_X1_2, rfl⟩
  | 3, _ => exact ⟨lay_X1_3, rfl⟩
  | 4, _ => exact ⟨lay_X1_4, rfl⟩
  | 5, _ => exact ⟨lay_X1_5, rfl⟩
  | 6, _ => exact ⟨lay_X1_6, rfl⟩
  | k + 7, hk => exact absurd hk (by omega), tyX1_ok, nmX1⟩
theorem lay_X2_0 : u_lay RX2 TX2 0 ∈ lw_tbl := tbl_in (List.mem_append_left _ (List.mem_of_getElem? (l := tables_1_1) (i := 185) rfl))
theorem lay_X2_1 : u_lay RX2 TX2 1 ∈ lw_tbl := tbl_in (List.mem_append_left _ (List.mem_of_getElem? (l := tables_1_1) (i := 187) rfl))
theorem cf2 : CF 2 RX2 TX2 2 tyX2 := ⟨rfl, fun w hw => by
  obtain ⟨k, hk, rfl⟩ := List.mem_map.mp hw
  have hk := List.mem_range.mp hk
  match k, hk with
  | 0, _ => exact ⟨lay_X2_0, rfl⟩
  | 1, _ => exact ⟨lay_X2_1, rfl⟩
  | k + 2, hk => exact absurd hk (by omega), tyX2_ok, nmX2⟩
theorem lay_X3_0 : u_lay RX3 TX3 0 ∈ lw_tbl := tbl_in (List.mem_append_left _ (List.mem_of_getElem? (l := tables_1_1) (i := 145) rfl))
theorem lay_X3_1 : u_lay RX3 TX3 1 ∈ lw_tbl := tbl_in (List.mem_append_left _ (List.mem_of_getElem? (l := tables_1_1) (i := 147) rfl))
theorem lay_X3_2 : u_lay RX3 TX3 2 ∈ lw_tbl := tbl_in (List.mem_append_left _ (List.mem_of_getElem? (l := tables_1_1) (i := 149) rfl))
theorem cf3 : CF 3 RX3 TX3 3 tyX3 := ⟨rfl, fun w hw => by
  obtain ⟨k, hk, rfl⟩ := List.mem_map.mp hw
  have hk := List.mem_range.mp hk
  match k, hk with
  | 0, _ => exact ⟨lay_X3_0, rfl⟩
  | 1, _ => exact ⟨lay_X3_1, rfl⟩
  | 2, _ => exact ⟨lay_X3_2, rfl⟩
  | k + 3, hk => exact absurd hk (by omega), tyX3_ok, nmX3⟩
theorem lay_X4_0 : u_lay RX4 TX4 0 ∈ lw_tbl := tbl_in (List.mem_append_left _ (List.mem_of_getElem? (l := tables_1_1) (i := 164) rfl))
theorem lay_X4_1 : u_lay RX4 TX4 1 ∈ lw_tbl := tbl_in (List.mem_append_left _ (List.mem_of_getElem? (l := tables_1_1) (i := 166) rfl))
theorem lay_X4_2 : u_lay RX4 TX4 2 ∈ lw_tbl := tbl_in (List.mem_append_left _ (List.mem_of_getElem? (l := tables_1_1) (i := 168) rfl))
theorem lay_X4_3 : u_lay RX4 TX4 3 ∈ lw_tbl := tbl_in (List.mem_append_left _ (List.mem_of_getElem? (l := tables_1_1) (i := 170) rfl))
theorem lay_X4_4 : u_lay RX4 TX4 4 ∈ lw_tbl := tbl_in (List.mem_append_left _ (List.mem_of_getElem? (l := tables_1_1) (i := 172) rfl))
theorem cf4 : CF 4 RX4 TX4 5 tyX4 := ⟨rfl, fun w hw => by
  obtain ⟨k, hk, rfl⟩ := List.mem_map.mp hw
  have hk := List.mem_range.mp hk
  match k, hk with
  | 0, _ => exact ⟨lay_X4_0, rfl⟩
  | 1, _ => exact ⟨lay_X4_1, rfl⟩
  | 2, _ => exact ⟨lay_X4_2, rfl⟩
  | 3, _ => exact ⟨lay_X4_3, rfl⟩
  | 4, _ => exact ⟨lay_X4_4, rfl⟩
  | k + 5, hk => exact absurd hk (by omega), tyX4_ok, nmX4⟩
theorem lay_X5_0 : u_lay RX5 TX5 0 ∈ lw_tbl := tbl_in (List.mem_append_left _ (List.mem_of_getElem? (l := tables_1_1) (i := 198) rfl))
theorem lay_X5_1 : u_lay RX5 TX5 1 ∈ lw_tbl := tbl_in (List.mem_append_left _ (List.mem_of_getElem? (l := tables_1_1) (i := 200) rfl))
theorem cf5 : CF 5 RX5 TX5 2 tyX5 := ⟨rfl, fun w hw => by
  obtain ⟨k, hk, rfl⟩ := List.mem_map.mp hw
  have hk := List.mem_range.mp hk
  match k, hk with
  | 0, _ => exact ⟨lay_X5_0, rfl⟩
  | 1, _ => exact ⟨lay_X5_1, rfl⟩
  | k + 2, hk => exact absurd hk (by omega), tyX5_ok, nmX5⟩
theorem lay_X6_0 : u_lay RX6 TX6 0 ∈ lw_tbl := tbl_in (List.mem_append_left _ (List.mem_of_getElem? (l := tables_1_1) (i := 213) rfl))
theorem lay_X6_1 : u_lay RX6 TX6 1 ∈ lw_tbl := tbl_in (List.mem_append_left _ (List.mem_of_getElem? (l := tables_1_1) (i := 215) rfl))
theorem lay_X6_2 : u_lay RX6 TX6 2 ∈ lw_tbl := tbl_in (List.mem_append_left _ (List.mem_of_getElem? (l := tables_1_1) (i := 217) rfl))
theorem lay_X6_3 : u_lay RX6 TX6 3 ∈ lw_tbl := tbl_in (List.mem_append_left _ (List.mem_of_getElem? (l := tables_1_1) (i := 219) rfl))
theorem lay_X6_4 : u_lay RX6 TX6 4 ∈ lw_tbl := tbl_in (List.mem_append_left _ (List.mem_of_getElem? (l := tables_1_1) (i := 221) rfl))
theorem lay_X6_5 : u_lay RX6 TX6 5 ∈ lw_tbl := tbl_in (List.mem_append_left _ (List.mem_of_getElem? (l := tables_1_1) (i := 223) rfl))
theorem lay_X6_6 : u_lay RX6 TX6 6 ∈ lw_tbl := tbl_in (List.mem_append_left _ (List.mem_of_getElem? (l := tables_1_1) (i := 225) rfl))
theorem lay_X6_7 : u_lay RX6 TX6 7 ∈ lw_tbl := tbl_in (List.mem_append_left _ (List.mem_of_getElem? (l := tables_1_1) (i := 227) rfl))
theorem lay_X6_8 : u_lay RX6 TX6 8 ∈ lw_tbl := tbl_in (List.mem_append_left _ (List.mem_of_getElem? (l := tables_1_1) (i := 229) rfl))
theorem lay_X6_9 : u_lay RX6 TX6 9 ∈ lw_tbl := tbl_in (List.mem_append_left _ (List.mem_of_getElem? (l := tables_1_1) (i := 231) rfl))
theorem cf6 : CF 6 RX6 TX6 10 tyX6 := ⟨rfl, fun w hw => by
  obtain ⟨k, hk, rfl⟩ := List.mem_map.mp hw
  have hk := List.mem_range.mp hk
  match k, hk with
  | 0, _ => exact ⟨lay_X6_0, rfl⟩
  | 1, _ => exact ⟨lay_X6_1, rfl⟩
  | 2, _ => exact ⟨lay_X6_2, rfl⟩
  | 3, _ => exact ⟨lay_X6_3, rfl⟩
  | 4, _ => exact ⟨lay_X6_4, rfl⟩
  | 5, _ => exact ⟨lay_X6_5, rfl⟩
  | 6, _ => exact ⟨lay_X6_6, rfl⟩
  | 7, _ => exact ⟨lay_X6_7, rfl⟩
  | 8, _ => exact ⟨lay_X6_8, rfl⟩
  | 9, _ => exact ⟨lay_X6_9, rfl⟩
  | k + 10, hk => exact absurd hk (by omega), tyX6_ok, nmX6⟩
theorem lay_X7_0 : u_lay RX7 TX7 0 ∈ lw_tbl := tbl_in (List.mem_append_right _ (List.mem_append_right _ (List.mem_append_right _ (List.mem_append_right _ (List.mem_append_left _ (List.mem_of_getElem? (l := tables_1_5) (i := 132) rfl))))))
theorem lay_X7_1 : u_lay RX7 TX7 1 ∈ lw_tbl := tbl_in (List.mem_append_right _ (List.mem_append_right _ (List.mem_append_right _ (List.mem_append_right _ (List.mem_append_left _ (List.mem_of_getElem? (l := tables_1_5) (i := 134) rfl))))))
theorem lay_X7_2 : u_lay RX7 TX7 2 ∈ lw_tbl := tbl_in (List.mem_append_right _ (List.mem_append_right _ (List.mem_append_right _ (List.mem_append_right _ (List.mem_append_left _ (List.mem_of_getElem? (l := tables_1_5) (i := 136) rfl))))))
theorem lay_X7_3 : u_lay RX7 TX7 3 ∈ lw_tbl := tbl_in (List.mem_append_right _ (List.mem_append_right _ (List.mem_append_right _ (List.mem_append_right _ (List.mem_append_left _ (List.mem_of_getElem? (l := tables_1_5) (i := 138) rfl))))))
theorem lay_X7_4 : u_lay RX7 TX7 4 ∈ lw_tbl := tbl_in (List.mem_append_right _ (List.mem_append_right _ (List.mem_append_right _ (List.mem_append_right _ (List.mem_append_left _ (List.mem_of_getElem? (l := tables_1_5) (i := 140) rfl))))))
theorem lay_X7_5 : u_lay RX7 TX7 5 ∈ lw_tbl := tbl_in (List.mem_append_right _ (List.mem_append_right _ (List.mem_append_right _ (List.mem_append_right _ (List.mem_append_left _ (List.mem_of_getElem? (l := tables_1_5) (i := 142) rfl))))))
theorem lay_X7_6 : u_lay RX7 TX7 6 ∈ lw_tbl := tbl_in (List.mem_append_right _ (List.mem_append_right _ (List.mem_append_right _ (List.mem_append_right _ (List.mem_append_left _ (List.mem_of_getElem? (l := tables_1_5) (i := 144) rfl))))))
theorem lay_X7_7 : u_lay RX7 TX7 7 ∈ lw_tbl := tbl_in (List.mem_append_right _ (List.mem_append_right _ (List.mem_append_right _ (List.mem_append_right _ (List.mem_append_left _ (List.mem_of_getElem? (l := tables_1_5) (i := 146) rfl))))))
theorem lay_X7_8 : u_lay RX7 TX7 8 ∈ lw_tbl := tbl_in (List.mem_append_right _ (List.mem_append_right _ (List.mem_append_right _ (List.mem_append_right _ (List.mem_append_left _ (List.mem_of_getElem? (l := tables_1_5) (i := 148) rfl))))))
theorem lay_X7_9 : u_lay RX7 TX7 9 ∈ lw_tbl := tbl_in (List.mem_append_right _ (List.mem_append_right _ (List.mem_append_right _ (List.mem_append_right _ (List.mem_append_left _ (List.mem_of_getElem? (l := tables_1_5) (i := 150) rfl))))))
theorem lay_X7_10 : u_lay RX7 TX7 10 ∈ lw_tbl := tbl_in (List.mem_append_right _ (List.mem_append_right _ (List.mem_append_right _ (List.mem_append_right _ (List.mem_append_left _ (List.mem_of_getElem? (l := tables_1_5) (i := 152) rfl))))))
theorem lay_X7_11 : u_lay RX7 TX7 11 ∈ lw_tbl := tbl_in (List.mem_append_right _ (List.mem_append_right _ (List.mem_append_right _ (List.mem_append_right _ (List.mem_append_left _ (List.mem_of_getElem? (l := tables_1_5) (i := 154) rfl))))))
theorem lay_X7_12 : u_lay RX7 TX7 12 ∈ lw_tbl := tbl_in (List.mem_append_right _ (List.mem_append_right _ (List.mem_append_right _ (List.mem_append_right _ (List.mem_append_left _ (List.mem_of_getElem? (l := tables_1_5) (i := 156) rfl))))))
theorem lay_X7_13 : u_lay RX7 TX7 13 ∈ lw_tbl := tbl_in (List.mem_append_right _ (List.mem_append_right _ (List.mem_append_right _ (List.mem_append_right _ (List.mem_append_left _ (List.mem_of_getElem? (l := tables_1_5) (i := 158) rfl))))))
theorem lay_X7_14 : u_lay RX7 TX7 14 ∈ lw_tbl := tbl_in (List.mem_append_right _ (List.mem_append_right _ (List.mem_append_right _ (List.mem_append_right _ (List.mem_append_left _ (List.mem_of_getElem? (l := tables_1_5) (i := 160) rfl))))))
theorem lay_X7_15 : u_lay RX7 TX7 15 ∈ lw_tbl := tbl_in (List.mem_append_right _ (List.mem_append_right _ (List.mem_append_right _ (List.mem_append_right _ (List.mem_append_left _ (List.mem_of_getElem? (l := tables_1_5) (i := 162) rfl))))))
theorem lay_X7_16 : u_lay RX7 TX7 16 ∈ lw_tbl := tbl_in (List.mem_append_right _ (List.mem_append_right _ (List.mem_append_right _ (List.mem_append_right _ (List.mem_append_left _ (List.mem_of_getElem? (l := tables_1_5) (i := 164) rfl))))))
theorem lay_X7_17 : u_lay RX7 TX7 17 ∈ lw_tbl := tbl_in (List.mem_append_right _ (List.mem_append_right _ (List.mem_append_right _ (List.mem_append_right _ (List.mem_append_left _ (List.mem_of_getElem? (l := tables_1_5) (i := 166) rfl))))))
theorem lay_X7_18 : u_lay RX7 TX7 18 ∈ lw_tbl := tbl_in (List.mem_append_right _ (List.mem_append_right _ (List.mem_append_right _ (List.mem_append_right _ (List.mem_append_left _ (List.mem_of_getElem? (l := tables_1_5) (i := 168) rfl))))))
theorem lay_X7_19 : u_lay RX7 TX7 19 ∈ lw_tbl := tbl_in (List.mem_append_right _ (List.mem_append_right _ (List.mem_append_right _ (List.mem_append_right _ (List.mem_append_left _ (List.mem_of_getElem? (l := tables_1_5) (i := 170) rfl))))))
theorem lay_X7_20 : u_lay RX7 TX7 20 ∈ lw_tbl := tbl_in (List.mem_append_right _ (List.mem_append_right _ (List.mem_append_right _ (List.mem_append_right _ (List.mem_append_left _ (List.mem_of_getElem? (l := tables_1_5) (i := 172) rfl))))))
theorem lay_X7_21 : u_lay RX7 TX7 21 ∈ lw_tbl := tbl_in (List.mem_append_right _ (List.mem_append_right _ (List.mem_append_right _ (List.mem_append_right _ (List.mem_append_left _ (List.mem_of_getElem? (l := tables_1_5) (i := 174) rfl))))))
theorem lay_X7_22 : u_lay RX7 TX7 22 ∈ lw_tbl := tbl_in (List.mem_append_right _ (List.mem_append_right _ (List.mem_append_right _ (List.mem_append_right _ (List.mem_append_left _ (List.mem_of_getElem? (l := tables_1_5) (i := 176) rfl))))))
theorem lay_X7_23 : u_lay RX7 TX7 23 ∈ lw_tbl := tbl_in (List.mem_append_right _ (List.mem_append_right _ (List.mem_append_right _ (List.mem_append_right _ (List.mem_append_left _ (List.mem_of_getElem? (l := tables_1_5) (i := 178) rfl))))))
theorem lay_X7_24 : u_lay RX7 TX7 24 ∈ lw_tbl := tbl_in (List.mem_append_right _ (List.mem_append_right _ (List.mem_append_right _ (List.mem_append_right _ (List.mem_append_left _ (List.mem_of_getElem? (l := tables_1_5) (i := 180) rfl))))))
theorem lay_X7_25 : u_lay RX7 TX7 25 ∈ lw_tbl := tbl_in (List.mem_append_right _ (List.mem_append_right _ (List.mem_append_right _ (List.mem_append_right _ (List.mem_append_left _ (List.mem_of_getElem? (l := tables_1_5) (i := 182) rfl))))))
theorem lay_X7_26 : u_lay RX7 TX7 26 ∈ lw_tbl := tbl_in (List.mem_append_right _ (List.mem_append_right _ (List.mem_append_right _ (List.mem_append_right _ (List.mem_append_left _ (List.mem_of_getElem? (l := tables_1_5) (i := 184) rfl))))))
theorem lay_X7_27 : u_lay RX7 TX7 27 ∈ lw_tbl := tbl_in (List.mem_append_right _ (List.mem_append_right _ (List.mem_append_right _ (List.mem_append_right _ (List.mem_append_left _ (List.mem_of_getElem? (l := tables_1_5) (i := 186) rfl))))))
theorem lay_X7_28 : u_lay RX7 TX7 28 ∈ lw_tbl := tbl_in (List.mem_append_right _ (List.mem_append_right _ (List.mem_append_right _ (List.mem_append_right _ (List.mem_append_left _ (List.mem_of_getElem? (l := tables_1_5) (i := 188) rfl))))))
theorem lay_X7_29 : u_lay RX7 TX7 29 ∈ lw_tbl := tbl_in (List.mem_append_right _ (List.mem_append_right _ (List.mem_append_right _ (List.mem_append_right _ (List.mem_append_left _ (List.mem_of_getElem? (l := tables_1_5) (i := 190) rfl))))))
theorem lay_X7_30 : u_lay RX7 TX7 30 ∈ lw_tbl := tbl_in (List.mem_append_right _ (List.mem_append_right _ (List.mem_append_right _ (List.mem_append_right _ (List.mem_append_left _ (List.mem_of_getElem? (l := tables_1_5) (i := 192) rfl))))))
theorem lay_X7_31 : u_lay RX7 TX7 31 ∈ lw_tbl := tbl_in (List.mem_append_right _ (List.mem_append_right _ (List.mem_append_right _ (List.mem_append_right _ (List.mem_append_left _ (List.mem_of_getElem? (l := tables_1_5) (i := 194) rfl))))))
theorem lay_X7_32 : u_lay RX7 TX7 32 ∈ lw_tbl := tbl_in (List.mem_append_right _ (List.mem_append_right _ (List.mem_append_right _ (List.mem_append_right _ (List.mem_append_left _ (List.mem_of_getElem? (l := tables_1_5) (i := 196) rfl))))))
theorem lay_X7_33 : u_lay RX7 TX7 33 ∈ lw_tbl := tbl_in (List.mem_append_right _ (List.mem_append_right _ (List.mem_append_right _ (List.mem_append_right _ (List.mem_append_left _ (List.mem_of_getElem? (l := tables_1_5) (i := 198) rfl))))))
theorem lay_X7_34 : u_lay RX7 TX7 34 ∈ lw_tbl := tbl_in (List.mem_append_right _ (List.mem_append_right _ (List.mem_append_right _ (List.mem_append_right _ (List.mem_append_left _ (List.mem_of_getElem? (l := tables_1_5) (i := 200) rfl))))))
theorem lay_X7_35 : u_lay RX7 TX7 35 ∈ lw_tbl := tbl_in (List.mem_append_right _ (List.mem_append_right _ (List.mem_append_right _ (List.mem_append_right _ (List.mem_append_left _ (List.mem_of_getElem? (l := tables_1_5) (i := 202) rfl))))))
theorem cf7 : CF 7 RX7 TX7 36 tyX7 := ⟨rfl, fun w hw => by
  obtain ⟨k, hk, rfl⟩ := List.mem_map.mp hw
  have hk := List.mem_range.mp hk
  match k, hk with
  | 0, _ => exact ⟨lay_X7_0, rfl⟩
  | 1, _ => exact ⟨lay_X7_1, rfl⟩
  | 2, _ => exact ⟨lay_X7_2, rfl⟩
  | 3, _ => exact ⟨lay_X7_3, rfl⟩
  | 4, _ => exact ⟨lay_X7_4, rfl⟩
  | 5, _ => exact ⟨lay_X7_5, rfl⟩
  | 6, _ => exact ⟨lay_X7_6, rfl⟩
  | 7, _ => exact ⟨lay_X7_7, rfl⟩
  | 8, _ => exact ⟨lay_X7_8, rfl⟩
  | 9, _ => exact ⟨lay_X7_9, rfl⟩
  | 10, _ => exact ⟨lay_X7_10, rfl⟩
  | 11, _ => exact ⟨lay_X7_11, rfl⟩
  | 12, _ => exact ⟨lay_X7_12, rfl⟩
  | 13, _ => exact ⟨lay_X7_13, rfl⟩
  | 14, _ => exact ⟨lay_X7_14, rfl⟩
  | 15, _ => exact ⟨lay_X7_15, rfl⟩
  | 16, _ => exact ⟨lay_X7_16, rfl⟩
  | 17, _ => exact ⟨lay_X7_17, rfl⟩
  | 18, _ => exact ⟨lay_X7_18, rfl⟩
  | 19, _ => exact ⟨lay_X7_19, rfl⟩
  | 20, _ => exact ⟨lay_X7_20, rfl⟩
  | 21, _ => exact ⟨lay_X7_21, rfl⟩
  | 22, _ => exact ⟨lay_X7_22, rfl⟩
  | 23, _ => exact ⟨lay_X7_23, rfl⟩
  | 24, _ => exact ⟨lay_X7_24, rfl⟩
  | 25, _ => exact ⟨lay_X7_25, rfl⟩
  | 26, _ => exact ⟨lay_X7_26, rfl⟩
  | 27, _ => exact ⟨lay_X7_27, rfl⟩
  | 28, _ => exact ⟨lay_X7_28, rfl⟩
  | 29, _ => exact ⟨lay_X7_29, rfl⟩
  | 30, _ => exact ⟨lay_X7_30, rfl⟩
  | 31, _ => exact ⟨lay_X7_31, rfl⟩
  | 32, _ => exact ⟨lay_X7_32, rfl⟩
  | 33, _ => exact ⟨lay_X7_33, rfl⟩
  | 34, _ => exact ⟨lay_X7_34, rfl⟩
  | 35, _ => exact ⟨lay_X7_35, rfl⟩
  | k + 36, hk => exact absurd hk (by omega), tyX7_ok, nmX7⟩
theorem fl_X0_9 : Cond.fieldLink RX0 9 RX0 (TX0 2).2.1 (TX0 2).2.2.1 ∈ lw_tbl := tbl_in (List.mem_append_left _ (List.mem_of_getElem? (l := tables_1_1) (i := 47) rfl))
theorem fl_X0_15 : Cond.fieldLink RX0 15 RX0 (TX0 0).2.1 (TX0 0).2.2.1 ∈ lw_tbl := tbl_in (List.mem_append_left _ (List.mem_of_getElem? (l := tables_1_1) (i := 41) rfl))
theorem fl_X0_19 : Cond.fieldLink RX0 19 RX0 (TX0 1).2.1 (TX0 1).2.2.1 ∈ lw_tbl := tbl_in (List.mem_append_left _ (List.mem_of_getElem? (l := tables_1_1) (i := 44) rfl))
theorem fl_X0_22 : Cond.fieldLink RX0 22 RX0 (TX0 3).2.1 (TX0 3).2.2.1 ∈ lw_tbl := tbl_in (List.mem_append_left _ (List.mem_of_getElem? (l := tables_1_1) (i := 48) rfl))
theorem fl_X0_25 : Cond.fieldLink RX0 25 RX0 (TX0 4).2.1 (TX0 4).2.2.1 ∈ lw_tbl := tbl_in (List.mem_append_left _ (List.mem_of_getElem? (l := tables_1_1) (i := 50) rfl))
theorem fl_X0_28 : Cond.fieldLink RX0 28 RX0 (TX0 5).2.1 (TX0 5).2.2.1 ∈ lw_tbl := tbl_in (List.mem_append_left _ (List.mem_of_getElem? (l := tables_1_1) (i := 54) rfl))
theorem fl_X0_31 : Cond.fieldLink RX0 31 RX0 (TX0 6).2.1 (TX0 6).2.2.1 ∈ lw_tbl := tbl_in (List.mem_append_left _ (List.mem_of_getElem? (l := tables_1_1) (i := 59) rfl))
theorem fl_X0_34 : Cond.fieldLink RX0 34 RX0 (TX0 7).2.1 (TX0 7).2.2.1 ∈ lw_tbl := tbl_in (List.mem_append_left _ (List.mem_of_getElem? (l := tables_1_1) (i := 63) rfl))
theorem fl_X0_37 : Cond.fieldLink RX0 37 RX0 (TX0 8).2.1 (TX0 8).2.2.1 ∈ lw_tbl := tbl_in (List.mem_append_left _ (List.mem_of_getElem? (l := tables_1_1) (i := 68) rfl))
theorem wc_X0_copyName : Cond.code yX0_copyName cX0_copyName 2 none ∈ lw_tbl := tbl_in (List.mem_append_right _ (List.mem_append_left _ (List.mem_of_getElem? (l := tables_1_2) (i := 43) rfl)))
theorem wi_X0 : Cond.initialized RX0 ∈ lw_tbl := tbl_in (List.mem_append_left _ (List.mem_of_getElem? (l := tables_1_1) (i := 3) rfl))
theorem wl_X0_41 : Cond.methodLink RX0 41 yX0_copyName ∈ lw_tbl := tbl_in (List.mem_append_right _ (List.mem_append_left _ (List.mem_of_getElem? (l := tables_1_2) (i := 40) rfl)))
theorem wn_X0_copyName : Cond.instanceMethod yX0_copyName ∈ lw_tbl := tbl_in (List.mem_append_right _ (List.mem_append_left _ (List.mem_of_getElem? (l := tables_1_2) (i := 41) rfl)))
theorem we_X0_copyName : Cond.selects RX0 yX0_copyName yX0_copyName ∈ lw_tbl := tbl_in (List.mem_append_right _ (List.mem_append_left _ (List.mem_of_getElem? (l := tables_1_2) (i := 42) rfl)))
theorem cw_X0_41 : CWv RX0 41 RX0 yX0_copyName cX0_copyName 2 none 1 := ⟨⟨wl_X0_41, wn_X0_copyName, we_X0_copyName⟩, wi_X0, wc_X0_copyName, by decide +kernel, by decide +kernel, by decide +kernel⟩
theorem ml_X0_45 : Cond.methodLink RX0 45 arraycopyName ∈ lw_tbl := tbl_in (List.mem_append_right _ (List.mem_append_left _ (List.mem_of_getElem? (l := tables_1_2) (i := 44) rfl)))
theorem wc_X0_isVowel : Cond.code yX0_isVowel cX0_isVowel 1 (some .boolean) ∈ lw_tbl := tbl_in (List.mem_append_right _ (List.mem_append_left _ (List.mem_of_getElem? (l := tables_1_2) (i := 204) rfl)))
theorem wl_X0_51 : Cond.methodLink RX0 51 yX0_isVowel ∈ lw_tbl := tbl_in (List.mem_append_right _ (List.mem_append_left _ (List.mem_of_getElem? (l := tables_1_2) (i := 202) rfl)))
theorem ws_X0_isVowel : Cond.static yX0_isVowel ∈ lw_tbl := tbl_in (List.mem_append_right _ (List.mem_append_left _ (List.mem_of_getElem? (l := tables_1_2) (i := 203) rfl)))
theorem cw_X0_51 : CWs RX0 51 yX0_isVowel cX0_isVowel 1 (some .boolean) 1 := ⟨⟨wl_X0_51, ws_X0_isVowel⟩, wi_X0, wc_X0_isVowel, by decide +kernel, by decide +kernel, by decide +kernel⟩
theorem ml_X0_55 : Cond.methodLink RX0 55 Lib.Math.min.name ∈ lw_tbl := tbl_in (List.mem_append_right _ (List.mem_append_left _ (List.mem_of_getElem? (l := tables_1_2) (i := 239) rfl)))
theorem ml_min : Cond.static Lib.Math.min.name ∈ lw_tbl := tbl_in (List.mem_append_right _ (List.mem_append_right _ (List.mem_append_left _ (List.mem_of_getElem? (l := tables_1_3) (i := 0) rfl))))
theorem ml_math : Cond.initialized "java/lang/Math" ∈ lw_tbl := tbl_in (List.mem_append_left _ (List.mem_of_getElem? (l := tables_1_1) (i := 14) rfl))
theorem ml_min_c : Cond.code Lib.Math.min.name Lib.Math.min.code 2 (some .int) ∈ lw_tbl := tbl_in (List.mem_append_right _ (List.mem_append_right _ (List.mem_append_left _ (List.mem_of_getElem? (l := tables_1_3) (i := 1) rfl))))
theorem wc_X0_hasFullName : Cond.code yX0_hasFullName cX0_hasFullName 1 (some .boolean) ∈ lw_tbl := tbl_in (List.mem_append_right _ (List.mem_append_left _ (List.mem_of_getElem? (l := tables_1_2) (i := 154) rfl)))
theorem wl_X0_61 : Cond.methodLink RX0 61 yX0_hasFullName ∈ lw_tbl := tbl_in (List.mem_append_right _ (List.mem_append_left _ (List.mem_of_getElem? (l := tables_1_2) (i := 151) rfl)))
theorem wn_X0_hasFullName : Cond.instanceMethod yX0_hasFullName ∈ lw_tbl := tbl_in (List.mem_append_right _ (List.mem_append_left _ (List.mem_of_getElem? (l := tables_1_2) (i := 152) rfl)))
theorem we_X0_hasFullName : Cond.selects RX0 yX0_hasFullName yX0_hasFullName ∈ lw_tbl := tbl_in (List.mem_append_right _ (List.mem_append_left _ (List.mem_of_getElem? (l := tables_1_2) (i := 153) rfl)))
theorem cw_X0_61 : CWv RX0 61 RX0 yX0_hasFullName cX0_hasFullName 1 (some .boolean) 0 := ⟨⟨wl_X0_61, wn_X0_hasFullName, we_X0_hasFullName⟩, wi_X0, wc_X0_hasFullName, by decide +kernel, by decide +kernel, by decide +kernel⟩
theorem wc_X0_hasLetter : Cond.code yX0_hasLetter cX0_hasLetter 3 (some .boolean) ∈ lw_tbl := tbl_in (List.mem_append_right _ (List.mem_append_left _ (List.mem_of_getElem? (l := tables_1_2) (i := 234) rfl)))
theorem wl_X0_65 : Cond.methodLink RX0 65 yX0_hasLetter ∈ lw_tbl := tbl_in (List.mem_append_right _ (List.mem_append_right _ (List.mem_append_right _ (List.mem_append_left _ (List.mem_of_getElem? (l := tables_1_4) (i := 54) rfl)))))
theorem wn_X0_hasLetter : Cond.instanceMethod yX0_hasLetter ∈ lw_tbl := tbl_in (List.mem_append_right _ (List.mem_append_left _ (List.mem_of_getElem? (l := tables_1_2) (i := 232) rfl)))
theorem we_X0_hasLetter : Cond.selects RX0 yX0_hasLetter yX0_hasLetter ∈ lw_tbl := tbl_in (List.mem_append_right _ (List.mem_append_left _ (List.mem_of_getElem? (l := tables_1_2) (i := 233) rfl)))
theorem cw_X0_65 : CWv RX0 65 RX0 yX0_hasLetter cX0_hasLetter 3 (some .boolean) 1 := ⟨⟨wl_X0_65, wn_X0_hasLetter, we_X0_hasLetter⟩, wi_X0, wc_X0_hasLetter, by decide +kernel, by decide +kernel, by decide +kernel⟩
