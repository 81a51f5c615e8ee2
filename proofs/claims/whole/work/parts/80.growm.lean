abbrev rm_X6_line : Room := { frames := 5, cells := 2, slots := 20, locals := 107 }
set_option maxHeartbeats 4000000 in
set_option maxRecDepth 100000 in
theorem m_X6_line {l : Launch} {Z : Zg} {G : Gl} {B sz : Nat} {S : St} (v0 : Nat) (v1 : Int32) (v2 : Int32) (h : Hp) (Q : Int32 → St → Nat → Hp → Prop) (hw : w_X6_line S sz v0 v1 v2 h Q) : MIg Z l G B sz S yX6_line cX6_line 4 .int rm_X6_line [.ref v0, .int v1, .int v2] h Q := by
  refine met_ofg rfl rfl ?_
  intro p e s m args below meth c hMB H ls hH hl
  obtain ⟨⟨⟨hx, hb, hml, hown, hKK, hr, hlk⟩, hSK⟩, hNK⟩ := hMB
  replace hl : lv_has ls 4 [(0, .ref v0), (1, .int v1), (2, .int v2)] := hl
  unfold w_X6_line at hw
  show W p l e rm_X6_line s m args below meth c H [] 0 0 (QIg G B below args s rm_X6_line.cells rm_X6_line.slots Q) (F0 m 0 ls [])
  generalize ([] : List Loc) = locs at hH ⊢
  refine lv_aload_n hx hb dX6_line_0 rfl (lv_at hl 0 rfl) ?_
  refine lv_iload_n hx hb dX6_line_1 rfl (lv_at hl 1 rfl) ?_
  obtain ⟨k1, hw⟩ := hw
  refine hv_cVI (rm := rm_X6_noHead) (As := [.int v1]) (rest := []) (k := 1) (ci := 6) hx hb hml hown hKK hH cf6 k1 (m_X6_noHead v0 v1 _ _ hw) cw_X6_64 ⟨Nat.le_of_ble_eq_true rfl, Nat.le_of_ble_eq_true rfl⟩ rfl hl.1 rfl (Nat.le_of_ble_eq_true rfl) ⟨Nat.le_of_ble_eq_true rfl, Nat.le_of_ble_eq_true rfl⟩ dX6_line_2 (fun r3 h2 H locs hH hw => ?_)
  refine lv_if_eq (tgt := 14) hx hb dX6_line_5 (by decide) (fun c4 => ?_) (fun c4 => ?_)
  · have hw := ite_t hw c4
    refine lv_iload_n hx hb dX6_line_14 rfl (lv_at hl 2 rfl) ?_
    refine lv_if_ge (tgt := 25) hx hb dX6_line_15 (by decide) (fun c5 => ?_) (fun c5 => ?_)
    · have hw := ite_t hw c5
      refine hg_sb hx hb hml hl.1 hown hKK hSK hNK hH cl_X6_279 in_J4 wi_J4 ci_X6_281 ⟨Nat.le_of_ble_eq_true rfl, Nat.le_of_ble_eq_true rfl⟩ (Nat.le_of_ble_eq_true rfl) ⟨Nat.le_of_ble_eq_true rfl, Nat.le_of_ble_eq_true rfl⟩ dX6_line_25 dX6_line_28 dX6_line_29 (fun S r6 sz h7 H locs e8 e9 e10 e11 hH => ?_)
      have hw := hw S r6 sz h7 e8 e9 e10 e11
      try dsimp only at hw
      refine lv_astore_n (lv' := [(3, .ref r6), (0, .ref v0), (1, .int v1), (2, .int v2)]) hx hb dX6_line_32 rfl hl (by decide) rfl (fun ls hl => ?_)
      refine lv_aload_n hx hb dX6_line_33 rfl (lv_at hl 1 rfl) ?_
      obtain ⟨k12, hw⟩ := hw
      refine hv_get (ci := 6) (k := 0) (v := .ref (S.2 v0 0)) hx hb hown hKK hH cf6 (by decide) fl_X6_10 rfl k12 rfl dX6_line_34 ?_
      obtain ⟨k13, hw⟩ := hw
      refine hv_getN (ci := 1) (k := 3) (v := .ref (S.2 (S.2 v0 0) 3)) hx hb hown hKK hH cf1 (by decide) fl_X6_105 rfl k13 rfl dX6_line_37 ?_
      refine lv_iload_n hx hb dX6_line_40 rfl (lv_at hl 2 rfl) ?_
      obtain ⟨k14, hw⟩ := hw
      refine hv_aald (t := 1) hx hb (by decide) hKK hH k14 dX6_line_41 ?_
      refine lv_aload_n hx hb dX6_line_42 rfl (lv_at hl 0 rfl) ?_
      obtain ⟨k15, hw⟩ := hw
      refine hz_cVV (rm := rm_X0_tell) (As := [.ref r6]) (rest := []) (k := 1) (ci := 0) hx hb hml hown hKK hSK hH cf0 k15 (m_X0_tell (S.2 (S.2 (S.2 v0 0) 3) (ix v1)) r6 _ _ hw) cw_X6_282 ⟨Nat.le_of_ble_eq_true rfl, Nat.le_of_ble_eq_true rfl⟩ rfl hl.1 rfl (Nat.le_of_ble_eq_true rfl) ⟨Nat.le_of_ble_eq_true rfl, Nat.le_of_ble_eq_true rfl⟩ dX6_line_43 (fun h16 H locs hH hw => ?_)
      refine lv_iload_n hx hb dX6_line_46 rfl (lv_at hl 3 rfl) ?_
      refine lv_aload_n hx hb dX6_line_47 rfl (lv_at hl 0 rfl) ?_
      obtain ⟨k17, hw⟩ := hw
      refine hz_cVI (rm := rm_J4_length_8abf5) (As := []) (rest := [.int v2]) (k := 0) (ci := 8) hx hb hml hown hKK hSK hH cf8 k17 (m_J4_length_8abf5 r6 _ _ hw) cw_X6_286 ⟨Nat.le_of_ble_eq_true rfl, Nat.le_of_ble_eq_true rfl⟩ rfl hl.1 rfl (Nat.le_of_ble_eq_true rfl) ⟨Nat.le_of_ble_eq_true rfl, Nat.le_of_ble_eq_true rfl⟩ dX6_line_48 (fun r19 h18 H locs hH hw => ?_)
      refine lv_icmp_ge (tgt := 62) hx hb dX6_line_51 (by decide) (fun c20 => ?_) (fun c20 => ?_)
      · have hw := ite_t hw c20
        refine lv_bipush (v := (-9)) hx hb dX6_line_62 (by decide) ?_
        exact hg_iret hx hb hr hlk hH (Nat.le_of_ble_eq_true rfl) (Nat.le_of_ble_eq_true rfl) hw dX6_line_64
      · have hw := ite_f hw c20
        refine lv_aload_n hx hb dX6_line_54 rfl (lv_at hl 0 rfl) ?_
        refine lv_iload_n hx hb dX6_line_55 rfl (lv_at hl 3 rfl) ?_
        refine hz_cVI (rm := rm_J4_charAt_5068e) (As := [.int v2]) (rest := []) (k := 1) (ci := 8) hx hb hml hown hKK hSK hH cf8 k17 (m_J4_charAt_5068e r6 v2 _ _ hw) cw_X6_288 ⟨Nat.le_of_ble_eq_true rfl, Nat.le_of_ble_eq_true rfl⟩ rfl hl.1 rfl (Nat.le_of_ble_eq_true rfl) ⟨Nat.le_of_ble_eq_true rfl, Nat.le_of_ble_eq_true rfl⟩ dX6_line_56 (fun r22 h21 H locs hH hw => ?_)
        refine lv_goto (tgt := 64) hx hb dX6_line_59 (by decide) ?_
        exact hg_iret hx hb hr hlk hH (Nat.le_of_ble_eq_true rfl) (Nat.le_of_ble_eq_true rfl) hw dX6_line_64
    · have hw := ite_f hw c5
      refine lv_aload_n hx hb dX6_line_18 rfl (lv_at hl 0 rfl) ?_
      refine lv_bipush (v := (-4)) hx hb dX6_line_19 (by decide) ?_
      refine hv_cVI (rm := rm_X6_refuse) (As := [.int (-4)]) (rest := []) (k := 1) (ci := 6) hx hb hml hown hKK hH cf6 k1 (m_X6_refuse v0 (-4) _ _ hw) cw_X6_56 ⟨Nat.le_of_ble_eq_true rfl, Nat.le_of_ble_eq_true rfl⟩ rfl hl.1 rfl (Nat.le_of_ble_eq_true rfl) ⟨Nat.le_of_ble_eq_true rfl, Nat.le_of_ble_eq_true rfl⟩ dX6_line_21 (fun r24 h23 H locs hH hw => ?_)
      exact hg_iret hx hb hr hlk hH (Nat.le_of_ble_eq_true rfl) (Nat.le_of_ble_eq_true rfl) hw dX6_line_24
  · have hw := ite_f hw c4
    refine lv_aload_n hx hb dX6_line_8 rfl (lv_at hl 0 rfl) ?_
    refine lv_iconst (v := (-1)) hx hb dX6_line_9 (by decide) ?_
    refine hv_cVI (rm := rm_X6_refuse) (As := [.int (-1)]) (rest := []) (k := 1) (ci := 6) hx hb hml hown hKK hH cf6 k1 (m_X6_refuse v0 (-1) _ _ hw) cw_X6_56 ⟨Nat.le_of_ble_eq_true rfl, Nat.le_of_ble_eq_true rfl⟩ rfl hl.1 rfl (Nat.le_of_ble_eq_true rfl) ⟨Nat.le_of_ble_eq_true rfl, Nat.le_of_ble_eq_true rfl⟩ dX6_line_10 (fun r26 h25 H locs hH hw => ?_)
    exact hg_iret hx hb hr hlk hH (Nat.le_of_ble_eq_true rfl) (Nat.le_of_ble_eq_true rfl) hw dX6_line_13
