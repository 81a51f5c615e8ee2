abbrev rm_X2_choicesOf : Room := { frames := 0, cells := 0, slots := 0, locals := 0 }
set_option maxHeartbeats 4000000 in
set_option maxRecDepth 100000 in
theorem m_X2_choicesOf {l : Launch} {G : Gl} {B sz : Nat} {S : St} (v0 : Int32) (h : Hp) (Q : Int32 → Hp → Prop) (hw : w_X2_choicesOf S v0 h Q) : MI l G B sz S yX2_choicesOf cX2_choicesOf 1 .int rm_X2_choicesOf [.int v0] h Q := by
  refine met_of rfl rfl ?_
  intro p e s m args below meth c hMB H ls hH hl
  obtain ⟨hx, hb, hml, hown, hKK, hr, hlk⟩ := hMB
  replace hl : lv_has ls 1 [(0, .int v0)] := hl
  unfold w_X2_choicesOf at hw
  show W p l e rm_X2_choicesOf s m args below meth c H [] 0 0 (QI G B S sz below args s Q) (F0 m 0 ls [])
  generalize ([] : List Loc) = locs at hH ⊢
  refine lv_iload_n hx hb dX2_choicesOf_0 rfl (lv_at hl 0 rfl) ?_
  by_cases c1 : v0 = (nI 0)
  · have hw := ite_t hw c1
    refine lv_tableIn (tgt := 28) hx hb dX2_choicesOf_1 (by rw [c1]; decide) (by rw [c1]; decide) (by rw [c1]; rfl) (by decide) ?_
    refine lv_bipush (v := (nI 8)) hx hb dX2_choicesOf_28 (by decide) ?_
    exact hv_iret hx hb hr hlk hH hw dX2_choicesOf_30
  have hw := ite_f hw c1
  by_cases c2 : v0 = (nI 1)
  · have hw := ite_t hw c2
    refine lv_tableIn (tgt := 31) hx hb dX2_choicesOf_1 (by rw [c2]; decide) (by rw [c2]; decide) (by rw [c2]; rfl) (by decide) ?_
    refine lv_bipush (v := (nI 10)) hx hb dX2_choicesOf_31 (by decide) ?_
    exact hv_iret hx hb hr hlk hH hw dX2_choicesOf_33
  have hw := ite_f hw c2
  by_cases c3 : v0 = (nI 2)
  · have hw := ite_t hw c3
    refine lv_tableIn (tgt := 34) hx hb dX2_choicesOf_1 (by rw [c3]; decide) (by rw [c3]; decide) (by rw [c3]; rfl) (by decide) ?_
    refine lv_iconst (v := (nI 5)) hx hb dX2_choicesOf_34 (by decide) ?_
    exact hv_iret hx hb hr hlk hH hw dX2_choicesOf_35
  have hw := ite_f hw c3
  refine lv_tableOut (tgt := 36) hx hb dX2_choicesOf_1 (by have := ne_toInt (k := 0) (by decide) c1; have := ne_toInt (k := 1) (by decide) c2; have := ne_toInt (k := 2) (by decide) c3; omega) (by decide) ?_
  refine lv_bipush (v := (nI 26)) hx hb dX2_choicesOf_36 (by decide) ?_
  exact hv_iret hx hb hr hlk hH hw dX2_choicesOf_38
abbrev rm_X2_choose : Room := { frames := 2, cells := 0, slots := 0, locals := 41 }
set_option maxHeartbeats 4000000 in
set_option maxRecDepth 100000 in
theorem m_X2_choose {l : Launch} {G : Gl} {B sz : Nat} {S : St} (v0 : Nat) (v1 : Int32) (v2 : Int32) (v3 : Int32) (h : Hp) (Q : Hp → Prop) (hw : w_X2_choose S v0 v1 v2 v3 h Q) : MV l G B sz S yX2_choose cX2_choose 4 rm_X2_choose [.ref v0, .int v1, .int v2, .int v3] h Q := by
  refine met_of rfl rfl ?_
  intro p e s m args below meth c hMB H ls hH hl
  obtain ⟨hx, hb, hml, hown, hKK, hr, hlk⟩ := hMB
  replace hl : lv_has ls 4 [(0, .ref v0), (1, .int v1), (2, .int v2), (3, .int v3)] := hl
  unfold w_X2_choose at hw
  show W p l e rm_X2_choose s m args below meth c H [] 0 0 (QV G B S sz below args s Q) (F0 m 0 ls [])
  generalize ([] : List Loc) = locs at hH ⊢
  refine lv_iload_n hx hb dX2_choose_0 rfl (lv_at hl 2 rfl) ?_
  by_cases c1 : v2 = (nI 0)
  · have hw := ite_t hw c1
    refine lv_tableIn (tgt := 28) hx hb dX2_choose_1 (by rw [c1]; decide) (by rw [c1]; decide) (by rw [c1]; rfl) (by decide) ?_
    refine lv_aload_n hx hb dX2_choose_28 rfl (lv_at hl 0 rfl) ?_
    obtain ⟨k2, hw⟩ := hw
    refine hv_get (ci := 2) (k := 0) (v := .ref (S.2 v0 0)) hx hb hown hKK hH cf2 (by decide) fl_X2_12 rfl k2 rfl dX2_choose_29 ?_
    obtain ⟨k3, hw⟩ := hw
    refine hv_getN (ci := 1) (k := 3) (v := .ref (S.2 (S.2 v0 0) 3)) hx hb hown hKK hH cf1 (by decide) fl_X2_37 rfl k3 rfl dX2_choose_32 ?_
    refine lv_iload_n hx hb dX2_choose_35 rfl (lv_at hl 1 rfl) ?_
    obtain ⟨k4, hw⟩ := hw
    refine hv_aald (t := 1) hx hb (by decide) hKK hH k4 dX2_choose_36 ?_
    refine lv_iload_n hx hb dX2_choose_37 rfl (lv_at hl 3 rfl) ?_
    obtain ⟨k5, hw⟩ := hw
    refine hv_putN (ci := 0) (k := 0) hx hb hown hKK hH cf0 (by decide) fl_X2_61 rfl rfl rfl k5 rfl rfl dX2_choose_38 (fun H locs hH => ?_)
    refine lv_goto (tgt := 89) hx hb dX2_choose_41 (by decide) ?_
    exact hv_vret hx hb hr hlk hH hw dX2_choose_89
  have hw := ite_f hw c1
  by_cases c6 : v2 = (nI 1)
  · have hw := ite_t hw c6
    refine lv_tableIn (tgt := 44) hx hb dX2_choose_1 (by rw [c6]; decide) (by rw [c6]; decide) (by rw [c6]; rfl) (by decide) ?_
    refine lv_aload_n hx hb dX2_choose_44 rfl (lv_at hl 0 rfl) ?_
    obtain ⟨k7, hw⟩ := hw
    refine hv_get (ci := 2) (k := 0) (v := .ref (S.2 v0 0)) hx hb hown hKK hH cf2 (by decide) fl_X2_12 rfl k7 rfl dX2_choose_45 ?_
    obtain ⟨k8, hw⟩ := hw
    refine hv_getN (ci := 1) (k := 3) (v := .ref (S.2 (S.2 v0 0) 3)) hx hb hown hKK hH cf1 (by decide) fl_X2_37 rfl k8 rfl dX2_choose_48 ?_
    refine lv_iload_n hx hb dX2_choose_51 rfl (lv_at hl 1 rfl) ?_
    obtain ⟨k9, hw⟩ := hw
    refine hv_aald (t := 1) hx hb (by decide) hKK hH k9 dX2_choose_52 ?_
    refine lv_iload_n hx hb dX2_choose_53 rfl (lv_at hl 3 rfl) ?_
    obtain ⟨k10, hw⟩ := hw
    refine hv_putN (ci := 0) (k := 1) hx hb hown hKK hH cf0 (by decide) fl_X2_64 rfl rfl rfl k10 rfl rfl dX2_choose_54 (fun H locs hH => ?_)
    refine lv_goto (tgt := 89) hx hb dX2_choose_57 (by decide) ?_
    exact hv_vret hx hb hr hlk hH hw dX2_choose_89
  have hw := ite_f hw c6
  by_cases c11 : v2 = (nI 2)
  · have hw := ite_t hw c11
    refine lv_tableIn (tgt := 60) hx hb dX2_choose_1 (by rw [c11]; decide) (by rw [c11]; decide) (by rw [c11]; rfl) (by decide) ?_
    refine lv_aload_n hx hb dX2_choose_60 rfl (lv_at hl 0 rfl) ?_
    obtain ⟨k12, hw⟩ := hw
    refine hv_get (ci := 2) (k := 0) (v := .ref (S.2 v0 0)) hx hb hown hKK hH cf2 (by decide) fl_X2_12 rfl k12 rfl dX2_choose_61 ?_
    obtain ⟨k13, hw⟩ := hw
    refine hv_getN (ci := 1) (k := 3) (v := .ref (S.2 (S.2 v0 0) 3)) hx hb hown hKK hH cf1 (by decide) fl_X2_37 rfl k13 rfl dX2_choose_64 ?_
    refine lv_iload_n hx hb dX2_choose_67 rfl (lv_at hl 1 rfl) ?_
    obtain ⟨k14, hw⟩ := hw
    refine hv_aald (t := 1) hx hb (by decide) hKK hH k14 dX2_choose_68 ?_
    refine lv_iload_n hx hb dX2_choose_69 rfl (lv_at hl 3 rfl) ?_
    obtain ⟨k15, hw⟩ := hw
    refine hv_putN (ci := 0) (k := 6) hx hb hown hKK hH cf0 (by decide) fl_X2_67 rfl rfl rfl k15 rfl rfl dX2_choose_70 (fun H locs hH => ?_)
    refine lv_goto (tgt := 89) hx hb dX2_choose_73 (by decide) ?_
    exact hv_vret hx hb hr hlk hH hw dX2_choose_89
  have hw := ite_f hw c11
  refine lv_tableOut (tgt := 76) hx hb dX2_choose_1 (by have := ne_toInt (k := 0) (by decide) c1; have := ne_toInt (k := 1) (by decide) c6; have := ne_toInt (k := 2) (by decide) c11; omega) (by decide) ?_
  refine lv_aload_n hx hb dX2_choose_76 rfl (lv_at hl 0 rfl) ?_
  obtain ⟨k16, hw⟩ := hw
  refine hv_get (ci := 2) (k := 0) (v := .ref (S.2 v0 0)) hx hb hown hKK hH cf2 (by decide) fl_X2_12 rfl k16 rfl dX2_choose_77 ?_
  obtain ⟨k17, hw⟩ := hw
  refine hv_getN (ci := 1) (k := 3) (v := .ref (S.2 (S.2 v0 0) 3)) hx hb hown hKK hH cf1 (by decide) fl_X2_37 rfl k17 rfl dX2_choose_80 ?_
  refine lv_iload_n hx hb dX2_choose_83 rfl (lv_at hl 1 rfl) ?_
  obtain ⟨k18, hw⟩ := hw
  refine hv_aald (t := 1) hx hb (by decide) hKK hH k18 dX2_choose_84 ?_
  refine lv_iload_n hx hb dX2_choose_85 rfl (lv_at hl 3 rfl) ?_
  obtain ⟨k19, hw⟩ := hw
  refine hv_cVV (rm := rm_X0_lengthenName) (As := [.int v3]) (rest := []) (k := 1) (ci := 0) hx hb hml hown hKK hH cf0 k19 (m_X0_lengthenName (S.2 (S.2 (S.2 v0 0) 3) (ix v1)) v3 _ _ hw) cw_X2_70 ⟨Nat.le_of_ble_eq_true rfl, Nat.le_of_ble_eq_true rfl⟩ rfl hl.1 rfl (Nat.le_of_ble_eq_true rfl) ⟨Nat.le_of_ble_eq_true rfl, Nat.le_of_ble_eq_true rfl⟩ dX2_choose_86 (fun h20 H locs hH hw => ?_)
  exact hv_vret hx hb hr hlk hH hw dX2_choose_89
abbrev rm_X2_bestChoice : Room := { frames := 5, cells := 0, slots := 0, locals := 145 }
set_option maxHeartbeats 4000000 in
set_option maxRecDepth 100000 in
theorem m_X2_bestChoice {l : Launch} {G : Gl} {B sz : Nat} {S : St} (v0 : Nat) (v1 : Nat) (v2 : Int32) (v3 : Int32) (v4 : Int32) (v5 : Int32) (h : Hp) (Q : Int32 → Hp → Prop) (hw : w_X2_bestChoice S v0 v1 v2 v3 v4 v5 h Q) : MI l G B sz S yX2_bestChoice cX2_bestChoice 10 .int rm_X2_bestChoice [.ref v0, .ref v1, .int v2, .int v3, .int v4, .int v5] h Q := by
  refine met_of rfl rfl ?_
  intro p e s m args below meth c hMB H ls hH hl
  obtain ⟨hx, hb, hml, hown, hKK, hr, hlk⟩ := hMB
  replace hl : lv_has ls 10 [(0, .ref v0), (1, .ref v1), (2, .int v2), (3, .int v3), (4, .int v4), (5, .int v5)] := hl
  have c18 : ∀  (v0 : Nat) (v1 : Nat) (v2 : Int32) (v3 : Int32) (v4 : Int32) (v5 : Int32) (v6 : Int32) (v7 : Int32) (v8 : Int32) (v9 : Int32) (h : Hp) (H : Heap) (locs : List Loc) (ls : Array Slot), HH G B S h sz s H locs → lv_has ls 10 [(0, .ref v0), (1, .ref v1), (2, .int v2), (3, .int v3), (4, .int v4), (5, .int v5), (6, .int v6), (7, .int v7), (8, .int v8), (9, .int v9)] → w_X2_bestChoice_c18 S v0 v1 v2 v3 v4 v5 v6 v7 v8 v9 h Q → W p l e rm_X2_bestChoice s m args below meth c H locs 0 0 (QI G B S sz below args s Q) (F0 m 18 ls []) := by
    intro  v0 v1 v2 v3 v4 v5 v6 v7 v8 v9 h H locs ls hH hl hw
    unfold w_X2_bestChoice_c18 at hw
    obtain ⟨P18, hP18⟩ : ∃ P : Int32 → Int32 → Int32 → Hp → Prop, ∀ (v7 : Int32) (v8 : Int32) (v9 : Int32) (h : Hp), P v7 v8 v9 h ↔ (∀ (H : Heap) (locs : List Loc) (ls : Array Slot), HH G B S h sz s H locs → lv_has ls 10 [(0, .ref v0), (1, .ref v1), (2, .int v2), (3, .int v3), (4, .int v4), (5, .int v5), (6, .int v6), (7, .int v7), (8, .int v8), (9, .int v9)] → W p l e rm_X2_bestChoice s m args below meth c H locs 0 0 (QI G B S sz below args s Q) (F0 m 18 ls [])) := ⟨_, fun v7 v8 v9 h => Iff.rfl⟩
    refine (hP18 v7 v8 v9 h).1 (hw P18 (fun v7 v8 v9 h hw => (hP18 v7 v8 v9 h).2 (fun H locs ls hH hl => ?_))) H locs ls hH hl
    have hK18 : ∀ (v7 : Int32) (v8 : Int32) (v9 : Int32) (h : Hp) (H : Heap) (locs : List Loc) (ls : Array Slot), HH G B S h sz s H locs → lv_has ls 10 [(0, .ref v0), (1, .ref v1), (2, .int v2), (3, .int v3), (4, .int v4), (5, .int v5), (6, .int v6), (7, .int v7), (8, .int v8), (9, .int v9)] → P18 v7 v8 v9 h → W p l e rm_X2_bestChoice s m args below meth c H locs 0 0 (QI G B S sz below args s Q) (F0 m 18 ls []) := fun v7 v8 v9 h H locs ls hH hl hk => (hP18 v7 v8 v9 h).1 hk H locs ls hH hl
    refine lv_iload hx hb dX2_bestChoice_18 (lv_at hl 9 rfl) ?_
    refine lv_iload hx hb dX2_bestChoice_20 (lv_at hl 6 rfl) ?_
    refine lv_icmp_ge (tgt := 89) hx hb dX2_bestChoice_22 (by decide) (fun c1 => ?_) (fun c1 => ?_)
    · have hw := ite_t hw c1
      refine lv_iload hx hb dX2_bestChoice_89 (lv_at hl 5 rfl) ?_
      refine lv_if_eq (tgt := 99) hx hb dX2_bestChoice_91 (by decide) (fun c2 => ?_) (fun c2 => ?_)
      · have hw := ite_t hw c2
        refine lv_iload hx hb dX2_bestChoice_99 (lv_at hl 7 rfl) ?_
        exact hv_iret hx hb hr hlk hH hw dX2_bestChoice_101
      · have hw := ite_f hw c2
        refine lv_iload hx hb dX2_bestChoice_94 (lv_at hl 8 rfl) ?_
        refine lv_goto (tgt := 101) hx hb dX2_bestChoice_96 (by decide) ?_
        exact hv_iret hx hb hr hlk hH hw dX2_bestChoice_101
    · have hw := ite_f hw c1
      refine lv_aload_n hx hb dX2_bestChoice_25 rfl (lv_at hl 0 rfl) ?_
      refine lv_aload_n hx hb dX2_bestChoice_26 rfl (lv_at hl 1 rfl) ?_
      obtain ⟨k3, hw⟩ := hw
      refine hv_cVA (rm := rm_X2_think) (As := [.ref v1]) (rest := []) (k := 1) (ci := 2) hx hb hml hown hKK hH cf2 k3 (m_X2_think v0 v1 _ _ hw) cw_X2_29 ⟨Nat.le_of_ble_eq_true rfl, Nat.le_of_ble_eq_true rfl⟩ rfl hl.1 rfl (Nat.le_of_ble_eq_true rfl) ⟨Nat.le_of_ble_eq_true rfl, Nat.le_of_ble_eq_true rfl⟩ dX2_bestChoice_27 (fun r5 h4 H locs hH hw => ?_)
      refine lv_pop hx hb dX2_bestChoice_30 rfl ?_
      refine lv_aload_n hx hb dX2_bestChoice_31 rfl (lv_at hl 0 rfl) ?_
      refine lv_iload_n hx hb dX2_bestChoice_32 rfl (lv_at hl 2 rfl) ?_
      refine lv_iload hx hb dX2_bestChoice_33 (lv_at hl 4 rfl) ?_
      refine lv_iload hx hb dX2_bestChoice_35 (lv_at hl 9 rfl) ?_
      refine hv_cVV (rm := rm_X2_choose) (As := [.int v2, .int v4, .int v9]) (rest := []) (k := 3) (ci := 2) hx hb hml hown hKK hH cf2 k3 (m_X2_choose v0 v2 v4 v9 _ _ hw) cw_X2_76 ⟨Nat.le_of_ble_eq_true rfl, Nat.le_of_ble_eq_true rfl⟩ rfl hl.1 rfl (Nat.le_of_ble_eq_true rfl) ⟨Nat.le_of_ble_eq_true rfl, Nat.le_of_ble_eq_true rfl⟩ dX2_bestChoice_37 (fun h6 H locs hH hw => ?_)
      refine lv_aload_n hx hb dX2_bestChoice_40 rfl (lv_at hl 0 rfl) ?_
      refine hv_get (ci := 2) (k := 0) (v := .ref (S.2 v0 0)) hx hb hown hKK hH cf2 (by decide) fl_X2_12 rfl k3 rfl dX2_bestChoice_41 ?_
      refine lv_iload_n hx hb dX2_bestChoice_44 rfl (lv_at hl 3 rfl) ?_
      obtain ⟨k7, hw⟩ := hw
      refine hv_cVV (rm := rm_X1_passNights) (As := [.int v3]) (rest := []) (k := 1) (ci := 1) hx hb hml hown hKK hH cf1 k7 (m_X1_passNights (S.2 v0 0) v3 _ _ hw) cw_X2_33 ⟨Nat.le_of_ble_eq_true rfl, Nat.le_of_ble_eq_true rfl⟩ rfl hl.1 rfl (Nat.le_of_ble_eq_true rfl) ⟨Nat.le_of_ble_eq_true rfl, Nat.le_of_ble_eq_true rfl⟩ dX2_bestChoice_45 (fun h8 H locs hH hw => ?_)
      refine lv_aload_n hx hb dX2_bestChoice_48 rfl (lv_at hl 0 rfl) ?_
      refine hv_get (ci := 2) (k := 0) (v := .ref (S.2 v0 0)) hx hb hown hKK hH cf2 (by decide) fl_X2_12 rfl k3 rfl dX2_bestChoice_49 ?_
      refine hv_getN (ci := 1) (k := 3) (v := .ref (S.2 (S.2 v0 0) 3)) hx hb hown hKK hH cf1 (by decide) fl_X2_37 rfl k7 rfl dX2_bestChoice_52 ?_
      refine lv_iload_n hx hb dX2_bestChoice_55 rfl (lv_at hl 2 rfl) ?_
      obtain ⟨k9, hw⟩ := hw
      refine hv_aald (t := 1) hx hb (by decide) hKK hH k9 dX2_bestChoice_56 ?_
      obtain ⟨k10, hw⟩ := hw
      refine hv_getN (ci := 0) (k := 7) (v := .int (h8 (S.2 (S.2 (S.2 v0 0) 3) (ix v2)) 7)) hx hb hown hKK hH cf0 (by decide) fl_X2_80 rfl k10 rfl dX2_bestChoice_57 ?_
      refine lv_iload hx hb dX2_bestChoice_60 (lv_at hl 8 rfl) ?_
      refine lv_icmp_le (tgt := 83) hx hb dX2_bestChoice_62 (by decide) (fun c11 => ?_) (fun c11 => ?_)
      · have hw := ite_t hw c11
        refine lv_iinc (v := v9 + (nI 1)) (lv' := [(9, .int (v9 + (nI 1))), (0, .ref v0), (1, .ref v1), (2, .int v2), (3, .int v3), (4, .int v4), (5, .int v5), (6, .int v6), (7, .int v7), (8, .int v8)]) hx hb dX2_bestChoice_83 hl (k := 9) rfl rfl (by decide) rfl (fun ls hl => ?_)
        refine lv_goto (tgt := 18) hx hb dX2_bestChoice_86 (by decide) ?_
        exact hK18 _ _ _ _ H locs ls hH (lv_sub hl [1, 2, 3, 4, 5, 6, 7, 8, 9, 0] rfl) hw
      · have hw := ite_f hw c11
        refine lv_iload hx hb dX2_bestChoice_65 (lv_at hl 9 rfl) ?_
        refine lv_istore (lv' := [(7, .int v9), (0, .ref v0), (1, .ref v1), (2, .int v2), (3, .int v3), (4, .int v4), (5, .int v5), (6, .int v6), (8, .int v8), (9, .int v9)]) hx hb dX2_bestChoice_67 hl (by decide) rfl (fun ls hl => ?_)
        refine lv_aload_n hx hb dX2_bestChoice_69 rfl (lv_at hl 1 rfl) ?_
        refine hv_get (ci := 2) (k := 0) (v := .ref (S.2 v0 0)) hx hb hown hKK hH cf2 (by decide) fl_X2_12 rfl k3 rfl dX2_bestChoice_70 ?_
        refine hv_getN (ci := 1) (k := 3) (v := .ref (S.2 (S.2 v0 0) 3)) hx hb hown hKK hH cf1 (by decide) fl_X2_37 rfl k7 rfl dX2_bestChoice_73 ?_
        refine lv_iload_n hx hb dX2_bestChoice_76 rfl (lv_at hl 3 rfl) ?_
        refine hv_aald (t := 1) hx hb (by decide) hKK hH k9 dX2_bestChoice_77 ?_
        refine hv_getN (ci := 0) (k := 7) (v := .int (h8 (S.2 (S.2 (S.2 v0 0) 3) (ix v2)) 7)) hx hb hown hKK hH cf0 (by decide) fl_X2_80 rfl k10 rfl dX2_bestChoice_78 ?_
        refine lv_istore (lv' := [(8, .int (h8 (S.2 (S.2 (S.2 v0 0) 3) (ix v2)) 7)), (7, .int v9), (0, .ref v0), (1, .ref v1), (2, .int v2), (3, .int v3), (4, .int v4), (5, .int v5), (6, .int v6), (9, .int v9)]) hx hb dX2_bestChoice_81 hl (by decide) rfl (fun ls hl => ?_)
        refine lv_iinc (v := v9 + (nI 1)) (lv' := [(9, .int (v9 + (nI 1))), (8, .int (h8 (S.2 (S.2 (S.2 v0 0) 3) (ix v2)) 7)), (7, .int v9), (0, .ref v0), (1, .ref v1), (2, .int v2), (3, .int v3), (4, .int v4), (5, .int v5), (6, .int v6)]) hx hb dX2_bestChoice_83 hl (k := 9) rfl rfl (by decide) rfl (fun ls hl => ?_)
        refine lv_goto (tgt := 18) hx hb dX2_bestChoice_86 (by decide) ?_
        exact hK18 _ _ _ _ H locs ls hH (lv_sub hl [3, 4, 5, 6, 7, 8, 9, 2, 1, 0] rfl) hw
  unfold w_X2_bestChoice at hw
  show W p l e rm_X2_bestChoice s m args below meth c H [] 0 0 (QI G B S sz below args s Q) (F0 m 0 ls [])
  generalize ([] : List Loc) = locs at hH ⊢
  refine lv_iload hx hb dX2_bestChoice_0 (lv_at hl 4 rfl) ?_
  refine hv_cSI (rm := rm_X2_choicesOf) (As := [.int v4]) (rest := []) (k := 1) hx hb hml hown hKK hH (m_X2_choicesOf v4 _ _ hw) cw_X2_73 ⟨Nat.le_of_ble_eq_true rfl, Nat.le_of_ble_eq_true rfl⟩ rfl hl.1 rfl (Nat.le_of_ble_eq_true rfl) ⟨Nat.le_of_ble_eq_true rfl, Nat.le_of_ble_eq_true rfl⟩ dX2_bestChoice_2 (fun r2 h1 H locs hH hw => ?_)
  refine lv_istore (lv' := [(6, .int r2), (0, .ref v0), (1, .ref v1), (2, .int v2), (3, .int v3), (4, .int v4), (5, .int v5)]) hx hb dX2_bestChoice_5 hl (by decide) rfl (fun ls hl => ?_)
  refine lv_bipush (v := (-9)) hx hb dX2_bestChoice_7 (by decide) ?_
  refine lv_istore (lv' := [(7, .int (-9)), (6, .int r2), (0, .ref v0), (1, .ref v1), (2, .int v2), (3, .int v3), (4, .int v4), (5, .int v5)]) hx hb dX2_bestChoice_9 hl (by decide) rfl (fun ls hl => ?_)
  refine lv_bipush (v := (-9)) hx hb dX2_bestChoice_11 (by decide) ?_
  refine lv_istore (lv' := [(8, .int (-9)), (7, .int (-9)), (6, .int r2), (0, .ref v0), (1, .ref v1), (2, .int v2), (3, .int v3), (4, .int v4), (5, .int v5)]) hx hb dX2_bestChoice_13 hl (by decide) rfl (fun ls hl => ?_)
  refine lv_iconst (v := (nI 0)) hx hb dX2_bestChoice_15 (by decide) ?_
  refine lv_istore (lv' := [(9, .int (nI 0)), (8, .int (-9)), (7, .int (-9)), (6, .int r2), (0, .ref v0), (1, .ref v1), (2, .int v2), (3, .int v3), (4, .int v4), (5, .int v5)]) hx hb dX2_bestChoice_16 hl (by decide) rfl (fun ls hl => ?_)
  exact c18 _ _ _ _ _ _ _ _ _ _ _ H locs ls hH (lv_sub hl [4, 5, 6, 7, 8, 9, 3, 2, 1, 0] rfl) hw
abbrev rm_X2_leastWallThatHolds : Room := { frames := 5, cells := 0, slots := 0, locals := 145 }
set_option maxHeartbeats 4000000 in
set_option maxRecDepth 100000 in
theorem m_X2_leastWallThatHolds {l : Launch} {G : Gl} {B sz : Nat} {S : St} (v0 : Nat) (v1 : Nat) (v2 : Int32) (v3 : Int32) (v4 : Int32) (h : Hp) (Q : Int32 → Hp → Prop) (hw : w_X2_leastWallThatHolds S v0 v1 v2 v3 v4 h Q) : MI l G B sz S yX2_leastWallThatHolds cX2_leastWallThatHolds 8 .int rm_X2_leastWallThatHolds [.ref v0, .ref v1, .int v2, .int v3, .int v4] h Q := by
  refine met_of rfl rfl ?_
  intro p e s m args below meth c hMB H ls hH hl
  obtain ⟨hx, hb, hml, hown, hKK, hr, hlk⟩ := hMB
  replace hl : lv_has ls 8 [(0, .ref v0), (1, .ref v1), (2, .int v2), (3, .int v3), (4, .int v4)] := hl
  have c33 : ∀ (v0 : Nat) (v1 : Nat) (v2 : Int32) (v3 : Int32) (v4 : Int32) (P3 : Int32 → Hp → Prop) (_ : ∀ (v5 : Int32) (h : Hp) (H : Heap) (locs : List Loc) (ls : Array Slot), HH G B S h sz s H locs → lv_has ls 8 [(0, .ref v0), (1, .ref v1), (2, .int v2), (3, .int v3), (4, .int v4), (5, .int v5)] → P3 v5 h → W p l e rm_X2_leastWallThatHolds s m args below meth c H locs 0 0 (QI G B S sz below args s Q) (F0 m 3 ls [])) (v5 : Int32) (v6 : Int32) (v7 : Int32) (h : Hp) (H : Heap) (locs : List Loc) (ls : Array Slot), HH G B S h sz s H locs → lv_has ls 8 [(0, .ref v0), (1, .ref v1), (2, .int v2), (3, .int v3), (4, .int v4), (5, .int v5), (6, .int v6), (7, .int v7)] → w_X2_leastWallThatHolds_c33 S v0 v1 v2 v3 v4 v5 v6 v7 h Q P3 → W p l e rm_X2_leastWallThatHolds s m args below meth c H locs 0 0 (QI G B S sz below args s Q) (F0 m 33 ls []) := by
    intro v0 v1 v2 v3 v4 P3 hK3 v5 v6 v7 h H locs ls hH hl hw
    unfold w_X2_leastWallThatHolds_c33 at hw
    obtain ⟨P33, hP33⟩ : ∃ P : Int32 → Int32 → Hp → Prop, ∀ (v6 : Int32) (v7 : Int32) (h : Hp), P v6 v7 h ↔ (∀ (H : Heap) (locs : List Loc) (ls : Array Slot), HH G B S h sz s H locs → lv_has ls 8 [(0, .ref v0), (1, .ref v1), (2, .int v2), (3, .int v3), (4, .int v4), (5, .int v5), (6, .int v6), (7, .int v7)] → W p l e rm_X2_leastWallThatHolds s m args below meth c H locs 0 0 (QI G B S sz below args s Q) (F0 m 33 ls [])) := ⟨_, fun v6 v7 h => Iff.rfl⟩
    refine (hP33 v6 v7 h).1 (hw P33 (fun v6 v7 h hw => (hP33 v6 v7 h).2 (fun H locs ls hH hl => ?_))) H locs ls hH hl
    have hK33 : ∀ (v6 : Int32) (v7 : Int32) (h : Hp) (H : Heap) (locs : List Loc) (ls : Array Slot), HH G B S h sz s H locs → lv_has ls 8 [(0, .ref v0), (1, .ref v1), (2, .int v2), (3, .int v3), (4, .int v4), (5, .int v5), (6, .int v6), (7, .int v7)] → P33 v6 v7 h → W p l e rm_X2_leastWallThatHolds s m args below meth c H locs 0 0 (QI G B S sz below args s Q) (F0 m 33 ls []) := fun v6 v7 h H locs ls hH hl hk => (hP33 v6 v7 h).1 hk H locs ls hH hl
    refine lv_iload hx hb dX2_leastWallThatHolds_33 (lv_at hl 7 rfl) ?_
    refine lv_iload hx hb dX2_leastWallThatHolds_35 (lv_at hl 4 rfl) ?_
    refine lv_icmp_ge (tgt := 82) hx hb dX2_leastWallThatHolds_37 (by decide) (fun c1 => ?_) (fun c1 => ?_)
    · have hw := ite_t hw c1
      refine lv_iload hx hb dX2_leastWallThatHolds_82 (lv_at hl 6 rfl) ?_
      refine lv_if_eq (tgt := 90) hx hb dX2_leastWallThatHolds_84 (by decide) (fun c2 => ?_) (fun c2 => ?_)
      · have hw := ite_t hw c2
        refine lv_iinc (v := v5 + (nI 1)) (lv' := [(5, .int (v5 + (nI 1))), (0, .ref v0), (1, .ref v1), (2, .int v2), (3, .int v3), (4, .int v4), (6, .int v6), (7, .int v7)]) hx hb dX2_leastWallThatHolds_90 hl (k := 5) rfl rfl (by decide) rfl (fun ls hl => ?_)
        refine lv_goto (tgt := 3) hx hb dX2_leastWallThatHolds_93 (by decide) ?_
        exact hK3 _ _ H locs ls hH (lv_sub hl [1, 2, 3, 4, 5, 0] rfl) hw
      · have hw := ite_f hw c2
        refine lv_iload hx hb dX2_leastWallThatHolds_87 (lv_at hl 5 rfl) ?_
        exact hv_iret hx hb hr hlk hH hw dX2_leastWallThatHolds_89
    · have hw := ite_f hw c1
      refine lv_iload hx hb dX2_leastWallThatHolds_40 (lv_at hl 6 rfl) ?_
      refine lv_if_eq (tgt := 82) hx hb dX2_leastWallThatHolds_42 (by decide) (fun c3 => ?_) (fun c3 => ?_)
      · have hw := ite_t hw c3
        refine lv_iload hx hb dX2_leastWallThatHolds_82 (lv_at hl 6 rfl) ?_
        refine lv_if_eq (tgt := 90) hx hb dX2_leastWallThatHolds_84 (by decide) (fun _ => ?_) (fun c => absurd c3 c)
        refine lv_iinc (v := v5 + (nI 1)) (lv' := [(5, .int (v5 + (nI 1))), (0, .ref v0), (1, .ref v1), (2, .int v2), (3, .int v3), (4, .int v4), (6, .int v6), (7, .int v7)]) hx hb dX2_leastWallThatHolds_90 hl (k := 5) rfl rfl (by decide) rfl (fun ls hl => ?_)
        refine lv_goto (tgt := 3) hx hb dX2_leastWallThatHolds_93 (by decide) ?_
        exact hK3 _ _ H locs ls hH (lv_sub hl [1, 2, 3, 4, 5, 0] rfl) hw
      · have hw := ite_f hw c3
        refine lv_aload_n hx hb dX2_leastWallThatHolds_45 rfl (lv_at hl 0 rfl) ?_
        obtain ⟨k4, hw⟩ := hw
        refine hv_get (ci := 2) (k := 0) (v := .ref (S.2 v0 0)) hx hb hown hKK hH cf2 (by decide) fl_X2_12 rfl k4 rfl dX2_leastWallThatHolds_46 ?_
        refine lv_iconst (v := (nI 1)) hx hb dX2_leastWallThatHolds_49 (by decide) ?_
        obtain ⟨k5, hw⟩ := hw
        refine hv_cVV (rm := rm_X1_passNights) (As := [.int (nI 1)]) (rest := []) (k := 1) (ci := 1) hx hb hml hown hKK hH cf1 k5 (m_X1_passNights (S.2 v0 0) (nI 1) _ _ hw) cw_X2_33 ⟨Nat.le_of_ble_eq_true rfl, Nat.le_of_ble_eq_true rfl⟩ rfl hl.1 rfl (Nat.le_of_ble_eq_true rfl) ⟨Nat.le_of_ble_eq_true rfl, Nat.le_of_ble_eq_true rfl⟩ dX2_leastWallThatHolds_50 (fun h6 H locs hH hw => ?_)
        refine lv_aload_n hx hb dX2_leastWallThatHolds_53 rfl (lv_at hl 0 rfl) ?_
        refine hv_get (ci := 2) (k := 0) (v := .ref (S.2 v0 0)) hx hb hown hKK hH cf2 (by decide) fl_X2_12 rfl k4 rfl dX2_leastWallThatHolds_54 ?_
        refine hv_getN (ci := 1) (k := 3) (v := .ref (S.2 (S.2 v0 0) 3)) hx hb hown hKK hH cf1 (by decide) fl_X2_37 rfl k5 rfl dX2_leastWallThatHolds_57 ?_
        refine lv_iload_n hx hb dX2_leastWallThatHolds_60 rfl (lv_at hl 2 rfl) ?_
        obtain ⟨k7, hw⟩ := hw
        refine hv_aald (t := 1) hx hb (by decide) hKK hH k7 dX2_leastWallThatHolds_61 ?_
        obtain ⟨k8, hw⟩ := hw
        refine hv_getN (ci := 0) (k := 4) (v := .int (h6 (S.2 (S.2 (S.2 v0 0) 3) (ix v2)) 4)) hx hb hown hKK hH cf0 (by decide) fl_X2_41 rfl k8 rfl dX2_leastWallThatHolds_62 ?_
        refine lv_iload_n hx hb dX2_leastWallThatHolds_65 rfl (lv_at hl 3 rfl) ?_
        refine lv_icmp_eq (tgt := 73) hx hb dX2_leastWallThatHolds_66 (by decide) (fun c9 => ?_) (fun c9 => ?_)
        · have hw := ite_t hw c9
          refine lv_iconst (v := (nI 0)) hx hb dX2_leastWallThatHolds_73 (by decide) ?_
          refine lv_istore (lv' := [(6, .int (nI 0)), (0, .ref v0), (1, .ref v1), (2, .int v2), (3, .int v3), (4, .int v4), (5, .int v5), (7, .int v7)]) hx hb dX2_leastWallThatHolds_74 hl (by decide) rfl (fun ls hl => ?_)
          refine lv_iinc (v := v7 + (nI 1)) (lv' := [(7, .int (v7 + (nI 1))), (6, .int (nI 0)), (0, .ref v0), (1, .ref v1), (2, .int v2), (3, .int v3), (4, .int v4), (5, .int v5)]) hx hb dX2_leastWallThatHolds_76 hl (k := 7) rfl rfl (by decide) rfl (fun ls hl => ?_)
          refine lv_goto (tgt := 33) hx hb dX2_leastWallThatHolds_79 (by decide) ?_
          exact hK33 _ _ _ H locs ls hH (lv_sub hl [2, 3, 4, 5, 6, 7, 1, 0] rfl) hw
        · have hw := ite_f hw c9
          refine lv_iconst (v := (nI 1)) hx hb dX2_leastWallThatHolds_69 (by decide) ?_
          refine lv_goto (tgt := 74) hx hb dX2_leastWallThatHolds_70 (by decide) ?_
          refine lv_istore (lv' := [(6, .int (nI 1)), (0, .ref v0), (1, .ref v1), (2, .int v2), (3, .int v3), (4, .int v4), (5, .int v5), (7, .int v7)]) hx hb dX2_leastWallThatHolds_74 hl (by decide) rfl (fun ls hl => ?_)
          refine lv_iinc (v := v7 + (nI 1)) (lv' := [(7, .int (v7 + (nI 1))), (6, .int (nI 1)), (0, .ref v0), (1, .ref v1), (2, .int v2), (3, .int v3), (4, .int v4), (5, .int v5)]) hx hb dX2_leastWallThatHolds_76 hl (k := 7) rfl rfl (by decide) rfl (fun ls hl => ?_)
          refine lv_goto (tgt := 33) hx hb dX2_leastWallThatHolds_79 (by decide) ?_
          exact hK33 _ _ _ H locs ls hH (lv_sub hl [2, 3, 4, 5, 6, 7, 1, 0] rfl) hw
  have c3 : ∀  (v0 : Nat) (v1 : Nat) (v2 : Int32) (v3 : Int32) (v4 : Int32) (v5 : Int32) (h : Hp) (H : Heap) (locs : List Loc) (ls : Array Slot), HH G B S h sz s H locs → lv_has ls 8 [(0, .ref v0), (1, .ref v1), (2, .int v2), (3, .int v3), (4, .int v4), (5, .int v5)] → w_X2_leastWallThatHolds_c3 S v0 v1 v2 v3 v4 v5 h Q → W p l e rm_X2_leastWallThatHolds s m args below meth c H locs 0 0 (QI G B S sz below args s Q) (F0 m 3 ls []) := by
    intro  v0 v1 v2 v3 v4 v5 h H locs ls hH hl hw
    unfold w_X2_leastWallThatHolds_c3 at hw
    obtain ⟨P3, hP3⟩ : ∃ P : Int32 → Hp → Prop, ∀ (v5 : Int32) (h : Hp), P v5 h ↔ (∀ (H : Heap) (locs : List Loc) (ls : Array Slot), HH G B S h sz s H locs → lv_has ls 8 [(0, .ref v0), (1, .ref v1), (2, .int v2), (3, .int v3), (4, .int v4), (5, .int v5)] → W p l e rm_X2_leastWallThatHolds s m args below meth c H locs 0 0 (QI G B S sz below args s Q) (F0 m 3 ls [])) := ⟨_, fun v5 h => Iff.rfl⟩
    refine (hP3 v5 h).1 (hw P3 (fun v5 h hw => (hP3 v5 h).2 (fun H locs ls hH hl => ?_))) H locs ls hH hl
    have hK3 : ∀ (v5 : Int32) (h : Hp) (H : Heap) (locs : List Loc) (ls : Array Slot), HH G B S h sz s H locs → lv_has ls 8 [(0, .ref v0), (1, .ref v1), (2, .int v2), (3, .int v3), (4, .int v4), (5, .int v5)] → P3 v5 h → W p l e rm_X2_leastWallThatHolds s m args below meth c H locs 0 0 (QI G B S sz below args s Q) (F0 m 3 ls []) := fun v5 h H locs ls hH hl hk => (hP3 v5 h).1 hk H locs ls hH hl
    refine lv_iload hx hb dX2_leastWallThatHolds_3 (lv_at hl 5 rfl) ?_
    refine lv_bipush (v := (nI 9)) hx hb dX2_leastWallThatHolds_5 (by decide) ?_
    refine lv_icmp_gt (tgt := 96) hx hb dX2_leastWallThatHolds_7 (by decide) (fun c1 => ?_) (fun c1 => ?_)
    · have hw := ite_t hw c1
      refine lv_bipush (v := (-9)) hx hb dX2_leastWallThatHolds_96 (by decide) ?_
      exact hv_iret hx hb hr hlk hH hw dX2_leastWallThatHolds_98
    · have hw := ite_f hw c1
      refine lv_aload_n hx hb dX2_leastWallThatHolds_10 rfl (lv_at hl 0 rfl) ?_
      refine lv_aload_n hx hb dX2_leastWallThatHolds_11 rfl (lv_at hl 1 rfl) ?_
      obtain ⟨k2, hw⟩ := hw
      refine hv_cVA (rm := rm_X2_think) (As := [.ref v1]) (rest := []) (k := 1) (ci := 2) hx hb hml hown hKK hH cf2 k2 (m_X2_think v0 v1 _ _ hw) cw_X2_29 ⟨Nat.le_of_ble_eq_true rfl, Nat.le_of_ble_eq_true rfl⟩ rfl hl.1 rfl (Nat.le_of_ble_eq_true rfl) ⟨Nat.le_of_ble_eq_true rfl, Nat.le_of_ble_eq_true rfl⟩ dX2_leastWallThatHolds_12 (fun r4 h3 H locs hH hw => ?_)
      refine lv_pop hx hb dX2_leastWallThatHolds_15 rfl ?_
      refine lv_aload_n hx hb dX2_leastWallThatHolds_16 rfl (lv_at hl 0 rfl) ?_
      refine hv_get (ci := 2) (k := 0) (v := .ref (S.2 v0 0)) hx hb hown hKK hH cf2 (by decide) fl_X2_12 rfl k2 rfl dX2_leastWallThatHolds_17 ?_
      obtain ⟨k5, hw⟩ := hw
      refine hv_getN (ci := 1) (k := 0) (v := .ref (S.2 (S.2 v0 0) 0)) hx hb hown hKK hH cf1 (by decide) fl_X2_83 rfl k5 rfl dX2_leastWallThatHolds_20 ?_
      refine lv_iload_n hx hb dX2_leastWallThatHolds_23 rfl (lv_at hl 3 rfl) ?_
      refine lv_iload hx hb dX2_leastWallThatHolds_24 (lv_at hl 5 rfl) ?_
      obtain ⟨k6, hw⟩ := hw
      refine hv_iast hx hb hKK hH k6 dX2_leastWallThatHolds_26 (fun H locs hH => ?_)
      refine lv_iconst (v := (nI 1)) hx hb dX2_leastWallThatHolds_27 (by decide) ?_
      refine lv_istore (lv' := [(6, .int (nI 1)), (0, .ref v0), (1, .ref v1), (2, .int v2), (3, .int v3), (4, .int v4), (5, .int v5)]) hx hb dX2_leastWallThatHolds_28 hl (by decide) rfl (fun ls hl => ?_)
      refine lv_iconst (v := (nI 0)) hx hb dX2_leastWallThatHolds_30 (by decide) ?_
      refine lv_istore (lv' := [(7, .int (nI 0)), (6, .int (nI 1)), (0, .ref v0), (1, .ref v1), (2, .int v2), (3, .int v3), (4, .int v4), (5, .int v5)]) hx hb dX2_leastWallThatHolds_31 hl (by decide) rfl (fun ls hl => ?_)
      exact c33 _ _ _ _ _ _ hK3 _ _ _ _ H locs ls hH (lv_sub hl [2, 3, 4, 5, 6, 7, 1, 0] rfl) hw
  unfold w_X2_leastWallThatHolds at hw
  show W p l e rm_X2_leastWallThatHolds s m args below meth c H [] 0 0 (QI G B S sz below args s Q) (F0 m 0 ls [])
  generalize ([] : List Loc) = locs at hH ⊢
  refine lv_iconst (v := (nI 0)) hx hb dX2_leastWallThatHolds_0 (by decide) ?_
  refine lv_istore (lv' := [(5, .int (nI 0)), (0, .ref v0), (1, .ref v1), (2, .int v2), (3, .int v3), (4, .int v4)]) hx hb dX2_leastWallThatHolds_1 hl (by decide) rfl (fun ls hl => ?_)
  exact c3 _ _ _ _ _ _ _ H locs ls hH (lv_sub hl [1, 2, 3, 4, 5, 0] rfl) hw
abbrev rm_X2_fieldToWall : Room := { frames := 5, cells := 0, slots := 0, locals := 145 }
set_option maxHeartbeats 4000000 in
set_option maxRecDepth 100000 in
theorem m_X2_fieldToWall {l : Launch} {G : Gl} {B sz : Nat} {S : St} (v0 : Nat) (v1 : Nat) (v2 : Int32) (v3 : Int32) (v4 : Int32) (h : Hp) (Q : Int32 → Hp → Prop) (hw : w_X2_fieldToWall S v0 v1 v2 v3 v4 h Q) : MI l G B sz S yX2_fieldToWall cX2_fieldToWall 6 .int rm_X2_fieldToWall [.ref v0, .ref v1, .int v2, .int v3, .int v4] h Q := by
  refine met_of rfl rfl ?_
  intro p e s m args below meth c hMB H ls hH hl
  obtain ⟨hx, hb, hml, hown, hKK, hr, hlk⟩ := hMB
  replace hl : lv_has ls 6 [(0, .ref v0), (1, .ref v1), (2, .int v2), (3, .int v3), (4, .int v4)] := hl
  have c3 : ∀  (v0 : Nat) (v1 : Nat) (v2 : Int32) (v3 : Int32) (v4 : Int32) (v5 : Int32) (h : Hp) (H : Heap) (locs : List Loc) (ls : Array Slot), HH G B S h sz s H locs → lv_has ls 6 [(0, .ref v0), (1, .ref v1), (2, .int v2), (3, .int v3), (4, .int v4), (5, .int v5)] → w_X2_fieldToWall_c3 S v0 v1 v2 v3 v4 v5 h Q → W p l e rm_X2_fieldToWall s m args below meth c H locs 0 0 (QI G B S sz below args s Q) (F0 m 3 ls []) := by
    intro  v0 v1 v2 v3 v4 v5 h H locs ls hH hl hw
    unfold w_X2_fieldToWall_c3 at hw
    obtain ⟨P3, hP3⟩ : ∃ P : Int32 → Hp → Prop, ∀ (v5 : Int32) (h : Hp), P v5 h ↔ (∀ (H : Heap) (locs : List Loc) (ls : Array Slot), HH G B S h sz s H locs → lv_has ls 6 [(0, .ref v0), (1, .ref v1), (2, .int v2), (3, .int v3), (4, .int v4), (5, .int v5)] → W p l e rm_X2_fieldToWall s m args below meth c H locs 0 0 (QI G B S sz below args s Q) (F0 m 3 ls [])) := ⟨_, fun v5 h => Iff.rfl⟩
    refine (hP3 v5 h).1 (hw P3 (fun v5 h hw => (hP3 v5 h).2 (fun H locs ls hH hl => ?_))) H locs ls hH hl
    have hK3 : ∀ (v5 : Int32) (h : Hp) (H : Heap) (locs : List Loc) (ls : Array Slot), HH G B S h sz s H locs → lv_has ls 6 [(0, .ref v0), (1, .ref v1), (2, .int v2), (3, .int v3), (4, .int v4), (5, .int v5)] → P3 v5 h → W p l e rm_X2_fieldToWall s m args below meth c H locs 0 0 (QI G B S sz below args s Q) (F0 m 3 ls []) := fun v5 h H locs ls hH hl hk => (hP3 v5 h).1 hk H locs ls hH hl
    refine lv_iload hx hb dX2_fieldToWall_3 (lv_at hl 5 rfl) ?_
    refine lv_bipush (v := (nI 48)) hx hb dX2_fieldToWall_5 (by decide) ?_
    refine lv_icmp_ge (tgt := 62) hx hb dX2_fieldToWall_7 (by decide) (fun c1 => ?_) (fun c1 => ?_)
    · have hw := ite_t hw c1
      refine lv_bipush (v := (-9)) hx hb dX2_fieldToWall_62 (by decide) ?_
      exact hv_iret hx hb hr hlk hH hw dX2_fieldToWall_64
    · have hw := ite_f hw c1
      refine lv_aload_n hx hb dX2_fieldToWall_10 rfl (lv_at hl 0 rfl) ?_
      refine lv_aload_n hx hb dX2_fieldToWall_11 rfl (lv_at hl 1 rfl) ?_
      obtain ⟨k2, hw⟩ := hw
      refine hv_cVA (rm := rm_X2_think) (As := [.ref v1]) (rest := []) (k := 1) (ci := 2) hx hb hml hown hKK hH cf2 k2 (m_X2_think v0 v1 _ _ hw) cw_X2_29 ⟨Nat.le_of_ble_eq_true rfl, Nat.le_of_ble_eq_true rfl⟩ rfl hl.1 rfl (Nat.le_of_ble_eq_true rfl) ⟨Nat.le_of_ble_eq_true rfl, Nat.le_of_ble_eq_true rfl⟩ dX2_fieldToWall_12 (fun r4 h3 H locs hH hw => ?_)
      refine lv_pop hx hb dX2_fieldToWall_15 rfl ?_
      refine lv_aload_n hx hb dX2_fieldToWall_16 rfl (lv_at hl 0 rfl) ?_
      refine hv_get (ci := 2) (k := 0) (v := .ref (S.2 v0 0)) hx hb hown hKK hH cf2 (by decide) fl_X2_12 rfl k2 rfl dX2_fieldToWall_17 ?_
      obtain ⟨k5, hw⟩ := hw
      refine hv_getN (ci := 1) (k := 0) (v := .ref (S.2 (S.2 v0 0) 0)) hx hb hown hKK hH cf1 (by decide) fl_X2_83 rfl k5 rfl dX2_fieldToWall_20 ?_
      refine lv_iload hx hb dX2_fieldToWall_23 (lv_at hl 5 rfl) ?_
      refine lv_bipush (v := (nI 9)) hx hb dX2_fieldToWall_25 (by decide) ?_
      obtain ⟨k6, hw⟩ := hw
      refine hv_iast hx hb hKK hH k6 dX2_fieldToWall_27 (fun H locs hH => ?_)
      refine lv_aload_n hx hb dX2_fieldToWall_28 rfl (lv_at hl 0 rfl) ?_
      refine hv_get (ci := 2) (k := 0) (v := .ref (S.2 v0 0)) hx hb hown hKK hH cf2 (by decide) fl_X2_12 rfl k2 rfl dX2_fieldToWall_29 ?_
      refine lv_iload hx hb dX2_fieldToWall_32 (lv_at hl 4 rfl) ?_
      refine hv_cVV (rm := rm_X1_passNights) (As := [.int v4]) (rest := []) (k := 1) (ci := 1) hx hb hml hown hKK hH cf1 k5 (m_X1_passNights (S.2 v0 0) v4 _ _ hw) cw_X2_33 ⟨Nat.le_of_ble_eq_true rfl, Nat.le_of_ble_eq_true rfl⟩ rfl hl.1 rfl (Nat.le_of_ble_eq_true rfl) ⟨Nat.le_of_ble_eq_true rfl, Nat.le_of_ble_eq_true rfl⟩ dX2_fieldToWall_34 (fun h7 H locs hH hw => ?_)
      refine lv_aload_n hx hb dX2_fieldToWall_37 rfl (lv_at hl 0 rfl) ?_
      refine hv_get (ci := 2) (k := 0) (v := .ref (S.2 v0 0)) hx hb hown hKK hH cf2 (by decide) fl_X2_12 rfl k2 rfl dX2_fieldToWall_38 ?_
      refine hv_getN (ci := 1) (k := 3) (v := .ref (S.2 (S.2 v0 0) 3)) hx hb hown hKK hH cf1 (by decide) fl_X2_37 rfl k5 rfl dX2_fieldToWall_41 ?_
      refine lv_iload_n hx hb dX2_fieldToWall_44 rfl (lv_at hl 2 rfl) ?_
      obtain ⟨k8, hw⟩ := hw
      refine hv_aald (t := 1) hx hb (by decide) hKK hH k8 dX2_fieldToWall_45 ?_
      obtain ⟨k9, hw⟩ := hw
      refine hv_getN (ci := 0) (k := 4) (v := .int (h7 (S.2 (S.2 (S.2 v0 0) 3) (ix v2)) 4)) hx hb hown hKK hH cf0 (by decide) fl_X2_41 rfl k9 rfl dX2_fieldToWall_46 ?_
      refine lv_iload_n hx hb dX2_fieldToWall_49 rfl (lv_at hl 3 rfl) ?_
      refine lv_icmp_ne (tgt := 56) hx hb dX2_fieldToWall_50 (by decide) (fun c10 => ?_) (fun c10 => ?_)
      · have hw := ite_f hw c10
        refine lv_iinc (v := v5 + (nI 1)) (lv' := [(5, .int (v5 + (nI 1))), (0, .ref v0), (1, .ref v1), (2, .int v2), (3, .int v3), (4, .int v4)]) hx hb dX2_fieldToWall_56 hl (k := 5) rfl rfl (by decide) rfl (fun ls hl => ?_)
        refine lv_goto (tgt := 3) hx hb dX2_fieldToWall_59 (by decide) ?_
        exact hK3 _ _ H locs ls hH (lv_sub hl [1, 2, 3, 4, 5, 0] rfl) hw
      · have hw := ite_t hw c10
        refine lv_iload hx hb dX2_fieldToWall_53 (lv_at hl 5 rfl) ?_
        exact hv_iret hx hb hr hlk hH hw dX2_fieldToWall_55
  unfold w_X2_fieldToWall at hw
  show W p l e rm_X2_fieldToWall s m args below meth c H [] 0 0 (QI G B S sz below args s Q) (F0 m 0 ls [])
  generalize ([] : List Loc) = locs at hH ⊢
  refine lv_iconst (v := (nI 0)) hx hb dX2_fieldToWall_0 (by decide) ?_
  refine lv_istore (lv' := [(5, .int (nI 0)), (0, .ref v0), (1, .ref v1), (2, .int v2), (3, .int v3), (4, .int v4)]) hx hb dX2_fieldToWall_1 hl (by decide) rfl (fun ls hl => ?_)
  exact c3 _ _ _ _ _ _ _ H locs ls hH (lv_sub hl [1, 2, 3, 4, 5, 0] rfl) hw
abbrev rm_X2_namesToChange : Room := { frames := 6, cells := 0, slots := 0, locals := 167 }
set_option maxHeartbeats 4000000 in
set_option maxRecDepth 100000 in
theorem m_X2_namesToChange {l : Launch} {G : Gl} {B sz : Nat} {S : St} (v0 : Nat) (v1 : Nat) (v2 : Int32) (h : Hp) (Q : Int32 → Hp → Prop) (hw : w_X2_namesToChange S v0 v1 v2 h Q) : MI l G B sz S yX2_namesToChange cX2_namesToChange 7 .int rm_X2_namesToChange [.ref v0, .ref v1, .int v2] h Q := by
  refine met_of rfl rfl ?_
  intro p e s m args below meth c hMB H ls hH hl
  obtain ⟨hx, hb, hml, hown, hKK, hr, hlk⟩ := hMB
  replace hl : lv_has ls 7 [(0, .ref v0), (1, .ref v1), (2, .int v2)] := hl
  have c32 : ∀ (v0 : Nat) (v1 : Nat) (v2 : Int32) (P17 : Int32 → Int32 → Int32 → Hp → Prop) (_ : ∀ (v3 : Int32) (v4 : Int32) (v5 : Int32) (h : Hp) (H : Heap) (locs : List Loc) (ls : Array Slot), HH G B S h sz s H locs → lv_has ls 7 [(0, .ref v0), (1, .ref v1), (2, .int v2), (3, .int v3), (4, .int v4), (5, .int v5)] → P17 v3 v4 v5 h → W p l e rm_X2_namesToChange s m args below meth c H locs 0 0 (QI G B S sz below args s Q) (F0 m 17 ls [])) (v5 : Int32) (v3 : Int32) (v4 : Int32) (v6 : Int32) (h : Hp) (H : Heap) (locs : List Loc) (ls : Array Slot), HH G B S h sz s H locs → lv_has ls 7 [(0, .ref v0), (1, .ref v1), (2, .int v2), (3, .int v3), (4, .int v4), (5, .int v5), (6, .int v6)] → w_X2_namesToChange_c32 S v0 v1 v2 v5 v3 v4 v6 h Q P17 → W p l e rm_X2_namesToChange s m args below meth c H locs 0 0 (QI G B S sz below args s Q) (F0 m 32 ls []) := by
    intro v0 v1 v2 P17 hK17 v5 v3 v4 v6 h H locs ls hH hl hw
    unfold w_X2_namesToChange_c32 at hw
    obtain ⟨P32, hP32⟩ : ∃ P : Int32 → Int32 → Int32 → Hp → Prop, ∀ (v3 : Int32) (v4 : Int32) (v6 : Int32) (h : Hp), P v3 v4 v6 h ↔ (∀ (H : Heap) (locs : List Loc) (ls : Array Slot), HH G B S h sz s H locs → lv_has ls 7 [(0, .ref v0), (1, .ref v1), (2, .int v2), (3, .int v3), (4, .int v4), (5, .int v5), (6, .int v6)] → W p l e rm_X2_namesToChange s m args below meth c H locs 0 0 (QI G B S sz below args s Q) (F0 m 32 ls [])) := ⟨_, fun v3 v4 v6 h => Iff.rfl⟩
    refine (hP32 v3 v4 v6 h).1 (hw P32 (fun v3 v4 v6 h hw => (hP32 v3 v4 v6 h).2 (fun H locs ls hH hl => ?_))) H locs ls hH hl
    have hK32 : ∀ (v3 : Int32) (v4 : Int32) (v6 : Int32) (h : Hp) (H : Heap) (locs : List Loc) (ls : Array Slot), HH G B S h sz s H locs → lv_has ls 7 [(0, .ref v0), (1, .ref v1), (2, .int v2), (3, .int v3), (4, .int v4), (5, .int v5), (6, .int v6)] → P32 v3 v4 v6 h → W p l e rm_X2_namesToChange s m args below meth c H locs 0 0 (QI G B S sz below args s Q) (F0 m 32 ls []) := fun v3 v4 v6 h H locs ls hH hl hk => (hP32 v3 v4 v6 h).1 hk H locs ls hH hl
    refine lv_iload hx hb dX2_namesToChange_32 (lv_at hl 6 rfl) ?_
    refine lv_aload_n hx hb dX2_namesToChange_34 rfl (lv_at hl 1 rfl) ?_
    obtain ⟨k1, hw⟩ := hw
    refine hv_getN (ci := 1) (k := 4) (v := .int (h v1 4)) hx hb hown hKK hH cf1 (by decide) fl_X2_93 rfl k1 rfl dX2_namesToChange_35 ?_
    refine lv_icmp_ge (tgt := 131) hx hb dX2_namesToChange_38 (by decide) (fun c2 => ?_) (fun c2 => ?_)
    · have hw := ite_t hw c2
      refine lv_iinc (v := v5 + (nI 1)) (lv' := [(5, .int (v5 + (nI 1))), (0, .ref v0), (1, .ref v1), (2, .int v2), (3, .int v3), (4, .int v4), (6, .int v6)]) hx hb dX2_namesToChange_131 hl (k := 5) rfl rfl (by decide) rfl (fun ls hl => ?_)
      refine lv_goto (tgt := 17) hx hb dX2_namesToChange_134 (by decide) ?_
      exact hK17 _ _ _ _ H locs ls hH (lv_sub hl [1, 2, 3, 4, 5, 0] rfl) hw
    · have hw := ite_f hw c2
      refine lv_aload_n hx hb dX2_namesToChange_41 rfl (lv_at hl 0 rfl) ?_
      refine lv_aload_n hx hb dX2_namesToChange_42 rfl (lv_at hl 1 rfl) ?_
      obtain ⟨k3, hw⟩ := hw
      refine hv_cVA (rm := rm_X2_think) (As := [.ref v1]) (rest := []) (k := 1) (ci := 2) hx hb hml hown hKK hH cf2 k3 (m_X2_think v0 v1 _ _ hw) cw_X2_29 ⟨Nat.le_of_ble_eq_true rfl, Nat.le_of_ble_eq_true rfl⟩ rfl hl.1 rfl (Nat.le_of_ble_eq_true rfl) ⟨Nat.le_of_ble_eq_true rfl, Nat.le_of_ble_eq_true rfl⟩ dX2_namesToChange_43 (fun r5 h4 H locs hH hw => ?_)
      refine lv_pop hx hb dX2_namesToChange_46 rfl ?_
      refine lv_aload_n hx hb dX2_namesToChange_47 rfl (lv_at hl 0 rfl) ?_
      refine hv_get (ci := 2) (k := 0) (v := .ref (S.2 v0 0)) hx hb hown hKK hH cf2 (by decide) fl_X2_12 rfl k3 rfl dX2_namesToChange_48 ?_
      obtain ⟨k6, hw⟩ := hw
      refine hv_getN (ci := 1) (k := 3) (v := .ref (S.2 (S.2 v0 0) 3)) hx hb hown hKK hH cf1 (by decide) fl_X2_37 rfl k6 rfl dX2_namesToChange_51 ?_
      refine lv_iload hx hb dX2_namesToChange_54 (lv_at hl 5 rfl) ?_
      obtain ⟨k7, hw⟩ := hw
      refine hv_aald (t := 1) hx hb (by decide) hKK hH k7 dX2_namesToChange_56 ?_
      refine lv_aload_n hx hb dX2_namesToChange_57 rfl (lv_at hl 1 rfl) ?_
      refine hv_getN (ci := 1) (k := 3) (v := .ref (S.2 v1 3)) hx hb hown hKK hH cf1 (by decide) fl_X2_37 rfl k1 rfl dX2_namesToChange_58 ?_
      refine lv_iload hx hb dX2_namesToChange_61 (lv_at hl 6 rfl) ?_
      obtain ⟨k8, hw⟩ := hw
      refine hv_aald (t := 1) hx hb (by decide) hKK hH k8 dX2_namesToChange_63 ?_
      obtain ⟨k9, hw⟩ := hw
      refine hv_cVV (rm := rm_X0_copyName) (As := [.ref (S.2 (S.2 v1 3) (ix v6))]) (rest := []) (k := 1) (ci := 0) hx hb hml hown hKK hH cf0 k9 (m_X0_copyName (S.2 (S.2 (S.2 v0 0) 3) (ix v5)) (S.2 (S.2 v1 3) (ix v6)) _ _ hw) cw_X2_96 ⟨Nat.le_of_ble_eq_true rfl, Nat.le_of_ble_eq_true rfl⟩ rfl hl.1 rfl (Nat.le_of_ble_eq_true rfl) ⟨Nat.le_of_ble_eq_true rfl, Nat.le_of_ble_eq_true rfl⟩ dX2_namesToChange_64 (fun h10 H locs hH hw => ?_)
      refine lv_aload_n hx hb dX2_namesToChange_67 rfl (lv_at hl 0 rfl) ?_
      refine hv_get (ci := 2) (k := 0) (v := .ref (S.2 v0 0)) hx hb hown hKK hH cf2 (by decide) fl_X2_12 rfl k3 rfl dX2_namesToChange_68 ?_
      refine hv_getN (ci := 1) (k := 3) (v := .ref (S.2 (S.2 v0 0) 3)) hx hb hown hKK hH cf1 (by decide) fl_X2_37 rfl k6 rfl dX2_namesToChange_71 ?_
      refine lv_iload hx hb dX2_namesToChange_74 (lv_at hl 6 rfl) ?_
      obtain ⟨k11, hw⟩ := hw
      refine hv_aald (t := 1) hx hb (by decide) hKK hH k11 dX2_namesToChange_76 ?_
      refine lv_aload_n hx hb dX2_namesToChange_77 rfl (lv_at hl 1 rfl) ?_
      refine hv_getN (ci := 1) (k := 3) (v := .ref (S.2 v1 3)) hx hb hown hKK hH cf1 (by decide) fl_X2_37 rfl k1 rfl dX2_namesToChange_78 ?_
      refine lv_iload hx hb dX2_namesToChange_81 (lv_at hl 5 rfl) ?_
      obtain ⟨k12, hw⟩ := hw
      refine hv_aald (t := 1) hx hb (by decide) hKK hH k12 dX2_namesToChange_83 ?_
      obtain ⟨k13, hw⟩ := hw
      refine hv_cVV (rm := rm_X0_copyName) (As := [.ref (S.2 (S.2 v1 3) (ix v5))]) (rest := []) (k := 1) (ci := 0) hx hb hml hown hKK hH cf0 k13 (m_X0_copyName (S.2 (S.2 (S.2 v0 0) 3) (ix v6)) (S.2 (S.2 v1 3) (ix v5)) _ _ hw) cw_X2_96 ⟨Nat.le_of_ble_eq_true rfl, Nat.le_of_ble_eq_true rfl⟩ rfl hl.1 rfl (Nat.le_of_ble_eq_true rfl) ⟨Nat.le_of_ble_eq_true rfl, Nat.le_of_ble_eq_true rfl⟩ dX2_namesToChange_84 (fun h14 H locs hH hw => ?_)
      refine lv_aload_n hx hb dX2_namesToChange_87 rfl (lv_at hl 0 rfl) ?_
      refine hv_get (ci := 2) (k := 0) (v := .ref (S.2 v0 0)) hx hb hown hKK hH cf2 (by decide) fl_X2_12 rfl k3 rfl dX2_namesToChange_88 ?_
      refine lv_iload_n hx hb dX2_namesToChange_91 rfl (lv_at hl 2 rfl) ?_
      refine hv_cVV (rm := rm_X1_passNights) (As := [.int v2]) (rest := []) (k := 1) (ci := 1) hx hb hml hown hKK hH cf1 k6 (m_X1_passNights (S.2 v0 0) v2 _ _ hw) cw_X2_33 ⟨Nat.le_of_ble_eq_true rfl, Nat.le_of_ble_eq_true rfl⟩ rfl hl.1 rfl (Nat.le_of_ble_eq_true rfl) ⟨Nat.le_of_ble_eq_true rfl, Nat.le_of_ble_eq_true rfl⟩ dX2_namesToChange_92 (fun h15 H locs hH hw => ?_)
      refine lv_aload_n hx hb dX2_namesToChange_95 rfl (lv_at hl 0 rfl) ?_
      refine hv_get (ci := 2) (k := 0) (v := .ref (S.2 v0 0)) hx hb hown hKK hH cf2 (by decide) fl_X2_12 rfl k3 rfl dX2_namesToChange_96 ?_
      refine hv_cVI (rm := rm_X1_allFollowers) (As := []) (rest := []) (k := 0) (ci := 1) hx hb hml hown hKK hH cf1 k6 (m_X1_allFollowers (S.2 v0 0) _ _ hw) cw_X2_90 ⟨Nat.le_of_ble_eq_true rfl, Nat.le_of_ble_eq_true rfl⟩ rfl hl.1 rfl (Nat.le_of_ble_eq_true rfl) ⟨Nat.le_of_ble_eq_true rfl, Nat.le_of_ble_eq_true rfl⟩ dX2_namesToChange_99 (fun r17 h16 H locs hH hw => ?_)
      refine lv_iload hx hb dX2_namesToChange_102 (lv_at hl 4 rfl) ?_
      refine lv_icmp_le (tgt := 125) hx hb dX2_namesToChange_104 (by decide) (fun c18 => ?_) (fun c18 => ?_)
      · have hw := ite_t hw c18
        refine lv_iinc (v := v6 + (nI 1)) (lv' := [(6, .int (v6 + (nI 1))), (0, .ref v0), (1, .ref v1), (2, .int v2), (3, .int v3), (4, .int v4), (5, .int v5)]) hx hb dX2_namesToChange_125 hl (k := 6) rfl rfl (by decide) rfl (fun ls hl => ?_)
        refine lv_goto (tgt := 32) hx hb dX2_namesToChange_128 (by decide) ?_
        exact hK32 _ _ _ _ H locs ls hH (lv_sub hl [1, 2, 3, 4, 5, 6, 0] rfl) hw
      · have hw := ite_f hw c18
        refine lv_bipush (v := (nI 10)) hx hb dX2_namesToChange_107 (by decide) ?_
        refine lv_iload hx hb dX2_namesToChange_109 (lv_at hl 5 rfl) ?_
        refine lv_imul hx hb dX2_namesToChange_111 ?_
        refine lv_iload hx hb dX2_namesToChange_112 (lv_at hl 6 rfl) ?_
        refine lv_iadd hx hb dX2_namesToChange_114 ?_
        refine lv_istore_n (lv' := [(3, .int (((nI 10) * v5) + v6)), (0, .ref v0), (1, .ref v1), (2, .int v2), (4, .int v4), (5, .int v5), (6, .int v6)]) hx hb dX2_namesToChange_115 rfl hl (by decide) rfl (fun ls hl => ?_)
        refine lv_aload_n hx hb dX2_namesToChange_116 rfl (lv_at hl 1 rfl) ?_
        refine hv_get (ci := 2) (k := 0) (v := .ref (S.2 v0 0)) hx hb hown hKK hH cf2 (by decide) fl_X2_12 rfl k3 rfl dX2_namesToChange_117 ?_
        refine hv_cVI (rm := rm_X1_allFollowers) (As := []) (rest := []) (k := 0) (ci := 1) hx hb hml hown hKK hH cf1 k6 (m_X1_allFollowers (S.2 v0 0) _ _ hw) cw_X2_90 ⟨Nat.le_of_ble_eq_true rfl, Nat.le_of_ble_eq_true rfl⟩ rfl hl.1 rfl (Nat.le_of_ble_eq_true rfl) ⟨Nat.le_of_ble_eq_true rfl, Nat.le_of_ble_eq_true rfl⟩ dX2_namesToChange_120 (fun r20 h19 H locs hH hw => ?_)
        refine lv_istore (lv' := [(4, .int r20), (3, .int (((nI 10) * v5) + v6)), (0, .ref v0), (1, .ref v1), (2, .int v2), (5, .int v5), (6, .int v6)]) hx hb dX2_namesToChange_123 hl (by decide) rfl (fun ls hl => ?_)
        refine lv_iinc (v := v6 + (nI 1)) (lv' := [(6, .int (v6 + (nI 1))), (4, .int r20), (3, .int (((nI 10) * v5) + v6)), (0, .ref v0), (1, .ref v1), (2, .int v2), (5, .int v5)]) hx hb dX2_namesToChange_125 hl (k := 6) rfl rfl (by decide) rfl (fun ls hl => ?_)
        refine lv_goto (tgt := 32) hx hb dX2_namesToChange_128 (by decide) ?_
        exact hK32 _ _ _ _ H locs ls hH (lv_sub hl [3, 4, 5, 2, 1, 6, 0] rfl) hw
  have c17 : ∀  (v0 : Nat) (v1 : Nat) (v2 : Int32) (v3 : Int32) (v4 : Int32) (v5 : Int32) (h : Hp) (H : Heap) (locs : List Loc) (ls : Array Slot), HH G B S h sz s H locs → lv_has ls 7 [(0, .ref v0), (1, .ref v1), (2, .int v2), (3, .int v3), (4, .int v4), (5, .int v5)] → w_X2_namesToChange_c17 S v0 v1 v2 v3 v4 v5 h Q → W p l e rm_X2_namesToChange s m args below meth c H locs 0 0 (QI G B S sz below args s Q) (F0 m 17 ls []) := by
    intro  v0 v1 v2 v3 v4 v5 h H locs ls hH hl hw
    unfold w_X2_namesToChange_c17 at hw
    obtain ⟨P17, hP17⟩ : ∃ P : Int32 → Int32 → Int32 → Hp → Prop, ∀ (v3 : Int32) (v4 : Int32) (v5 : Int32) (h : Hp), P v3 v4 v5 h ↔ (∀ (H : Heap) (locs : List Loc) (ls : Array Slot), HH G B S h sz s H locs → lv_has ls 7 [(0, .ref v0), (1, .ref v1), (2, .int v2), (3, .int v3), (4, .int v4), (5, .int v5)] → W p l e rm_X2_namesToChange s m args below meth c H locs 0 0 (QI G B S sz below args s Q) (F0 m 17 ls [])) := ⟨_, fun v3 v4 v5 h => Iff.rfl⟩
    refine (hP17 v3 v4 v5 h).1 (hw P17 (fun v3 v4 v5 h hw => (hP17 v3 v4 v5 h).2 (fun H locs ls hH hl => ?_))) H locs ls hH hl
    have hK17 : ∀ (v3 : Int32) (v4 : Int32) (v5 : Int32) (h : Hp) (H : Heap) (locs : List Loc) (ls : Array Slot), HH G B S h sz s H locs → lv_has ls 7 [(0, .ref v0), (1, .ref v1), (2, .int v2), (3, .int v3), (4, .int v4), (5, .int v5)] → P17 v3 v4 v5 h → W p l e rm_X2_namesToChange s m args below meth c H locs 0 0 (QI G B S sz below args s Q) (F0 m 17 ls []) := fun v3 v4 v5 h H locs ls hH hl hk => (hP17 v3 v4 v5 h).1 hk H locs ls hH hl
    refine lv_iload hx hb dX2_namesToChange_17 (lv_at hl 5 rfl) ?_
    refine lv_aload_n hx hb dX2_namesToChange_19 rfl (lv_at hl 1 rfl) ?_
    obtain ⟨k1, hw⟩ := hw
    refine hv_getN (ci := 1) (k := 4) (v := .int (h v1 4)) hx hb hown hKK hH cf1 (by decide) fl_X2_93 rfl k1 rfl dX2_namesToChange_20 ?_
    refine lv_icmp_ge (tgt := 137) hx hb dX2_namesToChange_23 (by decide) (fun c2 => ?_) (fun c2 => ?_)
    · have hw := ite_t hw c2
      refine lv_iload_n hx hb dX2_namesToChange_137 rfl (lv_at hl 3 rfl) ?_
      exact hv_iret hx hb hr hlk hH hw dX2_namesToChange_138
    · have hw := ite_f hw c2
      refine lv_iload hx hb dX2_namesToChange_26 (lv_at hl 5 rfl) ?_
      refine lv_iconst (v := (nI 1)) hx hb dX2_namesToChange_28 (by decide) ?_
      refine lv_iadd hx hb dX2_namesToChange_29 ?_
      refine lv_istore (lv' := [(6, .int (v5 + (nI 1))), (0, .ref v0), (1, .ref v1), (2, .int v2), (3, .int v3), (4, .int v4), (5, .int v5)]) hx hb dX2_namesToChange_30 hl (by decide) rfl (fun ls hl => ?_)
      exact c32 _ _ _ _ hK17 _ _ _ _ _ H locs ls hH (lv_sub hl [1, 2, 3, 4, 5, 6, 0] rfl) hw
  unfold w_X2_namesToChange at hw
  show W p l e rm_X2_namesToChange s m args below meth c H [] 0 0 (QI G B S sz below args s Q) (F0 m 0 ls [])
  generalize ([] : List Loc) = locs at hH ⊢
  refine lv_bipush (v := (-9)) hx hb dX2_namesToChange_0 (by decide) ?_
  refine lv_istore_n (lv' := [(3, .int (-9)), (0, .ref v0), (1, .ref v1), (2, .int v2)]) hx hb dX2_namesToChange_2 rfl hl (by decide) rfl (fun ls hl => ?_)
  refine lv_aload_n hx hb dX2_namesToChange_3 rfl (lv_at hl 1 rfl) ?_
  refine lv_aload_n hx hb dX2_namesToChange_4 rfl (lv_at hl 2 rfl) ?_
  refine lv_iload_n hx hb dX2_namesToChange_5 rfl (lv_at hl 3 rfl) ?_
  obtain ⟨k1, hw⟩ := hw
  refine hv_cVA (rm := rm_X2_behindNights) (As := [.ref v1, .int v2]) (rest := []) (k := 2) (ci := 2) hx hb hml hown hKK hH cf2 k1 (m_X2_behindNights v0 v1 v2 _ _ hw) cw_X2_86 ⟨Nat.le_of_ble_eq_true rfl, Nat.le_of_ble_eq_true rfl⟩ rfl hl.1 rfl (Nat.le_of_ble_eq_true rfl) ⟨Nat.le_of_ble_eq_true rfl, Nat.le_of_ble_eq_true rfl⟩ dX2_namesToChange_6 (fun r3 h2 H locs hH hw => ?_)
  obtain ⟨k4, hw⟩ := hw
  refine hv_cVI (rm := rm_X1_allFollowers) (As := []) (rest := []) (k := 0) (ci := 1) hx hb hml hown hKK hH cf1 k4 (m_X1_allFollowers r3 _ _ hw) cw_X2_90 ⟨Nat.le_of_ble_eq_true rfl, Nat.le_of_ble_eq_true rfl⟩ rfl hl.1 rfl (Nat.le_of_ble_eq_true rfl) ⟨Nat.le_of_ble_eq_true rfl, Nat.le_of_ble_eq_true rfl⟩ dX2_namesToChange_9 (fun r6 h5 H locs hH hw => ?_)
  refine lv_istore (lv' := [(4, .int r6), (3, .int (-9)), (0, .ref v0), (1, .ref v1), (2, .int v2)]) hx hb dX2_namesToChange_12 hl (by decide) rfl (fun ls hl => ?_)
  refine lv_iconst (v := (nI 0)) hx hb dX2_namesToChange_14 (by decide) ?_
  refine lv_istore (lv' := [(5, .int (nI 0)), (4, .int r6), (3, .int (-9)), (0, .ref v0), (1, .ref v1), (2, .int v2)]) hx hb dX2_namesToChange_15 hl (by decide) rfl (fun ls hl => ?_)
  exact c17 _ _ _ _ _ _ _ H locs ls hH (lv_sub hl [3, 4, 5, 2, 1, 0] rfl) hw
abbrev rm_X2_goesThatWay : Room := { frames := 5, cells := 0, slots := 0, locals := 115 }
set_option maxHeartbeats 4000000 in
set_option maxRecDepth 100000 in
theorem m_X2_goesThatWay {l : Launch} {G : Gl} {B sz : Nat} {S : St} (v0 : Nat) (v1 : Int32) (v2 : Nat) (v3 : Int32) (h : Hp) (Q : Int32 → Hp → Prop) (hw : w_X2_goesThatWay S v0 v1 v2 v3 h Q) : MI l G B sz S yX2_goesThatWay cX2_goesThatWay 5 .boolean rm_X2_goesThatWay [.ref v0, .int v1, .ref v2, .int v3] h Q := by
  refine met_of rfl rfl ?_
  intro p e s m args below meth c hMB H ls hH hl
  obtain ⟨hx, hb, hml, hown, hKK, hr, hlk⟩ := hMB
  replace hl : lv_has ls 5 [(0, .ref v0), (1, .int v1), (2, .ref v2), (3, .int v3)] := hl
  have c3 : ∀  (v0 : Nat) (v1 : Int32) (v2 : Nat) (v3 : Int32) (v4 : Int32) (h : Hp) (H : Heap) (locs : List Loc) (ls : Array Slot), HH G B S h sz s H locs → lv_has ls 5 [(0, .ref v0), (1, .int v1), (2, .ref v2), (3, .int v3), (4, .int v4)] → w_X2_goesThatWay_c3 S v0 v1 v2 v3 v4 h Q → W p l e rm_X2_goesThatWay s m args below meth c H locs 0 0 (QI G B S sz below args s Q) (F0 m 3 ls []) := by
    intro  v0 v1 v2 v3 v4 h H locs ls hH hl hw
    unfold w_X2_goesThatWay_c3 at hw
    obtain ⟨P3, hP3⟩ : ∃ P : Int32 → Hp → Prop, ∀ (v4 : Int32) (h : Hp), P v4 h ↔ (∀ (H : Heap) (locs : List Loc) (ls : Array Slot), HH G B S h sz s H locs → lv_has ls 5 [(0, .ref v0), (1, .int v1), (2, .ref v2), (3, .int v3), (4, .int v4)] → W p l e rm_X2_goesThatWay s m args below meth c H locs 0 0 (QI G B S sz below args s Q) (F0 m 3 ls [])) := ⟨_, fun v4 h => Iff.rfl⟩
    refine (hP3 v4 h).1 (hw P3 (fun v4 h hw => (hP3 v4 h).2 (fun H locs ls hH hl => ?_))) H locs ls hH hl
    have hK3 : ∀ (v4 : Int32) (h : Hp) (H : Heap) (locs : List Loc) (ls : Array Slot), HH G B S h sz s H locs → lv_has ls 5 [(0, .ref v0), (1, .int v1), (2, .ref v2), (3, .int v3), (4, .int v4)] → P3 v4 h → W p l e rm_X2_goesThatWay s m args below meth c H locs 0 0 (QI G B S sz below args s Q) (F0 m 3 ls []) := fun v4 h H locs ls hH hl hk => (hP3 v4 h).1 hk H locs ls hH hl
    refine lv_iload hx hb dX2_goesThatWay_3 (lv_at hl 4 rfl) ?_
    refine lv_iload_n hx hb dX2_goesThatWay_5 rfl (lv_at hl 3 rfl) ?_
    refine lv_icmp_ge (tgt := 56) hx hb dX2_goesThatWay_6 (by decide) (fun c1 => ?_) (fun c1 => ?_)
    · have hw := ite_t hw c1
      refine lv_iconst (v := (nI 1)) hx hb dX2_goesThatWay_56 (by decide) ?_
      exact hv_zret hx hb hr hlk hH (Or.inr rfl) hw dX2_goesThatWay_57
    · have hw := ite_f hw c1
      refine lv_iload hx hb dX2_goesThatWay_9 (lv_at hl 4 rfl) ?_
      refine lv_aload_n hx hb dX2_goesThatWay_11 rfl (lv_at hl 2 rfl) ?_
      obtain ⟨n2, k3, hw⟩ := hw
      refine hv_alen hx hb hKK hH k3 dX2_goesThatWay_12 ?_
      refine lv_icmp_ge (tgt := 56) hx hb dX2_goesThatWay_13 (by decide) (fun c4 => ?_) (fun c4 => ?_)
      · have hw := ite_t hw c4
        refine lv_iconst (v := (nI 1)) hx hb dX2_goesThatWay_56 (by decide) ?_
        exact hv_zret hx hb hr hlk hH (Or.inr rfl) hw dX2_goesThatWay_57
      · have hw := ite_f hw c4
        refine lv_iload hx hb dX2_goesThatWay_16 (lv_at hl 4 rfl) ?_
        refine lv_if_le (tgt := 29) hx hb dX2_goesThatWay_18 (by decide) (fun c5 => ?_) (fun c5 => ?_)
        · have hw := ite_t hw c5
          refine lv_aload_n hx hb dX2_goesThatWay_29 rfl (lv_at hl 0 rfl) ?_
          obtain ⟨k6, hw⟩ := hw
          refine hv_get (ci := 2) (k := 0) (v := .ref (S.2 v0 0)) hx hb hown hKK hH cf2 (by decide) fl_X2_12 rfl k6 rfl dX2_goesThatWay_30 ?_
          obtain ⟨k7, hw⟩ := hw
          refine hv_getN (ci := 1) (k := 3) (v := .ref (S.2 (S.2 v0 0) 3)) hx hb hown hKK hH cf1 (by decide) fl_X2_37 rfl k7 rfl dX2_goesThatWay_33 ?_
          refine lv_iload_n hx hb dX2_goesThatWay_36 rfl (lv_at hl 1 rfl) ?_
          obtain ⟨k8, hw⟩ := hw
          refine hv_aald (t := 1) hx hb (by decide) hKK hH k8 dX2_goesThatWay_37 ?_
          obtain ⟨k9, hw⟩ := hw
          refine hv_getN (ci := 0) (k := 4) (v := .int (h (S.2 (S.2 (S.2 v0 0) 3) (ix v1)) 4)) hx hb hown hKK hH cf0 (by decide) fl_X2_41 rfl k9 rfl dX2_goesThatWay_38 ?_
          refine lv_aload_n hx hb dX2_goesThatWay_41 rfl (lv_at hl 2 rfl) ?_
          refine lv_iload hx hb dX2_goesThatWay_42 (lv_at hl 4 rfl) ?_
          obtain ⟨k10, hw⟩ := hw
          refine hv_iald hx hb hKK hH k10 dX2_goesThatWay_44 ?_
          refine lv_icmp_eq (tgt := 50) hx hb dX2_goesThatWay_45 (by decide) (fun c11 => ?_) (fun c11 => ?_)
          · have hw := ite_t hw c11
            refine lv_iinc (v := v4 + (nI 1)) (lv' := [(4, .int (v4 + (nI 1))), (0, .ref v0), (1, .int v1), (2, .ref v2), (3, .int v3)]) hx hb dX2_goesThatWay_50 hl (k := 4) rfl rfl (by decide) rfl (fun ls hl => ?_)
            refine lv_goto (tgt := 3) hx hb dX2_goesThatWay_53 (by decide) ?_
            exact hK3 _ _ H locs ls hH (lv_sub hl [1, 2, 3, 4, 0] rfl) hw
          · have hw := ite_f hw c11
            refine lv_iconst (v := (nI 0)) hx hb dX2_goesThatWay_48 (by decide) ?_
            exact hv_zret hx hb hr hlk hH (Or.inl rfl) hw dX2_goesThatWay_49
        · have hw := ite_f hw c5
          refine lv_aload_n hx hb dX2_goesThatWay_21 rfl (lv_at hl 0 rfl) ?_
          obtain ⟨k12, hw⟩ := hw
          refine hv_get (ci := 2) (k := 0) (v := .ref (S.2 v0 0)) hx hb hown hKK hH cf2 (by decide) fl_X2_12 rfl k12 rfl dX2_goesThatWay_22 ?_
          refine lv_iconst (v := (nI 1)) hx hb dX2_goesThatWay_25 (by decide) ?_
          obtain ⟨k13, hw⟩ := hw
          refine hv_cVV (rm := rm_X1_passNights) (As := [.int (nI 1)]) (rest := []) (k := 1) (ci := 1) hx hb hml hown hKK hH cf1 k13 (m_X1_passNights (S.2 v0 0) (nI 1) _ _ hw) cw_X2_33 ⟨Nat.le_of_ble_eq_true rfl, Nat.le_of_ble_eq_true rfl⟩ rfl hl.1 rfl (Nat.le_of_ble_eq_true rfl) ⟨Nat.le_of_ble_eq_true rfl, Nat.le_of_ble_eq_true rfl⟩ dX2_goesThatWay_26 (fun h14 H locs hH hw => ?_)
          refine lv_aload_n hx hb dX2_goesThatWay_29 rfl (lv_at hl 0 rfl) ?_
          refine hv_get (ci := 2) (k := 0) (v := .ref (S.2 v0 0)) hx hb hown hKK hH cf2 (by decide) fl_X2_12 rfl k12 rfl dX2_goesThatWay_30 ?_
          refine hv_getN (ci := 1) (k := 3) (v := .ref (S.2 (S.2 v0 0) 3)) hx hb hown hKK hH cf1 (by decide) fl_X2_37 rfl k13 rfl dX2_goesThatWay_33 ?_
          refine lv_iload_n hx hb dX2_goesThatWay_36 rfl (lv_at hl 1 rfl) ?_
          obtain ⟨k15, hw⟩ := hw
          refine hv_aald (t := 1) hx hb (by decide) hKK hH k15 dX2_goesThatWay_37 ?_
          obtain ⟨k16, hw⟩ := hw
          refine hv_getN (ci := 0) (k := 4) (v := .int (h14 (S.2 (S.2 (S.2 v0 0) 3) (ix v1)) 4)) hx hb hown hKK hH cf0 (by decide) fl_X2_41 rfl k16 rfl dX2_goesThatWay_38 ?_
          refine lv_aload_n hx hb dX2_goesThatWay_41 rfl (lv_at hl 2 rfl) ?_
          refine lv_iload hx hb dX2_goesThatWay_42 (lv_at hl 4 rfl) ?_
          obtain ⟨k17, hw⟩ := hw
          refine hv_iald hx hb hKK hH k17 dX2_goesThatWay_44 ?_
          refine lv_icmp_eq (tgt := 50) hx hb dX2_goesThatWay_45 (by decide) (fun c18 => ?_) (fun c18 => ?_)
          · have hw := ite_t hw c18
            refine lv_iinc (v := v4 + (nI 1)) (lv' := [(4, .int (v4 + (nI 1))), (0, .ref v0), (1, .int v1), (2, .ref v2), (3, .int v3)]) hx hb dX2_goesThatWay_50 hl (k := 4) rfl rfl (by decide) rfl (fun ls hl => ?_)
            refine lv_goto (tgt := 3) hx hb dX2_goesThatWay_53 (by decide) ?_
            exact hK3 _ _ H locs ls hH (lv_sub hl [1, 2, 3, 4, 0] rfl) hw
          · have hw := ite_f hw c18
            refine lv_iconst (v := (nI 0)) hx hb dX2_goesThatWay_48 (by decide) ?_
            exact hv_zret hx hb hr hlk hH (Or.inl rfl) hw dX2_goesThatWay_49
  unfold w_X2_goesThatWay at hw
  show W p l e rm_X2_goesThatWay s m args below meth c H [] 0 0 (QI G B S sz below args s Q) (F0 m 0 ls [])
  generalize ([] : List Loc) = locs at hH ⊢
  refine lv_iconst (v := (nI 0)) hx hb dX2_goesThatWay_0 (by decide) ?_
  refine lv_istore (lv' := [(4, .int (nI 0)), (0, .ref v0), (1, .int v1), (2, .ref v2), (3, .int v3)]) hx hb dX2_goesThatWay_1 hl (by decide) rfl (fun ls hl => ?_)
  exact c3 _ _ _ _ _ _ H locs ls hH (lv_sub hl [1, 2, 3, 4, 0] rfl) hw
abbrev rm_X2_choicesOfWay : Room := { frames := 6, cells := 0, slots := 0, locals := 145 }
set_option maxHeartbeats 4000000 in
set_option maxRecDepth 100000 in
theorem m_X2_choicesOfWay {l : Launch} {G : Gl} {B sz : Nat} {S : St} (v0 : Nat) (v1 : Nat) (v2 : Int32) (v3 : Int32) (v4 : Nat) (v5 : Int32) (h : Hp) (Q : Int32 → Hp → Prop) (hw : w_X2_choicesOfWay S v0 v1 v2 v3 v4 v5 h Q) : MI l G B sz S yX2_choicesOfWay cX2_choicesOfWay 9 .int rm_X2_choicesOfWay [.ref v0, .ref v1, .int v2, .int v3, .ref v4, .int v5] h Q := by
  refine met_of rfl rfl ?_
  intro p e s m args below meth c hMB H ls hH hl
  obtain ⟨hx, hb, hml, hown, hKK, hr, hlk⟩ := hMB
  replace hl : lv_has ls 9 [(0, .ref v0), (1, .ref v1), (2, .int v2), (3, .int v3), (4, .ref v4), (5, .int v5)] := hl
  have c12 : ∀  (v0 : Nat) (v1 : Nat) (v2 : Int32) (v3 : Int32) (v4 : Nat) (v5 : Int32) (v6 : Int32) (v7 : Int32) (v8 : Int32) (h : Hp) (H : Heap) (locs : List Loc) (ls : Array Slot), HH G B S h sz s H locs → lv_has ls 9 [(0, .ref v0), (1, .ref v1), (2, .int v2), (3, .int v3), (4, .ref v4), (5, .int v5), (6, .int v6), (7, .int v7), (8, .int v8)] → w_X2_choicesOfWay_c12 S v0 v1 v2 v3 v4 v5 v6 v7 v8 h Q → W p l e rm_X2_choicesOfWay s m args below meth c H locs 0 0 (QI G B S sz below args s Q) (F0 m 12 ls []) := by
    intro  v0 v1 v2 v3 v4 v5 v6 v7 v8 h H locs ls hH hl hw
    unfold w_X2_choicesOfWay_c12 at hw
    obtain ⟨P12, hP12⟩ : ∃ P : Int32 → Int32 → Hp → Prop, ∀ (v7 : Int32) (v8 : Int32) (h : Hp), P v7 v8 h ↔ (∀ (H : Heap) (locs : List Loc) (ls : Array Slot), HH G B S h sz s H locs → lv_has ls 9 [(0, .ref v0), (1, .ref v1), (2, .int v2), (3, .int v3), (4, .ref v4), (5, .int v5), (6, .int v6), (7, .int v7), (8, .int v8)] → W p l e rm_X2_choicesOfWay s m args below meth c H locs 0 0 (QI G B S sz below args s Q) (F0 m 12 ls [])) := ⟨_, fun v7 v8 h => Iff.rfl⟩
    refine (hP12 v7 v8 h).1 (hw P12 (fun v7 v8 h hw => (hP12 v7 v8 h).2 (fun H locs ls hH hl => ?_))) H locs ls hH hl
    have hK12 : ∀ (v7 : Int32) (v8 : Int32) (h : Hp) (H : Heap) (locs : List Loc) (ls : Array Slot), HH G B S h sz s H locs → lv_has ls 9 [(0, .ref v0), (1, .ref v1), (2, .int v2), (3, .int v3), (4, .ref v4), (5, .int v5), (6, .int v6), (7, .int v7), (8, .int v8)] → P12 v7 v8 h → W p l e rm_X2_choicesOfWay s m args below meth c H locs 0 0 (QI G B S sz below args s Q) (F0 m 12 ls []) := fun v7 v8 h H locs ls hH hl hk => (hP12 v7 v8 h).1 hk H locs ls hH hl
    refine lv_iload hx hb dX2_choicesOfWay_12 (lv_at hl 8 rfl) ?_
    refine lv_iload hx hb dX2_choicesOfWay_14 (lv_at hl 6 rfl) ?_
    refine lv_icmp_ge (tgt := 60) hx hb dX2_choicesOfWay_16 (by decide) (fun c1 => ?_) (fun c1 => ?_)
    · have hw := ite_t hw c1
      refine lv_iload hx hb dX2_choicesOfWay_60 (lv_at hl 7 rfl) ?_
      exact hv_iret hx hb hr hlk hH hw dX2_choicesOfWay_62
    · have hw := ite_f hw c1
      refine lv_aload_n hx hb dX2_choicesOfWay_19 rfl (lv_at hl 0 rfl) ?_
      refine lv_aload_n hx hb dX2_choicesOfWay_20 rfl (lv_at hl 1 rfl) ?_
      obtain ⟨k2, hw⟩ := hw
      refine hv_cVA (rm := rm_X2_think) (As := [.ref v1]) (rest := []) (k := 1) (ci := 2) hx hb hml hown hKK hH cf2 k2 (m_X2_think v0 v1 _ _ hw) cw_X2_29 ⟨Nat.le_of_ble_eq_true rfl, Nat.le_of_ble_eq_true rfl⟩ rfl hl.1 rfl (Nat.le_of_ble_eq_true rfl) ⟨Nat.le_of_ble_eq_true rfl, Nat.le_of_ble_eq_true rfl⟩ dX2_choicesOfWay_21 (fun r4 h3 H locs hH hw => ?_)
      refine lv_pop hx hb dX2_choicesOfWay_24 rfl ?_
      refine lv_aload_n hx hb dX2_choicesOfWay_25 rfl (lv_at hl 0 rfl) ?_
      refine lv_iload_n hx hb dX2_choicesOfWay_26 rfl (lv_at hl 2 rfl) ?_
      refine lv_iload_n hx hb dX2_choicesOfWay_27 rfl (lv_at hl 3 rfl) ?_
      refine lv_iload hx hb dX2_choicesOfWay_28 (lv_at hl 8 rfl) ?_
      refine hv_cVV (rm := rm_X2_choose) (As := [.int v2, .int v3, .int v8]) (rest := []) (k := 3) (ci := 2) hx hb hml hown hKK hH cf2 k2 (m_X2_choose v0 v2 v3 v8 _ _ hw) cw_X2_76 ⟨Nat.le_of_ble_eq_true rfl, Nat.le_of_ble_eq_true rfl⟩ rfl hl.1 rfl (Nat.le_of_ble_eq_true rfl) ⟨Nat.le_of_ble_eq_true rfl, Nat.le_of_ble_eq_true rfl⟩ dX2_choicesOfWay_30 (fun h5 H locs hH hw => ?_)
      refine lv_aload_n hx hb dX2_choicesOfWay_33 rfl (lv_at hl 0 rfl) ?_
      refine lv_iload_n hx hb dX2_choicesOfWay_34 rfl (lv_at hl 2 rfl) ?_
      refine lv_aload hx hb dX2_choicesOfWay_35 (lv_at hl 4 rfl) ?_
      refine lv_iload hx hb dX2_choicesOfWay_37 (lv_at hl 5 rfl) ?_
      refine hv_cVI (rm := rm_X2_goesThatWay) (As := [.int v2, .ref v4, .int v5]) (rest := []) (k := 3) (ci := 2) hx hb hml hown hKK hH cf2 k2 (m_X2_goesThatWay v0 v2 v4 v5 _ _ hw) cw_X2_100 ⟨Nat.le_of_ble_eq_true rfl, Nat.le_of_ble_eq_true rfl⟩ rfl hl.1 rfl (Nat.le_of_ble_eq_true rfl) ⟨Nat.le_of_ble_eq_true rfl, Nat.le_of_ble_eq_true rfl⟩ dX2_choicesOfWay_39 (fun r7 h6 H locs hH hw => ?_)
      refine lv_if_eq (tgt := 54) hx hb dX2_choicesOfWay_42 (by decide) (fun c8 => ?_) (fun c8 => ?_)
      · have hw := ite_t hw c8
        refine lv_iinc (v := v8 + (nI 1)) (lv' := [(8, .int (v8 + (nI 1))), (0, .ref v0), (1, .ref v1), (2, .int v2), (3, .int v3), (4, .ref v4), (5, .int v5), (6, .int v6), (7, .int v7)]) hx hb dX2_choicesOfWay_54 hl (k := 8) rfl rfl (by decide) rfl (fun ls hl => ?_)
        refine lv_goto (tgt := 12) hx hb dX2_choicesOfWay_57 (by decide) ?_
        exact hK12 _ _ _ H locs ls hH (lv_sub hl [1, 2, 3, 4, 5, 6, 7, 8, 0] rfl) hw
      · have hw := ite_f hw c8
        refine lv_iload hx hb dX2_choicesOfWay_45 (lv_at hl 7 rfl) ?_
        refine lv_iconst (v := (nI 1)) hx hb dX2_choicesOfWay_47 (by decide) ?_
        refine lv_iload hx hb dX2_choicesOfWay_48 (lv_at hl 8 rfl) ?_
        refine lv_ishl hx hb dX2_choicesOfWay_50 ?_
        refine lv_ior hx hb dX2_choicesOfWay_51 ?_
        refine lv_istore (lv' := [(7, .int (v7 ||| (ishl (nI 1) v8))), (0, .ref v0), (1, .ref v1), (2, .int v2), (3, .int v3), (4, .ref v4), (5, .int v5), (6, .int v6), (8, .int v8)]) hx hb dX2_choicesOfWay_52 hl (by decide) rfl (fun ls hl => ?_)
        refine lv_iinc (v := v8 + (nI 1)) (lv' := [(8, .int (v8 + (nI 1))), (7, .int (v7 ||| (ishl (nI 1) v8))), (0, .ref v0), (1, .ref v1), (2, .int v2), (3, .int v3), (4, .ref v4), (5, .int v5), (6, .int v6)]) hx hb dX2_choicesOfWay_54 hl (k := 8) rfl rfl (by decide) rfl (fun ls hl => ?_)
        refine lv_goto (tgt := 12) hx hb dX2_choicesOfWay_57 (by decide) ?_
        exact hK12 _ _ _ H locs ls hH (lv_sub hl [2, 3, 4, 5, 6, 7, 8, 1, 0] rfl) hw
  unfold w_X2_choicesOfWay at hw
  show W p l e rm_X2_choicesOfWay s m args below meth c H [] 0 0 (QI G B S sz below args s Q) (F0 m 0 ls [])
  generalize ([] : List Loc) = locs at hH ⊢
  refine lv_iload_n hx hb dX2_choicesOfWay_0 rfl (lv_at hl 3 rfl) ?_
  refine hv_cSI (rm := rm_X2_choicesOf) (As := [.int v3]) (rest := []) (k := 1) hx hb hml hown hKK hH (m_X2_choicesOf v3 _ _ hw) cw_X2_73 ⟨Nat.le_of_ble_eq_true rfl, Nat.le_of_ble_eq_true rfl⟩ rfl hl.1 rfl (Nat.le_of_ble_eq_true rfl) ⟨Nat.le_of_ble_eq_true rfl, Nat.le_of_ble_eq_true rfl⟩ dX2_choicesOfWay_1 (fun r2 h1 H locs hH hw => ?_)
  refine lv_istore (lv' := [(6, .int r2), (0, .ref v0), (1, .ref v1), (2, .int v2), (3, .int v3), (4, .ref v4), (5, .int v5)]) hx hb dX2_choicesOfWay_4 hl (by decide) rfl (fun ls hl => ?_)
  refine lv_iconst (v := (nI 0)) hx hb dX2_choicesOfWay_6 (by decide) ?_
  refine lv_istore (lv' := [(7, .int (nI 0)), (6, .int r2), (0, .ref v0), (1, .ref v1), (2, .int v2), (3, .int v3), (4, .ref v4), (5, .int v5)]) hx hb dX2_choicesOfWay_7 hl (by decide) rfl (fun ls hl => ?_)
  refine lv_iconst (v := (nI 0)) hx hb dX2_choicesOfWay_9 (by decide) ?_
  refine lv_istore (lv' := [(8, .int (nI 0)), (7, .int (nI 0)), (6, .int r2), (0, .ref v0), (1, .ref v1), (2, .int v2), (3, .int v3), (4, .ref v4), (5, .int v5)]) hx hb dX2_choicesOfWay_10 hl (by decide) rfl (fun ls hl => ?_)
  exact c12 _ _ _ _ _ _ _ _ _ _ H locs ls hH (lv_sub hl [3, 4, 5, 6, 7, 8, 2, 1, 0] rfl) hw
abbrev rm_X2_restIf : Room := { frames := 3, cells := 0, slots := 0, locals := 64 }
set_option maxHeartbeats 4000000 in
set_option maxRecDepth 100000 in
theorem m_X2_restIf {l : Launch} {G : Gl} {B sz : Nat} {S : St} (v0 : Nat) (v1 : Int32) (v2 : Int32) (h : Hp) (Q : Hp → Prop) (hw : w_X2_restIf S v0 v1 v2 h Q) : MV l G B sz S yX2_restIf cX2_restIf 3 rm_X2_restIf [.ref v0, .int v1, .int v2] h Q := by
  refine met_of rfl rfl ?_
  intro p e s m args below meth c hMB H ls hH hl
  obtain ⟨hx, hb, hml, hown, hKK, hr, hlk⟩ := hMB
  replace hl : lv_has ls 3 [(0, .ref v0), (1, .int v1), (2, .int v2)] := hl
  unfold w_X2_restIf at hw
  show W p l e rm_X2_restIf s m args below meth c H [] 0 0 (QV G B S sz below args s Q) (F0 m 0 ls [])
  generalize ([] : List Loc) = locs at hH ⊢
  refine lv_iload_n hx hb dX2_restIf_0 rfl (lv_at hl 2 rfl) ?_
  refine lv_iconst (v := (nI 1)) hx hb dX2_restIf_1 (by decide) ?_
  refine lv_icmp_ne (tgt := 12) hx hb dX2_restIf_2 (by decide) (fun c1 => ?_) (fun c1 => ?_)
  · have hw := ite_f hw c1
    exact hv_vret hx hb hr hlk hH hw dX2_restIf_12
  · have hw := ite_t hw c1
    refine lv_aload_n hx hb dX2_restIf_5 rfl (lv_at hl 0 rfl) ?_
    refine lv_iload_n hx hb dX2_restIf_6 rfl (lv_at hl 1 rfl) ?_
    refine lv_iconst (v := (nI 2)) hx hb dX2_restIf_7 (by decide) ?_
    refine lv_iconst (v := (nI 4)) hx hb dX2_restIf_8 (by decide) ?_
    obtain ⟨k2, hw⟩ := hw
    refine hv_cVV (rm := rm_X2_choose) (As := [.int v1, .int (nI 2), .int (nI 4)]) (rest := []) (k := 3) (ci := 2) hx hb hml hown hKK hH cf2 k2 (m_X2_choose v0 v1 (nI 2) (nI 4) _ _ hw) cw_X2_76 ⟨Nat.le_of_ble_eq_true rfl, Nat.le_of_ble_eq_true rfl⟩ rfl hl.1 rfl (Nat.le_of_ble_eq_true rfl) ⟨Nat.le_of_ble_eq_true rfl, Nat.le_of_ble_eq_true rfl⟩ dX2_restIf_9 (fun h3 H locs hH hw => ?_)
    exact hv_vret hx hb hr hlk hH hw dX2_restIf_12
abbrev rm_X2_steadyPair : Room := { frames := 5, cells := 0, slots := 0, locals := 145 }
set_option maxHeartbeats 4000000 in
set_option maxRecDepth 100000 in
theorem m_X2_steadyPair {l : Launch} {G : Gl} {B sz : Nat} {S : St} (v0 : Nat) (v1 : Nat) (v2 : Int32) (v3 : Int32) (v4 : Int32) (h : Hp) (Q : Int32 → Hp → Prop) (hw : w_X2_steadyPair S v0 v1 v2 v3 v4 h Q) : MI l G B sz S yX2_steadyPair cX2_steadyPair 6 .int rm_X2_steadyPair [.ref v0, .ref v1, .int v2, .int v3, .int v4] h Q := by
  refine met_of rfl rfl ?_
  intro p e s m args below meth c hMB H ls hH hl
  obtain ⟨hx, hb, hml, hown, hKK, hr, hlk⟩ := hMB
  replace hl : lv_has ls 6 [(0, .ref v0), (1, .ref v1), (2, .int v2), (3, .int v3), (4, .int v4)] := hl
  have c103 : ∀  (v0 : Nat) (v5 : Int32) (h : Hp) (H : Heap) (locs : List Loc) (ls : Array Slot), HH G B S h sz s H locs → lv_has ls 6 [(0, .ref v0), (5, .int v5)] → w_X2_steadyPair_c103 S v0 v5 h Q → W p l e rm_X2_steadyPair s m args below meth c H locs 0 0 (QI G B S sz below args s Q) (F0 m 103 ls []) := by
    intro  v0 v5 h H locs ls hH hl hw
    unfold w_X2_steadyPair_c103 at hw
    obtain ⟨P103, hP103⟩ : ∃ P : Int32 → Hp → Prop, ∀ (v5 : Int32) (h : Hp), P v5 h ↔ (∀ (H : Heap) (locs : List Loc) (ls : Array Slot), HH G B S h sz s H locs → lv_has ls 6 [(0, .ref v0), (5, .int v5)] → W p l e rm_X2_steadyPair s m args below meth c H locs 0 0 (QI G B S sz below args s Q) (F0 m 103 ls [])) := ⟨_, fun v5 h => Iff.rfl⟩
    refine (hP103 v5 h).1 (hw P103 (fun v5 h hw => (hP103 v5 h).2 (fun H locs ls hH hl => ?_))) H locs ls hH hl
    have hK103 : ∀ (v5 : Int32) (h : Hp) (H : Heap) (locs : List Loc) (ls : Array Slot), HH G B S h sz s H locs → lv_has ls 6 [(0, .ref v0), (5, .int v5)] → P103 v5 h → W p l e rm_X2_steadyPair s m args below meth c H locs 0 0 (QI G B S sz below args s Q) (F0 m 103 ls []) := fun v5 h H locs ls hH hl hk => (hP103 v5 h).1 hk H locs ls hH hl
    refine lv_iload hx hb dX2_steadyPair_103 (lv_at hl 1 rfl) ?_
    refine lv_iconst (v := (nI 4)) hx hb dX2_steadyPair_105 (by decide) ?_
    refine lv_icmp_ge (tgt := 166) hx hb dX2_steadyPair_106 (by decide) (fun c1 => ?_) (fun c1 => ?_)
    · have hw := ite_t hw c1
      refine lv_bipush (v := (-9)) hx hb dX2_steadyPair_166 (by decide) ?_
      exact hv_iret hx hb hr hlk hH hw dX2_steadyPair_168
    · have hw := ite_f hw c1
      refine lv_aload_n hx hb dX2_steadyPair_109 rfl (lv_at hl 0 rfl) ?_
      obtain ⟨k2, hw⟩ := hw
      refine hv_get (ci := 2) (k := 1) (v := .ref (S.2 v0 1)) hx hb hown hKK hH cf2 (by decide) fl_X2_18 rfl k2 rfl dX2_steadyPair_110 ?_
      refine lv_iload hx hb dX2_steadyPair_113 (lv_at hl 1 rfl) ?_
      refine lv_iconst (v := (nI 2)) hx hb dX2_steadyPair_115 (by decide) ?_
      refine lv_ixor hx hb dX2_steadyPair_116 ?_
      obtain ⟨k3, hw⟩ := hw
      refine hv_iald hx hb hKK hH k3 dX2_steadyPair_117 ?_
      refine lv_aload_n hx hb dX2_steadyPair_118 rfl (lv_at hl 0 rfl) ?_
      refine hv_get (ci := 2) (k := 1) (v := .ref (S.2 v0 1)) hx hb hown hKK hH cf2 (by decide) fl_X2_18 rfl k2 rfl dX2_steadyPair_119 ?_
      refine lv_iload hx hb dX2_steadyPair_122 (lv_at hl 1 rfl) ?_
      obtain ⟨k4, hw⟩ := hw
      refine hv_iald hx hb hKK hH k4 dX2_steadyPair_124 ?_
      refine lv_icmp_gt (tgt := 160) hx hb dX2_steadyPair_125 (by decide) (fun c5 => ?_) (fun c5 => ?_)
      · have hw := ite_t hw c5
        refine lv_iinc (v := v5 + (nI 1)) (lv' := [(5, .int (v5 + (nI 1))), (0, .ref v0)]) hx hb dX2_steadyPair_160 hl (k := 1) rfl rfl (by decide) rfl (fun ls hl => ?_)
        refine lv_goto (tgt := 103) hx hb dX2_steadyPair_163 (by decide) ?_
        exact hK103 _ _ H locs ls hH (lv_sub hl [1, 0] rfl) hw
      · have hw := ite_f hw c5
        refine lv_aload_n hx hb dX2_steadyPair_128 rfl (lv_at hl 0 rfl) ?_
        refine hv_get (ci := 2) (k := 2) (v := .ref (S.2 v0 2)) hx hb hown hKK hH cf2 (by decide) fl_X2_22 rfl k2 rfl dX2_steadyPair_129 ?_
        refine lv_iload hx hb dX2_steadyPair_132 (lv_at hl 1 rfl) ?_
        refine lv_iconst (v := (nI 1)) hx hb dX2_steadyPair_134 (by decide) ?_
        refine lv_ixor hx hb dX2_steadyPair_135 ?_
        obtain ⟨k6, hw⟩ := hw
        refine hv_iald hx hb hKK hH k6 dX2_steadyPair_136 ?_
        refine lv_aload_n hx hb dX2_steadyPair_137 rfl (lv_at hl 0 rfl) ?_
        refine hv_get (ci := 2) (k := 2) (v := .ref (S.2 v0 2)) hx hb hown hKK hH cf2 (by decide) fl_X2_22 rfl k2 rfl dX2_steadyPair_138 ?_
        refine lv_iload hx hb dX2_steadyPair_141 (lv_at hl 1 rfl) ?_
        obtain ⟨k7, hw⟩ := hw
        refine hv_iald hx hb hKK hH k7 dX2_steadyPair_143 ?_
        refine lv_icmp_gt (tgt := 160) hx hb dX2_steadyPair_144 (by decide) (fun c8 => ?_) (fun c8 => ?_)
        · have hw := ite_t hw c8
          refine lv_iinc (v := v5 + (nI 1)) (lv' := [(5, .int (v5 + (nI 1))), (0, .ref v0)]) hx hb dX2_steadyPair_160 hl (k := 1) rfl rfl (by decide) rfl (fun ls hl => ?_)
          refine lv_goto (tgt := 103) hx hb dX2_steadyPair_163 (by decide) ?_
          exact hK103 _ _ H locs ls hH (lv_sub hl [1, 0] rfl) hw
        · have hw := ite_f hw c8
          refine lv_bipush (v := (nI 10)) hx hb dX2_steadyPair_147 (by decide) ?_
          refine lv_iload hx hb dX2_steadyPair_149 (lv_at hl 1 rfl) ?_
          refine lv_iconst (v := (nI 1)) hx hb dX2_steadyPair_151 (by decide) ?_
          refine lv_ishr hx hb dX2_steadyPair_152 ?_
          refine lv_imul hx hb dX2_steadyPair_153 ?_
          refine lv_iload hx hb dX2_steadyPair_154 (lv_at hl 1 rfl) ?_
          refine lv_iconst (v := (nI 1)) hx hb dX2_steadyPair_156 (by decide) ?_
          refine lv_iand hx hb dX2_steadyPair_157 ?_
          refine lv_iadd hx hb dX2_steadyPair_158 ?_
          exact hv_iret hx hb hr hlk hH hw dX2_steadyPair_159
  have c3 : ∀  (v0 : Nat) (v1 : Nat) (v2 : Int32) (v3 : Int32) (v4 : Int32) (v5 : Int32) (h : Hp) (H : Heap) (locs : List Loc) (ls : Array Slot), HH G B S h sz s H locs → lv_has ls 6 [(0, .ref v0), (1, .ref v1), (2, .int v2), (3, .int v3), (4, .int v4), (5, .int v5)] → w_X2_steadyPair_c3 S v0 v1 v2 v3 v4 v5 h Q → W p l e rm_X2_steadyPair s m args below meth c H locs 0 0 (QI G B S sz below args s Q) (F0 m 3 ls []) := by
    intro  v0 v1 v2 v3 v4 v5 h H locs ls hH hl hw
    unfold w_X2_steadyPair_c3 at hw
    obtain ⟨P3, hP3⟩ : ∃ P : Int32 → Hp → Prop, ∀ (v5 : Int32) (h : Hp), P v5 h ↔ (∀ (H : Heap) (locs : List Loc) (ls : Array Slot), HH G B S h sz s H locs → lv_has ls 6 [(0, .ref v0), (1, .ref v1), (2, .int v2), (3, .int v3), (4, .int v4), (5, .int v5)] → W p l e rm_X2_steadyPair s m args below meth c H locs 0 0 (QI G B S sz below args s Q) (F0 m 3 ls [])) := ⟨_, fun v5 h => Iff.rfl⟩
    refine (hP3 v5 h).1 (hw P3 (fun v5 h hw => (hP3 v5 h).2 (fun H locs ls hH hl => ?_))) H locs ls hH hl
    have hK3 : ∀ (v5 : Int32) (h : Hp) (H : Heap) (locs : List Loc) (ls : Array Slot), HH G B S h sz s H locs → lv_has ls 6 [(0, .ref v0), (1, .ref v1), (2, .int v2), (3, .int v3), (4, .int v4), (5, .int v5)] → P3 v5 h → W p l e rm_X2_steadyPair s m args below meth c H locs 0 0 (QI G B S sz below args s Q) (F0 m 3 ls []) := fun v5 h H locs ls hH hl hk => (hP3 v5 h).1 hk H locs ls hH hl
    refine lv_iload hx hb dX2_steadyPair_3 (lv_at hl 5 rfl) ?_
    refine lv_iconst (v := (nI 4)) hx hb dX2_steadyPair_5 (by decide) ?_
    refine lv_icmp_ge (tgt := 100) hx hb dX2_steadyPair_6 (by decide) (fun c1 => ?_) (fun c1 => ?_)
    · have hw := ite_t hw c1
      refine lv_iconst (v := (nI 0)) hx hb dX2_steadyPair_100 (by decide) ?_
      refine lv_istore (lv' := [(5, .int (nI 0)), (0, .ref v0), (1, .ref v1), (2, .int v2), (3, .int v3), (4, .int v4)]) hx hb dX2_steadyPair_101 hl (by decide) rfl (fun ls hl => ?_)
      exact c103 _ _ _ H locs ls hH (lv_sub hl [1, 0] rfl) hw
    · have hw := ite_f hw c1
      refine lv_aload_n hx hb dX2_steadyPair_9 rfl (lv_at hl 0 rfl) ?_
      refine lv_aload_n hx hb dX2_steadyPair_10 rfl (lv_at hl 1 rfl) ?_
      obtain ⟨k2, hw⟩ := hw
      refine hv_cVA (rm := rm_X2_think) (As := [.ref v1]) (rest := []) (k := 1) (ci := 2) hx hb hml hown hKK hH cf2 k2 (m_X2_think v0 v1 _ _ hw) cw_X2_29 ⟨Nat.le_of_ble_eq_true rfl, Nat.le_of_ble_eq_true rfl⟩ rfl hl.1 rfl (Nat.le_of_ble_eq_true rfl) ⟨Nat.le_of_ble_eq_true rfl, Nat.le_of_ble_eq_true rfl⟩ dX2_steadyPair_11 (fun r4 h3 H locs hH hw => ?_)
      refine lv_pop hx hb dX2_steadyPair_14 rfl ?_
      refine lv_aload_n hx hb dX2_steadyPair_15 rfl (lv_at hl 0 rfl) ?_
      refine lv_iload_n hx hb dX2_steadyPair_16 rfl (lv_at hl 2 rfl) ?_
      refine lv_iload hx hb dX2_steadyPair_17 (lv_at hl 5 rfl) ?_
      refine lv_iconst (v := (nI 1)) hx hb dX2_steadyPair_19 (by decide) ?_
      refine lv_ishr hx hb dX2_steadyPair_20 ?_
      refine hv_cVV (rm := rm_X2_restIf) (As := [.int v2, .int (ishr v5 (nI 1))]) (rest := []) (k := 2) (ci := 2) hx hb hml hown hKK hH cf2 k2 (m_X2_restIf v0 v2 (ishr v5 (nI 1)) _ _ hw) cw_X2_104 ⟨Nat.le_of_ble_eq_true rfl, Nat.le_of_ble_eq_true rfl⟩ rfl hl.1 rfl (Nat.le_of_ble_eq_true rfl) ⟨Nat.le_of_ble_eq_true rfl, Nat.le_of_ble_eq_true rfl⟩ dX2_steadyPair_21 (fun h5 H locs hH hw => ?_)
      refine lv_aload_n hx hb dX2_steadyPair_24 rfl (lv_at hl 0 rfl) ?_
      refine lv_iload_n hx hb dX2_steadyPair_25 rfl (lv_at hl 3 rfl) ?_
      refine lv_iload hx hb dX2_steadyPair_26 (lv_at hl 5 rfl) ?_
      refine lv_iconst (v := (nI 1)) hx hb dX2_steadyPair_28 (by decide) ?_
      refine lv_iand hx hb dX2_steadyPair_29 ?_
      refine hv_cVV (rm := rm_X2_restIf) (As := [.int v3, .int (v5 &&& (nI 1))]) (rest := []) (k := 2) (ci := 2) hx hb hml hown hKK hH cf2 k2 (m_X2_restIf v0 v3 (v5 &&& (nI 1)) _ _ hw) cw_X2_104 ⟨Nat.le_of_ble_eq_true rfl, Nat.le_of_ble_eq_true rfl⟩ rfl hl.1 rfl (Nat.le_of_ble_eq_true rfl) ⟨Nat.le_of_ble_eq_true rfl, Nat.le_of_ble_eq_true rfl⟩ dX2_steadyPair_30 (fun h6 H locs hH hw => ?_)
      refine lv_aload_n hx hb dX2_steadyPair_33 rfl (lv_at hl 0 rfl) ?_
      refine hv_get (ci := 2) (k := 0) (v := .ref (S.2 v0 0)) hx hb hown hKK hH cf2 (by decide) fl_X2_12 rfl k2 rfl dX2_steadyPair_34 ?_
      refine lv_iload hx hb dX2_steadyPair_37 (lv_at hl 4 rfl) ?_
      obtain ⟨k7, hw⟩ := hw
      refine hv_cVV (rm := rm_X1_passNights) (As := [.int v4]) (rest := []) (k := 1) (ci := 1) hx hb hml hown hKK hH cf1 k7 (m_X1_passNights (S.2 v0 0) v4 _ _ hw) cw_X2_33 ⟨Nat.le_of_ble_eq_true rfl, Nat.le_of_ble_eq_true rfl⟩ rfl hl.1 rfl (Nat.le_of_ble_eq_true rfl) ⟨Nat.le_of_ble_eq_true rfl, Nat.le_of_ble_eq_true rfl⟩ dX2_steadyPair_39 (fun h8 H locs hH hw => ?_)
      refine lv_aload_n hx hb dX2_steadyPair_42 rfl (lv_at hl 0 rfl) ?_
      refine hv_get (ci := 2) (k := 1) (v := .ref (S.2 v0 1)) hx hb hown hKK hH cf2 (by decide) fl_X2_18 rfl k2 rfl dX2_steadyPair_43 ?_
      refine lv_iload hx hb dX2_steadyPair_46 (lv_at hl 5 rfl) ?_
      refine lv_aload_n hx hb dX2_steadyPair_48 rfl (lv_at hl 0 rfl) ?_
      refine hv_get (ci := 2) (k := 0) (v := .ref (S.2 v0 0)) hx hb hown hKK hH cf2 (by decide) fl_X2_12 rfl k2 rfl dX2_steadyPair_49 ?_
      refine hv_getN (ci := 1) (k := 3) (v := .ref (S.2 (S.2 v0 0) 3)) hx hb hown hKK hH cf1 (by decide) fl_X2_37 rfl k7 rfl dX2_steadyPair_52 ?_
      refine lv_iload_n hx hb dX2_steadyPair_55 rfl (lv_at hl 2 rfl) ?_
      obtain ⟨k9, hw⟩ := hw
      refine hv_aald (t := 1) hx hb (by decide) hKK hH k9 dX2_steadyPair_56 ?_
      obtain ⟨k10, hw⟩ := hw
      refine hv_getN (ci := 0) (k := 7) (v := .int (h8 (S.2 (S.2 (S.2 v0 0) 3) (ix v2)) 7)) hx hb hown hKK hH cf0 (by decide) fl_X2_80 rfl k10 rfl dX2_steadyPair_57 ?_
      refine lv_iconst (v := (nI 5)) hx hb dX2_steadyPair_60 (by decide) ?_
      refine lv_iload hx hb dX2_steadyPair_61 (lv_at hl 5 rfl) ?_
      refine lv_iconst (v := (nI 1)) hx hb dX2_steadyPair_63 (by decide) ?_
      refine lv_ishr hx hb dX2_steadyPair_64 ?_
      refine lv_imul hx hb dX2_steadyPair_65 ?_
      refine lv_iadd hx hb dX2_steadyPair_66 ?_
      obtain ⟨k11, hw⟩ := hw
      refine hv_iast hx hb hKK hH k11 dX2_steadyPair_67 (fun H locs hH => ?_)
      refine lv_aload_n hx hb dX2_steadyPair_68 rfl (lv_at hl 0 rfl) ?_
      refine hv_get (ci := 2) (k := 2) (v := .ref (S.2 v0 2)) hx hb hown hKK hH cf2 (by decide) fl_X2_22 rfl k2 rfl dX2_steadyPair_69 ?_
      refine lv_iload hx hb dX2_steadyPair_72 (lv_at hl 5 rfl) ?_
      refine lv_aload_n hx hb dX2_steadyPair_74 rfl (lv_at hl 0 rfl) ?_
      refine hv_get (ci := 2) (k := 0) (v := .ref (S.2 v0 0)) hx hb hown hKK hH cf2 (by decide) fl_X2_12 rfl k2 rfl dX2_steadyPair_75 ?_
      refine hv_getN (ci := 1) (k := 3) (v := .ref (S.2 (S.2 v0 0) 3)) hx hb hown hKK hH cf1 (by decide) fl_X2_37 rfl k7 rfl dX2_steadyPair_78 ?_
      refine lv_iload_n hx hb dX2_steadyPair_81 rfl (lv_at hl 3 rfl) ?_
      obtain ⟨k12, hw⟩ := hw
      refine hv_aald (t := 1) hx hb (by decide) hKK hH k12 dX2_steadyPair_82 ?_
      obtain ⟨k13, hw⟩ := hw
      refine hv_getN (ci := 0) (k := 7) (v := .int ((up h8 (S.2 v0 1) (ix v5) ((h8 (S.2 (S.2 (S.2 v0 0) 3) (ix v2)) 7) + ((nI 5) * (ishr v5 (nI 1))))) (S.2 (S.2 (S.2 v0 0) 3) (ix v3)) 7)) hx hb hown hKK hH cf0 (by decide) fl_X2_80 rfl k13 rfl dX2_steadyPair_83 ?_
      refine lv_iconst (v := (nI 5)) hx hb dX2_steadyPair_86 (by decide) ?_
      refine lv_iload hx hb dX2_steadyPair_87 (lv_at hl 5 rfl) ?_
      refine lv_iconst (v := (nI 1)) hx hb dX2_steadyPair_89 (by decide) ?_
      refine lv_iand hx hb dX2_steadyPair_90 ?_
      refine lv_imul hx hb dX2_steadyPair_91 ?_
      refine lv_iadd hx hb dX2_steadyPair_92 ?_
      obtain ⟨k14, hw⟩ := hw
      refine hv_iast hx hb hKK hH k14 dX2_steadyPair_93 (fun H locs hH => ?_)
      refine lv_iinc (v := v5 + (nI 1)) (lv' := [(5, .int (v5 + (nI 1))), (0, .ref v0), (1, .ref v1), (2, .int v2), (3, .int v3), (4, .int v4)]) hx hb dX2_steadyPair_94 hl (k := 5) rfl rfl (by decide) rfl (fun ls hl => ?_)
      refine lv_goto (tgt := 3) hx hb dX2_steadyPair_97 (by decide) ?_
      exact hK3 _ _ H locs ls hH (lv_sub hl [1, 2, 3, 4, 5, 0] rfl) hw
  unfold w_X2_steadyPair at hw
  show W p l e rm_X2_steadyPair s m args below meth c H [] 0 0 (QI G B S sz below args s Q) (F0 m 0 ls [])
  generalize ([] : List Loc) = locs at hH ⊢
  refine lv_iconst (v := (nI 0)) hx hb dX2_steadyPair_0 (by decide) ?_
  refine lv_istore (lv' := [(5, .int (nI 0)), (0, .ref v0), (1, .ref v1), (2, .int v2), (3, .int v3), (4, .int v4)]) hx hb dX2_steadyPair_1 hl (by decide) rfl (fun ls hl => ?_)
  exact c3 _ _ _ _ _ _ _ H locs ls hH (lv_sub hl [1, 2, 3, 4, 5, 0] rfl) hw
abbrev rm_X2_waysOnto : Room := { frames := 5, cells := 0, slots := 0, locals := 145 }
set_option maxHeartbeats 4000000 in
set_option maxRecDepth 100000 in
theorem m_X2_waysOnto {l : Launch} {G : Gl} {B sz : Nat} {S : St} (v0 : Nat) (v1 : Nat) (v2 : Int32) (v3 : Int32) (v4 : Int32) (v5 : Int32) (h : Hp) (Q : Int64 → Hp → Prop) (hw : w_X2_waysOnto S v0 v1 v2 v3 v4 v5 h Q) : ML l G B sz S yX2_waysOnto cX2_waysOnto 12 rm_X2_waysOnto [.ref v0, .ref v1, .int v2, .int v3, .int v4, .int v5] h Q := by
  refine met_of rfl rfl ?_
  intro p e s m args below meth c hMB H ls hH hl
  obtain ⟨hx, hb, hml, hown, hKK, hr, hlk⟩ := hMB
  replace hl : lv_has ls 12 [(0, .ref v0), (1, .ref v1), (2, .int v2), (3, .int v3), (4, .int v4), (5, .int v5)] := hl
  have c27 : ∀ (v0 : Nat) (v1 : Nat) (v2 : Int32) (v3 : Int32) (v4 : Int32) (v5 : Int32) (P6 : Int64 → Int32 → Hp → Prop) (_ : ∀ (v6 : Int64) (v8 : Int32) (h : Hp) (H : Heap) (locs : List Loc) (ls : Array Slot), HH G B S h sz s H locs → lv_has ls 12 [(0, .ref v0), (1, .ref v1), (2, .int v2), (3, .int v3), (4, .int v4), (5, .int v5), (6, .long v6), (8, .int v8)] → P6 v6 v8 h → W p l e rm_X2_waysOnto s m args below meth c H locs 0 0 (QL G B S sz below args s Q) (F0 m 6 ls [])) (v6 : Int64) (v8 : Int32) (v9 : Int64) (v11 : Int32) (h : Hp) (H : Heap) (locs : List Loc) (ls : Array Slot), HH G B S h sz s H locs → lv_has ls 12 [(0, .ref v0), (1, .ref v1), (2, .int v2), (3, .int v3), (4, .int v4), (5, .int v5), (6, .long v6), (8, .int v8), (9, .long v9), (11, .int v11)] → w_X2_waysOnto_c27 S v0 v1 v2 v3 v4 v5 v6 v8 v9 v11 h Q P6 → W p l e rm_X2_waysOnto s m args below meth c H locs 0 0 (QL G B S sz below args s Q) (F0 m 27 ls []) := by
    intro v0 v1 v2 v3 v4 v5 P6 hK6 v6 v8 v9 v11 h H locs ls hH hl hw
    unfold w_X2_waysOnto_c27 at hw
    obtain ⟨P27, hP27⟩ : ∃ P : Int64 → Int32 → Hp → Prop, ∀ (v9 : Int64) (v11 : Int32) (h : Hp), P v9 v11 h ↔ (∀ (H : Heap) (locs : List Loc) (ls : Array Slot), HH G B S h sz s H locs → lv_has ls 12 [(0, .ref v0), (1, .ref v1), (2, .int v2), (3, .int v3), (4, .int v4), (5, .int v5), (6, .long v6), (8, .int v8), (9, .long v9), (11, .int v11)] → W p l e rm_X2_waysOnto s m args below meth c H locs 0 0 (QL G B S sz below args s Q) (F0 m 27 ls [])) := ⟨_, fun v9 v11 h => Iff.rfl⟩
    refine (hP27 v9 v11 h).1 (hw P27 (fun v9 v11 h hw => (hP27 v9 v11 h).2 (fun H locs ls hH hl => ?_))) H locs ls hH hl
    have hK27 : ∀ (v9 : Int64) (v11 : Int32) (h : Hp) (H : Heap) (locs : List Loc) (ls : Array Slot), HH G B S h sz s H locs → lv_has ls 12 [(0, .ref v0), (1, .ref v1), (2, .int v2), (3, .int v3), (4, .int v4), (5, .int v5), (6, .long v6), (8, .int v8), (9, .long v9), (11, .int v11)] → P27 v9 v11 h → W p l e rm_X2_waysOnto s m args below meth c H locs 0 0 (QL G B S sz below args s Q) (F0 m 27 ls []) := fun v9 v11 h H locs ls hH hl hk => (hP27 v9 v11 h).1 hk H locs ls hH hl
    refine lv_iload hx hb dX2_waysOnto_27 (lv_at hl 9 rfl) ?_
    refine lv_iload hx hb dX2_waysOnto_29 (lv_at hl 4 rfl) ?_
    refine lv_icmp_ge (tgt := 79) hx hb dX2_waysOnto_31 (by decide) (fun c1 => ?_) (fun c1 => ?_)
    · have hw := ite_t hw c1
      refine lv_aload_n hx hb dX2_waysOnto_79 rfl (lv_at hl 0 rfl) ?_
      obtain ⟨k2, hw⟩ := hw
      refine hv_get (ci := 2) (k := 0) (v := .ref (S.2 v0 0)) hx hb hown hKK hH cf2 (by decide) fl_X2_12 rfl k2 rfl dX2_waysOnto_80 ?_
      obtain ⟨k3, hw⟩ := hw
      refine hv_getN (ci := 1) (k := 3) (v := .ref (S.2 (S.2 v0 0) 3)) hx hb hown hKK hH cf1 (by decide) fl_X2_37 rfl k3 rfl dX2_waysOnto_83 ?_
      refine lv_iload_n hx hb dX2_waysOnto_86 rfl (lv_at hl 2 rfl) ?_
      obtain ⟨k4, hw⟩ := hw
      refine hv_aald (t := 1) hx hb (by decide) hKK hH k4 dX2_waysOnto_87 ?_
      obtain ⟨k5, hw⟩ := hw
      refine hv_getN (ci := 0) (k := 4) (v := .int (h (S.2 (S.2 (S.2 v0 0) 3) (ix v2)) 4)) hx hb hown hKK hH cf0 (by decide) fl_X2_41 rfl k5 rfl dX2_waysOnto_88 ?_
      refine lv_iload_n hx hb dX2_waysOnto_91 rfl (lv_at hl 3 rfl) ?_
      refine lv_icmp_ne (tgt := 102) hx hb dX2_waysOnto_92 (by decide) (fun c6 => ?_) (fun c6 => ?_)
      · have hw := ite_f hw c6
        refine lv_iinc (v := v8 + (nI 1)) (lv' := [(8, .int (v8 + (nI 1))), (0, .ref v0), (1, .ref v1), (2, .int v2), (3, .int v3), (4, .int v4), (5, .int v5), (6, .long v6), (9, .long v9), (11, .int v11)]) hx hb dX2_waysOnto_102 hl (k := 7) rfl rfl (by decide) rfl (fun ls hl => ?_)
        refine lv_goto (tgt := 6) hx hb dX2_waysOnto_105 (by decide) ?_
        exact hK6 _ _ _ H locs ls hH (lv_sub hl [1, 2, 3, 4, 5, 6, 7, 0] rfl) hw
      · have hw := ite_t hw c6
        refine lv_lload hx hb dX2_waysOnto_95 (lv_at hl 6 rfl) ?_
        refine lv_lload hx hb dX2_waysOnto_97 (lv_at hl 8 rfl) ?_
        refine lv_ladd hx hb dX2_waysOnto_99 ?_
        refine lv_lstore (lv' := [(6, .long (v6 + v9)), (0, .ref v0), (1, .ref v1), (2, .int v2), (3, .int v3), (4, .int v4), (5, .int v5), (8, .int v8), (9, .long v9), (11, .int v11)]) hx hb dX2_waysOnto_100 hl (by decide) rfl (fun ls hl => ?_)
        refine lv_iinc (v := v8 + (nI 1)) (lv' := [(8, .int (v8 + (nI 1))), (6, .long (v6 + v9)), (0, .ref v0), (1, .ref v1), (2, .int v2), (3, .int v3), (4, .int v4), (5, .int v5), (9, .long v9), (11, .int v11)]) hx hb dX2_waysOnto_102 hl (k := 7) rfl rfl (by decide) rfl (fun ls hl => ?_)
        refine lv_goto (tgt := 6) hx hb dX2_waysOnto_105 (by decide) ?_
        exact hK6 _ _ _ H locs ls hH (lv_sub hl [2, 3, 4, 5, 6, 7, 1, 0] rfl) hw
    · have hw := ite_f hw c1
      refine lv_iload hx hb dX2_waysOnto_34 (lv_at hl 7 rfl) ?_
      refine lv_iload hx hb dX2_waysOnto_36 (lv_at hl 9 rfl) ?_
      refine lv_ishr hx hb dX2_waysOnto_38 ?_
      refine lv_iconst (v := (nI 1)) hx hb dX2_waysOnto_39 (by decide) ?_
      refine lv_iand hx hb dX2_waysOnto_40 ?_
      refine lv_iconst (v := (nI 1)) hx hb dX2_waysOnto_41 (by decide) ?_
      refine lv_icmp_ne (tgt := 55) hx hb dX2_waysOnto_42 (by decide) (fun c7 => ?_) (fun c7 => ?_)
      · have hw := ite_f hw c7
        refine lv_aload_n hx hb dX2_waysOnto_55 rfl (lv_at hl 0 rfl) ?_
        obtain ⟨k11, hw⟩ := hw
        refine hv_get (ci := 2) (k := 0) (v := .ref (S.2 v0 0)) hx hb hown hKK hH cf2 (by decide) fl_X2_12 rfl k11 rfl dX2_waysOnto_56 ?_
        refine lv_iconst (v := (nI 1)) hx hb dX2_waysOnto_59 (by decide) ?_
        obtain ⟨k12, hw⟩ := hw
        refine hv_cVV (rm := rm_X1_passNights) (As := [.int (nI 1)]) (rest := []) (k := 1) (ci := 1) hx hb hml hown hKK hH cf1 k12 (m_X1_passNights (S.2 v0 0) (nI 1) _ _ hw) cw_X2_33 ⟨Nat.le_of_ble_eq_true rfl, Nat.le_of_ble_eq_true rfl⟩ rfl hl.1 rfl (Nat.le_of_ble_eq_true rfl) ⟨Nat.le_of_ble_eq_true rfl, Nat.le_of_ble_eq_true rfl⟩ dX2_waysOnto_60 (fun h13 H locs hH hw => ?_)
        refine lv_lload hx hb dX2_waysOnto_63 (lv_at hl 8 rfl) ?_
        refine lv_iload hx hb dX2_waysOnto_65 (lv_at hl 5 rfl) ?_
        refine lv_iconst (v := (nI 1)) hx hb dX2_waysOnto_67 (by decide) ?_
        refine lv_isub hx hb dX2_waysOnto_68 ?_
        refine lv_i2l hx hb dX2_waysOnto_69 rfl ?_
        refine lv_lmul hx hb dX2_waysOnto_70 ?_
        refine lv_lstore (lv' := [(9, .long (v9 * ((v5 - (nI 1)).toInt64))), (0, .ref v0), (1, .ref v1), (2, .int v2), (3, .int v3), (4, .int v4), (5, .int v5), (6, .long v6), (8, .int v8), (11, .int v11)]) hx hb dX2_waysOnto_71 hl (by decide) rfl (fun ls hl => ?_)
        refine lv_iinc (v := v11 + (nI 1)) (lv' := [(11, .int (v11 + (nI 1))), (9, .long (v9 * ((v5 - (nI 1)).toInt64))), (0, .ref v0), (1, .ref v1), (2, .int v2), (3, .int v3), (4, .int v4), (5, .int v5), (6, .long v6), (8, .int v8)]) hx hb dX2_waysOnto_73 hl (k := 9) rfl rfl (by decide) rfl (fun ls hl => ?_)
        refine lv_goto (tgt := 27) hx hb dX2_waysOnto_76 (by decide) ?_
        exact hK27 _ _ _ H locs ls hH (lv_sub hl [2, 3, 4, 5, 6, 7, 8, 9, 1, 0] rfl) hw
      · have hw := ite_t hw c7
        refine lv_aload_n hx hb dX2_waysOnto_45 rfl (lv_at hl 0 rfl) ?_
        obtain ⟨k8, hw⟩ := hw
        refine hv_get (ci := 2) (k := 0) (v := .ref (S.2 v0 0)) hx hb hown hKK hH cf2 (by decide) fl_X2_12 rfl k8 rfl dX2_waysOnto_46 ?_
        obtain ⟨k9, hw⟩ := hw
        refine hv_cVV (rm := rm_X1_rainNight) (As := []) (rest := []) (k := 0) (ci := 1) hx hb hml hown hKK hH cf1 k9 (m_X1_rainNight (S.2 v0 0) _ _ hw) cw_X2_108 ⟨Nat.le_of_ble_eq_true rfl, Nat.le_of_ble_eq_true rfl⟩ rfl hl.1 rfl (Nat.le_of_ble_eq_true rfl) ⟨Nat.le_of_ble_eq_true rfl, Nat.le_of_ble_eq_true rfl⟩ dX2_waysOnto_49 (fun h10 H locs hH hw => ?_)
        refine lv_goto (tgt := 73) hx hb dX2_waysOnto_52 (by decide) ?_
        refine lv_iinc (v := v11 + (nI 1)) (lv' := [(11, .int (v11 + (nI 1))), (0, .ref v0), (1, .ref v1), (2, .int v2), (3, .int v3), (4, .int v4), (5, .int v5), (6, .long v6), (8, .int v8), (9, .long v9)]) hx hb dX2_waysOnto_73 hl (k := 9) rfl rfl (by decide) rfl (fun ls hl => ?_)
        refine lv_goto (tgt := 27) hx hb dX2_waysOnto_76 (by decide) ?_
        exact hK27 _ _ _ H locs ls hH (lv_sub hl [1, 2, 3, 4, 5, 6, 7, 8, 9, 0] rfl) hw
  have c6 : ∀  (v0 : Nat) (v1 : Nat) (v2 : Int32) (v3 : Int32) (v4 : Int32) (v5 : Int32) (v6 : Int64) (v8 : Int32) (h : Hp) (H : Heap) (locs : List Loc) (ls : Array Slot), HH G B S h sz s H locs → lv_has ls 12 [(0, .ref v0), (1, .ref v1), (2, .int v2), (3, .int v3), (4, .int v4), (5, .int v5), (6, .long v6), (8, .int v8)] → w_X2_waysOnto_c6 S v0 v1 v2 v3 v4 v5 v6 v8 h Q → W p l e rm_X2_waysOnto s m args below meth c H locs 0 0 (QL G B S sz below args s Q) (F0 m 6 ls []) := by
    intro  v0 v1 v2 v3 v4 v5 v6 v8 h H locs ls hH hl hw
    unfold w_X2_waysOnto_c6 at hw
    obtain ⟨P6, hP6⟩ : ∃ P : Int64 → Int32 → Hp → Prop, ∀ (v6 : Int64) (v8 : Int32) (h : Hp), P v6 v8 h ↔ (∀ (H : Heap) (locs : List Loc) (ls : Array Slot), HH G B S h sz s H locs → lv_has ls 12 [(0, .ref v0), (1, .ref v1), (2, .int v2), (3, .int v3), (4, .int v4), (5, .int v5), (6, .long v6), (8, .int v8)] → W p l e rm_X2_waysOnto s m args below meth c H locs 0 0 (QL G B S sz below args s Q) (F0 m 6 ls [])) := ⟨_, fun v6 v8 h => Iff.rfl⟩
    refine (hP6 v6 v8 h).1 (hw P6 (fun v6 v8 h hw => (hP6 v6 v8 h).2 (fun H locs ls hH hl => ?_))) H locs ls hH hl
    have hK6 : ∀ (v6 : Int64) (v8 : Int32) (h : Hp) (H : Heap) (locs : List Loc) (ls : Array Slot), HH G B S h sz s H locs → lv_has ls 12 [(0, .ref v0), (1, .ref v1), (2, .int v2), (3, .int v3), (4, .int v4), (5, .int v5), (6, .long v6), (8, .int v8)] → P6 v6 v8 h → W p l e rm_X2_waysOnto s m args below meth c H locs 0 0 (QL G B S sz below args s Q) (F0 m 6 ls []) := fun v6 v8 h H locs ls hH hl hk => (hP6 v6 v8 h).1 hk H locs ls hH hl
    refine lv_iload hx hb dX2_waysOnto_6 (lv_at hl 7 rfl) ?_
    refine lv_iconst (v := (nI 1)) hx hb dX2_waysOnto_8 (by decide) ?_
    refine lv_iload hx hb dX2_waysOnto_9 (lv_at hl 4 rfl) ?_
    refine lv_ishl hx hb dX2_waysOnto_11 ?_
    refine lv_icmp_ge (tgt := 108) hx hb dX2_waysOnto_12 (by decide) (fun c1 => ?_) (fun c1 => ?_)
    · have hw := ite_t hw c1
      refine lv_lload hx hb dX2_waysOnto_108 (lv_at hl 6 rfl) ?_
      exact hv_lret hx hb hr hlk hH hw dX2_waysOnto_110
    · have hw := ite_f hw c1
      refine lv_aload_n hx hb dX2_waysOnto_15 rfl (lv_at hl 0 rfl) ?_
      refine lv_aload_n hx hb dX2_waysOnto_16 rfl (lv_at hl 1 rfl) ?_
      obtain ⟨k2, hw⟩ := hw
      refine hv_cVA (rm := rm_X2_think) (As := [.ref v1]) (rest := []) (k := 1) (ci := 2) hx hb hml hown hKK hH cf2 k2 (m_X2_think v0 v1 _ _ hw) cw_X2_29 ⟨Nat.le_of_ble_eq_true rfl, Nat.le_of_ble_eq_true rfl⟩ rfl hl.1 rfl (Nat.le_of_ble_eq_true rfl) ⟨Nat.le_of_ble_eq_true rfl, Nat.le_of_ble_eq_true rfl⟩ dX2_waysOnto_17 (fun r4 h3 H locs hH hw => ?_)
      refine lv_pop hx hb dX2_waysOnto_20 rfl ?_
      refine lv_lconst (v := (lN 1)) hx hb dX2_waysOnto_21 rfl ?_
      refine lv_lstore (lv' := [(9, .long (lN 1)), (0, .ref v0), (1, .ref v1), (2, .int v2), (3, .int v3), (4, .int v4), (5, .int v5), (6, .long v6), (8, .int v8)]) hx hb dX2_waysOnto_22 hl (by decide) rfl (fun ls hl => ?_)
      refine lv_iconst (v := (nI 0)) hx hb dX2_waysOnto_24 (by decide) ?_
      refine lv_istore (lv' := [(11, .int (nI 0)), (9, .long (lN 1)), (0, .ref v0), (1, .ref v1), (2, .int v2), (3, .int v3), (4, .int v4), (5, .int v5), (6, .long v6), (8, .int v8)]) hx hb dX2_waysOnto_25 hl (by decide) rfl (fun ls hl => ?_)
      exact c27 _ _ _ _ _ _ _ hK6 _ _ _ _ _ H locs ls hH (lv_sub hl [2, 3, 4, 5, 6, 7, 8, 9, 1, 0] rfl) hw
  unfold w_X2_waysOnto at hw
  show W p l e rm_X2_waysOnto s m args below meth c H [] 0 0 (QL G B S sz below args s Q) (F0 m 0 ls [])
  generalize ([] : List Loc) = locs at hH ⊢
  refine lv_lconst (v := (lN 0)) hx hb dX2_waysOnto_0 rfl ?_
  refine lv_lstore (lv' := [(6, .long (lN 0)), (0, .ref v0), (1, .ref v1), (2, .int v2), (3, .int v3), (4, .int v4), (5, .int v5)]) hx hb dX2_waysOnto_1 hl (by decide) rfl (fun ls hl => ?_)
  refine lv_iconst (v := (nI 0)) hx hb dX2_waysOnto_3 (by decide) ?_
  refine lv_istore (lv' := [(8, .int (nI 0)), (6, .long (lN 0)), (0, .ref v0), (1, .ref v1), (2, .int v2), (3, .int v3), (4, .int v4), (5, .int v5)]) hx hb dX2_waysOnto_4 hl (by decide) rfl (fun ls hl => ?_)
  exact c6 _ _ _ _ _ _ _ _ _ H locs ls hH (lv_sub hl [2, 3, 4, 5, 6, 7, 1, 0] rfl) hw
abbrev rm_X2_drawBelow : Room := { frames := 0, cells := 0, slots := 0, locals := 0 }
set_option maxHeartbeats 4000000 in
set_option maxRecDepth 100000 in
theorem m_X2_drawBelow {l : Launch} {G : Gl} {B sz : Nat} {S : St} (v0 : Nat) (v1 : Int32) (h : Hp) (Q : Int32 → Hp → Prop) (hw : w_X2_drawBelow S v0 v1 h Q) : MI l G B sz S yX2_drawBelow cX2_drawBelow 3 .int rm_X2_drawBelow [.ref v0, .int v1] h Q := by
  refine met_of rfl rfl ?_
  intro p e s m args below meth c hMB H ls hH hl
  obtain ⟨hx, hb, hml, hown, hKK, hr, hlk⟩ := hMB
  replace hl : lv_has ls 3 [(0, .ref v0), (1, .int v1)] := hl
  unfold w_X2_drawBelow at hw
  show W p l e rm_X2_drawBelow s m args below meth c H [] 0 0 (QI G B S sz below args s Q) (F0 m 0 ls [])
  generalize ([] : List Loc) = locs at hH ⊢
  refine lv_aload_n hx hb dX2_drawBelow_0 rfl (lv_at hl 0 rfl) ?_
  refine lv_aload_n hx hb dX2_drawBelow_1 rfl (lv_at hl 0 rfl) ?_
  obtain ⟨k1, hw⟩ := hw
  refine hv_get (ci := 2) (k := 3) (v := .int (h v0 3)) hx hb hown hKK hH cf2 (by decide) fl_X2_111 rfl k1 rfl dX2_drawBelow_2 ?_
  refine lv_ldc (v := (1103515245 : Int32)) hx hb hown (hKK.use kc_X2_129 rfl _) dX2_drawBelow_5 ?_
  refine lv_imul hx hb dX2_drawBelow_7 ?_
  refine lv_sipush (v := (nI 12345)) hx hb dX2_drawBelow_8 (by decide) ?_
  refine lv_iadd hx hb dX2_drawBelow_11 ?_
  refine hv_put (ci := 2) (k := 3) hx hb hown hKK hH cf2 (by decide) fl_X2_111 rfl rfl rfl k1 rfl rfl dX2_drawBelow_12 (fun H locs hH => ?_)
  refine lv_aload_n hx hb dX2_drawBelow_15 rfl (lv_at hl 0 rfl) ?_
  refine hv_get (ci := 2) (k := 3) (v := .int ((up h v0 3 (((h v0 3) * (1103515245 : Int32)) + (nI 12345))) v0 3)) hx hb hown hKK hH cf2 (by decide) fl_X2_111 rfl k1 rfl dX2_drawBelow_16 ?_
  refine lv_ldc (v := (2147483647 : Int32)) hx hb hown (hKK.use kc_X2_130 rfl _) dX2_drawBelow_19 ?_
  refine lv_iand hx hb dX2_drawBelow_21 ?_
  refine lv_ldc (v := (65536 : Int32)) hx hb hown (hKK.use kc_X2_131 rfl _) dX2_drawBelow_22 ?_
  obtain ⟨k2, hw⟩ := hw
  refine lv_idiv hx hb dX2_drawBelow_24 k2 ?_
  refine lv_istore_n (lv' := [(2, .int ((((up h v0 3 (((h v0 3) * (1103515245 : Int32)) + (nI 12345))) v0 3) &&& (2147483647 : Int32)) / (65536 : Int32))), (0, .ref v0), (1, .int v1)]) hx hb dX2_drawBelow_25 rfl hl (by decide) rfl (fun ls hl => ?_)
  refine lv_iload_n hx hb dX2_drawBelow_26 rfl (lv_at hl 2 rfl) ?_
  refine lv_if_le (tgt := 36) hx hb dX2_drawBelow_27 (by decide) (fun c3 => ?_) (fun c3 => ?_)
  · have hw := ite_t hw c3
    refine lv_iconst (v := (nI 0)) hx hb dX2_drawBelow_36 (by decide) ?_
    exact hv_iret hx hb hr hlk hH hw dX2_drawBelow_37
  · have hw := ite_f hw c3
    refine lv_iload_n hx hb dX2_drawBelow_30 rfl (lv_at hl 0 rfl) ?_
    refine lv_iload_n hx hb dX2_drawBelow_31 rfl (lv_at hl 2 rfl) ?_
    obtain ⟨k4, hw⟩ := hw
    refine lv_irem hx hb dX2_drawBelow_32 k4 ?_
    refine lv_goto (tgt := 37) hx hb dX2_drawBelow_33 (by decide) ?_
    exact hv_iret hx hb hr hlk hH hw dX2_drawBelow_37
abbrev rm_X2_scatterHeads : Room := { frames := 1, cells := 0, slots := 0, locals := 22 }
set_option maxHeartbeats 4000000 in
set_option maxRecDepth 100000 in
theorem m_X2_scatterHeads {l : Launch} {G : Gl} {B sz : Nat} {S : St} (v0 : Nat) (h : Hp) (Q : Hp → Prop) (hw : w_X2_scatterHeads S v0 h Q) : MV l G B sz S yX2_scatterHeads cX2_scatterHeads 2 rm_X2_scatterHeads [.ref v0] h Q := by
  refine met_of rfl rfl ?_
  intro p e s m args below meth c hMB H ls hH hl
  obtain ⟨hx, hb, hml, hown, hKK, hr, hlk⟩ := hMB
  replace hl : lv_has ls 2 [(0, .ref v0)] := hl
  have c2 : ∀  (v0 : Nat) (v1 : Int32) (h : Hp) (H : Heap) (locs : List Loc) (ls : Array Slot), HH G B S h sz s H locs → lv_has ls 2 [(0, .ref v0), (1, .int v1)] → w_X2_scatterHeads_c2 S v0 v1 h Q → W p l e rm_X2_scatterHeads s m args below meth c H locs 0 0 (QV G B S sz below args s Q) (F0 m 2 ls []) := by
    intro  v0 v1 h H locs ls hH hl hw
    unfold w_X2_scatterHeads_c2 at hw
    obtain ⟨P2, hP2⟩ : ∃ P : Int32 → Hp → Prop, ∀ (v1 : Int32) (h : Hp), P v1 h ↔ (∀ (H : Heap) (locs : List Loc) (ls : Array Slot), HH G B S h sz s H locs → lv_has ls 2 [(0, .ref v0), (1, .int v1)] → W p l e rm_X2_scatterHeads s m args below meth c H locs 0 0 (QV G B S sz below args s Q) (F0 m 2 ls [])) := ⟨_, fun v1 h => Iff.rfl⟩
    refine (hP2 v1 h).1 (hw P2 (fun v1 h hw => (hP2 v1 h).2 (fun H locs ls hH hl => ?_))) H locs ls hH hl
    have hK2 : ∀ (v1 : Int32) (h : Hp) (H : Heap) (locs : List Loc) (ls : Array Slot), HH G B S h sz s H locs → lv_has ls 2 [(0, .ref v0), (1, .int v1)] → P2 v1 h → W p l e rm_X2_scatterHeads s m args below meth c H locs 0 0 (QV G B S sz below args s Q) (F0 m 2 ls []) := fun v1 h H locs ls hH hl hk => (hP2 v1 h).1 hk H locs ls hH hl
    refine lv_iload_n hx hb dX2_scatterHeads_2 rfl (lv_at hl 1 rfl) ?_
    refine lv_aload_n hx hb dX2_scatterHeads_3 rfl (lv_at hl 0 rfl) ?_
    obtain ⟨k1, hw⟩ := hw
    refine hv_get (ci := 2) (k := 0) (v := .ref (S.2 v0 0)) hx hb hown hKK hH cf2 (by decide) fl_X2_12 rfl k1 rfl dX2_scatterHeads_4 ?_
    obtain ⟨k2, hw⟩ := hw
    refine hv_getN (ci := 1) (k := 4) (v := .int (h (S.2 v0 0) 4)) hx hb hown hKK hH cf1 (by decide) fl_X2_93 rfl k2 rfl dX2_scatterHeads_7 ?_
    refine lv_icmp_ge (tgt := 54) hx hb dX2_scatterHeads_10 (by decide) (fun c3 => ?_) (fun c3 => ?_)
    · have hw := ite_t hw c3
      exact hv_vret hx hb hr hlk hH hw dX2_scatterHeads_54
    · have hw := ite_f hw c3
      refine lv_aload_n hx hb dX2_scatterHeads_13 rfl (lv_at hl 0 rfl) ?_
      refine hv_get (ci := 2) (k := 0) (v := .ref (S.2 v0 0)) hx hb hown hKK hH cf2 (by decide) fl_X2_12 rfl k1 rfl dX2_scatterHeads_14 ?_
      refine hv_getN (ci := 1) (k := 3) (v := .ref (S.2 (S.2 v0 0) 3)) hx hb hown hKK hH cf1 (by decide) fl_X2_37 rfl k2 rfl dX2_scatterHeads_17 ?_
      refine lv_iload_n hx hb dX2_scatterHeads_20 rfl (lv_at hl 1 rfl) ?_
      obtain ⟨k4, hw⟩ := hw
      refine hv_aald (t := 1) hx hb (by decide) hKK hH k4 dX2_scatterHeads_21 ?_
      refine lv_aload_n hx hb dX2_scatterHeads_22 rfl (lv_at hl 0 rfl) ?_
      refine lv_bipush (v := (nI 48)) hx hb dX2_scatterHeads_23 (by decide) ?_
      refine hv_cVI (rm := rm_X2_drawBelow) (As := [.int (nI 48)]) (rest := [.ref (S.2 (S.2 (S.2 v0 0) 3) (ix v1))]) (k := 1) (ci := 2) hx hb hml hown hKK hH cf2 k1 (m_X2_drawBelow v0 (nI 48) _ _ hw) cw_X2_123 ⟨Nat.le_of_ble_eq_true rfl, Nat.le_of_ble_eq_true rfl⟩ rfl hl.1 rfl (Nat.le_of_ble_eq_true rfl) ⟨Nat.le_of_ble_eq_true rfl, Nat.le_of_ble_eq_true rfl⟩ dX2_scatterHeads_25 (fun r6 h5 H locs hH hw => ?_)
      obtain ⟨k7, hw⟩ := hw
      refine hv_putN (ci := 0) (k := 4) hx hb hown hKK hH cf0 (by decide) fl_X2_41 rfl rfl rfl k7 rfl rfl dX2_scatterHeads_28 (fun H locs hH => ?_)
      refine lv_aload_n hx hb dX2_scatterHeads_31 rfl (lv_at hl 0 rfl) ?_
      refine hv_get (ci := 2) (k := 0) (v := .ref (S.2 v0 0)) hx hb hown hKK hH cf2 (by decide) fl_X2_12 rfl k1 rfl dX2_scatterHeads_32 ?_
      refine hv_getN (ci := 1) (k := 3) (v := .ref (S.2 (S.2 v0 0) 3)) hx hb hown hKK hH cf1 (by decide) fl_X2_37 rfl k2 rfl dX2_scatterHeads_35 ?_
      refine lv_iload_n hx hb dX2_scatterHeads_38 rfl (lv_at hl 1 rfl) ?_
      refine hv_aald (t := 1) hx hb (by decide) hKK hH k4 dX2_scatterHeads_39 ?_
      refine lv_aload_n hx hb dX2_scatterHeads_40 rfl (lv_at hl 0 rfl) ?_
      refine lv_iconst (v := (nI 4)) hx hb dX2_scatterHeads_41 (by decide) ?_
      refine hv_cVI (rm := rm_X2_drawBelow) (As := [.int (nI 4)]) (rest := [.ref (S.2 (S.2 (S.2 v0 0) 3) (ix v1))]) (k := 1) (ci := 2) hx hb hml hown hKK hH cf2 k1 (m_X2_drawBelow v0 (nI 4) _ _ hw) cw_X2_123 ⟨Nat.le_of_ble_eq_true rfl, Nat.le_of_ble_eq_true rfl⟩ rfl hl.1 rfl (Nat.le_of_ble_eq_true rfl) ⟨Nat.le_of_ble_eq_true rfl, Nat.le_of_ble_eq_true rfl⟩ dX2_scatterHeads_42 (fun r9 h8 H locs hH hw => ?_)
      refine hv_putN (ci := 0) (k := 5) hx hb hown hKK hH cf0 (by decide) fl_X2_126 rfl rfl rfl k7 rfl rfl dX2_scatterHeads_45 (fun H locs hH => ?_)
      refine lv_iinc (v := v1 + (nI 1)) (lv' := [(1, .int (v1 + (nI 1))), (0, .ref v0)]) hx hb dX2_scatterHeads_48 hl (k := 1) rfl rfl (by decide) rfl (fun ls hl => ?_)
      refine lv_goto (tgt := 2) hx hb dX2_scatterHeads_51 (by decide) ?_
      exact hK2 _ _ H locs ls hH (lv_sub hl [1, 0] rfl) hw
  unfold w_X2_scatterHeads at hw
  show W p l e rm_X2_scatterHeads s m args below meth c H [] 0 0 (QV G B S sz below args s Q) (F0 m 0 ls [])
  generalize ([] : List Loc) = locs at hH ⊢
  refine lv_iconst (v := (nI 0)) hx hb dX2_scatterHeads_0 (by decide) ?_
  refine lv_istore_n (lv' := [(1, .int (nI 0)), (0, .ref v0)]) hx hb dX2_scatterHeads_1 rfl hl (by decide) rfl (fun ls hl => ?_)
  exact c2 _ _ _ H locs ls hH (lv_sub hl [1, 0] rfl) hw
abbrev rm_X2_playGames : Room := { frames := 5, cells := 0, slots := 0, locals := 145 }
set_option maxHeartbeats 4000000 in
set_option maxRecDepth 100000 in
theorem m_X2_playGames {l : Launch} {G : Gl} {B sz : Nat} {S : St} (v0 : Nat) (v1 : Nat) (v2 : Int32) (v3 : Int32) (v4 : Int32) (h : Hp) (Q : Int32 → Hp → Prop) (hw : w_X2_playGames S v0 v1 v2 v3 v4 h Q) : MI l G B sz S yX2_playGames cX2_playGames 8 .int rm_X2_playGames [.ref v0, .ref v1, .int v2, .int v3, .int v4] h Q := by
  refine met_of rfl rfl ?_
  intro p e s m args below meth c hMB H ls hH hl
  obtain ⟨hx, hb, hml, hown, hKK, hr, hlk⟩ := hMB
  replace hl : lv_has ls 8 [(0, .ref v0), (1, .ref v1), (2, .int v2), (3, .int v3), (4, .int v4)] := hl
  have c14 : ∀  (v0 : Nat) (v1 : Nat) (v2 : Int32) (v4 : Int32) (v5 : Int32) (v6 : Int32) (v7 : Int32) (h : Hp) (H : Heap) (locs : List Loc) (ls : Array Slot), HH G B S h sz s H locs → lv_has ls 8 [(0, .ref v0), (1, .ref v1), (2, .int v2), (4, .int v4), (5, .int v5), (6, .int v6), (7, .int v7)] → w_X2_playGames_c14 S v0 v1 v2 v4 v5 v6 v7 h Q → W p l e rm_X2_playGames s m args below meth c H locs 0 0 (QI G B S sz below args s Q) (F0 m 14 ls []) := by
    intro  v0 v1 v2 v4 v5 v6 v7 h H locs ls hH hl hw
    unfold w_X2_playGames_c14 at hw
    obtain ⟨P14, hP14⟩ : ∃ P : Int32 → Int32 → Int32 → Hp → Prop, ∀ (v5 : Int32) (v6 : Int32) (v7 : Int32) (h : Hp), P v5 v6 v7 h ↔ (∀ (H : Heap) (locs : List Loc) (ls : Array Slot), HH G B S h sz s H locs → lv_has ls 8 [(0, .ref v0), (1, .ref v1), (2, .int v2), (4, .int v4), (5, .int v5), (6, .int v6), (7, .int v7)] → W p l e rm_X2_playGames s m args below meth c H locs 0 0 (QI G B S sz below args s Q) (F0 m 14 ls [])) := ⟨_, fun v5 v6 v7 h => Iff.rfl⟩
    refine (hP14 v5 v6 v7 h).1 (hw P14 (fun v5 v6 v7 h hw => (hP14 v5 v6 v7 h).2 (fun H locs ls hH hl => ?_))) H locs ls hH hl
    have hK14 : ∀ (v5 : Int32) (v6 : Int32) (v7 : Int32) (h : Hp) (H : Heap) (locs : List Loc) (ls : Array Slot), HH G B S h sz s H locs → lv_has ls 8 [(0, .ref v0), (1, .ref v1), (2, .int v2), (4, .int v4), (5, .int v5), (6, .int v6), (7, .int v7)] → P14 v5 v6 v7 h → W p l e rm_X2_playGames s m args below meth c H locs 0 0 (QI G B S sz below args s Q) (F0 m 14 ls []) := fun v5 v6 v7 h H locs ls hH hl hk => (hP14 v5 v6 v7 h).1 hk H locs ls hH hl
    refine lv_iload hx hb dX2_playGames_14 (lv_at hl 6 rfl) ?_
    refine lv_iload_n hx hb dX2_playGames_16 rfl (lv_at hl 2 rfl) ?_
    refine lv_icmp_ge (tgt := 85) hx hb dX2_playGames_17 (by decide) (fun c1 => ?_) (fun c1 => ?_)
    · have hw := ite_t hw c1
      refine lv_iload hx hb dX2_playGames_85 (lv_at hl 3 rfl) ?_
      refine lv_if_eq (tgt := 95) hx hb dX2_playGames_87 (by decide) (fun c2 => ?_) (fun c2 => ?_)
      · have hw := ite_t hw c2
        refine lv_iload hx hb dX2_playGames_95 (lv_at hl 4 rfl) ?_
        exact hv_iret hx hb hr hlk hH hw dX2_playGames_97
      · have hw := ite_f hw c2
        refine lv_iload hx hb dX2_playGames_90 (lv_at hl 5 rfl) ?_
        refine lv_goto (tgt := 97) hx hb dX2_playGames_92 (by decide) ?_
        exact hv_iret hx hb hr hlk hH hw dX2_playGames_97
    · have hw := ite_f hw c1
      refine lv_aload_n hx hb dX2_playGames_20 rfl (lv_at hl 0 rfl) ?_
      refine lv_aload_n hx hb dX2_playGames_21 rfl (lv_at hl 1 rfl) ?_
      obtain ⟨k3, hw⟩ := hw
      refine hv_cVA (rm := rm_X2_think) (As := [.ref v1]) (rest := []) (k := 1) (ci := 2) hx hb hml hown hKK hH cf2 k3 (m_X2_think v0 v1 _ _ hw) cw_X2_29 ⟨Nat.le_of_ble_eq_true rfl, Nat.le_of_ble_eq_true rfl⟩ rfl hl.1 rfl (Nat.le_of_ble_eq_true rfl) ⟨Nat.le_of_ble_eq_true rfl, Nat.le_of_ble_eq_true rfl⟩ dX2_playGames_22 (fun r5 h4 H locs hH hw => ?_)
      refine lv_pop hx hb dX2_playGames_25 rfl ?_
      refine lv_aload_n hx hb dX2_playGames_26 rfl (lv_at hl 0 rfl) ?_
      refine hv_cVV (rm := rm_X2_scatterHeads) (As := []) (rest := []) (k := 0) (ci := 2) hx hb hml hown hKK hH cf2 k3 (m_X2_scatterHeads v0 _ _ hw) cw_X2_114 ⟨Nat.le_of_ble_eq_true rfl, Nat.le_of_ble_eq_true rfl⟩ rfl hl.1 rfl (Nat.le_of_ble_eq_true rfl) ⟨Nat.le_of_ble_eq_true rfl, Nat.le_of_ble_eq_true rfl⟩ dX2_playGames_27 (fun h6 H locs hH hw => ?_)
      refine lv_aload_n hx hb dX2_playGames_30 rfl (lv_at hl 0 rfl) ?_
      refine hv_get (ci := 2) (k := 0) (v := .ref (S.2 v0 0)) hx hb hown hKK hH cf2 (by decide) fl_X2_12 rfl k3 rfl dX2_playGames_31 ?_
      refine lv_bipush (v := (nI 12)) hx hb dX2_playGames_34 (by decide) ?_
      obtain ⟨k7, hw⟩ := hw
      refine hv_cVV (rm := rm_X1_passNights) (As := [.int (nI 12)]) (rest := []) (k := 1) (ci := 1) hx hb hml hown hKK hH cf1 k7 (m_X1_passNights (S.2 v0 0) (nI 12) _ _ hw) cw_X2_33 ⟨Nat.le_of_ble_eq_true rfl, Nat.le_of_ble_eq_true rfl⟩ rfl hl.1 rfl (Nat.le_of_ble_eq_true rfl) ⟨Nat.le_of_ble_eq_true rfl, Nat.le_of_ble_eq_true rfl⟩ dX2_playGames_36 (fun h8 H locs hH hw => ?_)
      refine lv_iload hx hb dX2_playGames_39 (lv_at hl 4 rfl) ?_
      refine lv_aload_n hx hb dX2_playGames_41 rfl (lv_at hl 0 rfl) ?_
      refine hv_get (ci := 2) (k := 0) (v := .ref (S.2 v0 0)) hx hb hown hKK hH cf2 (by decide) fl_X2_12 rfl k3 rfl dX2_playGames_42 ?_
      refine hv_getN (ci := 1) (k := 6) (v := .int (h8 (S.2 v0 0) 6)) hx hb hown hKK hH cf1 (by decide) fl_X2_117 rfl k7 rfl dX2_playGames_45 ?_
      refine lv_aload_n hx hb dX2_playGames_48 rfl (lv_at hl 1 rfl) ?_
      obtain ⟨k9, hw⟩ := hw
      refine hv_getN (ci := 1) (k := 6) (v := .int (h8 v1 6)) hx hb hown hKK hH cf1 (by decide) fl_X2_117 rfl k9 rfl dX2_playGames_49 ?_
      refine lv_isub hx hb dX2_playGames_52 ?_
      refine lv_iadd hx hb dX2_playGames_53 ?_
      refine lv_istore (lv' := [(5, .int (v5 + ((h8 (S.2 v0 0) 6) - (h8 v1 6)))), (0, .ref v0), (1, .ref v1), (2, .int v2), (4, .int v4), (6, .int v6), (7, .int v7)]) hx hb dX2_playGames_54 hl (by decide) rfl (fun ls hl => ?_)
      refine lv_iload hx hb dX2_playGames_56 (lv_at hl 5 rfl) ?_
      refine lv_aload_n hx hb dX2_playGames_58 rfl (lv_at hl 1 rfl) ?_
      refine hv_get (ci := 2) (k := 0) (v := .ref (S.2 v0 0)) hx hb hown hKK hH cf2 (by decide) fl_X2_12 rfl k3 rfl dX2_playGames_59 ?_
      refine hv_cVI (rm := rm_X1_settledBits) (As := []) (rest := [.int v6]) (k := 0) (ci := 1) hx hb hml hown hKK hH cf1 k7 (m_X1_settledBits (S.2 v0 0) _ _ hw) cw_X2_51 ⟨Nat.le_of_ble_eq_true rfl, Nat.le_of_ble_eq_true rfl⟩ rfl hl.1 rfl (Nat.le_of_ble_eq_true rfl) ⟨Nat.le_of_ble_eq_true rfl, Nat.le_of_ble_eq_true rfl⟩ dX2_playGames_62 (fun r11 h10 H locs hH hw => ?_)
      refine hv_cSI (rm := rm_J6_bitCount_0f7a4) (As := [.int r11]) (rest := [.int v6]) (k := 1) hx hb hml hown hKK hH (m_J6_bitCount_0f7a4 r11 _ _ hw) cw_X2_120 ⟨Nat.le_of_ble_eq_true rfl, Nat.le_of_ble_eq_true rfl⟩ rfl hl.1 rfl (Nat.le_of_ble_eq_true rfl) ⟨Nat.le_of_ble_eq_true rfl, Nat.le_of_ble_eq_true rfl⟩ dX2_playGames_65 (fun r13 h12 H locs hH hw => ?_)
      refine lv_aload_n hx hb dX2_playGames_68 rfl (lv_at hl 2 rfl) ?_
      refine hv_cVI (rm := rm_X1_settledBits) (As := []) (rest := [.int r13, .int v6]) (k := 0) (ci := 1) hx hb hml hown hKK hH cf1 k9 (m_X1_settledBits v1 _ _ hw) cw_X2_51 ⟨Nat.le_of_ble_eq_true rfl, Nat.le_of_ble_eq_true rfl⟩ rfl hl.1 rfl (Nat.le_of_ble_eq_true rfl) ⟨Nat.le_of_ble_eq_true rfl, Nat.le_of_ble_eq_true rfl⟩ dX2_playGames_69 (fun r15 h14 H locs hH hw => ?_)
      refine hv_cSI (rm := rm_J6_bitCount_0f7a4) (As := [.int r15]) (rest := [.int r13, .int v6]) (k := 1) hx hb hml hown hKK hH (m_J6_bitCount_0f7a4 r15 _ _ hw) cw_X2_120 ⟨Nat.le_of_ble_eq_true rfl, Nat.le_of_ble_eq_true rfl⟩ rfl hl.1 rfl (Nat.le_of_ble_eq_true rfl) ⟨Nat.le_of_ble_eq_true rfl, Nat.le_of_ble_eq_true rfl⟩ dX2_playGames_72 (fun r17 h16 H locs hH hw => ?_)
      refine lv_isub hx hb dX2_playGames_75 ?_
      refine lv_iadd hx hb dX2_playGames_76 ?_
      refine lv_istore (lv' := [(6, .int (v6 + (r13 - r17))), (5, .int (v5 + ((h8 (S.2 v0 0) 6) - (h8 v1 6)))), (0, .ref v0), (1, .ref v1), (2, .int v2), (4, .int v4), (7, .int v7)]) hx hb dX2_playGames_77 hl (by decide) rfl (fun ls hl => ?_)
      refine lv_iinc (v := v7 + (nI 1)) (lv' := [(7, .int (v7 + (nI 1))), (6, .int (v6 + (r13 - r17))), (5, .int (v5 + ((h8 (S.2 v0 0) 6) - (h8 v1 6)))), (0, .ref v0), (1, .ref v1), (2, .int v2), (4, .int v4)]) hx hb dX2_playGames_79 hl (k := 6) rfl rfl (by decide) rfl (fun ls hl => ?_)
      refine lv_goto (tgt := 14) hx hb dX2_playGames_82 (by decide) ?_
      exact hK14 _ _ _ _ H locs ls hH (lv_sub hl [3, 4, 5, 6, 2, 1, 0] rfl) hw
  unfold w_X2_playGames at hw
  show W p l e rm_X2_playGames s m args below meth c H [] 0 0 (QI G B S sz below args s Q) (F0 m 0 ls [])
  generalize ([] : List Loc) = locs at hH ⊢
  refine lv_iconst (v := (nI 0)) hx hb dX2_playGames_0 (by decide) ?_
  refine lv_istore (lv' := [(5, .int (nI 0)), (0, .ref v0), (1, .ref v1), (2, .int v2), (3, .int v3), (4, .int v4)]) hx hb dX2_playGames_1 hl (by decide) rfl (fun ls hl => ?_)
  refine lv_iconst (v := (nI 0)) hx hb dX2_playGames_3 (by decide) ?_
  refine lv_istore (lv' := [(6, .int (nI 0)), (5, .int (nI 0)), (0, .ref v0), (1, .ref v1), (2, .int v2), (3, .int v3), (4, .int v4)]) hx hb dX2_playGames_4 hl (by decide) rfl (fun ls hl => ?_)
  refine lv_aload_n hx hb dX2_playGames_6 rfl (lv_at hl 2 rfl) ?_
  refine lv_iload_n hx hb dX2_playGames_7 rfl (lv_at hl 5 rfl) ?_
  obtain ⟨k1, hw⟩ := hw
  refine hv_put (ci := 2) (k := 3) hx hb hown hKK hH cf2 (by decide) fl_X2_111 rfl rfl rfl k1 rfl rfl dX2_playGames_8 (fun H locs hH => ?_)
  refine lv_iconst (v := (nI 0)) hx hb dX2_playGames_11 (by decide) ?_
  refine lv_istore (lv' := [(7, .int (nI 0)), (6, .int (nI 0)), (5, .int (nI 0)), (0, .ref v0), (1, .ref v1), (2, .int v2), (3, .int v3), (4, .int v4)]) hx hb dX2_playGames_12 hl (by decide) rfl (fun ls hl => ?_)
  exact c14 _ _ _ _ _ _ _ _ H locs ls hH (lv_sub hl [3, 4, 5, 7, 2, 1, 0] rfl) hw
abbrev rm_X3_keep : Room := { frames := 4, cells := 0, slots := 0, locals := 124 }
set_option maxHeartbeats 4000000 in
set_option maxRecDepth 100000 in
theorem m_X3_keep {l : Launch} {G : Gl} {B sz : Nat} {S : St} (v0 : Nat) (v1 : Nat) (h : Hp) (Q : Hp → Prop) (hw : w_X3_keep S v0 v1 h Q) : MV l G B sz S yX3_keep cX3_keep 2 rm_X3_keep [.ref v0, .ref v1] h Q := by
  refine met_of rfl rfl ?_
  intro p e s m args below meth c hMB H ls hH hl
  obtain ⟨hx, hb, hml, hown, hKK, hr, hlk⟩ := hMB
  replace hl : lv_has ls 2 [(0, .ref v0), (1, .ref v1)] := hl
  unfold w_X3_keep at hw
  show W p l e rm_X3_keep s m args below meth c H [] 0 0 (QV G B S sz below args s Q) (F0 m 0 ls [])
  generalize ([] : List Loc) = locs at hH ⊢
  refine lv_aload_n hx hb dX3_keep_0 rfl (lv_at hl 0 rfl) ?_
  obtain ⟨k1, hw⟩ := hw
  refine hv_get (ci := 3) (k := 0) (v := .ref (S.2 v0 0)) hx hb hown hKK hH cf3 (by decide) fl_X3_11 rfl k1 rfl dX3_keep_1 ?_
  refine lv_aload_n hx hb dX3_keep_4 rfl (lv_at hl 0 rfl) ?_
  refine hv_get (ci := 3) (k := 1) (v := .int (h v0 1)) hx hb hown hKK hH cf3 (by decide) fl_X3_16 rfl k1 rfl dX3_keep_5 ?_
  obtain ⟨k2, hw⟩ := hw
  refine hv_aald (t := 2) hx hb (by decide) hKK hH k2 dX3_keep_8 ?_
  refine lv_aload_n hx hb dX3_keep_9 rfl (lv_at hl 1 rfl) ?_
  obtain ⟨k3, hw⟩ := hw
  refine hv_cVV (rm := rm_X1_copy) (As := [.ref v1]) (rest := []) (k := 1) (ci := 1) hx hb hml hown hKK hH cf1 k3 (m_X1_copy (S.2 (S.2 v0 0) (ix (h v0 1))) v1 _ _ hw) cw_X3_20 ⟨Nat.le_of_ble_eq_true rfl, Nat.le_of_ble_eq_true rfl⟩ rfl hl.1 rfl (Nat.le_of_ble_eq_true rfl) ⟨Nat.le_of_ble_eq_true rfl, Nat.le_of_ble_eq_true rfl⟩ dX3_keep_10 (fun h4 H locs hH hw => ?_)
  refine lv_aload_n hx hb dX3_keep_13 rfl (lv_at hl 0 rfl) ?_
  refine lv_aload_n hx hb dX3_keep_14 rfl (lv_at hl 0 rfl) ?_
  refine hv_get (ci := 3) (k := 1) (v := .int (h4 v0 1)) hx hb hown hKK hH cf3 (by decide) fl_X3_16 rfl k1 rfl dX3_keep_15 ?_
  refine lv_iconst (v := (nI 1)) hx hb dX3_keep_18 (by decide) ?_
  refine lv_iadd hx hb dX3_keep_19 ?_
  refine lv_bipush (v := (nI 8)) hx hb dX3_keep_20 (by decide) ?_
  refine lv_irem hx hb dX3_keep_22 (by decide) ?_
  refine hv_put (ci := 3) (k := 1) hx hb hown hKK hH cf3 (by decide) fl_X3_16 rfl rfl rfl k1 rfl rfl dX3_keep_23 (fun H locs hH => ?_)
  refine lv_aload_n hx hb dX3_keep_26 rfl (lv_at hl 0 rfl) ?_
  refine lv_aload_n hx hb dX3_keep_27 rfl (lv_at hl 0 rfl) ?_
  refine hv_get (ci := 3) (k := 2) (v := .int ((up h4 v0 1 (irem ((h4 v0 1) + (nI 1)) (nI 8))) v0 2)) hx hb hown hKK hH cf3 (by decide) fl_X3_24 rfl k1 rfl dX3_keep_28 ?_
  refine lv_iconst (v := (nI 1)) hx hb dX3_keep_31 (by decide) ?_
  refine lv_iadd hx hb dX3_keep_32 ?_
  refine lv_bipush (v := (nI 8)) hx hb dX3_keep_33 (by decide) ?_
  refine va_mmin hx hb (hml.trans hl.1.symm) hown (hKK.use ml_X3_27 rfl _) (hKK.use ml_min rfl _) (hKK.use ml_math rfl _) (hKK.use ml_min_c rfl _) (Nat.le_of_ble_eq_true rfl) (Nat.le_of_ble_eq_true rfl) (Nat.le_of_ble_eq_true rfl) (Nat.le_of_ble_eq_true rfl) dX3_keep_35 ?_
  refine hv_put (ci := 3) (k := 2) hx hb hown hKK hH cf3 (by decide) fl_X3_24 rfl rfl rfl k1 rfl rfl dX3_keep_38 (fun H locs hH => ?_)
  exact hv_vret hx hb hr hlk hH hw dX3_keep_41
abbrev rm_X3_takeBack : Room := { frames := 4, cells := 0, slots := 0, locals := 124 }
set_option maxHeartbeats 4000000 in
set_option maxRecDepth 100000 in
theorem m_X3_takeBack {l : Launch} {G : Gl} {B sz : Nat} {S : St} (v0 : Nat) (v1 : Nat) (h : Hp) (Q : Hp → Prop) (hw : w_X3_takeBack S v0 v1 h Q) : MV l G B sz S yX3_takeBack cX3_takeBack 2 rm_X3_takeBack [.ref v0, .ref v1] h Q := by
  refine met_of rfl rfl ?_
  intro p e s m args below meth c hMB H ls hH hl
  obtain ⟨hx, hb, hml, hown, hKK, hr, hlk⟩ := hMB
  replace hl : lv_has ls 2 [(0, .ref v0), (1, .ref v1)] := hl
  unfold w_X3_takeBack at hw
  show W p l e rm_X3_takeBack s m args below meth c H [] 0 0 (QV G B S sz below args s Q) (F0 m 0 ls [])
  generalize ([] : List Loc) = locs at hH ⊢
  refine lv_aload_n hx hb dX3_takeBack_0 rfl (lv_at hl 0 rfl) ?_
  obtain ⟨k1, hw⟩ := hw
  refine hv_get (ci := 3) (k := 2) (v := .int (h v0 2)) hx hb hown hKK hH cf3 (by decide) fl_X3_24 rfl k1 rfl dX3_takeBack_1 ?_
  refine lv_if_le (tgt := 46) hx hb dX3_takeBack_4 (by decide) (fun c2 => ?_) (fun c2 => ?_)
  · have hw := ite_t hw c2
    exact hv_vret hx hb hr hlk hH hw dX3_takeBack_46
  · have hw := ite_f hw c2
    refine lv_aload_n hx hb dX3_takeBack_7 rfl (lv_at hl 0 rfl) ?_
    refine lv_aload_n hx hb dX3_takeBack_8 rfl (lv_at hl 0 rfl) ?_
    refine hv_get (ci := 3) (k := 1) (v := .int (h v0 1)) hx hb hown hKK hH cf3 (by decide) fl_X3_16 rfl k1 rfl dX3_takeBack_9 ?_
    refine lv_bipush (v := (nI 8)) hx hb dX3_takeBack_12 (by decide) ?_
    refine lv_iadd hx hb dX3_takeBack_14 ?_
    refine lv_iconst (v := (nI 1)) hx hb dX3_takeBack_15 (by decide) ?_
    refine lv_isub hx hb dX3_takeBack_16 ?_
    refine lv_bipush (v := (nI 8)) hx hb dX3_takeBack_17 (by decide) ?_
    refine lv_irem hx hb dX3_takeBack_19 (by decide) ?_
    refine hv_put (ci := 3) (k := 1) hx hb hown hKK hH cf3 (by decide) fl_X3_16 rfl rfl rfl k1 rfl rfl dX3_takeBack_20 (fun H locs hH => ?_)
    refine lv_aload_n hx hb dX3_takeBack_23 rfl (lv_at hl 1 rfl) ?_
    refine lv_aload_n hx hb dX3_takeBack_24 rfl (lv_at hl 0 rfl) ?_
    refine hv_get (ci := 3) (k := 0) (v := .ref (S.2 v0 0)) hx hb hown hKK hH cf3 (by decide) fl_X3_11 rfl k1 rfl dX3_takeBack_25 ?_
    refine lv_aload_n hx hb dX3_takeBack_28 rfl (lv_at hl 0 rfl) ?_
    refine hv_get (ci := 3) (k := 1) (v := .int ((up h v0 1 (irem (((h v0 1) + (nI 8)) - (nI 1)) (nI 8))) v0 1)) hx hb hown hKK hH cf3 (by decide) fl_X3_16 rfl k1 rfl dX3_takeBack_29 ?_
    obtain ⟨k3, hw⟩ := hw
    refine hv_aald (t := 2) hx hb (by decide) hKK hH k3 dX3_takeBack_32 ?_
    obtain ⟨k4, hw⟩ := hw
    refine hv_cVV (rm := rm_X1_copy) (As := [.ref (S.2 (S.2 v0 0) (ix ((up h v0 1 (irem (((h v0 1) + (nI 8)) - (nI 1)) (nI 8))) v0 1)))]) (rest := []) (k := 1) (ci := 1) hx hb hml hown hKK hH cf1 k4 (m_X1_copy v1 (S.2 (S.2 v0 0) (ix ((up h v0 1 (irem (((h v0 1) + (nI 8)) - (nI 1)) (nI 8))) v0 1))) _ _ hw) cw_X3_20 ⟨Nat.le_of_ble_eq_true rfl, Nat.le_of_ble_eq_true rfl⟩ rfl hl.1 rfl (Nat.le_of_ble_eq_true rfl) ⟨Nat.le_of_ble_eq_true rfl, Nat.le_of_ble_eq_true rfl⟩ dX3_takeBack_33 (fun h5 H locs hH hw => ?_)
    refine lv_aload_n hx hb dX3_takeBack_36 rfl (lv_at hl 0 rfl) ?_
    refine lv_dup hx hb dX3_takeBack_37 rfl ?_
    refine hv_get (ci := 3) (k := 2) (v := .int (h5 v0 2)) hx hb hown hKK hH cf3 (by decide) fl_X3_24 rfl k1 rfl dX3_takeBack_38 ?_
    refine lv_iconst (v := (nI 1)) hx hb dX3_takeBack_41 (by decide) ?_
    refine lv_isub hx hb dX3_takeBack_42 ?_
    refine hv_put (ci := 3) (k := 2) hx hb hown hKK hH cf3 (by decide) fl_X3_24 rfl rfl rfl k1 rfl rfl dX3_takeBack_43 (fun H locs hH => ?_)
    exact hv_vret hx hb hr hlk hH hw dX3_takeBack_46
abbrev rm_X3_forget : Room := { frames := 0, cells := 0, slots := 0, locals := 0 }
set_option maxHeartbeats 4000000 in
set_option maxRecDepth 100000 in
theorem m_X3_forget {l : Launch} {G : Gl} {B sz : Nat} {S : St} (v0 : Nat) (h : Hp) (Q : Hp → Prop) (hw : w_X3_forget S v0 h Q) : MV l G B sz S yX3_forget cX3_forget 1 rm_X3_forget [.ref v0] h Q := by
  refine met_of rfl rfl ?_
  intro p e s m args below meth c hMB H ls hH hl
  obtain ⟨hx, hb, hml, hown, hKK, hr, hlk⟩ := hMB
  replace hl : lv_has ls 1 [(0, .ref v0)] := hl
  unfold w_X3_forget at hw
  show W p l e rm_X3_forget s m args below meth c H [] 0 0 (QV G B S sz below args s Q) (F0 m 0 ls [])
  generalize ([] : List Loc) = locs at hH ⊢
  refine lv_aload_n hx hb dX3_forget_0 rfl (lv_at hl 0 rfl) ?_
  refine lv_iconst (v := (nI 0)) hx hb dX3_forget_1 (by decide) ?_
  obtain ⟨k1, hw⟩ := hw
  refine hv_put (ci := 3) (k := 2) hx hb hown hKK hH cf3 (by decide) fl_X3_24 rfl rfl rfl k1 rfl rfl dX3_forget_2 (fun H locs hH => ?_)
  exact hv_vret hx hb hr hlk hH hw dX3_forget_5
abbrev rm_X4_isFull : Room := { frames := 0, cells := 0, slots := 0, locals := 0 }
set_option maxHeartbeats 4000000 in
set_option maxRecDepth 100000 in
theorem m_X4_isFull {l : Launch} {G : Gl} {B sz : Nat} {S : St} (v0 : Nat) (h : Hp) (Q : Int32 → Hp → Prop) (hw : w_X4_isFull S v0 h Q) : MI l G B sz S yX4_isFull cX4_isFull 1 .boolean rm_X4_isFull [.ref v0] h Q := by
  refine met_of rfl rfl ?_
  intro p e s m args below meth c hMB H ls hH hl
  obtain ⟨hx, hb, hml, hown, hKK, hr, hlk⟩ := hMB
  replace hl : lv_has ls 1 [(0, .ref v0)] := hl
  unfold w_X4_isFull at hw
  show W p l e rm_X4_isFull s m args below meth c H [] 0 0 (QI G B S sz below args s Q) (F0 m 0 ls [])
  generalize ([] : List Loc) = locs at hH ⊢
  refine lv_aload_n hx hb dX4_isFull_0 rfl (lv_at hl 0 rfl) ?_
  obtain ⟨k1, hw⟩ := hw
  refine hv_get (ci := 4) (k := 1) (v := .int (h v0 1)) hx hb hown hKK hH cf4 (by decide) fl_X4_21 rfl k1 rfl dX4_isFull_1 ?_
  refine lv_bipush (v := (nI 96)) hx hb dX4_isFull_4 (by decide) ?_
  refine lv_icmp_lt (tgt := 13) hx hb dX4_isFull_6 (by decide) (fun c2 => ?_) (fun c2 => ?_)
  · have hw := ite_t hw c2
    refine lv_iconst (v := (nI 0)) hx hb dX4_isFull_13 (by decide) ?_
    exact hv_zret hx hb hr hlk hH (Or.inl rfl) hw dX4_isFull_14
  · have hw := ite_f hw c2
    refine lv_iconst (v := (nI 1)) hx hb dX4_isFull_9 (by decide) ?_
    refine lv_goto (tgt := 14) hx hb dX4_isFull_10 (by decide) ?_
    exact hv_zret hx hb hr hlk hH (Or.inr rfl) hw dX4_isFull_14
abbrev rm_X4_addLetter : Room := { frames := 1, cells := 0, slots := 0, locals := 20 }
set_option maxHeartbeats 4000000 in
set_option maxRecDepth 100000 in
theorem m_X4_addLetter {l : Launch} {G : Gl} {B sz : Nat} {S : St} (v0 : Nat) (v1 : Int32) (h : Hp) (Q : Int32 → Hp → Prop) (hw : w_X4_addLetter S v0 v1 h Q) : MI l G B sz S yX4_addLetter cX4_addLetter 2 .int rm_X4_addLetter [.ref v0, .int v1] h Q := by
  refine met_of rfl rfl ?_
  intro p e s m args below meth c hMB H ls hH hl
  obtain ⟨hx, hb, hml, hown, hKK, hr, hlk⟩ := hMB
  replace hl : lv_has ls 2 [(0, .ref v0), (1, .int v1)] := hl
  unfold w_X4_addLetter at hw
  show W p l e rm_X4_addLetter s m args below meth c H [] 0 0 (QI G B S sz below args s Q) (F0 m 0 ls [])
  generalize ([] : List Loc) = locs at hH ⊢
  refine lv_aload_n hx hb dX4_addLetter_0 rfl (lv_at hl 0 rfl) ?_
  obtain ⟨k1, hw⟩ := hw
  refine hv_cVI (rm := rm_X4_isFull) (As := []) (rest := []) (k := 0) (ci := 4) hx hb hml hown hKK hH cf4 k1 (m_X4_isFull v0 _ _ hw) cw_X4_25 ⟨Nat.le_of_ble_eq_true rfl, Nat.le_of_ble_eq_true rfl⟩ rfl hl.1 rfl (Nat.le_of_ble_eq_true rfl) ⟨Nat.le_of_ble_eq_true rfl, Nat.le_of_ble_eq_true rfl⟩ dX4_addLetter_1 (fun r3 h2 H locs hH hw => ?_)
  refine lv_if_ne (tgt := 27) hx hb dX4_addLetter_4 (by decide) (fun c4 => ?_) (fun c4 => ?_)
  · have hw := ite_f hw c4
    refine lv_aload_n hx hb dX4_addLetter_27 rfl (lv_at hl 0 rfl) ?_
    refine hv_get (ci := 4) (k := 1) (v := .int (h2 v0 1)) hx hb hown hKK hH cf4 (by decide) fl_X4_21 rfl k1 rfl dX4_addLetter_28 ?_
    exact hv_iret hx hb hr hlk hH hw dX4_addLetter_31
  · have hw := ite_t hw c4
    refine lv_aload_n hx hb dX4_addLetter_7 rfl (lv_at hl 0 rfl) ?_
    refine hv_get (ci := 4) (k := 0) (v := .ref (S.2 v0 0)) hx hb hown hKK hH cf4 (by decide) fl_X4_11 rfl k1 rfl dX4_addLetter_8 ?_
    refine lv_aload_n hx hb dX4_addLetter_11 rfl (lv_at hl 0 rfl) ?_
    refine hv_get (ci := 4) (k := 1) (v := .int (h2 v0 1)) hx hb hown hKK hH cf4 (by decide) fl_X4_21 rfl k1 rfl dX4_addLetter_12 ?_
    refine lv_iload_n hx hb dX4_addLetter_15 rfl (lv_at hl 1 rfl) ?_
    obtain ⟨k5, hw⟩ := hw
    refine hv_iast hx hb hKK hH k5 dX4_addLetter_16 (fun H locs hH => ?_)
    refine lv_aload_n hx hb dX4_addLetter_17 rfl (lv_at hl 0 rfl) ?_
    refine lv_dup hx hb dX4_addLetter_18 rfl ?_
    refine hv_get (ci := 4) (k := 1) (v := .int ((up h2 (S.2 v0 0) (ix (h2 v0 1)) v1) v0 1)) hx hb hown hKK hH cf4 (by decide) fl_X4_21 rfl k1 rfl dX4_addLetter_19 ?_
    refine lv_iconst (v := (nI 1)) hx hb dX4_addLetter_22 (by decide) ?_
    refine lv_iadd hx hb dX4_addLetter_23 ?_
    refine hv_put (ci := 4) (k := 1) hx hb hown hKK hH cf4 (by decide) fl_X4_21 rfl rfl rfl k1 rfl rfl dX4_addLetter_24 (fun H locs hH => ?_)
    refine lv_aload_n hx hb dX4_addLetter_27 rfl (lv_at hl 0 rfl) ?_
    refine hv_get (ci := 4) (k := 1) (v := .int ((up (up h2 (S.2 v0 0) (ix (h2 v0 1)) v1) v0 1 (((up h2 (S.2 v0 0) (ix (h2 v0 1)) v1) v0 1) + (nI 1))) v0 1)) hx hb hown hKK hH cf4 (by decide) fl_X4_21 rfl k1 rfl dX4_addLetter_28 ?_
    exact hv_iret hx hb hr hlk hH hw dX4_addLetter_31
abbrev rm_X4_forget : Room := { frames := 0, cells := 0, slots := 0, locals := 0 }
set_option maxHeartbeats 4000000 in
set_option maxRecDepth 100000 in
theorem m_X4_forget {l : Launch} {G : Gl} {B sz : Nat} {S : St} (v0 : Nat) (h : Hp) (Q : Hp → Prop) (hw : w_X4_forget S v0 h Q) : MV l G B sz S yX4_forget cX4_forget 1 rm_X4_forget [.ref v0] h Q := by
  refine met_of rfl rfl ?_
  intro p e s m args below meth c hMB H ls hH hl
  obtain ⟨hx, hb, hml, hown, hKK, hr, hlk⟩ := hMB
  replace hl : lv_has ls 1 [(0, .ref v0)] := hl
  unfold w_X4_forget at hw
  show W p l e rm_X4_forget s m args below meth c H [] 0 0 (QV G B S sz below args s Q) (F0 m 0 ls [])
  generalize ([] : List Loc) = locs at hH ⊢
  refine lv_aload_n hx hb dX4_forget_0 rfl (lv_at hl 0 rfl) ?_
  refine lv_iconst (v := (nI 0)) hx hb dX4_forget_1 (by decide) ?_
  obtain ⟨k1, hw⟩ := hw
  refine hv_put (ci := 4) (k := 1) hx hb hown hKK hH cf4 (by decide) fl_X4_21 rfl rfl rfl k1 rfl rfl dX4_forget_2 (fun H locs hH => ?_)
  exact hv_vret hx hb hr hlk hH hw dX4_forget_5
abbrev rm_X4_isLetter : Room := { frames := 0, cells := 0, slots := 0, locals := 0 }
set_option maxHeartbeats 4000000 in
set_option maxRecDepth 100000 in
theorem m_X4_isLetter {l : Launch} {G : Gl} {B sz : Nat} {S : St} (v0 : Int32) (h : Hp) (Q : Int32 → Hp → Prop) (hw : w_X4_isLetter S v0 h Q) : MI l G B sz S yX4_isLetter cX4_isLetter 1 .boolean rm_X4_isLetter [.int v0] h Q := by
  refine met_of rfl rfl ?_
  intro p e s m args below meth c hMB H ls hH hl
  obtain ⟨hx, hb, hml, hown, hKK, hr, hlk⟩ := hMB
  replace hl : lv_has ls 1 [(0, .int v0)] := hl
  unfold w_X4_isLetter at hw
  show W p l e rm_X4_isLetter s m args below meth c H [] 0 0 (QI G B S sz below args s Q) (F0 m 0 ls [])
  generalize ([] : List Loc) = locs at hH ⊢
  refine lv_iload_n hx hb dX4_isLetter_0 rfl (lv_at hl 0 rfl) ?_
  refine lv_bipush (v := (nI 97)) hx hb dX4_isLetter_1 (by decide) ?_
  refine lv_icmp_lt (tgt := 16) hx hb dX4_isLetter_3 (by decide) (fun c1 => ?_) (fun c1 => ?_)
  · have hw := ite_t hw c1
    refine lv_iconst (v := (nI 0)) hx hb dX4_isLetter_16 (by decide) ?_
    exact hv_zret hx hb hr hlk hH (Or.inl rfl) hw dX4_isLetter_17
  · have hw := ite_f hw c1
    refine lv_iload_n hx hb dX4_isLetter_6 rfl (lv_at hl 0 rfl) ?_
    refine lv_bipush (v := (nI 122)) hx hb dX4_isLetter_7 (by decide) ?_
    refine lv_icmp_gt (tgt := 16) hx hb dX4_isLetter_9 (by decide) (fun c2 => ?_) (fun c2 => ?_)
    · have hw := ite_t hw c2
      refine lv_iconst (v := (nI 0)) hx hb dX4_isLetter_16 (by decide) ?_
      exact hv_zret hx hb hr hlk hH (Or.inl rfl) hw dX4_isLetter_17
    · have hw := ite_f hw c2
      refine lv_iconst (v := (nI 1)) hx hb dX4_isLetter_12 (by decide) ?_
      refine lv_goto (tgt := 17) hx hb dX4_isLetter_13 (by decide) ?_
      exact hv_zret hx hb hr hlk hH (Or.inr rfl) hw dX4_isLetter_17
abbrev rm_X4_isDigit : Room := { frames := 0, cells := 0, slots := 0, locals := 0 }
set_option maxHeartbeats 4000000 in
set_option maxRecDepth 100000 in
theorem m_X4_isDigit {l : Launch} {G : Gl} {B sz : Nat} {S : St} (v0 : Int32) (h : Hp) (Q : Int32 → Hp → Prop) (hw : w_X4_isDigit S v0 h Q) : MI l G B sz S yX4_isDigit cX4_isDigit 1 .boolean rm_X4_isDigit [.int v0] h Q := by
  refine met_of rfl rfl ?_
  intro p e s m args below meth c hMB H ls hH hl
  obtain ⟨hx, hb, hml, hown, hKK, hr, hlk⟩ := hMB
  replace hl : lv_has ls 1 [(0, .int v0)] := hl
  unfold w_X4_isDigit at hw
  show W p l e rm_X4_isDigit s m args below meth c H [] 0 0 (QI G B S sz below args s Q) (F0 m 0 ls [])
  generalize ([] : List Loc) = locs at hH ⊢
  refine lv_iload_n hx hb dX4_isDigit_0 rfl (lv_at hl 0 rfl) ?_
  refine lv_bipush (v := (nI 48)) hx hb dX4_isDigit_1 (by decide) ?_
  refine lv_icmp_lt (tgt := 16) hx hb dX4_isDigit_3 (by decide) (fun c1 => ?_) (fun c1 => ?_)
  · have hw := ite_t hw c1
    refine lv_iconst (v := (nI 0)) hx hb dX4_isDigit_16 (by decide) ?_
    exact hv_zret hx hb hr hlk hH (Or.inl rfl) hw dX4_isDigit_17
  · have hw := ite_f hw c1
    refine lv_iload_n hx hb dX4_isDigit_6 rfl (lv_at hl 0 rfl) ?_
    refine lv_bipush (v := (nI 57)) hx hb dX4_isDigit_7 (by decide) ?_
    refine lv_icmp_gt (tgt := 16) hx hb dX4_isDigit_9 (by decide) (fun c2 => ?_) (fun c2 => ?_)
    · have hw := ite_t hw c2
      refine lv_iconst (v := (nI 0)) hx hb dX4_isDigit_16 (by decide) ?_
      exact hv_zret hx hb hr hlk hH (Or.inl rfl) hw dX4_isDigit_17
    · have hw := ite_f hw c2
      refine lv_iconst (v := (nI 1)) hx hb dX4_isDigit_12 (by decide) ?_
      refine lv_goto (tgt := 17) hx hb dX4_isDigit_13 (by decide) ?_
      exact hv_zret hx hb hr hlk hH (Or.inr rfl) hw dX4_isDigit_17
abbrev rm_X4_placeOfBadForm : Room := { frames := 1, cells := 0, slots := 0, locals := 20 }
set_option maxHeartbeats 4000000 in
set_option maxRecDepth 100000 in
theorem m_X4_placeOfBadForm {l : Launch} {G : Gl} {B sz : Nat} {S : St} (v0 : Nat) (h : Hp) (Q : Int32 → Hp → Prop) (hw : w_X4_placeOfBadForm S v0 h Q) : MI l G B sz S yX4_placeOfBadForm cX4_placeOfBadForm 6 .int rm_X4_placeOfBadForm [.ref v0] h Q := by
  refine met_of rfl rfl ?_
  intro p e s m args below meth c hMB H ls hH hl
  obtain ⟨hx, hb, hml, hown, hKK, hr, hlk⟩ := hMB
  replace hl : lv_has ls 6 [(0, .ref v0)] := hl
  have c90 : ∀ (v0 : Nat) (P9 : Int32 → Int32 → Int32 → Int32 → Hp → Prop) (_ : ∀ (v1 : Int32) (v2 : Int32) (v3 : Int32) (v4 : Int32) (h : Hp) (H : Heap) (locs : List Loc) (ls : Array Slot), HH G B S h sz s H locs → lv_has ls 6 [(0, .ref v0), (1, .int v1), (2, .int v2), (3, .int v3), (4, .int v4)] → P9 v1 v2 v3 v4 h → W p l e rm_X4_placeOfBadForm s m args below meth c H locs 0 0 (QI G B S sz below args s Q) (F0 m 9 ls [])) (v1 : Int32) (v2 : Int32) (v3 : Int32) (v4 : Int32) (v5 : Int32) (h : Hp) (H : Heap) (locs : List Loc) (ls : Array Slot), HH G B S h sz s H locs → lv_has ls 6 [(0, .ref v0), (1, .int v1), (2, .int v2), (3, .int v3), (4, .int v4), (5, .int v5)] → w_X4_placeOfBadForm_c90 S v0 v1 v2 v3 v4 v5 h Q P9 → W p l e rm_X4_placeOfBadForm s m args below meth c H locs 0 0 (QI G B S sz below args s Q) (F0 m 90 ls []) := by
    intro v0 P9 hK9 v1 v2 v3 v4 v5 h H locs ls hH hl hw
    unfold w_X4_placeOfBadForm_c90 at hw
    refine lv_iload hx hb dX4_placeOfBadForm_90 (lv_at hl 5 rfl) ?_
    refine lv_bipush (v := (nI 32)) hx hb dX4_placeOfBadForm_92 (by decide) ?_
    refine lv_icmp_ne (tgt := 114) hx hb dX4_placeOfBadForm_94 (by decide) (fun c1 => ?_) (fun c1 => ?_)
    · have hw := ite_f hw c1
      refine lv_iload hx hb dX4_placeOfBadForm_114 (lv_at hl 5 rfl) ?_
      refine lv_bipush (v := (nI 59)) hx hb dX4_placeOfBadForm_116 (by decide) ?_
      refine lv_icmp_ne (tgt := 136) hx hb dX4_placeOfBadForm_118 (by decide) (fun c7 => ?_) (fun c7 => ?_)
      · have hw := ite_f hw c7
        refine lv_iload hx hb dX4_placeOfBadForm_136 (lv_at hl 4 rfl) ?_
        exact hv_iret hx hb hr hlk hH hw dX4_placeOfBadForm_138
      · have hw := ite_t hw c7
        refine lv_iload_n hx hb dX4_placeOfBadForm_121 rfl (lv_at hl 2 rfl) ?_
        refine lv_if_le (tgt := 136) hx hb dX4_placeOfBadForm_122 (by decide) (fun c8 => ?_) (fun c8 => ?_)
        · have hw := ite_t hw c8
          refine lv_iload hx hb dX4_placeOfBadForm_136 (lv_at hl 4 rfl) ?_
          exact hv_iret hx hb hr hlk hH hw dX4_placeOfBadForm_138
        · have hw := ite_f hw c8
          refine lv_iload_n hx hb dX4_placeOfBadForm_125 rfl (lv_at hl 1 rfl) ?_
          refine lv_if_le (tgt := 136) hx hb dX4_placeOfBadForm_126 (by decide) (fun c9 => ?_) (fun c9 => ?_)
          · have hw := ite_t hw c9
            refine lv_iload hx hb dX4_placeOfBadForm_136 (lv_at hl 4 rfl) ?_
            exact hv_iret hx hb hr hlk hH hw dX4_placeOfBadForm_138
          · have hw := ite_f hw c9
            refine lv_iconst (v := (nI 0)) hx hb dX4_placeOfBadForm_129 (by decide) ?_
            refine lv_istore_n (lv' := [(1, .int (nI 0)), (0, .ref v0), (2, .int v2), (3, .int v3), (4, .int v4), (5, .int v5)]) hx hb dX4_placeOfBadForm_130 rfl hl (by decide) rfl (fun ls hl => ?_)
            refine lv_iconst (v := (nI 0)) hx hb dX4_placeOfBadForm_131 (by decide) ?_
            refine lv_istore_n (lv' := [(2, .int (nI 0)), (1, .int (nI 0)), (0, .ref v0), (3, .int v3), (4, .int v4), (5, .int v5)]) hx hb dX4_placeOfBadForm_132 rfl hl (by decide) rfl (fun ls hl => ?_)
            refine lv_goto (tgt := 139) hx hb dX4_placeOfBadForm_133 (by decide) ?_
            refine lv_iinc (v := v4 + (nI 1)) (lv' := [(4, .int (v4 + (nI 1))), (2, .int (nI 0)), (1, .int (nI 0)), (0, .ref v0), (3, .int v3), (5, .int v5)]) hx hb dX4_placeOfBadForm_139 hl (k := 4) rfl rfl (by decide) rfl (fun ls hl => ?_)
            refine lv_goto (tgt := 9) hx hb dX4_placeOfBadForm_142 (by decide) ?_
            exact hK9 _ _ _ _ _ H locs ls hH (lv_sub hl [3, 2, 1, 4, 0] rfl) hw
    · have hw := ite_t hw c1
      refine lv_iload_n hx hb dX4_placeOfBadForm_97 rfl (lv_at hl 2 rfl) ?_
      refine lv_if_le (tgt := 114) hx hb dX4_placeOfBadForm_98 (by decide) (fun c2 => ?_) (fun c2 => ?_)
      · have hw := ite_t hw c2
        refine lv_iload hx hb dX4_placeOfBadForm_114 (lv_at hl 5 rfl) ?_
        refine lv_bipush (v := (nI 59)) hx hb dX4_placeOfBadForm_116 (by decide) ?_
        refine lv_icmp_ne (tgt := 136) hx hb dX4_placeOfBadForm_118 (by decide) (fun c3 => ?_) (fun c3 => ?_)
        · have hw := ite_f hw c3
          refine lv_iload hx hb dX4_placeOfBadForm_136 (lv_at hl 4 rfl) ?_
          exact hv_iret hx hb hr hlk hH hw dX4_placeOfBadForm_138
        · have hw := ite_t hw c3
          refine lv_iload_n hx hb dX4_placeOfBadForm_121 rfl (lv_at hl 2 rfl) ?_
          refine lv_if_le (tgt := 136) hx hb dX4_placeOfBadForm_122 (by decide) (fun _ => ?_) (fun c => absurd c2 c)
          refine lv_iload hx hb dX4_placeOfBadForm_136 (lv_at hl 4 rfl) ?_
          exact hv_iret hx hb hr hlk hH hw dX4_placeOfBadForm_138
      · have hw := ite_f hw c2
        refine lv_iload_n hx hb dX4_placeOfBadForm_101 rfl (lv_at hl 1 rfl) ?_
        refine lv_iconst (v := (nI 3)) hx hb dX4_placeOfBadForm_102 (by decide) ?_
        refine lv_icmp_ge (tgt := 114) hx hb dX4_placeOfBadForm_103 (by decide) (fun c4 => ?_) (fun c4 => ?_)
        · have hw := ite_t hw c4
          refine lv_iload hx hb dX4_placeOfBadForm_114 (lv_at hl 5 rfl) ?_
          refine lv_bipush (v := (nI 59)) hx hb dX4_placeOfBadForm_116 (by decide) ?_
          refine lv_icmp_ne (tgt := 136) hx hb dX4_placeOfBadForm_118 (by decide) (fun c5 => ?_) (fun c5 => ?_)
          · have hw := ite_f hw c5
            refine lv_iload hx hb dX4_placeOfBadForm_136 (lv_at hl 4 rfl) ?_
            exact hv_iret hx hb hr hlk hH hw dX4_placeOfBadForm_138
          · have hw := ite_t hw c5
            refine lv_iload_n hx hb dX4_placeOfBadForm_121 rfl (lv_at hl 2 rfl) ?_
            refine lv_if_le (tgt := 136) hx hb dX4_placeOfBadForm_122 (by decide) (fun c => absurd c c2) (fun _ => ?_)
            refine lv_iload_n hx hb dX4_placeOfBadForm_125 rfl (lv_at hl 1 rfl) ?_
            refine lv_if_le (tgt := 136) hx hb dX4_placeOfBadForm_126 (by decide) (fun c6 => ?_) (fun c6 => ?_)
            · have hw := ite_t hw c6
              refine lv_iload hx hb dX4_placeOfBadForm_136 (lv_at hl 4 rfl) ?_
              exact hv_iret hx hb hr hlk hH hw dX4_placeOfBadForm_138
            · have hw := ite_f hw c6
              refine lv_iconst (v := (nI 0)) hx hb dX4_placeOfBadForm_129 (by decide) ?_
              refine lv_istore_n (lv' := [(1, .int (nI 0)), (0, .ref v0), (2, .int v2), (3, .int v3), (4, .int v4), (5, .int v5)]) hx hb dX4_placeOfBadForm_130 rfl hl (by decide) rfl (fun ls hl => ?_)
              refine lv_iconst (v := (nI 0)) hx hb dX4_placeOfBadForm_131 (by decide) ?_
              refine lv_istore_n (lv' := [(2, .int (nI 0)), (1, .int (nI 0)), (0, .ref v0), (3, .int v3), (4, .int v4), (5, .int v5)]) hx hb dX4_placeOfBadForm_132 rfl hl (by decide) rfl (fun ls hl => ?_)
              refine lv_goto (tgt := 139) hx hb dX4_placeOfBadForm_133 (by decide) ?_
              refine lv_iinc (v := v4 + (nI 1)) (lv' := [(4, .int (v4 + (nI 1))), (2, .int (nI 0)), (1, .int (nI 0)), (0, .ref v0), (3, .int v3), (5, .int v5)]) hx hb dX4_placeOfBadForm_139 hl (k := 4) rfl rfl (by decide) rfl (fun ls hl => ?_)
              refine lv_goto (tgt := 9) hx hb dX4_placeOfBadForm_142 (by decide) ?_
              exact hK9 _ _ _ _ _ H locs ls hH (lv_sub hl [3, 2, 1, 4, 0] rfl) hw
        · have hw := ite_f hw c4
          refine lv_iinc (v := v1 + (nI 1)) (lv' := [(1, .int (v1 + (nI 1))), (0, .ref v0), (2, .int v2), (3, .int v3), (4, .int v4), (5, .int v5)]) hx hb dX4_placeOfBadForm_106 hl (k := 1) rfl rfl (by decide) rfl (fun ls hl => ?_)
          refine lv_iconst (v := (nI 0)) hx hb dX4_placeOfBadForm_109 (by decide) ?_
          refine lv_istore_n (lv' := [(2, .int (nI 0)), (1, .int (v1 + (nI 1))), (0, .ref v0), (3, .int v3), (4, .int v4), (5, .int v5)]) hx hb dX4_placeOfBadForm_110 rfl hl (by decide) rfl (fun ls hl => ?_)
          refine lv_goto (tgt := 139) hx hb dX4_placeOfBadForm_111 (by decide) ?_
          refine lv_iinc (v := v4 + (nI 1)) (lv' := [(4, .int (v4 + (nI 1))), (2, .int (nI 0)), (1, .int (v1 + (nI 1))), (0, .ref v0), (3, .int v3), (5, .int v5)]) hx hb dX4_placeOfBadForm_139 hl (k := 4) rfl rfl (by decide) rfl (fun ls hl => ?_)
          refine lv_goto (tgt := 9) hx hb dX4_placeOfBadForm_142 (by decide) ?_
          exact hK9 _ _ _ _ _ H locs ls hH (lv_sub hl [3, 2, 1, 4, 0] rfl) hw
  have c57 : ∀ (v0 : Nat) (P9 : Int32 → Int32 → Int32 → Int32 → Hp → Prop) (_ : ∀ (v1 : Int32) (v2 : Int32) (v3 : Int32) (v4 : Int32) (h : Hp) (H : Heap) (locs : List Loc) (ls : Array Slot), HH G B S h sz s H locs → lv_has ls 6 [(0, .ref v0), (1, .int v1), (2, .int v2), (3, .int v3), (4, .int v4)] → P9 v1 v2 v3 v4 h → W p l e rm_X4_placeOfBadForm s m args below meth c H locs 0 0 (QI G B S sz below args s Q) (F0 m 9 ls [])) (v1 : Int32) (v2 : Int32) (v3 : Int32) (v4 : Int32) (v5 : Int32) (h : Hp) (H : Heap) (locs : List Loc) (ls : Array Slot), HH G B S h sz s H locs → lv_has ls 6 [(0, .ref v0), (1, .int v1), (2, .int v2), (3, .int v3), (4, .int v4), (5, .int v5)] → w_X4_placeOfBadForm_c57 S v0 v1 v2 v3 v4 v5 h Q P9 → W p l e rm_X4_placeOfBadForm s m args below meth c H locs 0 0 (QI G B S sz below args s Q) (F0 m 57 ls []) := by
    intro v0 P9 hK9 v1 v2 v3 v4 v5 h H locs ls hH hl hw
    unfold w_X4_placeOfBadForm_c57 at hw
    refine lv_iload hx hb dX4_placeOfBadForm_57 (lv_at hl 5 rfl) ?_
    refine hv_cSI (rm := rm_X4_isDigit) (As := [.int v5]) (rest := []) (k := 1) hx hb hml hown hKK hH (m_X4_isDigit v5 _ _ hw) cw_X4_33 ⟨Nat.le_of_ble_eq_true rfl, Nat.le_of_ble_eq_true rfl⟩ rfl hl.1 rfl (Nat.le_of_ble_eq_true rfl) ⟨Nat.le_of_ble_eq_true rfl, Nat.le_of_ble_eq_true rfl⟩ dX4_placeOfBadForm_59 (fun r2 h1 H locs hH hw => ?_)
    refine lv_if_eq (tgt := 90) hx hb dX4_placeOfBadForm_62 (by decide) (fun c3 => ?_) (fun c3 => ?_)
    · have hw := ite_t hw c3
      exact c90 _ _ hK9 _ _ _ _ _ _ H locs ls hH (lv_sub hl [0, 1, 2, 3, 4, 5] rfl) hw
    · have hw := ite_f hw c3
      refine lv_iload_n hx hb dX4_placeOfBadForm_65 rfl (lv_at hl 1 rfl) ?_
      refine lv_if_le (tgt := 90) hx hb dX4_placeOfBadForm_66 (by decide) (fun c4 => ?_) (fun c4 => ?_)
      · have hw := ite_t hw c4
        exact c90 _ _ hK9 _ _ _ _ _ _ H locs ls hH (lv_sub hl [0, 1, 2, 3, 4, 5] rfl) hw
      · have hw := ite_f hw c4
        refine lv_iload_n hx hb dX4_placeOfBadForm_69 rfl (lv_at hl 2 rfl) ?_
        refine lv_iconst (v := (nI 2)) hx hb dX4_placeOfBadForm_70 (by decide) ?_
        refine lv_icmp_ge (tgt := 90) hx hb dX4_placeOfBadForm_71 (by decide) (fun c5 => ?_) (fun c5 => ?_)
        · have hw := ite_t hw c5
          exact c90 _ _ hK9 _ _ _ _ _ _ H locs ls hH (lv_sub hl [0, 1, 2, 3, 4, 5] rfl) hw
        · have hw := ite_f hw c5
          refine lv_iload_n hx hb dX4_placeOfBadForm_74 rfl (lv_at hl 2 rfl) ?_
          refine lv_if_eq (tgt := 82) hx hb dX4_placeOfBadForm_75 (by decide) (fun c6 => ?_) (fun c6 => ?_)
          · have hw := ite_t hw c6
            refine lv_iconst (v := (nI 1)) hx hb dX4_placeOfBadForm_82 (by decide) ?_
            refine lv_istore_n (lv' := [(3, .int (nI 1)), (0, .ref v0), (1, .int v1), (2, .int v2), (4, .int v4), (5, .int v5)]) hx hb dX4_placeOfBadForm_83 rfl hl (by decide) rfl (fun ls hl => ?_)
            refine lv_iinc (v := v2 + (nI 1)) (lv' := [(2, .int (v2 + (nI 1))), (3, .int (nI 1)), (0, .ref v0), (1, .int v1), (4, .int v4), (5, .int v5)]) hx hb dX4_placeOfBadForm_84 hl (k := 3) rfl rfl (by decide) rfl (fun ls hl => ?_)
            refine lv_goto (tgt := 139) hx hb dX4_placeOfBadForm_87 (by decide) ?_
            refine lv_iinc (v := v4 + (nI 1)) (lv' := [(4, .int (v4 + (nI 1))), (2, .int (v2 + (nI 1))), (3, .int (nI 1)), (0, .ref v0), (1, .int v1), (5, .int v5)]) hx hb dX4_placeOfBadForm_139 hl (k := 4) rfl rfl (by decide) rfl (fun ls hl => ?_)
            refine lv_goto (tgt := 9) hx hb dX4_placeOfBadForm_142 (by decide) ?_
            exact hK9 _ _ _ _ _ H locs ls hH (lv_sub hl [3, 4, 1, 2, 0] rfl) hw
          · have hw := ite_f hw c6
            refine lv_iload_n hx hb dX4_placeOfBadForm_78 rfl (lv_at hl 3 rfl) ?_
            refine lv_if_eq (tgt := 90) hx hb dX4_placeOfBadForm_79 (by decide) (fun c7 => ?_) (fun c7 => ?_)
            · have hw := ite_t hw c7
              exact c90 _ _ hK9 _ _ _ _ _ _ H locs ls hH (lv_sub hl [0, 1, 2, 3, 4, 5] rfl) hw
            · have hw := ite_f hw c7
              refine lv_iconst (v := (nI 1)) hx hb dX4_placeOfBadForm_82 (by decide) ?_
              refine lv_istore_n (lv' := [(3, .int (nI 1)), (0, .ref v0), (1, .int v1), (2, .int v2), (4, .int v4), (5, .int v5)]) hx hb dX4_placeOfBadForm_83 rfl hl (by decide) rfl (fun ls hl => ?_)
              refine lv_iinc (v := v2 + (nI 1)) (lv' := [(2, .int (v2 + (nI 1))), (3, .int (nI 1)), (0, .ref v0), (1, .int v1), (4, .int v4), (5, .int v5)]) hx hb dX4_placeOfBadForm_84 hl (k := 3) rfl rfl (by decide) rfl (fun ls hl => ?_)
              refine lv_goto (tgt := 139) hx hb dX4_placeOfBadForm_87 (by decide) ?_
              refine lv_iinc (v := v4 + (nI 1)) (lv' := [(4, .int (v4 + (nI 1))), (2, .int (v2 + (nI 1))), (3, .int (nI 1)), (0, .ref v0), (1, .int v1), (5, .int v5)]) hx hb dX4_placeOfBadForm_139 hl (k := 4) rfl rfl (by decide) rfl (fun ls hl => ?_)
              refine lv_goto (tgt := 9) hx hb dX4_placeOfBadForm_142 (by decide) ?_
              exact hK9 _ _ _ _ _ H locs ls hH (lv_sub hl [3, 4, 1, 2, 0] rfl) hw
  have c9 : ∀  (v0 : Nat) (v1 : Int32) (v2 : Int32) (v3 : Int32) (v4 : Int32) (h : Hp) (H : Heap) (locs : List Loc) (ls : Array Slot), HH G B S h sz s H locs → lv_has ls 6 [(0, .ref v0), (1, .int v1), (2, .int v2), (3, .int v3), (4, .int v4)] → w_X4_placeOfBadForm_c9 S v0 v1 v2 v3 v4 h Q → W p l e rm_X4_placeOfBadForm s m args below meth c H locs 0 0 (QI G B S sz below args s Q) (F0 m 9 ls []) := by
    intro  v0 v1 v2 v3 v4 h H locs ls hH hl hw
    unfold w_X4_placeOfBadForm_c9 at hw
    obtain ⟨P9, hP9⟩ : ∃ P : Int32 → Int32 → Int32 → Int32 → Hp → Prop, ∀ (v1 : Int32) (v2 : Int32) (v3 : Int32) (v4 : Int32) (h : Hp), P v1 v2 v3 v4 h ↔ (∀ (H : Heap) (locs : List Loc) (ls : Array Slot), HH G B S h sz s H locs → lv_has ls 6 [(0, .ref v0), (1, .int v1), (2, .int v2), (3, .int v3), (4, .int v4)] → W p l e rm_X4_placeOfBadForm s m args below meth c H locs 0 0 (QI G B S sz below args s Q) (F0 m 9 ls [])) := ⟨_, fun v1 v2 v3 v4 h => Iff.rfl⟩
    refine (hP9 v1 v2 v3 v4 h).1 (hw P9 (fun v1 v2 v3 v4 h hw => (hP9 v1 v2 v3 v4 h).2 (fun H locs ls hH hl => ?_))) H locs ls hH hl
    have hK9 : ∀ (v1 : Int32) (v2 : Int32) (v3 : Int32) (v4 : Int32) (h : Hp) (H : Heap) (locs : List Loc) (ls : Array Slot), HH G B S h sz s H locs → lv_has ls 6 [(0, .ref v0), (1, .int v1), (2, .int v2), (3, .int v3), (4, .int v4)] → P9 v1 v2 v3 v4 h → W p l e rm_X4_placeOfBadForm s m args below meth c H locs 0 0 (QI G B S sz below args s Q) (F0 m 9 ls []) := fun v1 v2 v3 v4 h H locs ls hH hl hk => (hP9 v1 v2 v3 v4 h).1 hk H locs ls hH hl
    refine lv_iload hx hb dX4_placeOfBadForm_9 (lv_at hl 4 rfl) ?_
    refine lv_aload_n hx hb dX4_placeOfBadForm_11 rfl (lv_at hl 0 rfl) ?_
    obtain ⟨k1, hw⟩ := hw
    refine hv_get (ci := 4) (k := 1) (v := .int (h v0 1)) hx hb hown hKK hH cf4 (by decide) fl_X4_21 rfl k1 rfl dX4_placeOfBadForm_12 ?_
    refine lv_icmp_ge (tgt := 145) hx hb dX4_placeOfBadForm_15 (by decide) (fun c2 => ?_) (fun c2 => ?_)
    · have hw := ite_t hw c2
      refine lv_aload_n hx hb dX4_placeOfBadForm_145 rfl (lv_at hl 0 rfl) ?_
      refine hv_get (ci := 4) (k := 1) (v := .int (h v0 1)) hx hb hown hKK hH cf4 (by decide) fl_X4_21 rfl k1 rfl dX4_placeOfBadForm_146 ?_
      refine lv_if_le (tgt := 164) hx hb dX4_placeOfBadForm_149 (by decide) (fun c3 => ?_) (fun c3 => ?_)
      · have hw := ite_t hw c3
        refine lv_iconst (v := (nI 0)) hx hb dX4_placeOfBadForm_164 (by decide) ?_
        refine lv_istore (lv' := [(4, .int (nI 0)), (0, .ref v0), (1, .int v1), (2, .int v2), (3, .int v3)]) hx hb dX4_placeOfBadForm_165 hl (by decide) rfl (fun ls hl => ?_)
        refine lv_iload hx hb dX4_placeOfBadForm_167 (lv_at hl 0 rfl) ?_
        refine lv_if_eq (tgt := 176) hx hb dX4_placeOfBadForm_169 (by decide) (fun _ => ?_) (fun c => absurd (by decide) c)
        refine lv_aload_n hx hb dX4_placeOfBadForm_176 rfl (lv_at hl 1 rfl) ?_
        refine hv_get (ci := 4) (k := 1) (v := .int (h v0 1)) hx hb hown hKK hH cf4 (by decide) fl_X4_21 rfl k1 rfl dX4_placeOfBadForm_177 ?_
        exact hv_iret hx hb hr hlk hH hw dX4_placeOfBadForm_180
      · have hw := ite_f hw c3
        refine lv_iload_n hx hb dX4_placeOfBadForm_152 rfl (lv_at hl 1 rfl) ?_
        refine lv_if_ne (tgt := 164) hx hb dX4_placeOfBadForm_153 (by decide) (fun c4 => ?_) (fun c4 => ?_)
        · have hw := ite_f hw c4
          refine lv_iconst (v := (nI 0)) hx hb dX4_placeOfBadForm_164 (by decide) ?_
          refine lv_istore (lv' := [(4, .int (nI 0)), (0, .ref v0), (1, .int v1), (2, .int v2), (3, .int v3)]) hx hb dX4_placeOfBadForm_165 hl (by decide) rfl (fun ls hl => ?_)
          refine lv_iload hx hb dX4_placeOfBadForm_167 (lv_at hl 0 rfl) ?_
          refine lv_if_eq (tgt := 176) hx hb dX4_placeOfBadForm_169 (by decide) (fun _ => ?_) (fun c => absurd (by decide) c)
          refine lv_aload_n hx hb dX4_placeOfBadForm_176 rfl (lv_at hl 1 rfl) ?_
          refine hv_get (ci := 4) (k := 1) (v := .int (h v0 1)) hx hb hown hKK hH cf4 (by decide) fl_X4_21 rfl k1 rfl dX4_placeOfBadForm_177 ?_
          exact hv_iret hx hb hr hlk hH hw dX4_placeOfBadForm_180
        · have hw := ite_t hw c4
          refine lv_iload_n hx hb dX4_placeOfBadForm_156 rfl (lv_at hl 2 rfl) ?_
          refine lv_if_ne (tgt := 164) hx hb dX4_placeOfBadForm_157 (by decide) (fun c5 => ?_) (fun c5 => ?_)
          · have hw := ite_f hw c5
            refine lv_iconst (v := (nI 0)) hx hb dX4_placeOfBadForm_164 (by decide) ?_
            refine lv_istore (lv' := [(4, .int (nI 0)), (0, .ref v0), (1, .int v1), (2, .int v2), (3, .int v3)]) hx hb dX4_placeOfBadForm_165 hl (by decide) rfl (fun ls hl => ?_)
            refine lv_iload hx hb dX4_placeOfBadForm_167 (lv_at hl 0 rfl) ?_
            refine lv_if_eq (tgt := 176) hx hb dX4_placeOfBadForm_169 (by decide) (fun _ => ?_) (fun c => absurd (by decide) c)
            refine lv_aload_n hx hb dX4_placeOfBadForm_176 rfl (lv_at hl 1 rfl) ?_
            refine hv_get (ci := 4) (k := 1) (v := .int (h v0 1)) hx hb hown hKK hH cf4 (by decide) fl_X4_21 rfl k1 rfl dX4_placeOfBadForm_177 ?_
            exact hv_iret hx hb hr hlk hH hw dX4_placeOfBadForm_180
          · have hw := ite_t hw c5
            refine lv_iconst (v := (nI 1)) hx hb dX4_placeOfBadForm_160 (by decide) ?_
            refine lv_goto (tgt := 165) hx hb dX4_placeOfBadForm_161 (by decide) ?_
            refine lv_istore (lv' := [(4, .int (nI 1)), (0, .ref v0), (1, .int v1), (2, .int v2), (3, .int v3)]) hx hb dX4_placeOfBadForm_165 hl (by decide) rfl (fun ls hl => ?_)
            refine lv_iload hx hb dX4_placeOfBadForm_167 (lv_at hl 0 rfl) ?_
            refine lv_if_eq (tgt := 176) hx hb dX4_placeOfBadForm_169 (by decide) (fun c => absurd c (by decide)) (fun _ => ?_)
            refine lv_iconst (v := (-1)) hx hb dX4_placeOfBadForm_172 (by decide) ?_
            refine lv_goto (tgt := 180) hx hb dX4_placeOfBadForm_173 (by decide) ?_
            exact hv_iret hx hb hr hlk hH hw dX4_placeOfBadForm_180
    · have hw := ite_f hw c2
      refine lv_aload_n hx hb dX4_placeOfBadForm_18 rfl (lv_at hl 0 rfl) ?_
      refine hv_get (ci := 4) (k := 0) (v := .ref (S.2 v0 0)) hx hb hown hKK hH cf4 (by decide) fl_X4_11 rfl k1 rfl dX4_placeOfBadForm_19 ?_
      refine lv_iload hx hb dX4_placeOfBadForm_22 (lv_at hl 4 rfl) ?_
      obtain ⟨k6, hw⟩ := hw
      refine hv_iald hx hb hKK hH k6 dX4_placeOfBadForm_24 ?_
      refine lv_istore (lv' := [(5, .int (h (S.2 v0 0) (ix v4))), (0, .ref v0), (1, .int v1), (2, .int v2), (3, .int v3), (4, .int v4)]) hx hb dX4_placeOfBadForm_25 hl (by decide) rfl (fun ls hl => ?_)
      refine lv_iload hx hb dX4_placeOfBadForm_27 (lv_at hl 0 rfl) ?_
      refine hv_cSI (rm := rm_X4_isLetter) (As := [.int (h (S.2 v0 0) (ix v4))]) (rest := []) (k := 1) hx hb hml hown hKK hH (m_X4_isLetter (h (S.2 v0 0) (ix v4)) _ _ hw) cw_X4_29 ⟨Nat.le_of_ble_eq_true rfl, Nat.le_of_ble_eq_true rfl⟩ rfl hl.1 rfl (Nat.le_of_ble_eq_true rfl) ⟨Nat.le_of_ble_eq_true rfl, Nat.le_of_ble_eq_true rfl⟩ dX4_placeOfBadForm_29 (fun r8 h7 H locs hH hw => ?_)
      refine lv_if_eq (tgt := 57) hx hb dX4_placeOfBadForm_32 (by decide) (fun c9 => ?_) (fun c9 => ?_)
      · have hw := ite_t hw c9
        exact c57 _ _ hK9 _ _ _ _ _ _ H locs ls hH (lv_sub hl [1, 2, 3, 4, 5, 0] rfl) hw
      · have hw := ite_f hw c9
        refine lv_iload_n hx hb dX4_placeOfBadForm_35 rfl (lv_at hl 3 rfl) ?_
        refine lv_bipush (v := (nI 7)) hx hb dX4_placeOfBadForm_36 (by decide) ?_
        refine lv_icmp_ge (tgt := 57) hx hb dX4_placeOfBadForm_38 (by decide) (fun c10 => ?_) (fun c10 => ?_)
        · have hw := ite_t hw c10
          exact c57 _ _ hK9 _ _ _ _ _ _ H locs ls hH (lv_sub hl [1, 2, 3, 4, 5, 0] rfl) hw
        · have hw := ite_f hw c10
          refine lv_iload_n hx hb dX4_placeOfBadForm_41 rfl (lv_at hl 3 rfl) ?_
          refine lv_if_eq (tgt := 49) hx hb dX4_placeOfBadForm_42 (by decide) (fun c11 => ?_) (fun c11 => ?_)
          · have hw := ite_t hw c11
            refine lv_iconst (v := (nI 0)) hx hb dX4_placeOfBadForm_49 (by decide) ?_
            refine lv_istore_n (lv' := [(3, .int (nI 0)), (5, .int (h (S.2 v0 0) (ix v4))), (0, .ref v0), (1, .int v1), (2, .int v2), (4, .int v4)]) hx hb dX4_placeOfBadForm_50 rfl hl (by decide) rfl (fun ls hl => ?_)
            refine lv_iinc (v := v2 + (nI 1)) (lv' := [(2, .int (v2 + (nI 1))), (3, .int (nI 0)), (5, .int (h (S.2 v0 0) (ix v4))), (0, .ref v0), (1, .int v1), (4, .int v4)]) hx hb dX4_placeOfBadForm_51 hl (k := 4) rfl rfl (by decide) rfl (fun ls hl => ?_)
            refine lv_goto (tgt := 139) hx hb dX4_placeOfBadForm_54 (by decide) ?_
            refine lv_iinc (v := v4 + (nI 1)) (lv' := [(4, .int (v4 + (nI 1))), (2, .int (v2 + (nI 1))), (3, .int (nI 0)), (5, .int (h (S.2 v0 0) (ix v4))), (0, .ref v0), (1, .int v1)]) hx hb dX4_placeOfBadForm_139 hl (k := 5) rfl rfl (by decide) rfl (fun ls hl => ?_)
            refine lv_goto (tgt := 9) hx hb dX4_placeOfBadForm_142 (by decide) ?_
            exact hK9 _ _ _ _ _ H locs ls hH (lv_sub hl [4, 5, 1, 2, 0] rfl) hw
          · have hw := ite_f hw c11
            refine lv_iload_n hx hb dX4_placeOfBadForm_45 rfl (lv_at hl 4 rfl) ?_
            refine lv_if_ne (tgt := 57) hx hb dX4_placeOfBadForm_46 (by decide) (fun c12 => ?_) (fun c12 => ?_)
            · have hw := ite_f hw c12
              exact c57 _ _ hK9 _ _ _ _ _ _ H locs ls hH (lv_sub hl [1, 2, 3, 4, 5, 0] rfl) hw
            · have hw := ite_t hw c12
              refine lv_iconst (v := (nI 0)) hx hb dX4_placeOfBadForm_49 (by decide) ?_
              refine lv_istore_n (lv' := [(3, .int (nI 0)), (5, .int (h (S.2 v0 0) (ix v4))), (0, .ref v0), (1, .int v1), (2, .int v2), (4, .int v4)]) hx hb dX4_placeOfBadForm_50 rfl hl (by decide) rfl (fun ls hl => ?_)
              refine lv_iinc (v := v2 + (nI 1)) (lv' := [(2, .int (v2 + (nI 1))), (3, .int (nI 0)), (5, .int (h (S.2 v0 0) (ix v4))), (0, .ref v0), (1, .int v1), (4, .int v4)]) hx hb dX4_placeOfBadForm_51 hl (k := 4) rfl rfl (by decide) rfl (fun ls hl => ?_)
              refine lv_goto (tgt := 139) hx hb dX4_placeOfBadForm_54 (by decide) ?_
              refine lv_iinc (v := v4 + (nI 1)) (lv' := [(4, .int (v4 + (nI 1))), (2, .int (v2 + (nI 1))), (3, .int (nI 0)), (5, .int (h (S.2 v0 0) (ix v4))), (0, .ref v0), (1, .int v1)]) hx hb dX4_placeOfBadForm_139 hl (k := 5) rfl rfl (by decide) rfl (fun ls hl => ?_)
              refine lv_goto (tgt := 9) hx hb dX4_placeOfBadForm_142 (by decide) ?_
              exact hK9 _ _ _ _ _ H locs ls hH (lv_sub hl [4, 5, 1, 2, 0] rfl) hw
  unfold w_X4_placeOfBadForm at hw
  show W p l e rm_X4_placeOfBadForm s m args below meth c H [] 0 0 (QI G B S sz below args s Q) (F0 m 0 ls [])
  generalize ([] : List Loc) = locs at hH ⊢
  refine lv_iconst (v := (nI 0)) hx hb dX4_placeOfBadForm_0 (by decide) ?_
  refine lv_istore_n (lv' := [(1, .int (nI 0)), (0, .ref v0)]) hx hb dX4_placeOfBadForm_1 rfl hl (by decide) rfl (fun ls hl => ?_)
  refine lv_iconst (v := (nI 0)) hx hb dX4_placeOfBadForm_2 (by decide) ?_
  refine lv_istore_n (lv' := [(2, .int (nI 0)), (1, .int (nI 0)), (0, .ref v0)]) hx hb dX4_placeOfBadForm_3 rfl hl (by decide) rfl (fun ls hl => ?_)
  refine lv_iconst (v := (nI 0)) hx hb dX4_placeOfBadForm_4 (by decide) ?_
  refine lv_istore_n (lv' := [(3, .int (nI 0)), (2, .int (nI 0)), (1, .int (nI 0)), (0, .ref v0)]) hx hb dX4_placeOfBadForm_5 rfl hl (by decide) rfl (fun ls hl => ?_)
  refine lv_iconst (v := (nI 0)) hx hb dX4_placeOfBadForm_6 (by decide) ?_
  refine lv_istore (lv' := [(4, .int (nI 0)), (3, .int (nI 0)), (2, .int (nI 0)), (1, .int (nI 0)), (0, .ref v0)]) hx hb dX4_placeOfBadForm_7 hl (by decide) rfl (fun ls hl => ?_)
  exact c9 _ _ _ _ _ _ H locs ls hH (lv_sub hl [4, 3, 2, 1, 0] rfl) hw
abbrev rm_X4_readStatement : Room := { frames := 0, cells := 0, slots := 0, locals := 0 }
set_option maxHeartbeats 4000000 in
set_option maxRecDepth 100000 in
theorem m_X4_readStatement {l : Launch} {G : Gl} {B sz : Nat} {S : St} (v0 : Nat) (v1 : Int32) (h : Hp) (Q : Int32 → Hp → Prop) (hw : w_X4_readStatement S v0 v1 h Q) : MI l G B sz S yX4_readStatement cX4_readStatement 3 .int rm_X4_readStatement [.ref v0, .int v1] h Q := by
  refine met_of rfl rfl ?_
  intro p e s m args below meth c hMB H ls hH hl
  obtain ⟨hx, hb, hml, hown, hKK, hr, hlk⟩ := hMB
  replace hl : lv_has ls 3 [(0, .ref v0), (1, .int v1)] := hl
  have c21 : ∀  (v0 : Nat) (v2 : Int32) (h : Hp) (H : Heap) (locs : List Loc) (ls : Array Slot), HH G B S h sz s H locs → lv_has ls 3 [(0, .ref v0), (2, .int v2)] → w_X4_readStatement_c21 S v0 v2 h Q → W p l e rm_X4_readStatement s m args below meth c H locs 0 0 (QI G B S sz below args s Q) (F0 m 21 ls []) := by
    intro  v0 v2 h H locs ls hH hl hw
    unfold w_X4_readStatement_c21 at hw
    obtain ⟨P21, hP21⟩ : ∃ P : Int32 → Hp → Prop, ∀ (v2 : Int32) (h : Hp), P v2 h ↔ (∀ (H : Heap) (locs : List Loc) (ls : Array Slot), HH G B S h sz s H locs → lv_has ls 3 [(0, .ref v0), (2, .int v2)] → W p l e rm_X4_readStatement s m args below meth c H locs 0 0 (QI G B S sz below args s Q) (F0 m 21 ls [])) := ⟨_, fun v2 h => Iff.rfl⟩
    refine (hP21 v2 h).1 (hw P21 (fun v2 h hw => (hP21 v2 h).2 (fun H locs ls hH hl => ?_))) H locs ls hH hl
    have hK21 : ∀ (v2 : Int32) (h : Hp) (H : Heap) (locs : List Loc) (ls : Array Slot), HH G B S h sz s H locs → lv_has ls 3 [(0, .ref v0), (2, .int v2)] → P21 v2 h → W p l e rm_X4_readStatement s m args below meth c H locs 0 0 (QI G B S sz below args s Q) (F0 m 21 ls []) := fun v2 h H locs ls hH hl hk => (hP21 v2 h).1 hk H locs ls hH hl
    refine lv_iload_n hx hb dX4_readStatement_21 rfl (lv_at hl 1 rfl) ?_
    refine lv_aload_n hx hb dX4_readStatement_22 rfl (lv_at hl 0 rfl) ?_
    obtain ⟨k1, hw⟩ := hw
    refine hv_get (ci := 4) (k := 1) (v := .int (h v0 1)) hx hb hown hKK hH cf4 (by decide) fl_X4_21 rfl k1 rfl dX4_readStatement_23 ?_
    refine lv_icmp_ge (tgt := 117) hx hb dX4_readStatement_26 (by decide) (fun c2 => ?_) (fun c2 => ?_)
    · have hw := ite_t hw c2
      refine lv_aload_n hx hb dX4_readStatement_117 rfl (lv_at hl 0 rfl) ?_
      refine hv_get (ci := 4) (k := 1) (v := .int (h v0 1)) hx hb hown hKK hH cf4 (by decide) fl_X4_21 rfl k1 rfl dX4_readStatement_118 ?_
      exact hv_iret hx hb hr hlk hH hw dX4_readStatement_121
    · have hw := ite_f hw c2
      refine lv_aload_n hx hb dX4_readStatement_29 rfl (lv_at hl 0 rfl) ?_
      refine hv_get (ci := 4) (k := 0) (v := .ref (S.2 v0 0)) hx hb hown hKK hH cf4 (by decide) fl_X4_11 rfl k1 rfl dX4_readStatement_30 ?_
      refine lv_iload_n hx hb dX4_readStatement_33 rfl (lv_at hl 1 rfl) ?_
      obtain ⟨k3, hw⟩ := hw
      refine hv_iald hx hb hKK hH k3 dX4_readStatement_34 ?_
      refine lv_bipush (v := (nI 59)) hx hb dX4_readStatement_35 (by decide) ?_
      refine lv_icmp_ne (tgt := 44) hx hb dX4_readStatement_37 (by decide) (fun c4 => ?_) (fun c4 => ?_)
      · have hw := ite_f hw c4
        refine lv_aload_n hx hb dX4_readStatement_44 rfl (lv_at hl 0 rfl) ?_
        refine hv_get (ci := 4) (k := 0) (v := .ref (S.2 v0 0)) hx hb hown hKK hH cf4 (by decide) fl_X4_11 rfl k1 rfl dX4_readStatement_45 ?_
        refine lv_iload_n hx hb dX4_readStatement_48 rfl (lv_at hl 1 rfl) ?_
        refine hv_iald hx hb hKK hH k3 dX4_readStatement_49 ?_
        refine lv_bipush (v := (nI 32)) hx hb dX4_readStatement_50 (by decide) ?_
        refine lv_icmp_eq (tgt := 71) hx hb dX4_readStatement_52 (by decide) (fun c5 => ?_) (fun c5 => ?_)
        · have hw := ite_t hw c5
          refine lv_aload_n hx hb dX4_readStatement_71 rfl (lv_at hl 0 rfl) ?_
          refine hv_get (ci := 4) (k := 4) (v := .int (h v0 4)) hx hb hown hKK hH cf4 (by decide) fl_X4_36 rfl k1 rfl dX4_readStatement_72 ?_
          refine lv_iconst (v := (nI 3)) hx hb dX4_readStatement_75 (by decide) ?_
          refine lv_icmp_ge (tgt := 111) hx hb dX4_readStatement_76 (by decide) (fun c6 => ?_) (fun c6 => ?_)
          · have hw := ite_t hw c6
            refine lv_iinc (v := v2 + (nI 1)) (lv' := [(2, .int (v2 + (nI 1))), (0, .ref v0)]) hx hb dX4_readStatement_111 hl (k := 1) rfl rfl (by decide) rfl (fun ls hl => ?_)
            refine lv_goto (tgt := 21) hx hb dX4_readStatement_114 (by decide) ?_
            exact hK21 _ _ H locs ls hH (lv_sub hl [1, 0] rfl) hw
          · have hw := ite_f hw c6
            refine lv_aload_n hx hb dX4_readStatement_79 rfl (lv_at hl 0 rfl) ?_
            refine lv_dup hx hb dX4_readStatement_80 rfl ?_
            refine hv_get (ci := 4) (k := 4) (v := .int (h v0 4)) hx hb hown hKK hH cf4 (by decide) fl_X4_36 rfl k1 rfl dX4_readStatement_81 ?_
            refine lv_iconst (v := (nI 1)) hx hb dX4_readStatement_84 (by decide) ?_
            refine lv_iadd hx hb dX4_readStatement_85 ?_
            refine hv_put (ci := 4) (k := 4) hx hb hown hKK hH cf4 (by decide) fl_X4_36 rfl rfl rfl k1 rfl rfl dX4_readStatement_86 (fun H locs hH => ?_)
            refine lv_aload_n hx hb dX4_readStatement_89 rfl (lv_at hl 0 rfl) ?_
            refine hv_get (ci := 4) (k := 2) (v := .ref (S.2 v0 2)) hx hb hown hKK hH cf4 (by decide) fl_X4_15 rfl k1 rfl dX4_readStatement_90 ?_
            refine lv_aload_n hx hb dX4_readStatement_93 rfl (lv_at hl 0 rfl) ?_
            refine hv_get (ci := 4) (k := 4) (v := .int ((up h v0 4 ((h v0 4) + (nI 1))) v0 4)) hx hb hown hKK hH cf4 (by decide) fl_X4_36 rfl k1 rfl dX4_readStatement_94 ?_
            refine lv_iload_n hx hb dX4_readStatement_97 rfl (lv_at hl 1 rfl) ?_
            refine lv_iconst (v := (nI 1)) hx hb dX4_readStatement_98 (by decide) ?_
            refine lv_iadd hx hb dX4_readStatement_99 ?_
            obtain ⟨k7, hw⟩ := hw
            refine hv_iast hx hb hKK hH k7 dX4_readStatement_100 (fun H locs hH => ?_)
            refine lv_aload_n hx hb dX4_readStatement_101 rfl (lv_at hl 0 rfl) ?_
            refine hv_get (ci := 4) (k := 3) (v := .ref (S.2 v0 3)) hx hb hown hKK hH cf4 (by decide) fl_X4_18 rfl k1 rfl dX4_readStatement_102 ?_
            refine lv_aload_n hx hb dX4_readStatement_105 rfl (lv_at hl 0 rfl) ?_
            refine hv_get (ci := 4) (k := 4) (v := .int ((up (up h v0 4 ((h v0 4) + (nI 1))) (S.2 v0 2) (ix ((up h v0 4 ((h v0 4) + (nI 1))) v0 4)) (v2 + (nI 1))) v0 4)) hx hb hown hKK hH cf4 (by decide) fl_X4_36 rfl k1 rfl dX4_readStatement_106 ?_
            refine lv_iconst (v := (nI 0)) hx hb dX4_readStatement_109 (by decide) ?_
            obtain ⟨k8, hw⟩ := hw
            refine hv_iast hx hb hKK hH k8 dX4_readStatement_110 (fun H locs hH => ?_)
            refine lv_iinc (v := v2 + (nI 1)) (lv' := [(2, .int (v2 + (nI 1))), (0, .ref v0)]) hx hb dX4_readStatement_111 hl (k := 1) rfl rfl (by decide) rfl (fun ls hl => ?_)
            refine lv_goto (tgt := 21) hx hb dX4_readStatement_114 (by decide) ?_
            exact hK21 _ _ H locs ls hH (lv_sub hl [1, 0] rfl) hw
        · have hw := ite_f hw c5
          refine lv_aload_n hx hb dX4_readStatement_55 rfl (lv_at hl 0 rfl) ?_
          refine hv_get (ci := 4) (k := 3) (v := .ref (S.2 v0 3)) hx hb hown hKK hH cf4 (by decide) fl_X4_18 rfl k1 rfl dX4_readStatement_56 ?_
          refine lv_aload_n hx hb dX4_readStatement_59 rfl (lv_at hl 0 rfl) ?_
          refine hv_get (ci := 4) (k := 4) (v := .int (h v0 4)) hx hb hown hKK hH cf4 (by decide) fl_X4_36 rfl k1 rfl dX4_readStatement_60 ?_
          refine lv_dup2_11 hx hb dX4_readStatement_63 rfl rfl ?_
          obtain ⟨k9, hw⟩ := hw
          refine hv_iald hx hb hKK hH k9 dX4_readStatement_64 ?_
          refine lv_iconst (v := (nI 1)) hx hb dX4_readStatement_65 (by decide) ?_
          refine lv_iadd hx hb dX4_readStatement_66 ?_
          refine hv_iast hx hb hKK hH k9 dX4_readStatement_67 (fun H locs hH => ?_)
          refine lv_goto (tgt := 111) hx hb dX4_readStatement_68 (by decide) ?_
          refine lv_iinc (v := v2 + (nI 1)) (lv' := [(2, .int (v2 + (nI 1))), (0, .ref v0)]) hx hb dX4_readStatement_111 hl (k := 1) rfl rfl (by decide) rfl (fun ls hl => ?_)
          refine lv_goto (tgt := 21) hx hb dX4_readStatement_114 (by decide) ?_
          exact hK21 _ _ H locs ls hH (lv_sub hl [1, 0] rfl) hw
      · have hw := ite_t hw c4
        refine lv_iload_n hx hb dX4_readStatement_40 rfl (lv_at hl 1 rfl) ?_
        refine lv_iconst (v := (nI 1)) hx hb dX4_readStatement_41 (by decide) ?_
        refine lv_iadd hx hb dX4_readStatement_42 ?_
        exact hv_iret hx hb hr hlk hH hw dX4_readStatement_43
  unfold w_X4_readStatement at hw
  show W p l e rm_X4_readStatement s m args below meth c H [] 0 0 (QI G B S sz below args s Q) (F0 m 0 ls [])
  generalize ([] : List Loc) = locs at hH ⊢
  refine lv_aload_n hx hb dX4_readStatement_0 rfl (lv_at hl 0 rfl) ?_
  refine lv_iconst (v := (nI 0)) hx hb dX4_readStatement_1 (by decide) ?_
  obtain ⟨k1, hw⟩ := hw
  refine hv_put (ci := 4) (k := 4) hx hb hown hKK hH cf4 (by decide) fl_X4_36 rfl rfl rfl k1 rfl rfl dX4_readStatement_2 (fun H locs hH => ?_)
  refine lv_aload_n hx hb dX4_readStatement_5 rfl (lv_at hl 0 rfl) ?_
  refine hv_get (ci := 4) (k := 2) (v := .ref (S.2 v0 2)) hx hb hown hKK hH cf4 (by decide) fl_X4_15 rfl k1 rfl dX4_readStatement_6 ?_
  refine lv_iconst (v := (nI 0)) hx hb dX4_readStatement_9 (by decide) ?_
  refine lv_iload_n hx hb dX4_readStatement_10 rfl (lv_at hl 1 rfl) ?_
  obtain ⟨k2, hw⟩ := hw
  refine hv_iast hx hb hKK hH k2 dX4_readStatement_11 (fun H locs hH => ?_)
  refine lv_aload_n hx hb dX4_readStatement_12 rfl (lv_at hl 0 rfl) ?_
  refine hv_get (ci := 4) (k := 3) (v := .ref (S.2 v0 3)) hx hb hown hKK hH cf4 (by decide) fl_X4_18 rfl k1 rfl dX4_readStatement_13 ?_
  refine lv_iconst (v := (nI 0)) hx hb dX4_readStatement_16 (by decide) ?_
  refine lv_iconst (v := (nI 0)) hx hb dX4_readStatement_17 (by decide) ?_
  obtain ⟨k3, hw⟩ := hw
  refine hv_iast hx hb hKK hH k3 dX4_readStatement_18 (fun H locs hH => ?_)
  refine lv_iload_n hx hb dX4_readStatement_19 rfl (lv_at hl 1 rfl) ?_
  refine lv_istore_n (lv' := [(2, .int v1), (0, .ref v0), (1, .int v1)]) hx hb dX4_readStatement_20 rfl hl (by decide) rfl (fun ls hl => ?_)
  exact c21 _ _ _ H locs ls hH (lv_sub hl [1, 0] rfl) hw
abbrev rm_X4_signAt : Room := { frames := 0, cells := 0, slots := 0, locals := 0 }
set_option maxHeartbeats 4000000 in
set_option maxRecDepth 100000 in
theorem m_X4_signAt {l : Launch} {G : Gl} {B sz : Nat} {S : St} (v0 : Nat) (v1 : Int32) (v2 : Int32) (h : Hp) (Q : Int32 → Hp → Prop) (hw : w_X4_signAt S v0 v1 v2 h Q) : MI l G B sz S yX4_signAt cX4_signAt 4 .int rm_X4_signAt [.ref v0, .int v1, .int v2] h Q := by
  refine met_of rfl rfl ?_
  intro p e s m args below meth c hMB H ls hH hl
  obtain ⟨hx, hb, hml, hown, hKK, hr, hlk⟩ := hMB
  replace hl : lv_has ls 4 [(0, .ref v0), (1, .int v1), (2, .int v2)] := hl
  unfold w_X4_signAt at hw
  show W p l e rm_X4_signAt s m args below meth c H [] 0 0 (QI G B S sz below args s Q) (F0 m 0 ls [])
  generalize ([] : List Loc) = locs at hH ⊢
  refine lv_aload_n hx hb dX4_signAt_0 rfl (lv_at hl 0 rfl) ?_
  obtain ⟨k1, hw⟩ := hw
  refine hv_get (ci := 4) (k := 2) (v := .ref (S.2 v0 2)) hx hb hown hKK hH cf4 (by decide) fl_X4_15 rfl k1 rfl dX4_signAt_1 ?_
  refine lv_iload_n hx hb dX4_signAt_4 rfl (lv_at hl 1 rfl) ?_
  obtain ⟨k2, hw⟩ := hw
  refine hv_iald hx hb hKK hH k2 dX4_signAt_5 ?_
  refine lv_iload_n hx hb dX4_signAt_6 rfl (lv_at hl 2 rfl) ?_
  refine lv_iadd hx hb dX4_signAt_7 ?_
  refine lv_istore_n (lv' := [(3, .int ((h (S.2 v0 2) (ix v1)) + v2)), (0, .ref v0), (1, .int v1), (2, .int v2)]) hx hb dX4_signAt_8 rfl hl (by decide) rfl (fun ls hl => ?_)
  refine lv_iload_n hx hb dX4_signAt_9 rfl (lv_at hl 0 rfl) ?_
  refine lv_aload_n hx hb dX4_signAt_10 rfl (lv_at hl 1 rfl) ?_
  refine hv_get (ci := 4) (k := 1) (v := .int (h v0 1)) hx hb hown hKK hH cf4 (by decide) fl_X4_21 rfl k1 rfl dX4_signAt_11 ?_
  refine lv_icmp_ge (tgt := 26) hx hb dX4_signAt_14 (by decide) (fun c3 => ?_) (fun c3 => ?_)
  · have hw := ite_t hw c3
    refine lv_iconst (v := (nI 0)) hx hb dX4_signAt_26 (by decide) ?_
    exact hv_iret hx hb hr hlk hH hw dX4_signAt_27
  · have hw := ite_f hw c3
    refine lv_aload_n hx hb dX4_signAt_17 rfl (lv_at hl 1 rfl) ?_
    refine hv_get (ci := 4) (k := 0) (v := .ref (S.2 v0 0)) hx hb hown hKK hH cf4 (by decide) fl_X4_11 rfl k1 rfl dX4_signAt_18 ?_
    refine lv_iload_n hx hb dX4_signAt_21 rfl (lv_at hl 0 rfl) ?_
    obtain ⟨k4, hw⟩ := hw
    refine hv_iald hx hb hKK hH k4 dX4_signAt_22 ?_
    refine lv_goto (tgt := 27) hx hb dX4_signAt_23 (by decide) ?_
    exact hv_iret hx hb hr hlk hH hw dX4_signAt_27
abbrev rm_X4_number : Room := { frames := 1, cells := 0, slots := 0, locals := 23 }
set_option maxHeartbeats 4000000 in
set_option maxRecDepth 100000 in
theorem m_X4_number {l : Launch} {G : Gl} {B sz : Nat} {S : St} (v0 : Nat) (v1 : Int32) (v2 : Int32) (h : Hp) (Q : Int32 → Hp → Prop) (hw : w_X4_number S v0 v1 v2 h Q) : MI l G B sz S yX4_number cX4_number 6 .int rm_X4_number [.ref v0, .int v1, .int v2] h Q := by
  refine met_of rfl rfl ?_
  intro p e s m args below meth c hMB H ls hH hl
  obtain ⟨hx, hb, hml, hown, hKK, hr, hlk⟩ := hMB
  replace hl : lv_has ls 6 [(0, .ref v0), (1, .int v1), (2, .int v2)] := hl
  have c25 : ∀  (v0 : Nat) (v1 : Int32) (v2 : Int32) (v3 : Int32) (v4 : Int32) (h : Hp) (H : Heap) (locs : List Loc) (ls : Array Slot), HH G B S h sz s H locs → lv_has ls 6 [(0, .ref v0), (1, .int v1), (2, .int v2), (3, .int v3), (4, .int v4)] → w_X4_number_c25 S v0 v1 v2 v3 v4 h Q → W p l e rm_X4_number s m args below meth c H locs 0 0 (QI G B S sz below args s Q) (F0 m 25 ls []) := by
    intro  v0 v1 v2 v3 v4 h H locs ls hH hl hw
    unfold w_X4_number_c25 at hw
    obtain ⟨P25, hP25⟩ : ∃ P : Int32 → Int32 → Hp → Prop, ∀ (v3 : Int32) (v4 : Int32) (h : Hp), P v3 v4 h ↔ (∀ (H : Heap) (locs : List Loc) (ls : Array Slot), HH G B S h sz s H locs → lv_has ls 6 [(0, .ref v0), (1, .int v1), (2, .int v2), (3, .int v3), (4, .int v4)] → W p l e rm_X4_number s m args below meth c H locs 0 0 (QI G B S sz below args s Q) (F0 m 25 ls [])) := ⟨_, fun v3 v4 h => Iff.rfl⟩
    refine (hP25 v3 v4 h).1 (hw P25 (fun v3 v4 h hw => (hP25 v3 v4 h).2 (fun H locs ls hH hl => ?_))) H locs ls hH hl
    have hK25 : ∀ (v3 : Int32) (v4 : Int32) (h : Hp) (H : Heap) (locs : List Loc) (ls : Array Slot), HH G B S h sz s H locs → lv_has ls 6 [(0, .ref v0), (1, .int v1), (2, .int v2), (3, .int v3), (4, .int v4)] → P25 v3 v4 h → W p l e rm_X4_number s m args below meth c H locs 0 0 (QI G B S sz below args s Q) (F0 m 25 ls []) := fun v3 v4 h H locs ls hH hl hk => (hP25 v3 v4 h).1 hk H locs ls hH hl
    refine lv_iload hx hb dX4_number_25 (lv_at hl 4 rfl) ?_
    refine lv_aload_n hx hb dX4_number_27 rfl (lv_at hl 0 rfl) ?_
    obtain ⟨k1, hw⟩ := hw
    refine hv_get (ci := 4) (k := 3) (v := .ref (S.2 v0 3)) hx hb hown hKK hH cf4 (by decide) fl_X4_18 rfl k1 rfl dX4_number_28 ?_
    refine lv_iload_n hx hb dX4_number_31 rfl (lv_at hl 1 rfl) ?_
    obtain ⟨k2, hw⟩ := hw
    refine hv_iald hx hb hKK hH k2 dX4_number_32 ?_
    refine lv_icmp_ge (tgt := 72) hx hb dX4_number_33 (by decide) (fun c3 => ?_) (fun c3 => ?_)
    · have hw := ite_t hw c3
      refine lv_iload_n hx hb dX4_number_72 rfl (lv_at hl 3 rfl) ?_
      refine lv_iload_n hx hb dX4_number_73 rfl (lv_at hl 2 rfl) ?_
      refine lv_icmp_gt (tgt := 81) hx hb dX4_number_74 (by decide) (fun c4 => ?_) (fun c4 => ?_)
      · have hw := ite_t hw c4
        refine lv_iconst (v := (-1)) hx hb dX4_number_81 (by decide) ?_
        exact hv_iret hx hb hr hlk hH hw dX4_number_82
      · have hw := ite_f hw c4
        refine lv_iload_n hx hb dX4_number_77 rfl (lv_at hl 3 rfl) ?_
        refine lv_goto (tgt := 82) hx hb dX4_number_78 (by decide) ?_
        exact hv_iret hx hb hr hlk hH hw dX4_number_82
    · have hw := ite_f hw c3
      refine lv_aload_n hx hb dX4_number_36 rfl (lv_at hl 0 rfl) ?_
      refine lv_iload_n hx hb dX4_number_37 rfl (lv_at hl 1 rfl) ?_
      refine lv_iload hx hb dX4_number_38 (lv_at hl 4 rfl) ?_
      refine hv_cVI (rm := rm_X4_signAt) (As := [.int v1, .int v4]) (rest := []) (k := 2) (ci := 4) hx hb hml hown hKK hH cf4 k1 (m_X4_signAt v0 v1 v4 _ _ hw) cw_X4_128 ⟨Nat.le_of_ble_eq_true rfl, Nat.le_of_ble_eq_true rfl⟩ rfl hl.1 rfl (Nat.le_of_ble_eq_true rfl) ⟨Nat.le_of_ble_eq_true rfl, Nat.le_of_ble_eq_true rfl⟩ dX4_number_40 (fun r6 h5 H locs hH hw => ?_)
      refine lv_istore (lv' := [(5, .int r6), (0, .ref v0), (1, .int v1), (2, .int v2), (3, .int v3), (4, .int v4)]) hx hb dX4_number_43 hl (by decide) rfl (fun ls hl => ?_)
      refine lv_iload hx hb dX4_number_45 (lv_at hl 0 rfl) ?_
      refine hv_cSI (rm := rm_X4_isDigit) (As := [.int r6]) (rest := []) (k := 1) hx hb hml hown hKK hH (m_X4_isDigit r6 _ _ hw) cw_X4_33 ⟨Nat.le_of_ble_eq_true rfl, Nat.le_of_ble_eq_true rfl⟩ rfl hl.1 rfl (Nat.le_of_ble_eq_true rfl) ⟨Nat.le_of_ble_eq_true rfl, Nat.le_of_ble_eq_true rfl⟩ dX4_number_47 (fun r8 h7 H locs hH hw => ?_)
      refine lv_if_ne (tgt := 55) hx hb dX4_number_50 (by decide) (fun c9 => ?_) (fun c9 => ?_)
      · have hw := ite_f hw c9
        refine lv_bipush (v := (nI 10)) hx hb dX4_number_55 (by decide) ?_
        refine lv_iload_n hx hb dX4_number_57 rfl (lv_at hl 4 rfl) ?_
        refine lv_imul hx hb dX4_number_58 ?_
        refine lv_iload hx hb dX4_number_59 (lv_at hl 0 rfl) ?_
        refine lv_iadd hx hb dX4_number_61 ?_
        refine lv_bipush (v := (nI 48)) hx hb dX4_number_62 (by decide) ?_
        refine lv_isub hx hb dX4_number_64 ?_
        refine lv_istore_n (lv' := [(3, .int ((((nI 10) * v3) + r6) - (nI 48))), (5, .int r6), (0, .ref v0), (1, .int v1), (2, .int v2), (4, .int v4)]) hx hb dX4_number_65 rfl hl (by decide) rfl (fun ls hl => ?_)
        refine lv_iinc (v := v4 + (nI 1)) (lv' := [(4, .int (v4 + (nI 1))), (3, .int ((((nI 10) * v3) + r6) - (nI 48))), (5, .int r6), (0, .ref v0), (1, .int v1), (2, .int v2)]) hx hb dX4_number_66 hl (k := 5) rfl rfl (by decide) rfl (fun ls hl => ?_)
        refine lv_goto (tgt := 25) hx hb dX4_number_69 (by decide) ?_
        exact hK25 _ _ _ H locs ls hH (lv_sub hl [3, 4, 5, 1, 0] rfl) hw
      · have hw := ite_t hw c9
        refine lv_iconst (v := (-1)) hx hb dX4_number_53 (by decide) ?_
        exact hv_iret hx hb hr hlk hH hw dX4_number_54
  unfold w_X4_number at hw
  show W p l e rm_X4_number s m args below meth c H [] 0 0 (QI G B S sz below args s Q) (F0 m 0 ls [])
  generalize ([] : List Loc) = locs at hH ⊢
  refine lv_iload_n hx hb dX4_number_0 rfl (lv_at hl 1 rfl) ?_
  refine lv_aload_n hx hb dX4_number_1 rfl (lv_at hl 0 rfl) ?_
  obtain ⟨k1, hw⟩ := hw
  refine hv_get (ci := 4) (k := 4) (v := .int (h v0 4)) hx hb hown hKK hH cf4 (by decide) fl_X4_36 rfl k1 rfl dX4_number_2 ?_
  refine lv_icmp_gt (tgt := 18) hx hb dX4_number_5 (by decide) (fun c2 => ?_) (fun c2 => ?_)
  · have hw := ite_t hw c2
    refine lv_iconst (v := (-1)) hx hb dX4_number_18 (by decide) ?_
    exact hv_iret hx hb hr hlk hH hw dX4_number_19
  · have hw := ite_f hw c2
    refine lv_aload_n hx hb dX4_number_8 rfl (lv_at hl 0 rfl) ?_
    refine hv_get (ci := 4) (k := 3) (v := .ref (S.2 v0 3)) hx hb hown hKK hH cf4 (by decide) fl_X4_18 rfl k1 rfl dX4_number_9 ?_
    refine lv_iload_n hx hb dX4_number_12 rfl (lv_at hl 1 rfl) ?_
    obtain ⟨k3, hw⟩ := hw
    refine hv_iald hx hb hKK hH k3 dX4_number_13 ?_
    refine lv_iconst (v := (nI 1)) hx hb dX4_number_14 (by decide) ?_
    refine lv_icmp_ge (tgt := 20) hx hb dX4_number_15 (by decide) (fun c4 => ?_) (fun c4 => ?_)
    · have hw := ite_t hw c4
      refine lv_iconst (v := (nI 0)) hx hb dX4_number_20 (by decide) ?_
      refine lv_istore_n (lv' := [(3, .int (nI 0)), (0, .ref v0), (1, .int v1), (2, .int v2)]) hx hb dX4_number_21 rfl hl (by decide) rfl (fun ls hl => ?_)
      refine lv_iconst (v := (nI 0)) hx hb dX4_number_22 (by decide) ?_
      refine lv_istore (lv' := [(4, .int (nI 0)), (3, .int (nI 0)), (0, .ref v0), (1, .int v1), (2, .int v2)]) hx hb dX4_number_23 hl (by decide) rfl (fun ls hl => ?_)
      exact c25 _ _ _ _ _ _ H locs ls hH (lv_sub hl [2, 3, 4, 1, 0] rfl) hw
    · have hw := ite_f hw c4
      refine lv_iconst (v := (-1)) hx hb dX4_number_18 (by decide) ?_
      exact hv_iret hx hb hr hlk hH hw dX4_number_19
abbrev rm_X4_isName : Room := { frames := 1, cells := 0, slots := 0, locals := 23 }
set_option maxHeartbeats 4000000 in
set_option maxRecDepth 100000 in
theorem m_X4_isName {l : Launch} {G : Gl} {B sz : Nat} {S : St} (v0 : Nat) (v1 : Int32) (h : Hp) (Q : Int32 → Hp → Prop) (hw : w_X4_isName S v0 v1 h Q) : MI l G B sz S yX4_isName cX4_isName 2 .boolean rm_X4_isName [.ref v0, .int v1] h Q := by
  refine met_of rfl rfl ?_
  intro p e s m args below meth c hMB H ls hH hl
  obtain ⟨hx, hb, hml, hown, hKK, hr, hlk⟩ := hMB
  replace hl : lv_has ls 2 [(0, .ref v0), (1, .int v1)] := hl
  unfold w_X4_isName at hw
  show W p l e rm_X4_isName s m args below meth c H [] 0 0 (QI G B S sz below args s Q) (F0 m 0 ls [])
  generalize ([] : List Loc) = locs at hH ⊢
  refine lv_iload_n hx hb dX4_isName_0 rfl (lv_at hl 1 rfl) ?_
  refine lv_aload_n hx hb dX4_isName_1 rfl (lv_at hl 0 rfl) ?_
  obtain ⟨k1, hw⟩ := hw
  refine hv_get (ci := 4) (k := 4) (v := .int (h v0 4)) hx hb hown hKK hH cf4 (by decide) fl_X4_36 rfl k1 rfl dX4_isName_2 ?_
  refine lv_icmp_gt (tgt := 35) hx hb dX4_isName_5 (by decide) (fun c2 => ?_) (fun c2 => ?_)
  · have hw := ite_t hw c2
    refine lv_iconst (v := (nI 0)) hx hb dX4_isName_35 (by decide) ?_
    exact hv_zret hx hb hr hlk hH (Or.inl rfl) hw dX4_isName_36
  · have hw := ite_f hw c2
    refine lv_aload_n hx hb dX4_isName_8 rfl (lv_at hl 0 rfl) ?_
    refine hv_get (ci := 4) (k := 3) (v := .ref (S.2 v0 3)) hx hb hown hKK hH cf4 (by decide) fl_X4_18 rfl k1 rfl dX4_isName_9 ?_
    refine lv_iload_n hx hb dX4_isName_12 rfl (lv_at hl 1 rfl) ?_
    obtain ⟨k3, hw⟩ := hw
    refine hv_iald hx hb hKK hH k3 dX4_isName_13 ?_
    refine lv_bipush (v := (nI 6)) hx hb dX4_isName_14 (by decide) ?_
    refine lv_icmp_gt (tgt := 35) hx hb dX4_isName_16 (by decide) (fun c4 => ?_) (fun c4 => ?_)
    · have hw := ite_t hw c4
      refine lv_iconst (v := (nI 0)) hx hb dX4_isName_35 (by decide) ?_
      exact hv_zret hx hb hr hlk hH (Or.inl rfl) hw dX4_isName_36
    · have hw := ite_f hw c4
      refine lv_aload_n hx hb dX4_isName_19 rfl (lv_at hl 0 rfl) ?_
      refine lv_iload_n hx hb dX4_isName_20 rfl (lv_at hl 1 rfl) ?_
      refine lv_iconst (v := (nI 0)) hx hb dX4_isName_21 (by decide) ?_
      refine hv_cVI (rm := rm_X4_signAt) (As := [.int v1, .int (nI 0)]) (rest := []) (k := 2) (ci := 4) hx hb hml hown hKK hH cf4 k1 (m_X4_signAt v0 v1 (nI 0) _ _ hw) cw_X4_128 ⟨Nat.le_of_ble_eq_true rfl, Nat.le_of_ble_eq_true rfl⟩ rfl hl.1 rfl (Nat.le_of_ble_eq_true rfl) ⟨Nat.le_of_ble_eq_true rfl, Nat.le_of_ble_eq_true rfl⟩ dX4_isName_22 (fun r6 h5 H locs hH hw => ?_)
      refine hv_cSI (rm := rm_X4_isLetter) (As := [.int r6]) (rest := []) (k := 1) hx hb hml hown hKK hH (m_X4_isLetter r6 _ _ hw) cw_X4_29 ⟨Nat.le_of_ble_eq_true rfl, Nat.le_of_ble_eq_true rfl⟩ rfl hl.1 rfl (Nat.le_of_ble_eq_true rfl) ⟨Nat.le_of_ble_eq_true rfl, Nat.le_of_ble_eq_true rfl⟩ dX4_isName_25 (fun r8 h7 H locs hH hw => ?_)
      refine lv_if_eq (tgt := 35) hx hb dX4_isName_28 (by decide) (fun c9 => ?_) (fun c9 => ?_)
      · have hw := ite_t hw c9
        refine lv_iconst (v := (nI 0)) hx hb dX4_isName_35 (by decide) ?_
        exact hv_zret hx hb hr hlk hH (Or.inl rfl) hw dX4_isName_36
      · have hw := ite_f hw c9
        refine lv_iconst (v := (nI 1)) hx hb dX4_isName_31 (by decide) ?_
        refine lv_goto (tgt := 36) hx hb dX4_isName_32 (by decide) ?_
        exact hv_zret hx hb hr hlk hH (Or.inr rfl) hw dX4_isName_36
abbrev rm_X4_letterAt : Room := { frames := 1, cells := 0, slots := 0, locals := 23 }
set_option maxHeartbeats 4000000 in
set_option maxRecDepth 100000 in
theorem m_X4_letterAt {l : Launch} {G : Gl} {B sz : Nat} {S : St} (v0 : Nat) (v1 : Int32) (v2 : Int32) (h : Hp) (Q : Int32 → Hp → Prop) (hw : w_X4_letterAt S v0 v1 v2 h Q) : MI l G B sz S yX4_letterAt cX4_letterAt 3 .int rm_X4_letterAt [.ref v0, .int v1, .int v2] h Q := by
  refine met_of rfl rfl ?_
  intro p e s m args below meth c hMB H ls hH hl
  obtain ⟨hx, hb, hml, hown, hKK, hr, hlk⟩ := hMB
  replace hl : lv_has ls 3 [(0, .ref v0), (1, .int v1), (2, .int v2)] := hl
  unfold w_X4_letterAt at hw
  show W p l e rm_X4_letterAt s m args below meth c H [] 0 0 (QI G B S sz below args s Q) (F0 m 0 ls [])
  generalize ([] : List Loc) = locs at hH ⊢
  refine lv_aload_n hx hb dX4_letterAt_0 rfl (lv_at hl 0 rfl) ?_
  refine lv_iload_n hx hb dX4_letterAt_1 rfl (lv_at hl 1 rfl) ?_
  refine lv_iload_n hx hb dX4_letterAt_2 rfl (lv_at hl 2 rfl) ?_
  obtain ⟨k1, hw⟩ := hw
  refine hv_cVI (rm := rm_X4_signAt) (As := [.int v1, .int v2]) (rest := []) (k := 2) (ci := 4) hx hb hml hown hKK hH cf4 k1 (m_X4_signAt v0 v1 v2 _ _ hw) cw_X4_128 ⟨Nat.le_of_ble_eq_true rfl, Nat.le_of_ble_eq_true rfl⟩ rfl hl.1 rfl (Nat.le_of_ble_eq_true rfl) ⟨Nat.le_of_ble_eq_true rfl, Nat.le_of_ble_eq_true rfl⟩ dX4_letterAt_3 (fun r3 h2 H locs hH hw => ?_)
  refine lv_bipush (v := (nI 97)) hx hb dX4_letterAt_6 (by decide) ?_
  refine lv_isub hx hb dX4_letterAt_8 ?_
  exact hv_iret hx hb hr hlk hH hw dX4_letterAt_9
abbrev rm_X4_headComes : Room := { frames := 3, cells := 0, slots := 0, locals := 62 }
set_option maxHeartbeats 4000000 in
set_option maxRecDepth 100000 in
theorem m_X4_headComes {l : Launch} {G : Gl} {B sz : Nat} {S : St} (v0 : Nat) (v1 : Nat) (v2 : Int32) (h : Hp) (Q : Int32 → Hp → Prop) (hw : w_X4_headComes S v0 v1 v2 h Q) : MI l G B sz S yX4_headComes cX4_headComes 6 .boolean rm_X4_headComes [.ref v0, .ref v1, .int v2] h Q := by
  refine met_of rfl rfl ?_
  intro p e s m args below meth c hMB H ls hH hl
  obtain ⟨hx, hb, hml, hown, hKK, hr, hlk⟩ := hMB
  replace hl : lv_has ls 6 [(0, .ref v0), (1, .ref v1), (2, .int v2)] := hl
  have c62 : ∀  (v0 : Nat) (v1 : Nat) (v5 : Int32) (h : Hp) (H : Heap) (locs : List Loc) (ls : Array Slot), HH G B S h sz s H locs → lv_has ls 6 [(0, .ref v0), (1, .ref v1), (5, .int v5)] → w_X4_headComes_c62 S v0 v1 v5 h Q → W p l e rm_X4_headComes s m args below meth c H locs 0 0 (QI G B S sz below args s Q) (F0 m 62 ls []) := by
    intro  v0 v1 v5 h H locs ls hH hl hw
    unfold w_X4_headComes_c62 at hw
    obtain ⟨P62, hP62⟩ : ∃ P : Int32 → Hp → Prop, ∀ (v5 : Int32) (h : Hp), P v5 h ↔ (∀ (H : Heap) (locs : List Loc) (ls : Array Slot), HH G B S h sz s H locs → lv_has ls 6 [(0, .ref v0), (1, .ref v1), (5, .int v5)] → W p l e rm_X4_headComes s m args below meth c H locs 0 0 (QI G B S sz below args s Q) (F0 m 62 ls [])) := ⟨_, fun v5 h => Iff.rfl⟩
    refine (hP62 v5 h).1 (hw P62 (fun v5 h hw => (hP62 v5 h).2 (fun H locs ls hH hl => ?_))) H locs ls hH hl
    have hK62 : ∀ (v5 : Int32) (h : Hp) (H : Heap) (locs : List Loc) (ls : Array Slot), HH G B S h sz s H locs → lv_has ls 6 [(0, .ref v0), (1, .ref v1), (5, .int v5)] → P62 v5 h → W p l e rm_X4_headComes s m args below meth c H locs 0 0 (QI G B S sz below args s Q) (F0 m 62 ls []) := fun v5 h H locs ls hH hl hk => (hP62 v5 h).1 hk H locs ls hH hl
    refine lv_iload hx hb dX4_headComes_62 (lv_at hl 2 rfl) ?_
    refine lv_aload_n hx hb dX4_headComes_64 rfl (lv_at hl 0 rfl) ?_
    obtain ⟨k1, hw⟩ := hw
    refine hv_get (ci := 4) (k := 3) (v := .ref (S.2 v0 3)) hx hb hown hKK hH cf4 (by decide) fl_X4_18 rfl k1 rfl dX4_headComes_65 ?_
    refine lv_iconst (v := (nI 2)) hx hb dX4_headComes_68 (by decide) ?_
    obtain ⟨k2, hw⟩ := hw
    refine hv_iald hx hb hKK hH k2 dX4_headComes_69 ?_
    refine lv_icmp_ge (tgt := 90) hx hb dX4_headComes_70 (by decide) (fun c3 => ?_) (fun c3 => ?_)
    · have hw := ite_t hw c3
      refine lv_iconst (v := (nI 1)) hx hb dX4_headComes_90 (by decide) ?_
      exact hv_zret hx hb hr hlk hH (Or.inr rfl) hw dX4_headComes_91
    · have hw := ite_f hw c3
      refine lv_aload_n hx hb dX4_headComes_73 rfl (lv_at hl 1 rfl) ?_
      refine lv_aload_n hx hb dX4_headComes_74 rfl (lv_at hl 0 rfl) ?_
      refine lv_iconst (v := (nI 2)) hx hb dX4_headComes_75 (by decide) ?_
      refine lv_iload hx hb dX4_headComes_76 (lv_at hl 2 rfl) ?_
      refine hv_cVI (rm := rm_X4_letterAt) (As := [.int (nI 2), .int v5]) (rest := [.ref v1]) (k := 2) (ci := 4) hx hb hml hown hKK hH cf4 k1 (m_X4_letterAt v0 (nI 2) v5 _ _ hw) cw_X4_84 ⟨Nat.le_of_ble_eq_true rfl, Nat.le_of_ble_eq_true rfl⟩ rfl hl.1 rfl (Nat.le_of_ble_eq_true rfl) ⟨Nat.le_of_ble_eq_true rfl, Nat.le_of_ble_eq_true rfl⟩ dX4_headComes_78 (fun r5 h4 H locs hH hw => ?_)
      obtain ⟨k6, hw⟩ := hw
      refine hv_cVV (rm := rm_X1_lengthenNewestName) (As := [.int r5]) (rest := []) (k := 1) (ci := 1) hx hb hml hown hKK hH cf1 k6 (m_X1_lengthenNewestName v1 r5 _ _ hw) cw_X4_87 ⟨Nat.le_of_ble_eq_true rfl, Nat.le_of_ble_eq_true rfl⟩ rfl hl.1 rfl (Nat.le_of_ble_eq_true rfl) ⟨Nat.le_of_ble_eq_true rfl, Nat.le_of_ble_eq_true rfl⟩ dX4_headComes_81 (fun h7 H locs hH hw => ?_)
      refine lv_iinc (v := v5 + (nI 1)) (lv' := [(5, .int (v5 + (nI 1))), (0, .ref v0), (1, .ref v1)]) hx hb dX4_headComes_84 hl (k := 2) rfl rfl (by decide) rfl (fun ls hl => ?_)
      refine lv_goto (tgt := 62) hx hb dX4_headComes_87 (by decide) ?_
      exact hK62 _ _ H locs ls hH (lv_sub hl [1, 2, 0] rfl) hw
  unfold w_X4_headComes at hw
  show W p l e rm_X4_headComes s m args below meth c H [] 0 0 (QI G B S sz below args s Q) (F0 m 0 ls [])
  generalize ([] : List Loc) = locs at hH ⊢
  refine lv_aload_n hx hb dX4_headComes_0 rfl (lv_at hl 0 rfl) ?_
  refine lv_iconst (v := (nI 1)) hx hb dX4_headComes_1 (by decide) ?_
  refine lv_bipush (v := (nI 9)) hx hb dX4_headComes_2 (by decide) ?_
  obtain ⟨k1, hw⟩ := hw
  refine hv_cVI (rm := rm_X4_number) (As := [.int (nI 1), .int (nI 9)]) (rest := []) (k := 2) (ci := 4) hx hb hml hown hKK hH cf4 k1 (m_X4_number v0 (nI 1) (nI 9) _ _ hw) cw_X4_70 ⟨Nat.le_of_ble_eq_true rfl, Nat.le_of_ble_eq_true rfl⟩ rfl hl.1 rfl (Nat.le_of_ble_eq_true rfl) ⟨Nat.le_of_ble_eq_true rfl, Nat.le_of_ble_eq_true rfl⟩ dX4_headComes_4 (fun r3 h2 H locs hH hw => ?_)
  refine lv_istore_n (lv' := [(3, .int r3), (0, .ref v0), (1, .ref v1), (2, .int v2)]) hx hb dX4_headComes_7 rfl hl (by decide) rfl (fun ls hl => ?_)
  refine lv_aload_n hx hb dX4_headComes_8 rfl (lv_at hl 1 rfl) ?_
  refine lv_iconst (v := (nI 3)) hx hb dX4_headComes_9 (by decide) ?_
  refine lv_bipush (v := (nI 47)) hx hb dX4_headComes_10 (by decide) ?_
  refine hv_cVI (rm := rm_X4_number) (As := [.int (nI 3), .int (nI 47)]) (rest := []) (k := 2) (ci := 4) hx hb hml hown hKK hH cf4 k1 (m_X4_number v0 (nI 3) (nI 47) _ _ hw) cw_X4_70 ⟨Nat.le_of_ble_eq_true rfl, Nat.le_of_ble_eq_true rfl⟩ rfl hl.1 rfl (Nat.le_of_ble_eq_true rfl) ⟨Nat.le_of_ble_eq_true rfl, Nat.le_of_ble_eq_true rfl⟩ dX4_headComes_12 (fun r5 h4 H locs hH hw => ?_)
  refine lv_istore (lv' := [(4, .int r5), (3, .int r3), (0, .ref v0), (1, .ref v1), (2, .int v2)]) hx hb dX4_headComes_15 hl (by decide) rfl (fun ls hl => ?_)
  refine lv_aload_n hx hb dX4_headComes_17 rfl (lv_at hl 2 rfl) ?_
  refine hv_get (ci := 4) (k := 4) (v := .int (h4 v0 4)) hx hb hown hKK hH cf4 (by decide) fl_X4_36 rfl k1 rfl dX4_headComes_18 ?_
  refine lv_iconst (v := (nI 3)) hx hb dX4_headComes_21 (by decide) ?_
  refine lv_icmp_ne (tgt := 49) hx hb dX4_headComes_22 (by decide) (fun c6 => ?_) (fun c6 => ?_)
  · have hw := ite_f hw c6
    refine lv_iconst (v := (nI 0)) hx hb dX4_headComes_49 (by decide) ?_
    exact hv_zret hx hb hr hlk hH (Or.inl rfl) hw dX4_headComes_50
  · have hw := ite_t hw c6
    refine lv_iload_n hx hb dX4_headComes_25 rfl (lv_at hl 1 rfl) ?_
    refine lv_if_lt (tgt := 49) hx hb dX4_headComes_26 (by decide) (fun c7 => ?_) (fun c7 => ?_)
    · have hw := ite_t hw c7
      refine lv_iconst (v := (nI 0)) hx hb dX4_headComes_49 (by decide) ?_
      exact hv_zret hx hb hr hlk hH (Or.inl rfl) hw dX4_headComes_50
    · have hw := ite_f hw c7
      refine lv_aload_n hx hb dX4_headComes_29 rfl (lv_at hl 2 rfl) ?_
      refine lv_iconst (v := (nI 2)) hx hb dX4_headComes_30 (by decide) ?_
      refine hv_cVI (rm := rm_X4_isName) (As := [.int (nI 2)]) (rest := []) (k := 1) (ci := 4) hx hb hml hown hKK hH cf4 k1 (m_X4_isName v0 (nI 2) _ _ hw) cw_X4_74 ⟨Nat.le_of_ble_eq_true rfl, Nat.le_of_ble_eq_true rfl⟩ rfl hl.1 rfl (Nat.le_of_ble_eq_true rfl) ⟨Nat.le_of_ble_eq_true rfl, Nat.le_of_ble_eq_true rfl⟩ dX4_headComes_31 (fun r9 h8 H locs hH hw => ?_)
      refine lv_if_eq (tgt := 49) hx hb dX4_headComes_34 (by decide) (fun c10 => ?_) (fun c10 => ?_)
      · have hw := ite_t hw c10
        refine lv_iconst (v := (nI 0)) hx hb dX4_headComes_49 (by decide) ?_
        exact hv_zret hx hb hr hlk hH (Or.inl rfl) hw dX4_headComes_50
      · have hw := ite_f hw c10
        refine lv_iload hx hb dX4_headComes_37 (lv_at hl 0 rfl) ?_
        refine lv_if_lt (tgt := 49) hx hb dX4_headComes_39 (by decide) (fun c11 => ?_) (fun c11 => ?_)
        · have hw := ite_t hw c11
          refine lv_iconst (v := (nI 0)) hx hb dX4_headComes_49 (by decide) ?_
          exact hv_zret hx hb hr hlk hH (Or.inl rfl) hw dX4_headComes_50
        · have hw := ite_f hw c11
          refine lv_aload_n hx hb dX4_headComes_42 rfl (lv_at hl 3 rfl) ?_
          obtain ⟨k12, hw⟩ := hw
          refine hv_cVI (rm := rm_X1_isFull) (As := []) (rest := []) (k := 0) (ci := 1) hx hb hml hown hKK hH cf1 k12 (m_X1_isFull v1 _ _ hw) cw_X4_77 ⟨Nat.le_of_ble_eq_true rfl, Nat.le_of_ble_eq_true rfl⟩ rfl hl.1 rfl (Nat.le_of_ble_eq_true rfl) ⟨Nat.le_of_ble_eq_true rfl, Nat.le_of_ble_eq_true rfl⟩ dX4_headComes_43 (fun r14 h13 H locs hH hw => ?_)
          refine lv_if_eq (tgt := 51) hx hb dX4_headComes_46 (by decide) (fun c15 => ?_) (fun c15 => ?_)
          · have hw := ite_t hw c15
            refine lv_aload_n hx hb dX4_headComes_51 rfl (lv_at hl 3 rfl) ?_
            refine lv_iload_n hx hb dX4_headComes_52 rfl (lv_at hl 4 rfl) ?_
            refine lv_iload_n hx hb dX4_headComes_53 rfl (lv_at hl 1 rfl) ?_
            refine lv_iload hx hb dX4_headComes_54 (lv_at hl 0 rfl) ?_
            refine hv_cVV (rm := rm_X1_addHead) (As := [.int v2, .int r3, .int r5]) (rest := []) (k := 3) (ci := 1) hx hb hml hown hKK hH cf1 k12 (m_X1_addHead v1 v2 r3 r5 _ _ hw) cw_X4_80 ⟨Nat.le_of_ble_eq_true rfl, Nat.le_of_ble_eq_true rfl⟩ rfl hl.1 rfl (Nat.le_of_ble_eq_true rfl) ⟨Nat.le_of_ble_eq_true rfl, Nat.le_of_ble_eq_true rfl⟩ dX4_headComes_56 (fun h16 H locs hH hw => ?_)
            refine lv_iconst (v := (nI 0)) hx hb dX4_headComes_59 (by decide) ?_
            refine lv_istore (lv' := [(5, .int (nI 0)), (4, .int r5), (3, .int r3), (0, .ref v0), (1, .ref v1), (2, .int v2)]) hx hb dX4_headComes_60 hl (by decide) rfl (fun ls hl => ?_)
            exact c62 _ _ _ _ H locs ls hH (lv_sub hl [3, 4, 0] rfl) hw
          · have hw := ite_f hw c15
            refine lv_iconst (v := (nI 0)) hx hb dX4_headComes_49 (by decide) ?_
            exact hv_zret hx hb hr hlk hH (Or.inl rfl) hw dX4_headComes_50
abbrev rm_X4_wallComes : Room := { frames := 2, cells := 0, slots := 0, locals := 48 }
set_option maxHeartbeats 4000000 in
set_option maxRecDepth 100000 in
theorem m_X4_wallComes {l : Launch} {G : Gl} {B sz : Nat} {S : St} (v0 : Nat) (v1 : Nat) (h : Hp) (Q : Int32 → Hp → Prop) (hw : w_X4_wallComes S v0 v1 h Q) : MI l G B sz S yX4_wallComes cX4_wallComes 4 .boolean rm_X4_wallComes [.ref v0, .ref v1] h Q := by
  refine met_of rfl rfl ?_
  intro p e s m args below meth c hMB H ls hH hl
  obtain ⟨hx, hb, hml, hown, hKK, hr, hlk⟩ := hMB
  replace hl : lv_has ls 4 [(0, .ref v0), (1, .ref v1)] := hl
  unfold w_X4_wallComes at hw
  show W p l e rm_X4_wallComes s m args below meth c H [] 0 0 (QI G B S sz below args s Q) (F0 m 0 ls [])
  generalize ([] : List Loc) = locs at hH ⊢
  refine lv_aload_n hx hb dX4_wallComes_0 rfl (lv_at hl 0 rfl) ?_
  refine lv_iconst (v := (nI 1)) hx hb dX4_wallComes_1 (by decide) ?_
  refine lv_bipush (v := (nI 47)) hx hb dX4_wallComes_2 (by decide) ?_
  obtain ⟨k1, hw⟩ := hw
  refine hv_cVI (rm := rm_X4_number) (As := [.int (nI 1), .int (nI 47)]) (rest := []) (k := 2) (ci := 4) hx hb hml hown hKK hH cf4 k1 (m_X4_number v0 (nI 1) (nI 47) _ _ hw) cw_X4_70 ⟨Nat.le_of_ble_eq_true rfl, Nat.le_of_ble_eq_true rfl⟩ rfl hl.1 rfl (Nat.le_of_ble_eq_true rfl) ⟨Nat.le_of_ble_eq_true rfl, Nat.le_of_ble_eq_true rfl⟩ dX4_wallComes_4 (fun r3 h2 H locs hH hw => ?_)
  refine lv_istore_n (lv' := [(2, .int r3), (0, .ref v0), (1, .ref v1)]) hx hb dX4_wallComes_7 rfl hl (by decide) rfl (fun ls hl => ?_)
  refine lv_aload_n hx hb dX4_wallComes_8 rfl (lv_at hl 1 rfl) ?_
  refine lv_iconst (v := (nI 2)) hx hb dX4_wallComes_9 (by decide) ?_
  refine lv_bipush (v := (nI 9)) hx hb dX4_wallComes_10 (by decide) ?_
  refine hv_cVI (rm := rm_X4_number) (As := [.int (nI 2), .int (nI 9)]) (rest := []) (k := 2) (ci := 4) hx hb hml hown hKK hH cf4 k1 (m_X4_number v0 (nI 2) (nI 9) _ _ hw) cw_X4_70 ⟨Nat.le_of_ble_eq_true rfl, Nat.le_of_ble_eq_true rfl⟩ rfl hl.1 rfl (Nat.le_of_ble_eq_true rfl) ⟨Nat.le_of_ble_eq_true rfl, Nat.le_of_ble_eq_true rfl⟩ dX4_wallComes_12 (fun r5 h4 H locs hH hw => ?_)
  refine lv_istore_n (lv' := [(3, .int r5), (2, .int r3), (0, .ref v0), (1, .ref v1)]) hx hb dX4_wallComes_15 rfl hl (by decide) rfl (fun ls hl => ?_)
  refine lv_aload_n hx hb dX4_wallComes_16 rfl (lv_at hl 2 rfl) ?_
  refine hv_get (ci := 4) (k := 4) (v := .int (h4 v0 4)) hx hb hown hKK hH cf4 (by decide) fl_X4_36 rfl k1 rfl dX4_wallComes_17 ?_
  refine lv_iconst (v := (nI 2)) hx hb dX4_wallComes_20 (by decide) ?_
  refine lv_icmp_ne (tgt := 32) hx hb dX4_wallComes_21 (by decide) (fun c6 => ?_) (fun c6 => ?_)
  · have hw := ite_f hw c6
    refine lv_iconst (v := (nI 0)) hx hb dX4_wallComes_32 (by decide) ?_
    exact hv_zret hx hb hr hlk hH (Or.inl rfl) hw dX4_wallComes_33
  · have hw := ite_t hw c6
    refine lv_iload_n hx hb dX4_wallComes_24 rfl (lv_at hl 1 rfl) ?_
    refine lv_if_lt (tgt := 32) hx hb dX4_wallComes_25 (by decide) (fun c7 => ?_) (fun c7 => ?_)
    · have hw := ite_t hw c7
      refine lv_iconst (v := (nI 0)) hx hb dX4_wallComes_32 (by decide) ?_
      exact hv_zret hx hb hr hlk hH (Or.inl rfl) hw dX4_wallComes_33
    · have hw := ite_f hw c7
      refine lv_iload_n hx hb dX4_wallComes_28 rfl (lv_at hl 0 rfl) ?_
      refine lv_if_ge (tgt := 34) hx hb dX4_wallComes_29 (by decide) (fun c8 => ?_) (fun c8 => ?_)
      · have hw := ite_t hw c8
        refine lv_aload_n hx hb dX4_wallComes_34 rfl (lv_at hl 3 rfl) ?_
        obtain ⟨k9, hw⟩ := hw
        refine hv_getN (ci := 1) (k := 0) (v := .ref (S.2 v1 0)) hx hb hown hKK hH cf1 (by decide) fl_X4_91 rfl k9 rfl dX4_wallComes_35 ?_
        refine lv_iload_n hx hb dX4_wallComes_38 rfl (lv_at hl 1 rfl) ?_
        refine lv_iload_n hx hb dX4_wallComes_39 rfl (lv_at hl 0 rfl) ?_
        obtain ⟨k10, hw⟩ := hw
        refine hv_iast hx hb hKK hH k10 dX4_wallComes_40 (fun H locs hH => ?_)
        refine lv_iconst (v := (nI 1)) hx hb dX4_wallComes_41 (by decide) ?_
        exact hv_zret hx hb hr hlk hH (Or.inr rfl) hw dX4_wallComes_42
      · have hw := ite_f hw c8
        refine lv_iconst (v := (nI 0)) hx hb dX4_wallComes_32 (by decide) ?_
        exact hv_zret hx hb hr hlk hH (Or.inl rfl) hw dX4_wallComes_33
abbrev rm_X4_folkCome : Room := { frames := 2, cells := 0, slots := 0, locals := 48 }
set_option maxHeartbeats 4000000 in
set_option maxRecDepth 100000 in
theorem m_X4_folkCome {l : Launch} {G : Gl} {B sz : Nat} {S : St} (v0 : Nat) (v1 : Nat) (h : Hp) (Q : Int32 → Hp → Prop) (hw : w_X4_folkCome S v0 v1 h Q) : MI l G B sz S yX4_folkCome cX4_folkCome 4 .boolean rm_X4_folkCome [.ref v0, .ref v1] h Q := by
  refine met_of rfl rfl ?_
  intro p e s m args below meth c hMB H ls hH hl
  obtain ⟨hx, hb, hml, hown, hKK, hr, hlk⟩ := hMB
  replace hl : lv_has ls 4 [(0, .ref v0), (1, .ref v1)] := hl
  unfold w_X4_folkCome at hw
  show W p l e rm_X4_folkCome s m args below meth c H [] 0 0 (QI G B S sz below args s Q) (F0 m 0 ls [])
  generalize ([] : List Loc) = locs at hH ⊢
  refine lv_aload_n hx hb dX4_folkCome_0 rfl (lv_at hl 0 rfl) ?_
  refine lv_iconst (v := (nI 1)) hx hb dX4_folkCome_1 (by decide) ?_
  refine lv_bipush (v := (nI 47)) hx hb dX4_folkCome_2 (by decide) ?_
  obtain ⟨k1, hw⟩ := hw
  refine hv_cVI (rm := rm_X4_number) (As := [.int (nI 1), .int (nI 47)]) (rest := []) (k := 2) (ci := 4) hx hb hml hown hKK hH cf4 k1 (m_X4_number v0 (nI 1) (nI 47) _ _ hw) cw_X4_70 ⟨Nat.le_of_ble_eq_true rfl, Nat.le_of_ble_eq_true rfl⟩ rfl hl.1 rfl (Nat.le_of_ble_eq_true rfl) ⟨Nat.le_of_ble_eq_true rfl, Nat.le_of_ble_eq_true rfl⟩ dX4_folkCome_4 (fun r3 h2 H locs hH hw => ?_)
  refine lv_istore_n (lv' := [(2, .int r3), (0, .ref v0), (1, .ref v1)]) hx hb dX4_folkCome_7 rfl hl (by decide) rfl (fun ls hl => ?_)
  refine lv_aload_n hx hb dX4_folkCome_8 rfl (lv_at hl 1 rfl) ?_
  refine lv_iconst (v := (nI 2)) hx hb dX4_folkCome_9 (by decide) ?_
  refine lv_bipush (v := (nI 9)) hx hb dX4_folkCome_10 (by decide) ?_
  refine hv_cVI (rm := rm_X4_number) (As := [.int (nI 2), .int (nI 9)]) (rest := []) (k := 2) (ci := 4) hx hb hml hown hKK hH cf4 k1 (m_X4_number v0 (nI 2) (nI 9) _ _ hw) cw_X4_70 ⟨Nat.le_of_ble_eq_true rfl, Nat.le_of_ble_eq_true rfl⟩ rfl hl.1 rfl (Nat.le_of_ble_eq_true rfl) ⟨Nat.le_of_ble_eq_true rfl, Nat.le_of_ble_eq_true rfl⟩ dX4_folkCome_12 (fun r5 h4 H locs hH hw => ?_)
  refine lv_istore_n (lv' := [(3, .int r5), (2, .int r3), (0, .ref v0), (1, .ref v1)]) hx hb dX4_folkCome_15 rfl hl (by decide) rfl (fun ls hl => ?_)
  refine lv_aload_n hx hb dX4_folkCome_16 rfl (lv_at hl 2 rfl) ?_
  refine hv_get (ci := 4) (k := 4) (v := .int (h4 v0 4)) hx hb hown hKK hH cf4 (by decide) fl_X4_36 rfl k1 rfl dX4_folkCome_17 ?_
  refine lv_iconst (v := (nI 3)) hx hb dX4_folkCome_20 (by decide) ?_
  refine lv_icmp_ne (tgt := 50) hx hb dX4_folkCome_21 (by decide) (fun c6 => ?_) (fun c6 => ?_)
  · have hw := ite_f hw c6
    refine lv_iconst (v := (nI 0)) hx hb dX4_folkCome_50 (by decide) ?_
    exact hv_zret hx hb hr hlk hH (Or.inl rfl) hw dX4_folkCome_51
  · have hw := ite_t hw c6
    refine lv_iload_n hx hb dX4_folkCome_24 rfl (lv_at hl 1 rfl) ?_
    refine lv_if_lt (tgt := 50) hx hb dX4_folkCome_25 (by decide) (fun c7 => ?_) (fun c7 => ?_)
    · have hw := ite_t hw c7
      refine lv_iconst (v := (nI 0)) hx hb dX4_folkCome_50 (by decide) ?_
      exact hv_zret hx hb hr hlk hH (Or.inl rfl) hw dX4_folkCome_51
    · have hw := ite_f hw c7
      refine lv_iload_n hx hb dX4_folkCome_28 rfl (lv_at hl 0 rfl) ?_
      refine lv_if_lt (tgt := 50) hx hb dX4_folkCome_29 (by decide) (fun c8 => ?_) (fun c8 => ?_)
      · have hw := ite_t hw c8
        refine lv_iconst (v := (nI 0)) hx hb dX4_folkCome_50 (by decide) ?_
        exact hv_zret hx hb hr hlk hH (Or.inl rfl) hw dX4_folkCome_51
      · have hw := ite_f hw c8
        refine lv_aload_n hx hb dX4_folkCome_32 rfl (lv_at hl 2 rfl) ?_
        refine lv_iconst (v := (nI 3)) hx hb dX4_folkCome_33 (by decide) ?_
        refine hv_cVI (rm := rm_X4_isName) (As := [.int (nI 3)]) (rest := []) (k := 1) (ci := 4) hx hb hml hown hKK hH cf4 k1 (m_X4_isName v0 (nI 3) _ _ hw) cw_X4_74 ⟨Nat.le_of_ble_eq_true rfl, Nat.le_of_ble_eq_true rfl⟩ rfl hl.1 rfl (Nat.le_of_ble_eq_true rfl) ⟨Nat.le_of_ble_eq_true rfl, Nat.le_of_ble_eq_true rfl⟩ dX4_folkCome_34 (fun r10 h9 H locs hH hw => ?_)
        refine lv_if_eq (tgt := 50) hx hb dX4_folkCome_37 (by decide) (fun c11 => ?_) (fun c11 => ?_)
        · have hw := ite_t hw c11
          refine lv_iconst (v := (nI 0)) hx hb dX4_folkCome_50 (by decide) ?_
          exact hv_zret hx hb hr hlk hH (Or.inl rfl) hw dX4_folkCome_51
        · have hw := ite_f hw c11
          refine lv_aload_n hx hb dX4_folkCome_40 rfl (lv_at hl 2 rfl) ?_
          refine hv_get (ci := 4) (k := 3) (v := .ref (S.2 v0 3)) hx hb hown hKK hH cf4 (by decide) fl_X4_18 rfl k1 rfl dX4_folkCome_41 ?_
          refine lv_iconst (v := (nI 3)) hx hb dX4_folkCome_44 (by decide) ?_
          obtain ⟨k12, hw⟩ := hw
          refine hv_iald hx hb hKK hH k12 dX4_folkCome_45 ?_
          refine lv_iconst (v := (nI 1)) hx hb dX4_folkCome_46 (by decide) ?_
          refine lv_icmp_eq (tgt := 52) hx hb dX4_folkCome_47 (by decide) (fun c13 => ?_) (fun c13 => ?_)
          · have hw := ite_t hw c13
            refine lv_aload_n hx hb dX4_folkCome_52 rfl (lv_at hl 3 rfl) ?_
            obtain ⟨k14, hw⟩ := hw
            refine hv_getN (ci := 1) (k := 1) (v := .ref (S.2 v1 1)) hx hb hown hKK hH cf1 (by decide) fl_X4_94 rfl k14 rfl dX4_folkCome_53 ?_
            refine lv_iload_n hx hb dX4_folkCome_56 rfl (lv_at hl 1 rfl) ?_
            refine lv_iload_n hx hb dX4_folkCome_57 rfl (lv_at hl 0 rfl) ?_
            obtain ⟨k15, hw⟩ := hw
            refine hv_iast hx hb hKK hH k15 dX4_folkCome_58 (fun H locs hH => ?_)
            refine lv_aload_n hx hb dX4_folkCome_59 rfl (lv_at hl 3 rfl) ?_
            refine hv_getN (ci := 1) (k := 2) (v := .ref (S.2 v1 2)) hx hb hown hKK hH cf1 (by decide) fl_X4_97 rfl k14 rfl dX4_folkCome_60 ?_
            refine lv_iload_n hx hb dX4_folkCome_63 rfl (lv_at hl 1 rfl) ?_
            refine lv_aload_n hx hb dX4_folkCome_64 rfl (lv_at hl 2 rfl) ?_
            refine lv_iconst (v := (nI 3)) hx hb dX4_folkCome_65 (by decide) ?_
            refine lv_iconst (v := (nI 0)) hx hb dX4_folkCome_66 (by decide) ?_
            refine hv_cVI (rm := rm_X4_letterAt) (As := [.int (nI 3), .int (nI 0)]) (rest := [.int r3, .ref (S.2 v1 2)]) (k := 2) (ci := 4) hx hb hml hown hKK hH cf4 k1 (m_X4_letterAt v0 (nI 3) (nI 0) _ _ hw) cw_X4_84 ⟨Nat.le_of_ble_eq_true rfl, Nat.le_of_ble_eq_true rfl⟩ rfl hl.1 rfl (Nat.le_of_ble_eq_true rfl) ⟨Nat.le_of_ble_eq_true rfl, Nat.le_of_ble_eq_true rfl⟩ dX4_folkCome_67 (fun r17 h16 H locs hH hw => ?_)
            obtain ⟨k18, hw⟩ := hw
            refine hv_iast hx hb hKK hH k18 dX4_folkCome_70 (fun H locs hH => ?_)
            refine lv_iconst (v := (nI 1)) hx hb dX4_folkCome_71 (by decide) ?_
            exact hv_zret hx hb hr hlk hH (Or.inr rfl) hw dX4_folkCome_72
          · have hw := ite_f hw c13
            refine lv_iconst (v := (nI 0)) hx hb dX4_folkCome_50 (by decide) ?_
            exact hv_zret hx hb hr hlk hH (Or.inl rfl) hw dX4_folkCome_51
abbrev rm_X4_followersCome : Room := { frames := 2, cells := 0, slots := 0, locals := 48 }
set_option maxHeartbeats 4000000 in
set_option maxRecDepth 100000 in
theorem m_X4_followersCome {l : Launch} {G : Gl} {B sz : Nat} {S : St} (v0 : Nat) (v1 : Nat) (h : Hp) (Q : Int32 → Hp → Prop) (hw : w_X4_followersCome S v0 v1 h Q) : MI l G B sz S yX4_followersCome cX4_followersCome 4 .boolean rm_X4_followersCome [.ref v0, .ref v1] h Q := by
  refine met_of rfl rfl ?_
  intro p e s m args below meth c hMB H ls hH hl
  obtain ⟨hx, hb, hml, hown, hKK, hr, hlk⟩ := hMB
  replace hl : lv_has ls 4 [(0, .ref v0), (1, .ref v1)] := hl
  unfold w_X4_followersCome at hw
  show W p l e rm_X4_followersCome s m args below meth c H [] 0 0 (QI G B S sz below args s Q) (F0 m 0 ls [])
  generalize ([] : List Loc) = locs at hH ⊢
  refine lv_aload_n hx hb dX4_followersCome_0 rfl (lv_at hl 0 rfl) ?_
  refine lv_iconst (v := (nI 1)) hx hb dX4_followersCome_1 (by decide) ?_
  refine lv_aload_n hx hb dX4_followersCome_2 rfl (lv_at hl 1 rfl) ?_
  obtain ⟨k1, hw⟩ := hw
  refine hv_getN (ci := 1) (k := 4) (v := .int (h v1 4)) hx hb hown hKK hH cf1 (by decide) fl_X4_100 rfl k1 rfl dX4_followersCome_3 ?_
  refine lv_iconst (v := (nI 1)) hx hb dX4_followersCome_6 (by decide) ?_
  refine lv_isub hx hb dX4_followersCome_7 ?_
  obtain ⟨k2, hw⟩ := hw
  refine hv_cVI (rm := rm_X4_number) (As := [.int (nI 1), .int ((h v1 4) - (nI 1))]) (rest := []) (k := 2) (ci := 4) hx hb hml hown hKK hH cf4 k2 (m_X4_number v0 (nI 1) ((h v1 4) - (nI 1)) _ _ hw) cw_X4_70 ⟨Nat.le_of_ble_eq_true rfl, Nat.le_of_ble_eq_true rfl⟩ rfl hl.1 rfl (Nat.le_of_ble_eq_true rfl) ⟨Nat.le_of_ble_eq_true rfl, Nat.le_of_ble_eq_true rfl⟩ dX4_followersCome_8 (fun r4 h3 H locs hH hw => ?_)
  refine lv_istore_n (lv' := [(2, .int r4), (0, .ref v0), (1, .ref v1)]) hx hb dX4_followersCome_11 rfl hl (by decide) rfl (fun ls hl => ?_)
  refine lv_aload_n hx hb dX4_followersCome_12 rfl (lv_at hl 1 rfl) ?_
  refine lv_iconst (v := (nI 2)) hx hb dX4_followersCome_13 (by decide) ?_
  refine lv_bipush (v := (nI 99)) hx hb dX4_followersCome_14 (by decide) ?_
  refine hv_cVI (rm := rm_X4_number) (As := [.int (nI 2), .int (nI 99)]) (rest := []) (k := 2) (ci := 4) hx hb hml hown hKK hH cf4 k2 (m_X4_number v0 (nI 2) (nI 99) _ _ hw) cw_X4_70 ⟨Nat.le_of_ble_eq_true rfl, Nat.le_of_ble_eq_true rfl⟩ rfl hl.1 rfl (Nat.le_of_ble_eq_true rfl) ⟨Nat.le_of_ble_eq_true rfl, Nat.le_of_ble_eq_true rfl⟩ dX4_followersCome_16 (fun r6 h5 H locs hH hw => ?_)
  refine lv_istore_n (lv' := [(3, .int r6), (2, .int r4), (0, .ref v0), (1, .ref v1)]) hx hb dX4_followersCome_19 rfl hl (by decide) rfl (fun ls hl => ?_)
  refine lv_aload_n hx hb dX4_followersCome_20 rfl (lv_at hl 2 rfl) ?_
  refine hv_get (ci := 4) (k := 4) (v := .int (h5 v0 4)) hx hb hown hKK hH cf4 (by decide) fl_X4_36 rfl k2 rfl dX4_followersCome_21 ?_
  refine lv_iconst (v := (nI 2)) hx hb dX4_followersCome_24 (by decide) ?_
  refine lv_icmp_ne (tgt := 36) hx hb dX4_followersCome_25 (by decide) (fun c7 => ?_) (fun c7 => ?_)
  · have hw := ite_f hw c7
    refine lv_iconst (v := (nI 0)) hx hb dX4_followersCome_36 (by decide) ?_
    exact hv_zret hx hb hr hlk hH (Or.inl rfl) hw dX4_followersCome_37
  · have hw := ite_t hw c7
    refine lv_iload_n hx hb dX4_followersCome_28 rfl (lv_at hl 1 rfl) ?_
    refine lv_if_lt (tgt := 36) hx hb dX4_followersCome_29 (by decide) (fun c8 => ?_) (fun c8 => ?_)
    · have hw := ite_t hw c8
      refine lv_iconst (v := (nI 0)) hx hb dX4_followersCome_36 (by decide) ?_
      exact hv_zret hx hb hr hlk hH (Or.inl rfl) hw dX4_followersCome_37
    · have hw := ite_f hw c8
      refine lv_iload_n hx hb dX4_followersCome_32 rfl (lv_at hl 0 rfl) ?_
      refine lv_if_ge (tgt := 38) hx hb dX4_followersCome_33 (by decide) (fun c9 => ?_) (fun c9 => ?_)
      · have hw := ite_t hw c9
        refine lv_aload_n hx hb dX4_followersCome_38 rfl (lv_at hl 3 rfl) ?_
        refine hv_getN (ci := 1) (k := 3) (v := .ref (S.2 v1 3)) hx hb hown hKK hH cf1 (by decide) fl_X4_105 rfl k1 rfl dX4_followersCome_39 ?_
        refine lv_iload_n hx hb dX4_followersCome_42 rfl (lv_at hl 1 rfl) ?_
        obtain ⟨k10, hw⟩ := hw
        refine hv_aald (t := 1) hx hb (by decide) hKK hH k10 dX4_followersCome_43 ?_
        refine lv_iload_n hx hb dX4_followersCome_44 rfl (lv_at hl 0 rfl) ?_
        obtain ⟨k11, hw⟩ := hw
        refine hv_putN (ci := 0) (k := 7) hx hb hown hKK hH cf0 (by decide) fl_X4_119 rfl rfl rfl k11 rfl rfl dX4_followersCome_45 (fun H locs hH => ?_)
        refine lv_iconst (v := (nI 1)) hx hb dX4_followersCome_48 (by decide) ?_
        exact hv_zret hx hb hr hlk hH (Or.inr rfl) hw dX4_followersCome_49
      · have hw := ite_f hw c9
        refine lv_iconst (v := (nI 0)) hx hb dX4_followersCome_36 (by decide) ?_
        exact hv_zret hx hb hr hlk hH (Or.inl rfl) hw dX4_followersCome_37
abbrev rm_X4_nightsGoBy : Room := { frames := 5, cells := 0, slots := 0, locals := 115 }
set_option maxHeartbeats 4000000 in
set_option maxRecDepth 100000 in
theorem m_X4_nightsGoBy {l : Launch} {G : Gl} {B sz : Nat} {S : St} (v0 : Nat) (v1 : Nat) (h : Hp) (Q : Int32 → Hp → Prop) (hw : w_X4_nightsGoBy S v0 v1 h Q) : MI l G B sz S yX4_nightsGoBy cX4_nightsGoBy 3 .boolean rm_X4_nightsGoBy [.ref v0, .ref v1] h Q := by
  refine met_of rfl rfl ?_
  intro p e s m args below meth c hMB H ls hH hl
  obtain ⟨hx, hb, hml, hown, hKK, hr, hlk⟩ := hMB
  replace hl : lv_has ls 3 [(0, .ref v0), (1, .ref v1)] := hl
  unfold w_X4_nightsGoBy at hw
  show W p l e rm_X4_nightsGoBy s m args below meth c H [] 0 0 (QI G B S sz below args s Q) (F0 m 0 ls [])
  generalize ([] : List Loc) = locs at hH ⊢
  refine lv_aload_n hx hb dX4_nightsGoBy_0 rfl (lv_at hl 0 rfl) ?_
  refine lv_iconst (v := (nI 1)) hx hb dX4_nightsGoBy_1 (by decide) ?_
  refine lv_bipush (v := (nI 60)) hx hb dX4_nightsGoBy_2 (by decide) ?_
  obtain ⟨k1, hw⟩ := hw
  refine hv_cVI (rm := rm_X4_number) (As := [.int (nI 1), .int (nI 60)]) (rest := []) (k := 2) (ci := 4) hx hb hml hown hKK hH cf4 k1 (m_X4_number v0 (nI 1) (nI 60) _ _ hw) cw_X4_70 ⟨Nat.le_of_ble_eq_true rfl, Nat.le_of_ble_eq_true rfl⟩ rfl hl.1 rfl (Nat.le_of_ble_eq_true rfl) ⟨Nat.le_of_ble_eq_true rfl, Nat.le_of_ble_eq_true rfl⟩ dX4_nightsGoBy_4 (fun r3 h2 H locs hH hw => ?_)
  refine lv_istore_n (lv' := [(2, .int r3), (0, .ref v0), (1, .ref v1)]) hx hb dX4_nightsGoBy_7 rfl hl (by decide) rfl (fun ls hl => ?_)
  refine lv_aload_n hx hb dX4_nightsGoBy_8 rfl (lv_at hl 1 rfl) ?_
  refine hv_get (ci := 4) (k := 4) (v := .int (h2 v0 4)) hx hb hown hKK hH cf4 (by decide) fl_X4_36 rfl k1 rfl dX4_nightsGoBy_9 ?_
  refine lv_iconst (v := (nI 1)) hx hb dX4_nightsGoBy_12 (by decide) ?_
  refine lv_icmp_ne (tgt := 33) hx hb dX4_nightsGoBy_13 (by decide) (fun c4 => ?_) (fun c4 => ?_)
  · have hw := ite_f hw c4
    refine lv_iconst (v := (nI 0)) hx hb dX4_nightsGoBy_33 (by decide) ?_
    exact hv_zret hx hb hr hlk hH (Or.inl rfl) hw dX4_nightsGoBy_34
  · have hw := ite_t hw c4
    refine lv_iload_n hx hb dX4_nightsGoBy_16 rfl (lv_at hl 0 rfl) ?_
    refine lv_iconst (v := (nI 1)) hx hb dX4_nightsGoBy_17 (by decide) ?_
    refine lv_icmp_lt (tgt := 33) hx hb dX4_nightsGoBy_18 (by decide) (fun c5 => ?_) (fun c5 => ?_)
    · have hw := ite_t hw c5
      refine lv_iconst (v := (nI 0)) hx hb dX4_nightsGoBy_33 (by decide) ?_
      exact hv_zret hx hb hr hlk hH (Or.inl rfl) hw dX4_nightsGoBy_34
    · have hw := ite_f hw c5
      refine lv_aload_n hx hb dX4_nightsGoBy_21 rfl (lv_at hl 2 rfl) ?_
      obtain ⟨k6, hw⟩ := hw
      refine hv_getN (ci := 1) (k := 5) (v := .int (h2 v1 5)) hx hb hown hKK hH cf1 (by decide) fl_X4_122 rfl k6 rfl dX4_nightsGoBy_22 ?_
      refine lv_iload_n hx hb dX4_nightsGoBy_25 rfl (lv_at hl 0 rfl) ?_
      refine lv_iadd hx hb dX4_nightsGoBy_26 ?_
      refine lv_sipush (v := (nI 999)) hx hb dX4_nightsGoBy_27 (by decide) ?_
      refine lv_icmp_le (tgt := 35) hx hb dX4_nightsGoBy_30 (by decide) (fun c7 => ?_) (fun c7 => ?_)
      · have hw := ite_t hw c7
        refine lv_aload_n hx hb dX4_nightsGoBy_35 rfl (lv_at hl 2 rfl) ?_
        refine lv_iload_n hx hb dX4_nightsGoBy_36 rfl (lv_at hl 0 rfl) ?_
        refine hv_cVV (rm := rm_X1_passNights) (As := [.int r3]) (rest := []) (k := 1) (ci := 1) hx hb hml hown hKK hH cf1 k6 (m_X1_passNights v1 r3 _ _ hw) cw_X4_125 ⟨Nat.le_of_ble_eq_true rfl, Nat.le_of_ble_eq_true rfl⟩ rfl hl.1 rfl (Nat.le_of_ble_eq_true rfl) ⟨Nat.le_of_ble_eq_true rfl, Nat.le_of_ble_eq_true rfl⟩ dX4_nightsGoBy_37 (fun h8 H locs hH hw => ?_)
        refine lv_iconst (v := (nI 1)) hx hb dX4_nightsGoBy_40 (by decide) ?_
        exact hv_zret hx hb hr hlk hH (Or.inr rfl) hw dX4_nightsGoBy_41
      · have hw := ite_f hw c7
        refine lv_iconst (v := (nI 0)) hx hb dX4_nightsGoBy_33 (by decide) ?_
        exact hv_zret hx hb hr hlk hH (Or.inl rfl) hw dX4_nightsGoBy_34
abbrev rm_X5_stepsOff : Room := { frames := 1, cells := 0, slots := 0, locals := 21 }
set_option maxHeartbeats 4000000 in
set_option maxRecDepth 100000 in
theorem m_X5_stepsOff {l : Launch} {G : Gl} {B sz : Nat} {S : St} (v0 : Int32) (v1 : Int32) (h : Hp) (Q : Int32 → Hp → Prop) (hw : w_X5_stepsOff S v0 v1 h Q) : MI l G B sz S yX5_stepsOff cX5_stepsOff 4 .int rm_X5_stepsOff [.int v0, .int v1] h Q := by
  refine met_of rfl rfl ?_
  intro p e s m args below meth c hMB H ls hH hl
  obtain ⟨hx, hb, hml, hown, hKK, hr, hlk⟩ := hMB
  replace hl : lv_has ls 4 [(0, .int v0), (1, .int v1)] := hl
  unfold w_X5_stepsOff at hw
  show W p l e rm_X5_stepsOff s m args below meth c H [] 0 0 (QI G B S sz below args s Q) (F0 m 0 ls [])
  generalize ([] : List Loc) = locs at hH ⊢
  refine lv_iload_n hx hb dX5_stepsOff_0 rfl (lv_at hl 0 rfl) ?_
  refine lv_bipush (v := (nI 8)) hx hb dX5_stepsOff_1 (by decide) ?_
  refine lv_idiv hx hb dX5_stepsOff_3 (by decide) ?_
  refine lv_iload_n hx hb dX5_stepsOff_4 rfl (lv_at hl 1 rfl) ?_
  refine lv_bipush (v := (nI 8)) hx hb dX5_stepsOff_5 (by decide) ?_
  refine lv_idiv hx hb dX5_stepsOff_7 (by decide) ?_
  refine lv_isub hx hb dX5_stepsOff_8 ?_
  refine va_mabs hx hb (hml.trans hl.1.symm) hown (hKK.use ml_X5_18 rfl _) (hKK.use ml_abs rfl _) (hKK.use ml_math rfl _) (hKK.use ml_abs_c rfl _) (Nat.le_of_ble_eq_true rfl) (Nat.le_of_ble_eq_true rfl) (Nat.le_of_ble_eq_true rfl) (Nat.le_of_ble_eq_true rfl) dX5_stepsOff_9 ?_
  refine lv_istore_n (lv' := [(2, .int (iabs ((v0 / (nI 8)) - (v1 / (nI 8))))), (0, .int v0), (1, .int v1)]) hx hb dX5_stepsOff_12 rfl hl (by decide) rfl (fun ls hl => ?_)
  refine lv_iload_n hx hb dX5_stepsOff_13 rfl (lv_at hl 1 rfl) ?_
  refine lv_bipush (v := (nI 8)) hx hb dX5_stepsOff_14 (by decide) ?_
  refine lv_irem hx hb dX5_stepsOff_16 (by decide) ?_
  refine lv_iload_n hx hb dX5_stepsOff_17 rfl (lv_at hl 2 rfl) ?_
  refine lv_bipush (v := (nI 8)) hx hb dX5_stepsOff_18 (by decide) ?_
  refine lv_irem hx hb dX5_stepsOff_20 (by decide) ?_
  refine lv_isub hx hb dX5_stepsOff_21 ?_
  refine va_mabs hx hb (hml.trans hl.1.symm) hown (hKK.use ml_X5_18 rfl _) (hKK.use ml_abs rfl _) (hKK.use ml_math rfl _) (hKK.use ml_abs_c rfl _) (Nat.le_of_ble_eq_true rfl) (Nat.le_of_ble_eq_true rfl) (Nat.le_of_ble_eq_true rfl) (Nat.le_of_ble_eq_true rfl) dX5_stepsOff_22 ?_
  refine lv_istore_n (lv' := [(3, .int (iabs ((irem v0 (nI 8)) - (irem v1 (nI 8))))), (2, .int (iabs ((v0 / (nI 8)) - (v1 / (nI 8))))), (0, .int v0), (1, .int v1)]) hx hb dX5_stepsOff_25 rfl hl (by decide) rfl (fun ls hl => ?_)
  refine lv_iload_n hx hb dX5_stepsOff_26 rfl (lv_at hl 1 rfl) ?_
  refine lv_iload_n hx hb dX5_stepsOff_27 rfl (lv_at hl 0 rfl) ?_
  refine lv_iadd hx hb dX5_stepsOff_28 ?_
  exact hv_iret hx hb hr hlk hH hw dX5_stepsOff_29
abbrev rm_X5_stepOn : Room := { frames := 1, cells := 0, slots := 0, locals := 22 }
set_option maxHeartbeats 4000000 in
set_option maxRecDepth 100000 in
theorem m_X5_stepOn {l : Launch} {G : Gl} {B sz : Nat} {S : St} (v0 : Nat) (v1 : Nat) (v2 : Int32) (v3 : Int32) (h : Hp) (Q : Int32 → Hp → Prop) (hw : w_X5_stepOn S v0 v1 v2 v3 h Q) : MI l G B sz S yX5_stepOn cX5_stepOn 7 .int rm_X5_stepOn [.ref v0, .ref v1, .int v2, .int v3] h Q := by
  refine met_of rfl rfl ?_
  intro p e s m args below meth c hMB H ls hH hl
  obtain ⟨hx, hb, hml, hown, hKK, hr, hlk⟩ := hMB
  replace hl : lv_has ls 7 [(0, .ref v0), (1, .ref v1), (2, .int v2), (3, .int v3)] := hl
  have c6 : ∀  (v0 : Nat) (v1 : Nat) (v2 : Int32) (v4 : Int32) (v5 : Int32) (h : Hp) (H : Heap) (locs : List Loc) (ls : Array Slot), HH G B S h sz s H locs → lv_has ls 7 [(0, .ref v0), (1, .ref v1), (2, .int v2), (4, .int v4), (5, .int v5)] → w_X5_stepOn_c6 S v0 v1 v2 v4 v5 h Q → W p l e rm_X5_stepOn s m args below meth c H locs 0 0 (QI G B S sz below args s Q) (F0 m 6 ls []) := by
    intro  v0 v1 v2 v4 v5 h H locs ls hH hl hw
    unfold w_X5_stepOn_c6 at hw
    obtain ⟨P6, hP6⟩ : ∃ P : Int32 → Int32 → Hp → Prop, ∀ (v4 : Int32) (v5 : Int32) (h : Hp), P v4 v5 h ↔ (∀ (H : Heap) (locs : List Loc) (ls : Array Slot), HH G B S h sz s H locs → lv_has ls 7 [(0, .ref v0), (1, .ref v1), (2, .int v2), (4, .int v4), (5, .int v5)] → W p l e rm_X5_stepOn s m args below meth c H locs 0 0 (QI G B S sz below args s Q) (F0 m 6 ls [])) := ⟨_, fun v4 v5 h => Iff.rfl⟩
    refine (hP6 v4 v5 h).1 (hw P6 (fun v4 v5 h hw => (hP6 v4 v5 h).2 (fun H locs ls hH hl => ?_))) H locs ls hH hl
    have hK6 : ∀ (v4 : Int32) (v5 : Int32) (h : Hp) (H : Heap) (locs : List Loc) (ls : Array Slot), HH G B S h sz s H locs → lv_has ls 7 [(0, .ref v0), (1, .ref v1), (2, .int v2), (4, .int v4), (5, .int v5)] → P6 v4 v5 h → W p l e rm_X5_stepOn s m args below meth c H locs 0 0 (QI G B S sz below args s Q) (F0 m 6 ls []) := fun v4 v5 h H locs ls hH hl hk => (hP6 v4 v5 h).1 hk H locs ls hH hl
    refine lv_iload hx hb dX5_stepOn_6 (lv_at hl 4 rfl) ?_
    refine lv_iconst (v := (nI 4)) hx hb dX5_stepOn_8 (by decide) ?_
    refine lv_icmp_ge (tgt := 87) hx hb dX5_stepOn_9 (by decide) (fun c1 => ?_) (fun c1 => ?_)
    · have hw := ite_t hw c1
      refine lv_iload hx hb dX5_stepOn_87 (lv_at hl 3 rfl) ?_
      exact hv_iret hx hb hr hlk hH hw dX5_stepOn_89
    · have hw := ite_f hw c1
      refine lv_iload_n hx hb dX5_stepOn_12 rfl (lv_at hl 2 rfl) ?_
      refine lv_iload hx hb dX5_stepOn_13 (lv_at hl 4 rfl) ?_
      refine hv_cSI (rm := rm_X1_beside) (As := [.int v2, .int v5]) (rest := []) (k := 2) hx hb hml hown hKK hH (m_X1_beside v2 v5 _ _ hw) cw_X5_28 ⟨Nat.le_of_ble_eq_true rfl, Nat.le_of_ble_eq_true rfl⟩ rfl hl.1 rfl (Nat.le_of_ble_eq_true rfl) ⟨Nat.le_of_ble_eq_true rfl, Nat.le_of_ble_eq_true rfl⟩ dX5_stepOn_15 (fun r3 h2 H locs hH hw => ?_)
      refine lv_istore (lv' := [(6, .int r3), (0, .ref v0), (1, .ref v1), (2, .int v2), (4, .int v4), (5, .int v5)]) hx hb dX5_stepOn_18 hl (by decide) rfl (fun ls hl => ?_)
      refine lv_iload hx hb dX5_stepOn_20 (lv_at hl 0 rfl) ?_
      refine lv_iconst (v := (-1)) hx hb dX5_stepOn_22 (by decide) ?_
      refine lv_icmp_eq (tgt := 81) hx hb dX5_stepOn_23 (by decide) (fun c4 => ?_) (fun c4 => ?_)
      · have hw := ite_t hw c4
        refine lv_iinc (v := v5 + (nI 1)) (lv' := [(5, .int (v5 + (nI 1))), (6, .int r3), (0, .ref v0), (1, .ref v1), (2, .int v2), (4, .int v4)]) hx hb dX5_stepOn_81 hl (k := 5) rfl rfl (by decide) rfl (fun ls hl => ?_)
        refine lv_goto (tgt := 6) hx hb dX5_stepOn_84 (by decide) ?_
        exact hK6 _ _ _ H locs ls hH (lv_sub hl [2, 3, 4, 5, 0] rfl) hw
      · have hw := ite_f hw c4
        refine lv_aload_n hx hb dX5_stepOn_26 rfl (lv_at hl 1 rfl) ?_
        obtain ⟨k5, hw⟩ := hw
        refine hv_get (ci := 5) (k := 0) (v := .ref (S.2 v0 0)) hx hb hown hKK hH cf5 (by decide) fl_X5_9 rfl k5 rfl dX5_stepOn_27 ?_
        refine lv_iload hx hb dX5_stepOn_30 (lv_at hl 0 rfl) ?_
        obtain ⟨k6, hw⟩ := hw
        refine hv_iald hx hb hKK hH k6 dX5_stepOn_32 ?_
        refine lv_iconst (v := (-1)) hx hb dX5_stepOn_33 (by decide) ?_
        refine lv_icmp_ne (tgt := 81) hx hb dX5_stepOn_34 (by decide) (fun c7 => ?_) (fun c7 => ?_)
        · have hw := ite_f hw c7
          refine lv_iinc (v := v5 + (nI 1)) (lv' := [(5, .int (v5 + (nI 1))), (6, .int r3), (0, .ref v0), (1, .ref v1), (2, .int v2), (4, .int v4)]) hx hb dX5_stepOn_81 hl (k := 5) rfl rfl (by decide) rfl (fun ls hl => ?_)
          refine lv_goto (tgt := 6) hx hb dX5_stepOn_84 (by decide) ?_
          exact hK6 _ _ _ H locs ls hH (lv_sub hl [2, 3, 4, 5, 0] rfl) hw
        · have hw := ite_t hw c7
          refine lv_aload_n hx hb dX5_stepOn_37 rfl (lv_at hl 2 rfl) ?_
          obtain ⟨k8, hw⟩ := hw
          refine hv_getN (ci := 1) (k := 0) (v := .ref (S.2 v1 0)) hx hb hown hKK hH cf1 (by decide) fl_X5_34 rfl k8 rfl dX5_stepOn_38 ?_
          refine lv_iload hx hb dX5_stepOn_41 (lv_at hl 0 rfl) ?_
          obtain ⟨k9, hw⟩ := hw
          refine hv_iald hx hb hKK hH k9 dX5_stepOn_43 ?_
          refine lv_if_ne (tgt := 81) hx hb dX5_stepOn_44 (by decide) (fun c10 => ?_) (fun c10 => ?_)
          · have hw := ite_f hw c10
            refine lv_iinc (v := v5 + (nI 1)) (lv' := [(5, .int (v5 + (nI 1))), (6, .int r3), (0, .ref v0), (1, .ref v1), (2, .int v2), (4, .int v4)]) hx hb dX5_stepOn_81 hl (k := 5) rfl rfl (by decide) rfl (fun ls hl => ?_)
            refine lv_goto (tgt := 6) hx hb dX5_stepOn_84 (by decide) ?_
            exact hK6 _ _ _ H locs ls hH (lv_sub hl [2, 3, 4, 5, 0] rfl) hw
          · have hw := ite_t hw c10
            refine lv_iload hx hb dX5_stepOn_47 (lv_at hl 4 rfl) ?_
            refine lv_bipush (v := (nI 48)) hx hb dX5_stepOn_49 (by decide) ?_
            refine lv_icmp_ge (tgt := 81) hx hb dX5_stepOn_51 (by decide) (fun c11 => ?_) (fun c11 => ?_)
            · have hw := ite_t hw c11
              refine lv_iinc (v := v5 + (nI 1)) (lv' := [(5, .int (v5 + (nI 1))), (6, .int r3), (0, .ref v0), (1, .ref v1), (2, .int v2), (4, .int v4)]) hx hb dX5_stepOn_81 hl (k := 5) rfl rfl (by decide) rfl (fun ls hl => ?_)
              refine lv_goto (tgt := 6) hx hb dX5_stepOn_84 (by decide) ?_
              exact hK6 _ _ _ H locs ls hH (lv_sub hl [2, 3, 4, 5, 0] rfl) hw
            · have hw := ite_f hw c11
              refine lv_aload_n hx hb dX5_stepOn_54 rfl (lv_at hl 1 rfl) ?_
              refine hv_get (ci := 5) (k := 0) (v := .ref (S.2 v0 0)) hx hb hown hKK hH cf5 (by decide) fl_X5_9 rfl k5 rfl dX5_stepOn_55 ?_
              refine lv_iload hx hb dX5_stepOn_58 (lv_at hl 0 rfl) ?_
              refine lv_aload_n hx hb dX5_stepOn_60 rfl (lv_at hl 1 rfl) ?_
              refine hv_get (ci := 5) (k := 0) (v := .ref (S.2 v0 0)) hx hb hown hKK hH cf5 (by decide) fl_X5_9 rfl k5 rfl dX5_stepOn_61 ?_
              refine lv_iload_n hx hb dX5_stepOn_64 rfl (lv_at hl 3 rfl) ?_
              obtain ⟨k12, hw⟩ := hw
              refine hv_iald hx hb hKK hH k12 dX5_stepOn_65 ?_
              refine lv_iconst (v := (nI 1)) hx hb dX5_stepOn_66 (by decide) ?_
              refine lv_iadd hx hb dX5_stepOn_67 ?_
              refine hv_iast hx hb hKK hH k6 dX5_stepOn_68 (fun H locs hH => ?_)
              refine lv_aload_n hx hb dX5_stepOn_69 rfl (lv_at hl 1 rfl) ?_
              refine hv_get (ci := 5) (k := 1) (v := .ref (S.2 v0 1)) hx hb hown hKK hH cf5 (by decide) fl_X5_15 rfl k5 rfl dX5_stepOn_70 ?_
              refine lv_iload hx hb dX5_stepOn_73 (lv_at hl 4 rfl) ?_
              refine lv_iload hx hb dX5_stepOn_75 (lv_at hl 0 rfl) ?_
              obtain ⟨k13, hw⟩ := hw
              refine hv_iast hx hb hKK hH k13 dX5_stepOn_77 (fun H locs hH => ?_)
              refine lv_iinc (v := v4 + (nI 1)) (lv' := [(4, .int (v4 + (nI 1))), (6, .int r3), (0, .ref v0), (1, .ref v1), (2, .int v2), (5, .int v5)]) hx hb dX5_stepOn_78 hl (k := 4) rfl rfl (by decide) rfl (fun ls hl => ?_)
              refine lv_iinc (v := v5 + (nI 1)) (lv' := [(5, .int (v5 + (nI 1))), (4, .int (v4 + (nI 1))), (6, .int r3), (0, .ref v0), (1, .ref v1), (2, .int v2)]) hx hb dX5_stepOn_81 hl (k := 5) rfl rfl (by decide) rfl (fun ls hl => ?_)
              refine lv_goto (tgt := 6) hx hb dX5_stepOn_84 (by decide) ?_
              exact hK6 _ _ _ H locs ls hH (lv_sub hl [3, 4, 5, 1, 0] rfl) hw
  unfold w_X5_stepOn at hw
  show W p l e rm_X5_stepOn s m args below meth c H [] 0 0 (QI G B S sz below args s Q) (F0 m 0 ls [])
  generalize ([] : List Loc) = locs at hH ⊢
  refine lv_iload_n hx hb dX5_stepOn_0 rfl (lv_at hl 3 rfl) ?_
  refine lv_istore (lv' := [(4, .int v3), (0, .ref v0), (1, .ref v1), (2, .int v2), (3, .int v3)]) hx hb dX5_stepOn_1 hl (by decide) rfl (fun ls hl => ?_)
  refine lv_iconst (v := (nI 0)) hx hb dX5_stepOn_3 (by decide) ?_
  refine lv_istore (lv' := [(5, .int (nI 0)), (4, .int v3), (0, .ref v0), (1, .ref v1), (2, .int v2), (3, .int v3)]) hx hb dX5_stepOn_4 hl (by decide) rfl (fun ls hl => ?_)
  exact c6 _ _ _ _ _ _ H locs ls hH (lv_sub hl [2, 3, 4, 1, 0] rfl) hw
abbrev rm_X5_fewestSteps : Room := { frames := 2, cells := 0, slots := 0, locals := 48 }
set_option maxHeartbeats 4000000 in
set_option maxRecDepth 100000 in
theorem m_X5_fewestSteps {l : Launch} {G : Gl} {B sz : Nat} {S : St} (v0 : Nat) (v1 : Nat) (v2 : Int32) (v3 : Int32) (h : Hp) (Q : Int32 → Hp → Prop) (hw : w_X5_fewestSteps S v0 v1 v2 v3 h Q) : MI l G B sz S yX5_fewestSteps cX5_fewestSteps 6 .int rm_X5_fewestSteps [.ref v0, .ref v1, .int v2, .int v3] h Q := by
  refine met_of rfl rfl ?_
  intro p e s m args below meth c hMB H ls hH hl
  obtain ⟨hx, hb, hml, hown, hKK, hr, hlk⟩ := hMB
  replace hl : lv_has ls 6 [(0, .ref v0), (1, .ref v1), (2, .int v2), (3, .int v3)] := hl
  have c44 : ∀  (v0 : Nat) (v1 : Nat) (v3 : Int32) (v4 : Int32) (v5 : Int32) (h : Hp) (H : Heap) (locs : List Loc) (ls : Array Slot), HH G B S h sz s H locs → lv_has ls 6 [(0, .ref v0), (1, .ref v1), (3, .int v3), (4, .int v4), (5, .int v5)] → w_X5_fewestSteps_c44 S v0 v1 v3 v4 v5 h Q → W p l e rm_X5_fewestSteps s m args below meth c H locs 0 0 (QI G B S sz below args s Q) (F0 m 44 ls []) := by
    intro  v0 v1 v3 v4 v5 h H locs ls hH hl hw
    unfold w_X5_fewestSteps_c44 at hw
    obtain ⟨P44, hP44⟩ : ∃ P : Int32 → Int32 → Hp → Prop, ∀ (v4 : Int32) (v5 : Int32) (h : Hp), P v4 v5 h ↔ (∀ (H : Heap) (locs : List Loc) (ls : Array Slot), HH G B S h sz s H locs → lv_has ls 6 [(0, .ref v0), (1, .ref v1), (3, .int v3), (4, .int v4), (5, .int v5)] → W p l e rm_X5_fewestSteps s m args below meth c H locs 0 0 (QI G B S sz below args s Q) (F0 m 44 ls [])) := ⟨_, fun v4 v5 h => Iff.rfl⟩
    refine (hP44 v4 v5 h).1 (hw P44 (fun v4 v5 h hw => (hP44 v4 v5 h).2 (fun H locs ls hH hl => ?_))) H locs ls hH hl
    have hK44 : ∀ (v4 : Int32) (v5 : Int32) (h : Hp) (H : Heap) (locs : List Loc) (ls : Array Slot), HH G B S h sz s H locs → lv_has ls 6 [(0, .ref v0), (1, .ref v1), (3, .int v3), (4, .int v4), (5, .int v5)] → P44 v4 v5 h → W p l e rm_X5_fewestSteps s m args below meth c H locs 0 0 (QI G B S sz below args s Q) (F0 m 44 ls []) := fun v4 v5 h H locs ls hH hl hk => (hP44 v4 v5 h).1 hk H locs ls hH hl
    refine lv_iload hx hb dX5_fewestSteps_44 (lv_at hl 4 rfl) ?_
    refine lv_iload hx hb dX5_fewestSteps_46 (lv_at hl 3 rfl) ?_
    refine lv_icmp_ge (tgt := 80) hx hb dX5_fewestSteps_48 (by decide) (fun c1 => ?_) (fun c1 => ?_)
    · have hw := ite_t hw c1
      refine lv_aload_n hx hb dX5_fewestSteps_80 rfl (lv_at hl 0 rfl) ?_
      obtain ⟨k2, hw⟩ := hw
      refine hv_get (ci := 5) (k := 0) (v := .ref (S.2 v0 0)) hx hb hown hKK hH cf5 (by decide) fl_X5_9 rfl k2 rfl dX5_fewestSteps_81 ?_
      refine lv_iload_n hx hb dX5_fewestSteps_84 rfl (lv_at hl 2 rfl) ?_
      obtain ⟨k3, hw⟩ := hw
      refine hv_iald hx hb hKK hH k3 dX5_fewestSteps_85 ?_
      refine lv_iconst (v := (-1)) hx hb dX5_fewestSteps_86 (by decide) ?_
      refine lv_icmp_ne (tgt := 95) hx hb dX5_fewestSteps_87 (by decide) (fun c4 => ?_) (fun c4 => ?_)
      · have hw := ite_f hw c4
        refine lv_aload_n hx hb dX5_fewestSteps_95 rfl (lv_at hl 0 rfl) ?_
        refine hv_get (ci := 5) (k := 0) (v := .ref (S.2 v0 0)) hx hb hown hKK hH cf5 (by decide) fl_X5_9 rfl k2 rfl dX5_fewestSteps_96 ?_
        refine lv_iload_n hx hb dX5_fewestSteps_99 rfl (lv_at hl 2 rfl) ?_
        refine hv_iald hx hb hKK hH k3 dX5_fewestSteps_100 ?_
        exact hv_iret hx hb hr hlk hH hw dX5_fewestSteps_101
      · have hw := ite_t hw c4
        refine lv_bipush (v := (-9)) hx hb dX5_fewestSteps_90 (by decide) ?_
        refine lv_goto (tgt := 101) hx hb dX5_fewestSteps_92 (by decide) ?_
        exact hv_iret hx hb hr hlk hH hw dX5_fewestSteps_101
    · have hw := ite_f hw c1
      refine lv_iload hx hb dX5_fewestSteps_51 (lv_at hl 4 rfl) ?_
      refine lv_bipush (v := (nI 48)) hx hb dX5_fewestSteps_53 (by decide) ?_
      refine lv_icmp_ge (tgt := 80) hx hb dX5_fewestSteps_55 (by decide) (fun c5 => ?_) (fun c5 => ?_)
      · have hw := ite_t hw c5
        refine lv_aload_n hx hb dX5_fewestSteps_80 rfl (lv_at hl 0 rfl) ?_
        obtain ⟨k6, hw⟩ := hw
        refine hv_get (ci := 5) (k := 0) (v := .ref (S.2 v0 0)) hx hb hown hKK hH cf5 (by decide) fl_X5_9 rfl k6 rfl dX5_fewestSteps_81 ?_
        refine lv_iload_n hx hb dX5_fewestSteps_84 rfl (lv_at hl 2 rfl) ?_
        obtain ⟨k7, hw⟩ := hw
        refine hv_iald hx hb hKK hH k7 dX5_fewestSteps_85 ?_
        refine lv_iconst (v := (-1)) hx hb dX5_fewestSteps_86 (by decide) ?_
        refine lv_icmp_ne (tgt := 95) hx hb dX5_fewestSteps_87 (by decide) (fun c8 => ?_) (fun c8 => ?_)
        · have hw := ite_f hw c8
          refine lv_aload_n hx hb dX5_fewestSteps_95 rfl (lv_at hl 0 rfl) ?_
          refine hv_get (ci := 5) (k := 0) (v := .ref (S.2 v0 0)) hx hb hown hKK hH cf5 (by decide) fl_X5_9 rfl k6 rfl dX5_fewestSteps_96 ?_
          refine lv_iload_n hx hb dX5_fewestSteps_99 rfl (lv_at hl 2 rfl) ?_
          refine hv_iald hx hb hKK hH k7 dX5_fewestSteps_100 ?_
          exact hv_iret hx hb hr hlk hH hw dX5_fewestSteps_101
        · have hw := ite_t hw c8
          refine lv_bipush (v := (-9)) hx hb dX5_fewestSteps_90 (by decide) ?_
          refine lv_goto (tgt := 101) hx hb dX5_fewestSteps_92 (by decide) ?_
          exact hv_iret hx hb hr hlk hH hw dX5_fewestSteps_101
      · have hw := ite_f hw c5
        refine lv_aload_n hx hb dX5_fewestSteps_58 rfl (lv_at hl 0 rfl) ?_
        refine lv_aload_n hx hb dX5_fewestSteps_59 rfl (lv_at hl 1 rfl) ?_
        refine lv_aload_n hx hb dX5_fewestSteps_60 rfl (lv_at hl 0 rfl) ?_
        obtain ⟨k9, hw⟩ := hw
        refine hv_get (ci := 5) (k := 1) (v := .ref (S.2 v0 1)) hx hb hown hKK hH cf5 (by decide) fl_X5_15 rfl k9 rfl dX5_fewestSteps_61 ?_
        refine lv_iload hx hb dX5_fewestSteps_64 (lv_at hl 4 rfl) ?_
        obtain ⟨k10, hw⟩ := hw
        refine hv_iald hx hb hKK hH k10 dX5_fewestSteps_66 ?_
        refine lv_iload hx hb dX5_fewestSteps_67 (lv_at hl 3 rfl) ?_
        refine hv_cVI (rm := rm_X5_stepOn) (As := [.ref v1, .int (h (S.2 v0 1) (ix v5)), .int v4]) (rest := []) (k := 3) (ci := 5) hx hb hml hown hKK hH cf5 k9 (m_X5_stepOn v0 v1 (h (S.2 v0 1) (ix v5)) v4 _ _ hw) cw_X5_24 ⟨Nat.le_of_ble_eq_true rfl, Nat.le_of_ble_eq_true rfl⟩ rfl hl.1 rfl (Nat.le_of_ble_eq_true rfl) ⟨Nat.le_of_ble_eq_true rfl, Nat.le_of_ble_eq_true rfl⟩ dX5_fewestSteps_69 (fun r12 h11 H locs hH hw => ?_)
        refine lv_istore (lv' := [(4, .int r12), (0, .ref v0), (1, .ref v1), (3, .int v3), (5, .int v5)]) hx hb dX5_fewestSteps_72 hl (by decide) rfl (fun ls hl => ?_)
        refine lv_iinc (v := v5 + (nI 1)) (lv' := [(5, .int (v5 + (nI 1))), (4, .int r12), (0, .ref v0), (1, .ref v1), (3, .int v3)]) hx hb dX5_fewestSteps_74 hl (k := 4) rfl rfl (by decide) rfl (fun ls hl => ?_)
        refine lv_goto (tgt := 44) hx hb dX5_fewestSteps_77 (by decide) ?_
        exact hK44 _ _ _ H locs ls hH (lv_sub hl [2, 3, 4, 1, 0] rfl) hw
  have c3 : ∀  (v0 : Nat) (v1 : Nat) (v2 : Int32) (v3 : Int32) (v4 : Int32) (h : Hp) (H : Heap) (locs : List Loc) (ls : Array Slot), HH G B S h sz s H locs → lv_has ls 6 [(0, .ref v0), (1, .ref v1), (2, .int v2), (3, .int v3), (4, .int v4)] → w_X5_fewestSteps_c3 S v0 v1 v2 v3 v4 h Q → W p l e rm_X5_fewestSteps s m args below meth c H locs 0 0 (QI G B S sz below args s Q) (F0 m 3 ls []) := by
    intro  v0 v1 v2 v3 v4 h H locs ls hH hl hw
    unfold w_X5_fewestSteps_c3 at hw
    obtain ⟨P3, hP3⟩ : ∃ P : Int32 → Hp → Prop, ∀ (v4 : Int32) (h : Hp), P v4 h ↔ (∀ (H : Heap) (locs : List Loc) (ls : Array Slot), HH G B S h sz s H locs → lv_has ls 6 [(0, .ref v0), (1, .ref v1), (2, .int v2), (3, .int v3), (4, .int v4)] → W p l e rm_X5_fewestSteps s m args below meth c H locs 0 0 (QI G B S sz below args s Q) (F0 m 3 ls [])) := ⟨_, fun v4 h => Iff.rfl⟩
    refine (hP3 v4 h).1 (hw P3 (fun v4 h hw => (hP3 v4 h).2 (fun H locs ls hH hl => ?_))) H locs ls hH hl
    have hK3 : ∀ (v4 : Int32) (h : Hp) (H : Heap) (locs : List Loc) (ls : Array Slot), HH G B S h sz s H locs → lv_has ls 6 [(0, .ref v0), (1, .ref v1), (2, .int v2), (3, .int v3), (4, .int v4)] → P3 v4 h → W p l e rm_X5_fewestSteps s m args below meth c H locs 0 0 (QI G B S sz below args s Q) (F0 m 3 ls []) := fun v4 h H locs ls hH hl hk => (hP3 v4 h).1 hk H locs ls hH hl
    refine lv_iload hx hb dX5_fewestSteps_3 (lv_at hl 4 rfl) ?_
    refine lv_bipush (v := (nI 48)) hx hb dX5_fewestSteps_5 (by decide) ?_
    refine lv_icmp_ge (tgt := 24) hx hb dX5_fewestSteps_7 (by decide) (fun c1 => ?_) (fun c1 => ?_)
    · have hw := ite_t hw c1
      refine lv_aload_n hx hb dX5_fewestSteps_24 rfl (lv_at hl 0 rfl) ?_
      obtain ⟨k2, hw⟩ := hw
      refine hv_get (ci := 5) (k := 0) (v := .ref (S.2 v0 0)) hx hb hown hKK hH cf5 (by decide) fl_X5_9 rfl k2 rfl dX5_fewestSteps_25 ?_
      refine lv_iload_n hx hb dX5_fewestSteps_28 rfl (lv_at hl 2 rfl) ?_
      refine lv_iconst (v := (nI 0)) hx hb dX5_fewestSteps_29 (by decide) ?_
      obtain ⟨k3, hw⟩ := hw
      refine hv_iast hx hb hKK hH k3 dX5_fewestSteps_30 (fun H locs hH => ?_)
      refine lv_aload_n hx hb dX5_fewestSteps_31 rfl (lv_at hl 0 rfl) ?_
      refine hv_get (ci := 5) (k := 1) (v := .ref (S.2 v0 1)) hx hb hown hKK hH cf5 (by decide) fl_X5_15 rfl k2 rfl dX5_fewestSteps_32 ?_
      refine lv_iconst (v := (nI 0)) hx hb dX5_fewestSteps_35 (by decide) ?_
      refine lv_iload_n hx hb dX5_fewestSteps_36 rfl (lv_at hl 2 rfl) ?_
      obtain ⟨k4, hw⟩ := hw
      refine hv_iast hx hb hKK hH k4 dX5_fewestSteps_37 (fun H locs hH => ?_)
      refine lv_iconst (v := (nI 1)) hx hb dX5_fewestSteps_38 (by decide) ?_
      refine lv_istore (lv' := [(4, .int (nI 1)), (0, .ref v0), (1, .ref v1), (2, .int v2), (3, .int v3)]) hx hb dX5_fewestSteps_39 hl (by decide) rfl (fun ls hl => ?_)
      refine lv_iconst (v := (nI 0)) hx hb dX5_fewestSteps_41 (by decide) ?_
      refine lv_istore (lv' := [(5, .int (nI 0)), (4, .int (nI 1)), (0, .ref v0), (1, .ref v1), (2, .int v2), (3, .int v3)]) hx hb dX5_fewestSteps_42 hl (by decide) rfl (fun ls hl => ?_)
      exact c44 _ _ _ _ _ _ H locs ls hH (lv_sub hl [2, 3, 5, 1, 0] rfl) hw
    · have hw := ite_f hw c1
      refine lv_aload_n hx hb dX5_fewestSteps_10 rfl (lv_at hl 0 rfl) ?_
      obtain ⟨k5, hw⟩ := hw
      refine hv_get (ci := 5) (k := 0) (v := .ref (S.2 v0 0)) hx hb hown hKK hH cf5 (by decide) fl_X5_9 rfl k5 rfl dX5_fewestSteps_11 ?_
      refine lv_iload hx hb dX5_fewestSteps_14 (lv_at hl 4 rfl) ?_
      refine lv_iconst (v := (-1)) hx hb dX5_fewestSteps_16 (by decide) ?_
      obtain ⟨k6, hw⟩ := hw
      refine hv_iast hx hb hKK hH k6 dX5_fewestSteps_17 (fun H locs hH => ?_)
      refine lv_iinc (v := v4 + (nI 1)) (lv' := [(4, .int (v4 + (nI 1))), (0, .ref v0), (1, .ref v1), (2, .int v2), (3, .int v3)]) hx hb dX5_fewestSteps_18 hl (k := 4) rfl rfl (by decide) rfl (fun ls hl => ?_)
      refine lv_goto (tgt := 3) hx hb dX5_fewestSteps_21 (by decide) ?_
      exact hK3 _ _ H locs ls hH (lv_sub hl [1, 2, 3, 4, 0] rfl) hw
  unfold w_X5_fewestSteps at hw
  show W p l e rm_X5_fewestSteps s m args below meth c H [] 0 0 (QI G B S sz below args s Q) (F0 m 0 ls [])
  generalize ([] : List Loc) = locs at hH ⊢
  refine lv_iconst (v := (nI 0)) hx hb dX5_fewestSteps_0 (by decide) ?_
  refine lv_istore (lv' := [(4, .int (nI 0)), (0, .ref v0), (1, .ref v1), (2, .int v2), (3, .int v3)]) hx hb dX5_fewestSteps_1 hl (by decide) rfl (fun ls hl => ?_)
  exact c3 _ _ _ _ _ _ H locs ls hH (lv_sub hl [1, 2, 3, 4, 0] rfl) hw
abbrev rm_X6_refuse : Room := { frames := 0, cells := 0, slots := 0, locals := 0 }
set_option maxHeartbeats 4000000 in
set_option maxRecDepth 100000 in
theorem m_X6_refuse {l : Launch} {G : Gl} {B sz : Nat} {S : St} (v0 : Nat) (v1 : Int32) (h : Hp) (Q : Int32 → Hp → Prop) (hw : w_X6_refuse S v0 v1 h Q) : MI l G B sz S yX6_refuse cX6_refuse 2 .int rm_X6_refuse [.ref v0, .int v1] h Q := by
  refine met_of rfl rfl ?_
  intro p e s m args below meth c hMB H ls hH hl
  obtain ⟨hx, hb, hml, hown, hKK, hr, hlk⟩ := hMB
  replace hl : lv_has ls 2 [(0, .ref v0), (1, .int v1)] := hl
  unfold w_X6_refuse at hw
  show W p l e rm_X6_refuse s m args below meth c H [] 0 0 (QI G B S sz below args s Q) (F0 m 0 ls [])
  generalize ([] : List Loc) = locs at hH ⊢
  refine lv_iload_n hx hb dX6_refuse_0 rfl (lv_at hl 1 rfl) ?_
  refine lv_iconst (v := (-1)) hx hb dX6_refuse_1 (by decide) ?_
  refine lv_icmp_gt (tgt := 22) hx hb dX6_refuse_2 (by decide) (fun c1 => ?_) (fun c1 => ?_)
  · have hw := ite_t hw c1
    refine lv_iload_n hx hb dX6_refuse_22 rfl (lv_at hl 1 rfl) ?_
    exact hv_iret hx hb hr hlk hH hw dX6_refuse_23
  · have hw := ite_f hw c1
    refine lv_iload_n hx hb dX6_refuse_5 rfl (lv_at hl 1 rfl) ?_
    refine lv_bipush (v := (-6)) hx hb dX6_refuse_6 (by decide) ?_
    refine lv_icmp_lt (tgt := 22) hx hb dX6_refuse_8 (by decide) (fun c2 => ?_) (fun c2 => ?_)
    · have hw := ite_t hw c2
      refine lv_iload_n hx hb dX6_refuse_22 rfl (lv_at hl 1 rfl) ?_
      exact hv_iret hx hb hr hlk hH hw dX6_refuse_23
    · have hw := ite_f hw c2
      refine lv_aload_n hx hb dX6_refuse_11 rfl (lv_at hl 0 rfl) ?_
      obtain ⟨k3, hw⟩ := hw
      refine hv_get (ci := 6) (k := 9) (v := .ref (S.2 v0 9)) hx hb hown hKK hH cf6 (by decide) fl_X6_51 rfl k3 rfl dX6_refuse_12 ?_
      refine lv_iload_n hx hb dX6_refuse_15 rfl (lv_at hl 1 rfl) ?_
      refine lv_ineg hx hb dX6_refuse_16 ?_
      refine lv_dup2_11 hx hb dX6_refuse_17 rfl rfl ?_
      obtain ⟨k4, hw⟩ := hw
      refine hv_iald hx hb hKK hH k4 dX6_refuse_18 ?_
      refine lv_iconst (v := (nI 1)) hx hb dX6_refuse_19 (by decide) ?_
      refine lv_iadd hx hb dX6_refuse_20 ?_
      refine hv_iast hx hb hKK hH k4 dX6_refuse_21 (fun H locs hH => ?_)
      refine lv_iload_n hx hb dX6_refuse_22 rfl (lv_at hl 1 rfl) ?_
      exact hv_iret hx hb hr hlk hH hw dX6_refuse_23
abbrev rm_X6_refuseLong : Room := { frames := 1, cells := 0, slots := 0, locals := 21 }
set_option maxHeartbeats 4000000 in
set_option maxRecDepth 100000 in
theorem m_X6_refuseLong {l : Launch} {G : Gl} {B sz : Nat} {S : St} (v0 : Nat) (v1 : Int32) (h : Hp) (Q : Int64 → Hp → Prop) (hw : w_X6_refuseLong S v0 v1 h Q) : ML l G B sz S yX6_refuseLong cX6_refuseLong 2 rm_X6_refuseLong [.ref v0, .int v1] h Q := by
  refine met_of rfl rfl ?_
  intro p e s m args below meth c hMB H ls hH hl
  obtain ⟨hx, hb, hml, hown, hKK, hr, hlk⟩ := hMB
  replace hl : lv_has ls 2 [(0, .ref v0), (1, .int v1)] := hl
  unfold w_X6_refuseLong at hw
  show W p l e rm_X6_refuseLong s m args below meth c H [] 0 0 (QL G B S sz below args s Q) (F0 m 0 ls [])
  generalize ([] : List Loc) = locs at hH ⊢
  refine lv_ldc2 (v := (4000000000000000000 : Int64)) hx hb hown (hKK.use kc_X6_54 rfl _) dX6_refuseLong_0 ?_
  refine lv_aload_n hx hb dX6_refuseLong_3 rfl (lv_at hl 0 rfl) ?_
  refine lv_iload_n hx hb dX6_refuseLong_4 rfl (lv_at hl 1 rfl) ?_
  obtain ⟨k1, hw⟩ := hw
  refine hv_cVI (rm := rm_X6_refuse) (As := [.int v1]) (rest := [.long (4000000000000000000 : Int64)]) (k := 1) (ci := 6) hx hb hml hown hKK hH cf6 k1 (m_X6_refuse v0 v1 _ _ hw) cw_X6_56 ⟨Nat.le_of_ble_eq_true rfl, Nat.le_of_ble_eq_true rfl⟩ rfl hl.1 rfl (Nat.le_of_ble_eq_true rfl) ⟨Nat.le_of_ble_eq_true rfl, Nat.le_of_ble_eq_true rfl⟩ dX6_refuseLong_5 (fun r3 h2 H locs hH hw => ?_)
  refine lv_i2l hx hb dX6_refuseLong_8 rfl ?_
  refine lv_lsub hx hb dX6_refuseLong_9 ?_
  exact hv_lret hx hb hr hlk hH hw dX6_refuseLong_10
abbrev rm_X6_noHead : Room := { frames := 0, cells := 0, slots := 0, locals := 0 }
set_option maxHeartbeats 4000000 in
set_option maxRecDepth 100000 in
theorem m_X6_noHead {l : Launch} {G : Gl} {B sz : Nat} {S : St} (v0 : Nat) (v1 : Int32) (h : Hp) (Q : Int32 → Hp → Prop) (hw : w_X6_noHead S v0 v1 h Q) : MI l G B sz S yX6_noHead cX6_noHead 2 .boolean rm_X6_noHead [.ref v0, .int v1] h Q := by
  refine met_of rfl rfl ?_
  intro p e s m args below meth c hMB H ls hH hl
  obtain ⟨hx, hb, hml, hown, hKK, hr, hlk⟩ := hMB
  replace hl : lv_has ls 2 [(0, .ref v0), (1, .int v1)] := hl
  unfold w_X6_noHead at hw
  show W p l e rm_X6_noHead s m args below meth c H [] 0 0 (QI G B S sz below args s Q) (F0 m 0 ls [])
  generalize ([] : List Loc) = locs at hH ⊢
  refine lv_iload_n hx hb dX6_noHead_0 rfl (lv_at hl 1 rfl) ?_
  refine lv_if_lt (tgt := 15) hx hb dX6_noHead_1 (by decide) (fun c1 => ?_) (fun c1 => ?_)
  · have hw := ite_t hw c1
    refine lv_iconst (v := (nI 1)) hx hb dX6_noHead_15 (by decide) ?_
    refine lv_goto (tgt := 20) hx hb dX6_noHead_16 (by decide) ?_
    exact hv_zret hx hb hr hlk hH (Or.inr rfl) hw dX6_noHead_20
  · have hw := ite_f hw c1
    refine lv_iload_n hx hb dX6_noHead_4 rfl (lv_at hl 1 rfl) ?_
    refine lv_aload_n hx hb dX6_noHead_5 rfl (lv_at hl 0 rfl) ?_
    obtain ⟨k2, hw⟩ := hw
    refine hv_get (ci := 6) (k := 0) (v := .ref (S.2 v0 0)) hx hb hown hKK hH cf6 (by decide) fl_X6_10 rfl k2 rfl dX6_noHead_6 ?_
    obtain ⟨k3, hw⟩ := hw
    refine hv_getN (ci := 1) (k := 4) (v := .int (h (S.2 v0 0) 4)) hx hb hown hKK hH cf1 (by decide) fl_X6_60 rfl k3 rfl dX6_noHead_9 ?_
    refine lv_icmp_lt (tgt := 19) hx hb dX6_noHead_12 (by decide) (fun c4 => ?_) (fun c4 => ?_)
    · have hw := ite_t hw c4
      refine lv_iconst (v := (nI 0)) hx hb dX6_noHead_19 (by decide) ?_
      exact hv_zret hx hb hr hlk hH (Or.inl rfl) hw dX6_noHead_20
    · have hw := ite_f hw c4
      refine lv_iconst (v := (nI 1)) hx hb dX6_noHead_15 (by decide) ?_
      refine lv_goto (tgt := 20) hx hb dX6_noHead_16 (by decide) ?_
      exact hv_zret hx hb hr hlk hH (Or.inr rfl) hw dX6_noHead_20
abbrev rm_X6_noField : Room := { frames := 0, cells := 0, slots := 0, locals := 0 }
set_option maxHeartbeats 4000000 in
set_option maxRecDepth 100000 in
theorem m_X6_noField {l : Launch} {G : Gl} {B sz : Nat} {S : St} (v0 : Int32) (h : Hp) (Q : Int32 → Hp → Prop) (hw : w_X6_noField S v0 h Q) : MI l G B sz S yX6_noField cX6_noField 1 .boolean rm_X6_noField [.int v0] h Q := by
  refine met_of rfl rfl ?_
  intro p e s m args below meth c hMB H ls hH hl
  obtain ⟨hx, hb, hml, hown, hKK, hr, hlk⟩ := hMB
  replace hl : lv_has ls 1 [(0, .int v0)] := hl
  unfold w_X6_noField at hw
  show W p l e rm_X6_noField s m args below meth c H [] 0 0 (QI G B S sz below args s Q) (F0 m 0 ls [])
  generalize ([] : List Loc) = locs at hH ⊢
  refine lv_iload_n hx hb dX6_noField_0 rfl (lv_at hl 0 rfl) ?_
  refine lv_if_lt (tgt := 10) hx hb dX6_noField_1 (by decide) (fun c1 => ?_) (fun c1 => ?_)
  · have hw := ite_t hw c1
    refine lv_iconst (v := (nI 1)) hx hb dX6_noField_10 (by decide) ?_
    refine lv_goto (tgt := 15) hx hb dX6_noField_11 (by decide) ?_
    exact hv_zret hx hb hr hlk hH (Or.inr rfl) hw dX6_noField_15
  · have hw := ite_f hw c1
    refine lv_iload_n hx hb dX6_noField_4 rfl (lv_at hl 0 rfl) ?_
    refine lv_bipush (v := (nI 48)) hx hb dX6_noField_5 (by decide) ?_
    refine lv_icmp_lt (tgt := 14) hx hb dX6_noField_7 (by decide) (fun c2 => ?_) (fun c2 => ?_)
    · have hw := ite_t hw c2
      refine lv_iconst (v := (nI 0)) hx hb dX6_noField_14 (by decide) ?_
      exact hv_zret hx hb hr hlk hH (Or.inl rfl) hw dX6_noField_15
    · have hw := ite_f hw c2
      refine lv_iconst (v := (nI 1)) hx hb dX6_noField_10 (by decide) ?_
      refine lv_goto (tgt := 15) hx hb dX6_noField_11 (by decide) ?_
      exact hv_zret hx hb hr hlk hH (Or.inr rfl) hw dX6_noField_15
abbrev rm_X6_noPair : Room := { frames := 1, cells := 0, slots := 0, locals := 21 }
set_option maxHeartbeats 4000000 in
set_option maxRecDepth 100000 in
theorem m_X6_noPair {l : Launch} {G : Gl} {B sz : Nat} {S : St} (v0 : Nat) (v1 : Int32) (v2 : Int32) (h : Hp) (Q : Int32 → Hp → Prop) (hw : w_X6_noPair S v0 v1 v2 h Q) : MI l G B sz S yX6_noPair cX6_noPair 3 .boolean rm_X6_noPair [.ref v0, .int v1, .int v2] h Q := by
  refine met_of rfl rfl ?_
  intro p e s m args below meth c hMB H ls hH hl
  obtain ⟨hx, hb, hml, hown, hKK, hr, hlk⟩ := hMB
  replace hl : lv_has ls 3 [(0, .ref v0), (1, .int v1), (2, .int v2)] := hl
  unfold w_X6_noPair at hw
  show W p l e rm_X6_noPair s m args below meth c H [] 0 0 (QI G B S sz below args s Q) (F0 m 0 ls [])
  generalize ([] : List Loc) = locs at hH ⊢
  refine lv_aload_n hx hb dX6_noPair_0 rfl (lv_at hl 0 rfl) ?_
  refine lv_iload_n hx hb dX6_noPair_1 rfl (lv_at hl 1 rfl) ?_
  obtain ⟨k1, hw⟩ := hw
  refine hv_cVI (rm := rm_X6_noHead) (As := [.int v1]) (rest := []) (k := 1) (ci := 6) hx hb hml hown hKK hH cf6 k1 (m_X6_noHead v0 v1 _ _ hw) cw_X6_64 ⟨Nat.le_of_ble_eq_true rfl, Nat.le_of_ble_eq_true rfl⟩ rfl hl.1 rfl (Nat.le_of_ble_eq_true rfl) ⟨Nat.le_of_ble_eq_true rfl, Nat.le_of_ble_eq_true rfl⟩ dX6_noPair_2 (fun r3 h2 H locs hH hw => ?_)
  refine lv_if_ne (tgt := 21) hx hb dX6_noPair_5 (by decide) (fun c4 => ?_) (fun c4 => ?_)
  · have hw := ite_f hw c4
    refine lv_iconst (v := (nI 1)) hx hb dX6_noPair_21 (by decide) ?_
    refine lv_goto (tgt := 26) hx hb dX6_noPair_22 (by decide) ?_
    exact hv_zret hx hb hr hlk hH (Or.inr rfl) hw dX6_noPair_26
  · have hw := ite_t hw c4
    refine lv_aload_n hx hb dX6_noPair_8 rfl (lv_at hl 0 rfl) ?_
    refine lv_iload_n hx hb dX6_noPair_9 rfl (lv_at hl 2 rfl) ?_
    refine hv_cVI (rm := rm_X6_noHead) (As := [.int v2]) (rest := []) (k := 1) (ci := 6) hx hb hml hown hKK hH cf6 k1 (m_X6_noHead v0 v2 _ _ hw) cw_X6_64 ⟨Nat.le_of_ble_eq_true rfl, Nat.le_of_ble_eq_true rfl⟩ rfl hl.1 rfl (Nat.le_of_ble_eq_true rfl) ⟨Nat.le_of_ble_eq_true rfl, Nat.le_of_ble_eq_true rfl⟩ dX6_noPair_10 (fun r6 h5 H locs hH hw => ?_)
    refine lv_if_ne (tgt := 21) hx hb dX6_noPair_13 (by decide) (fun c7 => ?_) (fun c7 => ?_)
    · have hw := ite_f hw c7
      refine lv_iconst (v := (nI 1)) hx hb dX6_noPair_21 (by decide) ?_
      refine lv_goto (tgt := 26) hx hb dX6_noPair_22 (by decide) ?_
      exact hv_zret hx hb hr hlk hH (Or.inr rfl) hw dX6_noPair_26
    · have hw := ite_t hw c7
      refine lv_iload_n hx hb dX6_noPair_16 rfl (lv_at hl 1 rfl) ?_
      refine lv_iload_n hx hb dX6_noPair_17 rfl (lv_at hl 2 rfl) ?_
      refine lv_icmp_ne (tgt := 25) hx hb dX6_noPair_18 (by decide) (fun c8 => ?_) (fun c8 => ?_)
      · have hw := ite_f hw c8
        refine lv_iconst (v := (nI 0)) hx hb dX6_noPair_25 (by decide) ?_
        exact hv_zret hx hb hr hlk hH (Or.inl rfl) hw dX6_noPair_26
      · have hw := ite_t hw c8
        refine lv_iconst (v := (nI 1)) hx hb dX6_noPair_21 (by decide) ?_
        refine lv_goto (tgt := 26) hx hb dX6_noPair_22 (by decide) ?_
        exact hv_zret hx hb hr hlk hH (Or.inr rfl) hw dX6_noPair_26
abbrev rm_X6_faultOfNumber : Room := { frames := 0, cells := 0, slots := 0, locals := 0 }
set_option maxHeartbeats 4000000 in
set_option maxRecDepth 100000 in
theorem m_X6_faultOfNumber {l : Launch} {G : Gl} {B sz : Nat} {S : St} (v0 : Int32) (v1 : Int32) (v2 : Int32) (v3 : Int32) (h : Hp) (Q : Int32 → Hp → Prop) (hw : w_X6_faultOfNumber S v0 v1 v2 v3 h Q) : MI l G B sz S yX6_faultOfNumber cX6_faultOfNumber 4 .int rm_X6_faultOfNumber [.int v0, .int v1, .int v2, .int v3] h Q := by
  refine met_of rfl rfl ?_
  intro p e s m args below meth c hMB H ls hH hl
  obtain ⟨hx, hb, hml, hown, hKK, hr, hlk⟩ := hMB
  replace hl : lv_has ls 4 [(0, .int v0), (1, .int v1), (2, .int v2), (3, .int v3)] := hl
  unfold w_X6_faultOfNumber at hw
  show W p l e rm_X6_faultOfNumber s m args below meth c H [] 0 0 (QI G B S sz below args s Q) (F0 m 0 ls [])
  generalize ([] : List Loc) = locs at hH ⊢
  refine lv_iload_n hx hb dX6_faultOfNumber_0 rfl (lv_at hl 0 rfl) ?_
  refine lv_if_eq (tgt := 6) hx hb dX6_faultOfNumber_1 (by decide) (fun c1 => ?_) (fun c1 => ?_)
  · have hw := ite_t hw c1
    refine lv_iload_n hx hb dX6_faultOfNumber_6 rfl (lv_at hl 1 rfl) ?_
    refine lv_iload_n hx hb dX6_faultOfNumber_7 rfl (lv_at hl 2 rfl) ?_
    refine lv_icmp_ge (tgt := 14) hx hb dX6_faultOfNumber_8 (by decide) (fun c2 => ?_) (fun c2 => ?_)
    · have hw := ite_t hw c2
      refine lv_iload_n hx hb dX6_faultOfNumber_14 rfl (lv_at hl 1 rfl) ?_
      refine lv_iload_n hx hb dX6_faultOfNumber_15 rfl (lv_at hl 3 rfl) ?_
      refine lv_icmp_le (tgt := 24) hx hb dX6_faultOfNumber_16 (by decide) (fun c3 => ?_) (fun c3 => ?_)
      · have hw := ite_t hw c3
        refine lv_iconst (v := (nI 0)) hx hb dX6_faultOfNumber_24 (by decide) ?_
        exact hv_iret hx hb hr hlk hH hw dX6_faultOfNumber_25
      · have hw := ite_f hw c3
        refine lv_bipush (v := (-6)) hx hb dX6_faultOfNumber_19 (by decide) ?_
        refine lv_goto (tgt := 25) hx hb dX6_faultOfNumber_21 (by decide) ?_
        exact hv_iret hx hb hr hlk hH hw dX6_faultOfNumber_25
    · have hw := ite_f hw c2
      refine lv_bipush (v := (-4)) hx hb dX6_faultOfNumber_11 (by decide) ?_
      exact hv_iret hx hb hr hlk hH hw dX6_faultOfNumber_13
  · have hw := ite_f hw c1
    refine lv_iconst (v := (-1)) hx hb dX6_faultOfNumber_4 (by decide) ?_
    exact hv_iret hx hb hr hlk hH hw dX6_faultOfNumber_5
