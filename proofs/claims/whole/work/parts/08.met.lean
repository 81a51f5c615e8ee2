abbrev rm_X0_begin : Room := { frames := 0, cells := 0, slots := 0, locals := 0 }
set_option maxHeartbeats 4000000 in
set_option maxRecDepth 100000 in
theorem m_X0_begin {l : Launch} {G : Gl} {B sz : Nat} {S : St} (v0 : Nat) (v1 : Int32) (v2 : Int32) (v3 : Int32) (h : Hp) (Q : Hp → Prop) (hw : w_X0_begin S v0 v1 v2 v3 h Q) : MV l G B sz S yX0_begin cX0_begin 4 rm_X0_begin [.ref v0, .int v1, .int v2, .int v3] h Q := by
  refine met_of rfl rfl ?_
  intro p e s m args below meth c hMB H ls hH hl
  obtain ⟨hx, hb, hml, hown, hKK, hr, hlk⟩ := hMB
  replace hl : lv_has ls 4 [(0, .ref v0), (1, .int v1), (2, .int v2), (3, .int v3)] := hl
  unfold w_X0_begin at hw
  show W p l e rm_X0_begin s m args below meth c H [] 0 0 (QV G B S sz below args s Q) (F0 m 0 ls [])
  generalize ([] : List Loc) = locs at hH ⊢
  refine lv_aload_n hx hb dX0_begin_0 rfl (lv_at hl 0 rfl) ?_
  refine lv_iload_n hx hb dX0_begin_1 rfl (lv_at hl 1 rfl) ?_
  obtain ⟨k1, hw⟩ := hw
  refine hv_put (ci := 0) (k := 0) hx hb hown hKK hH cf0 (by decide) fl_X0_15 rfl rfl rfl k1 rfl rfl dX0_begin_2 (fun H locs hH => ?_)
  refine lv_aload_n hx hb dX0_begin_5 rfl (lv_at hl 0 rfl) ?_
  refine lv_iload_n hx hb dX0_begin_6 rfl (lv_at hl 2 rfl) ?_
  refine hv_put (ci := 0) (k := 1) hx hb hown hKK hH cf0 (by decide) fl_X0_19 rfl rfl rfl k1 rfl rfl dX0_begin_7 (fun H locs hH => ?_)
  refine lv_aload_n hx hb dX0_begin_10 rfl (lv_at hl 0 rfl) ?_
  refine lv_iconst (v := (nI 0)) hx hb dX0_begin_11 (by decide) ?_
  refine hv_put (ci := 0) (k := 3) hx hb hown hKK hH cf0 (by decide) fl_X0_22 rfl rfl rfl k1 rfl rfl dX0_begin_12 (fun H locs hH => ?_)
  refine lv_aload_n hx hb dX0_begin_15 rfl (lv_at hl 0 rfl) ?_
  refine lv_iload_n hx hb dX0_begin_16 rfl (lv_at hl 3 rfl) ?_
  refine hv_put (ci := 0) (k := 4) hx hb hown hKK hH cf0 (by decide) fl_X0_25 rfl rfl rfl k1 rfl rfl dX0_begin_17 (fun H locs hH => ?_)
  refine lv_aload_n hx hb dX0_begin_20 rfl (lv_at hl 0 rfl) ?_
  refine lv_iconst (v := (nI 0)) hx hb dX0_begin_21 (by decide) ?_
  refine hv_put (ci := 0) (k := 5) hx hb hown hKK hH cf0 (by decide) fl_X0_28 rfl rfl rfl k1 rfl rfl dX0_begin_22 (fun H locs hH => ?_)
  refine lv_aload_n hx hb dX0_begin_25 rfl (lv_at hl 0 rfl) ?_
  refine lv_iconst (v := (nI 0)) hx hb dX0_begin_26 (by decide) ?_
  refine hv_put (ci := 0) (k := 6) hx hb hown hKK hH cf0 (by decide) fl_X0_31 rfl rfl rfl k1 rfl rfl dX0_begin_27 (fun H locs hH => ?_)
  refine lv_aload_n hx hb dX0_begin_30 rfl (lv_at hl 0 rfl) ?_
  refine lv_iconst (v := (nI 0)) hx hb dX0_begin_31 (by decide) ?_
  refine hv_put (ci := 0) (k := 7) hx hb hown hKK hH cf0 (by decide) fl_X0_34 rfl rfl rfl k1 rfl rfl dX0_begin_32 (fun H locs hH => ?_)
  refine lv_aload_n hx hb dX0_begin_35 rfl (lv_at hl 0 rfl) ?_
  refine lv_iconst (v := (nI 0)) hx hb dX0_begin_36 (by decide) ?_
  refine hv_put (ci := 0) (k := 8) hx hb hown hKK hH cf0 (by decide) fl_X0_37 rfl rfl rfl k1 rfl rfl dX0_begin_37 (fun H locs hH => ?_)
  exact hv_vret hx hb hr hlk hH hw dX0_begin_40
abbrev rm_X0_copyName : Room := { frames := 1, cells := 0, slots := 0, locals := 60 }
set_option maxHeartbeats 4000000 in
set_option maxRecDepth 100000 in
theorem m_X0_copyName {l : Launch} {G : Gl} {B sz : Nat} {S : St} (v0 : Nat) (v1 : Nat) (h : Hp) (Q : Hp → Prop) (hw : w_X0_copyName S v0 v1 h Q) : MV l G B sz S yX0_copyName cX0_copyName 2 rm_X0_copyName [.ref v0, .ref v1] h Q := by
  refine met_of rfl rfl ?_
  intro p e s m args below meth c hMB H ls hH hl
  obtain ⟨hx, hb, hml, hown, hKK, hr, hlk⟩ := hMB
  replace hl : lv_has ls 2 [(0, .ref v0), (1, .ref v1)] := hl
  unfold w_X0_copyName at hw
  show W p l e rm_X0_copyName s m args below meth c H [] 0 0 (QV G B S sz below args s Q) (F0 m 0 ls [])
  generalize ([] : List Loc) = locs at hH ⊢
  refine lv_aload_n hx hb dX0_copyName_0 rfl (lv_at hl 0 rfl) ?_
  refine lv_aload_n hx hb dX0_copyName_1 rfl (lv_at hl 1 rfl) ?_
  obtain ⟨k1, hw⟩ := hw
  refine hv_get (ci := 0) (k := 3) (v := .int (h v1 3)) hx hb hown hKK hH cf0 (by decide) fl_X0_22 rfl k1 rfl dX0_copyName_2 ?_
  obtain ⟨k2, hw⟩ := hw
  refine hv_put (ci := 0) (k := 3) hx hb hown hKK hH cf0 (by decide) fl_X0_22 rfl rfl rfl k2 rfl rfl dX0_copyName_5 (fun H locs hH => ?_)
  refine lv_aload_n hx hb dX0_copyName_8 rfl (lv_at hl 1 rfl) ?_
  refine hv_get (ci := 0) (k := 2) (v := .ref (S.2 v1 2)) hx hb hown hKK hH cf0 (by decide) fl_X0_9 rfl k1 rfl dX0_copyName_9 ?_
  refine lv_iconst (v := (nI 0)) hx hb dX0_copyName_12 (by decide) ?_
  refine lv_aload_n hx hb dX0_copyName_13 rfl (lv_at hl 0 rfl) ?_
  refine hv_get (ci := 0) (k := 2) (v := .ref (S.2 v0 2)) hx hb hown hKK hH cf0 (by decide) fl_X0_9 rfl k2 rfl dX0_copyName_14 ?_
  refine lv_iconst (v := (nI 0)) hx hb dX0_copyName_17 (by decide) ?_
  refine lv_bipush (v := (nI 6)) hx hb dX0_copyName_18 (by decide) ?_
  obtain ⟨k3, hw⟩ := hw
  refine hv_copy hx hb (hml.trans hl.1.symm) hown hKK hH ml_X0_45 k3 (Nat.le_of_ble_eq_true rfl) (by decide) dX0_copyName_20 (fun H locs hH => ?_)
  exact hv_vret hx hb hr hlk hH hw dX0_copyName_23
abbrev rm_X0_become : Room := { frames := 2, cells := 0, slots := 0, locals := 81 }
set_option maxHeartbeats 4000000 in
set_option maxRecDepth 100000 in
theorem m_X0_become {l : Launch} {G : Gl} {B sz : Nat} {S : St} (v0 : Nat) (v1 : Nat) (h : Hp) (Q : Hp → Prop) (hw : w_X0_become S v0 v1 h Q) : MV l G B sz S yX0_become cX0_become 2 rm_X0_become [.ref v0, .ref v1] h Q := by
  refine met_of rfl rfl ?_
  intro p e s m args below meth c hMB H ls hH hl
  obtain ⟨hx, hb, hml, hown, hKK, hr, hlk⟩ := hMB
  replace hl : lv_has ls 2 [(0, .ref v0), (1, .ref v1)] := hl
  unfold w_X0_become at hw
  show W p l e rm_X0_become s m args below meth c H [] 0 0 (QV G B S sz below args s Q) (F0 m 0 ls [])
  generalize ([] : List Loc) = locs at hH ⊢
  refine lv_aload_n hx hb dX0_become_0 rfl (lv_at hl 0 rfl) ?_
  refine lv_aload_n hx hb dX0_become_1 rfl (lv_at hl 1 rfl) ?_
  obtain ⟨k1, hw⟩ := hw
  refine hv_get (ci := 0) (k := 0) (v := .int (h v1 0)) hx hb hown hKK hH cf0 (by decide) fl_X0_15 rfl k1 rfl dX0_become_2 ?_
  obtain ⟨k2, hw⟩ := hw
  refine hv_put (ci := 0) (k := 0) hx hb hown hKK hH cf0 (by decide) fl_X0_15 rfl rfl rfl k2 rfl rfl dX0_become_5 (fun H locs hH => ?_)
  refine lv_aload_n hx hb dX0_become_8 rfl (lv_at hl 0 rfl) ?_
  refine lv_aload_n hx hb dX0_become_9 rfl (lv_at hl 1 rfl) ?_
  refine hv_get (ci := 0) (k := 1) (v := .int ((up h v0 0 (h v1 0)) v1 1)) hx hb hown hKK hH cf0 (by decide) fl_X0_19 rfl k1 rfl dX0_become_10 ?_
  refine hv_put (ci := 0) (k := 1) hx hb hown hKK hH cf0 (by decide) fl_X0_19 rfl rfl rfl k2 rfl rfl dX0_become_13 (fun H locs hH => ?_)
  refine lv_aload_n hx hb dX0_become_16 rfl (lv_at hl 0 rfl) ?_
  refine lv_aload_n hx hb dX0_become_17 rfl (lv_at hl 1 rfl) ?_
  refine hv_cVV (rm := rm_X0_copyName) (As := [.ref v1]) (rest := []) (k := 1) (ci := 0) hx hb hml hown hKK hH cf0 k2 (m_X0_copyName v0 v1 _ _ hw) cw_X0_41 ⟨Nat.le_of_ble_eq_true rfl, Nat.le_of_ble_eq_true rfl⟩ rfl hl.1 rfl (Nat.le_of_ble_eq_true rfl) ⟨Nat.le_of_ble_eq_true rfl, Nat.le_of_ble_eq_true rfl⟩ dX0_become_18 (fun h3 H locs hH hw => ?_)
  refine lv_aload_n hx hb dX0_become_21 rfl (lv_at hl 0 rfl) ?_
  refine lv_aload_n hx hb dX0_become_22 rfl (lv_at hl 1 rfl) ?_
  refine hv_get (ci := 0) (k := 4) (v := .int (h3 v1 4)) hx hb hown hKK hH cf0 (by decide) fl_X0_25 rfl k1 rfl dX0_become_23 ?_
  refine hv_put (ci := 0) (k := 4) hx hb hown hKK hH cf0 (by decide) fl_X0_25 rfl rfl rfl k2 rfl rfl dX0_become_26 (fun H locs hH => ?_)
  refine lv_aload_n hx hb dX0_become_29 rfl (lv_at hl 0 rfl) ?_
  refine lv_aload_n hx hb dX0_become_30 rfl (lv_at hl 1 rfl) ?_
  refine hv_get (ci := 0) (k := 5) (v := .int ((up h3 v0 4 (h3 v1 4)) v1 5)) hx hb hown hKK hH cf0 (by decide) fl_X0_28 rfl k1 rfl dX0_become_31 ?_
  refine hv_put (ci := 0) (k := 5) hx hb hown hKK hH cf0 (by decide) fl_X0_28 rfl rfl rfl k2 rfl rfl dX0_become_34 (fun H locs hH => ?_)
  refine lv_aload_n hx hb dX0_become_37 rfl (lv_at hl 0 rfl) ?_
  refine lv_aload_n hx hb dX0_become_38 rfl (lv_at hl 1 rfl) ?_
  refine hv_get (ci := 0) (k := 6) (v := .int ((up (up h3 v0 4 (h3 v1 4)) v0 5 ((up h3 v0 4 (h3 v1 4)) v1 5)) v1 6)) hx hb hown hKK hH cf0 (by decide) fl_X0_31 rfl k1 rfl dX0_become_39 ?_
  refine hv_put (ci := 0) (k := 6) hx hb hown hKK hH cf0 (by decide) fl_X0_31 rfl rfl rfl k2 rfl rfl dX0_become_42 (fun H locs hH => ?_)
  refine lv_aload_n hx hb dX0_become_45 rfl (lv_at hl 0 rfl) ?_
  refine lv_aload_n hx hb dX0_become_46 rfl (lv_at hl 1 rfl) ?_
  refine hv_get (ci := 0) (k := 7) (v := .int ((up (up (up h3 v0 4 (h3 v1 4)) v0 5 ((up h3 v0 4 (h3 v1 4)) v1 5)) v0 6 ((up (up h3 v0 4 (h3 v1 4)) v0 5 ((up h3 v0 4 (h3 v1 4)) v1 5)) v1 6)) v1 7)) hx hb hown hKK hH cf0 (by decide) fl_X0_34 rfl k1 rfl dX0_become_47 ?_
  refine hv_put (ci := 0) (k := 7) hx hb hown hKK hH cf0 (by decide) fl_X0_34 rfl rfl rfl k2 rfl rfl dX0_become_50 (fun H locs hH => ?_)
  refine lv_aload_n hx hb dX0_become_53 rfl (lv_at hl 0 rfl) ?_
  refine lv_aload_n hx hb dX0_become_54 rfl (lv_at hl 1 rfl) ?_
  refine hv_get (ci := 0) (k := 8) (v := .int ((up (up (up (up h3 v0 4 (h3 v1 4)) v0 5 ((up h3 v0 4 (h3 v1 4)) v1 5)) v0 6 ((up (up h3 v0 4 (h3 v1 4)) v0 5 ((up h3 v0 4 (h3 v1 4)) v1 5)) v1 6)) v0 7 ((up (up (up h3 v0 4 (h3 v1 4)) v0 5 ((up h3 v0 4 (h3 v1 4)) v1 5)) v0 6 ((up (up h3 v0 4 (h3 v1 4)) v0 5 ((up h3 v0 4 (h3 v1 4)) v1 5)) v1 6)) v1 7)) v1 8)) hx hb hown hKK hH cf0 (by decide) fl_X0_37 rfl k1 rfl dX0_become_55 ?_
  obtain ⟨k4, hw⟩ := hw
  refine hv_put (ci := 0) (k := 8) hx hb hown hKK hH cf0 (by decide) fl_X0_37 rfl rfl rfl k2 (bo_n k4) (bo_f k4) dX0_become_58 (fun H locs hH => ?_)
  exact hv_vret hx hb hr hlk hH hw dX0_become_61
abbrev rm_X0_steps : Room := { frames := 0, cells := 0, slots := 0, locals := 0 }
set_option maxHeartbeats 4000000 in
set_option maxRecDepth 100000 in
theorem m_X0_steps {l : Launch} {G : Gl} {B sz : Nat} {S : St} (v0 : Nat) (h : Hp) (Q : Int32 → Hp → Prop) (hw : w_X0_steps S v0 h Q) : MI l G B sz S yX0_steps cX0_steps 1 .int rm_X0_steps [.ref v0] h Q := by
  refine met_of rfl rfl ?_
  intro p e s m args below meth c hMB H ls hH hl
  obtain ⟨hx, hb, hml, hown, hKK, hr, hlk⟩ := hMB
  replace hl : lv_has ls 1 [(0, .ref v0)] := hl
  unfold w_X0_steps at hw
  show W p l e rm_X0_steps s m args below meth c H [] 0 0 (QI G B S sz below args s Q) (F0 m 0 ls [])
  generalize ([] : List Loc) = locs at hH ⊢
  refine lv_aload_n hx hb dX0_steps_0 rfl (lv_at hl 0 rfl) ?_
  obtain ⟨k1, hw⟩ := hw
  refine hv_get (ci := 0) (k := 0) (v := .int (h v0 0)) hx hb hown hKK hH cf0 (by decide) fl_X0_15 rfl k1 rfl dX0_steps_1 ?_
  by_cases c2 : (h v0 0) = (nI 1)
  · have hw := ite_t hw c2
    refine lv_tableIn (tgt := 48) hx hb dX0_steps_4 (by rw [c2]; decide) (by rw [c2]; decide) (by rw [c2]; rfl) (by decide) ?_
    refine lv_iconst (v := (nI 2)) hx hb dX0_steps_48 (by decide) ?_
    exact hv_iret hx hb hr hlk hH hw dX0_steps_49
  have hw := ite_f hw c2
  by_cases c3 : (h v0 0) = (nI 2)
  · have hw := ite_t hw c3
    refine lv_tableIn (tgt := 50) hx hb dX0_steps_4 (by rw [c3]; decide) (by rw [c3]; decide) (by rw [c3]; rfl) (by decide) ?_
    refine lv_aload_n hx hb dX0_steps_50 rfl (lv_at hl 0 rfl) ?_
    refine hv_get (ci := 0) (k := 1) (v := .int (h v0 1)) hx hb hown hKK hH cf0 (by decide) fl_X0_19 rfl k1 rfl dX0_steps_51 ?_
    refine lv_iconst (v := (nI 3)) hx hb dX0_steps_54 (by decide) ?_
    refine lv_idiv hx hb dX0_steps_55 (by decide) ?_
    refine lv_iconst (v := (nI 1)) hx hb dX0_steps_56 (by decide) ?_
    refine lv_iadd hx hb dX0_steps_57 ?_
    exact hv_iret hx hb hr hlk hH hw dX0_steps_58
  have hw := ite_f hw c3
  by_cases c4 : (h v0 0) = (nI 5)
  · have hw := ite_t hw c4
    refine lv_tableIn (tgt := 59) hx hb dX0_steps_4 (by rw [c4]; decide) (by rw [c4]; decide) (by rw [c4]; rfl) (by decide) ?_
    refine lv_aload_n hx hb dX0_steps_59 rfl (lv_at hl 0 rfl) ?_
    refine hv_get (ci := 0) (k := 3) (v := .int (h v0 3)) hx hb hown hKK hH cf0 (by decide) fl_X0_22 rfl k1 rfl dX0_steps_60 ?_
    refine lv_iconst (v := (nI 2)) hx hb dX0_steps_63 (by decide) ?_
    refine lv_idiv hx hb dX0_steps_64 (by decide) ?_
    exact hv_iret hx hb hr hlk hH hw dX0_steps_65
  have hw := ite_f hw c4
  by_cases c5 : (h v0 0) = (nI 6)
  · have hw := ite_t hw c5
    refine lv_tableIn (tgt := 66) hx hb dX0_steps_4 (by rw [c5]; decide) (by rw [c5]; decide) (by rw [c5]; rfl) (by decide) ?_
    refine lv_aload_n hx hb dX0_steps_66 rfl (lv_at hl 0 rfl) ?_
    refine hv_get (ci := 0) (k := 1) (v := .int (h v0 1)) hx hb hown hKK hH cf0 (by decide) fl_X0_19 rfl k1 rfl dX0_steps_67 ?_
    refine lv_iconst (v := (nI 3)) hx hb dX0_steps_70 (by decide) ?_
    refine lv_idiv hx hb dX0_steps_71 (by decide) ?_
    refine lv_iconst (v := (nI 2)) hx hb dX0_steps_72 (by decide) ?_
    refine lv_iadd hx hb dX0_steps_73 ?_
    exact hv_iret hx hb hr hlk hH hw dX0_steps_74
  have hw := ite_f hw c5
  by_cases c6 : (h v0 0) = (nI 7)
  · have hw := ite_t hw c6
    refine lv_tableIn (tgt := 75) hx hb dX0_steps_4 (by rw [c6]; decide) (by rw [c6]; decide) (by rw [c6]; rfl) (by decide) ?_
    refine lv_iconst (v := (nI 2)) hx hb dX0_steps_75 (by decide) ?_
    exact hv_iret hx hb hr hlk hH hw dX0_steps_76
  have hw := ite_f hw c6
  have wd : W p l e rm_X0_steps s m args below meth c H locs 0 0 (QI G B S sz below args s Q) (F0 m 77 ls []) := by
    refine lv_iconst (v := (nI 1)) hx hb dX0_steps_77 (by decide) ?_
    exact hv_iret hx hb hr hlk hH hw dX0_steps_78
  by_cases c7 : (h v0 0) = (nI 3)
  · exact lv_tableIn (tgt := 77) hx hb dX0_steps_4 (by rw [c7]; decide) (by rw [c7]; decide) (by rw [c7]; rfl) (by decide) wd
  by_cases c8 : (h v0 0) = (nI 4)
  · exact lv_tableIn (tgt := 77) hx hb dX0_steps_4 (by rw [c8]; decide) (by rw [c8]; decide) (by rw [c8]; rfl) (by decide) wd
  refine lv_tableOut (tgt := 77) hx hb dX0_steps_4 (by have := ne_toInt (k := 1) (by decide) c2; have := ne_toInt (k := 2) (by decide) c3; have := ne_toInt (k := 5) (by decide) c4; have := ne_toInt (k := 6) (by decide) c5; have := ne_toInt (k := 7) (by decide) c6; have := ne_toInt (k := 3) (by decide) c7; have := ne_toInt (k := 4) (by decide) c8; omega) (by decide) wd
abbrev rm_X0_weight : Room := { frames := 0, cells := 0, slots := 0, locals := 0 }
set_option maxHeartbeats 4000000 in
set_option maxRecDepth 100000 in
theorem m_X0_weight {l : Launch} {G : Gl} {B sz : Nat} {S : St} (v0 : Nat) (h : Hp) (Q : Int32 → Hp → Prop) (hw : w_X0_weight S v0 h Q) : MI l G B sz S yX0_weight cX0_weight 2 .int rm_X0_weight [.ref v0] h Q := by
  refine met_of rfl rfl ?_
  intro p e s m args below meth c hMB H ls hH hl
  obtain ⟨hx, hb, hml, hown, hKK, hr, hlk⟩ := hMB
  replace hl : lv_has ls 2 [(0, .ref v0)] := hl
  unfold w_X0_weight at hw
  show W p l e rm_X0_weight s m args below meth c H [] 0 0 (QI G B S sz below args s Q) (F0 m 0 ls [])
  generalize ([] : List Loc) = locs at hH ⊢
  refine lv_aload_n hx hb dX0_weight_0 rfl (lv_at hl 0 rfl) ?_
  obtain ⟨k1, hw⟩ := hw
  refine hv_get (ci := 0) (k := 1) (v := .int (h v0 1)) hx hb hown hKK hH cf0 (by decide) fl_X0_19 rfl k1 rfl dX0_weight_1 ?_
  refine lv_iconst (v := (nI 1)) hx hb dX0_weight_4 (by decide) ?_
  refine lv_iadd hx hb dX0_weight_5 ?_
  refine lv_istore_n (lv' := [(1, .int ((h v0 1) + (nI 1))), (0, .ref v0)]) hx hb dX0_weight_6 rfl hl (by decide) rfl (fun ls hl => ?_)
  refine lv_aload_n hx hb dX0_weight_7 rfl (lv_at hl 1 rfl) ?_
  refine hv_get (ci := 0) (k := 0) (v := .int (h v0 0)) hx hb hown hKK hH cf0 (by decide) fl_X0_15 rfl k1 rfl dX0_weight_8 ?_
  by_cases c2 : (h v0 0) = (nI 1)
  · have hw := ite_t hw c2
    refine lv_tableIn (tgt := 52) hx hb dX0_weight_11 (by rw [c2]; decide) (by rw [c2]; decide) (by rw [c2]; rfl) (by decide) ?_
    refine lv_iconst (v := (nI 2)) hx hb dX0_weight_52 (by decide) ?_
    refine lv_iload_n hx hb dX0_weight_53 rfl (lv_at hl 0 rfl) ?_
    refine lv_imul hx hb dX0_weight_54 ?_
    exact hv_iret hx hb hr hlk hH hw dX0_weight_55
  have hw := ite_f hw c2
  by_cases c3 : (h v0 0) = (nI 2)
  · have hw := ite_t hw c3
    refine lv_tableIn (tgt := 56) hx hb dX0_weight_11 (by rw [c3]; decide) (by rw [c3]; decide) (by rw [c3]; rfl) (by decide) ?_
    refine lv_bipush (v := (nI 9)) hx hb dX0_weight_56 (by decide) ?_
    exact hv_iret hx hb hr hlk hH hw dX0_weight_58
  have hw := ite_f hw c3
  by_cases c4 : (h v0 0) = (nI 3)
  · have hw := ite_t hw c4
    refine lv_tableIn (tgt := 59) hx hb dX0_weight_11 (by rw [c4]; decide) (by rw [c4]; decide) (by rw [c4]; rfl) (by decide) ?_
    refine lv_iload_n hx hb dX0_weight_59 rfl (lv_at hl 0 rfl) ?_
    refine lv_iconst (v := (nI 2)) hx hb dX0_weight_60 (by decide) ?_
    refine lv_idiv hx hb dX0_weight_61 (by decide) ?_
    exact hv_iret hx hb hr hlk hH hw dX0_weight_62
  have hw := ite_f hw c4
  by_cases c5 : (h v0 0) = (nI 4)
  · have hw := ite_t hw c5
    refine lv_tableIn (tgt := 63) hx hb dX0_weight_11 (by rw [c5]; decide) (by rw [c5]; decide) (by rw [c5]; rfl) (by decide) ?_
    refine lv_iconst (v := (nI 2)) hx hb dX0_weight_63 (by decide) ?_
    refine lv_iload_n hx hb dX0_weight_64 rfl (lv_at hl 0 rfl) ?_
    refine lv_imul hx hb dX0_weight_65 ?_
    refine lv_iconst (v := (nI 3)) hx hb dX0_weight_66 (by decide) ?_
    refine lv_iadd hx hb dX0_weight_67 ?_
    exact hv_iret hx hb hr hlk hH hw dX0_weight_68
  have hw := ite_f hw c5
  by_cases c6 : (h v0 0) = (nI 5)
  · have hw := ite_t hw c6
    refine lv_tableIn (tgt := 69) hx hb dX0_weight_11 (by rw [c6]; decide) (by rw [c6]; decide) (by rw [c6]; rfl) (by decide) ?_
    refine lv_iload_n hx hb dX0_weight_69 rfl (lv_at hl 0 rfl) ?_
    refine lv_iconst (v := (nI 2)) hx hb dX0_weight_70 (by decide) ?_
    refine lv_idiv hx hb dX0_weight_71 (by decide) ?_
    refine lv_iconst (v := (nI 2)) hx hb dX0_weight_72 (by decide) ?_
    refine lv_iadd hx hb dX0_weight_73 ?_
    exact hv_iret hx hb hr hlk hH hw dX0_weight_74
  have hw := ite_f hw c6
  by_cases c7 : (h v0 0) = (nI 6)
  · have hw := ite_t hw c7
    refine lv_tableIn (tgt := 75) hx hb dX0_weight_11 (by rw [c7]; decide) (by rw [c7]; decide) (by rw [c7]; rfl) (by decide) ?_
    refine lv_bipush (v := (nI 9)) hx hb dX0_weight_75 (by decide) ?_
    refine lv_aload_n hx hb dX0_weight_77 rfl (lv_at hl 1 rfl) ?_
    refine hv_get (ci := 0) (k := 1) (v := .int (h v0 1)) hx hb hown hKK hH cf0 (by decide) fl_X0_19 rfl k1 rfl dX0_weight_78 ?_
    refine lv_isub hx hb dX0_weight_81 ?_
    exact hv_iret hx hb hr hlk hH hw dX0_weight_82
  have hw := ite_f hw c7
  by_cases c8 : (h v0 0) = (nI 7)
  · have hw := ite_t hw c8
    refine lv_tableIn (tgt := 83) hx hb dX0_weight_11 (by rw [c8]; decide) (by rw [c8]; decide) (by rw [c8]; rfl) (by decide) ?_
    refine lv_iconst (v := (nI 2)) hx hb dX0_weight_83 (by decide) ?_
    refine lv_iload_n hx hb dX0_weight_84 rfl (lv_at hl 0 rfl) ?_
    refine lv_imul hx hb dX0_weight_85 ?_
    refine lv_iconst (v := (nI 3)) hx hb dX0_weight_86 (by decide) ?_
    refine lv_iadd hx hb dX0_weight_87 ?_
    exact hv_iret hx hb hr hlk hH hw dX0_weight_88
  have hw := ite_f hw c8
  refine lv_tableOut (tgt := 89) hx hb dX0_weight_11 (by have := ne_toInt (k := 1) (by decide) c2; have := ne_toInt (k := 2) (by decide) c3; have := ne_toInt (k := 3) (by decide) c4; have := ne_toInt (k := 4) (by decide) c5; have := ne_toInt (k := 5) (by decide) c6; have := ne_toInt (k := 6) (by decide) c7; have := ne_toInt (k := 7) (by decide) c8; omega) (by decide) ?_
  refine lv_iload_n hx hb dX0_weight_89 rfl (lv_at hl 0 rfl) ?_
  exact hv_iret hx hb hr hlk hH hw dX0_weight_90
abbrev rm_X0_isVowel : Room := { frames := 0, cells := 0, slots := 0, locals := 0 }
set_option maxHeartbeats 4000000 in
set_option maxRecDepth 100000 in
theorem m_X0_isVowel {l : Launch} {G : Gl} {B sz : Nat} {S : St} (v0 : Int32) (h : Hp) (Q : Int32 → Hp → Prop) (hw : w_X0_isVowel S v0 h Q) : MI l G B sz S yX0_isVowel cX0_isVowel 1 .boolean rm_X0_isVowel [.int v0] h Q := by
  refine met_of rfl rfl ?_
  intro p e s m args below meth c hMB H ls hH hl
  obtain ⟨hx, hb, hml, hown, hKK, hr, hlk⟩ := hMB
  replace hl : lv_has ls 1 [(0, .int v0)] := hl
  unfold w_X0_isVowel at hw
  show W p l e rm_X0_isVowel s m args below meth c H [] 0 0 (QI G B S sz below args s Q) (F0 m 0 ls [])
  generalize ([] : List Loc) = locs at hH ⊢
  refine lv_bipush (v := (nI 97)) hx hb dX0_isVowel_0 (by decide) ?_
  refine lv_iload_n hx hb dX0_isVowel_2 rfl (lv_at hl 0 rfl) ?_
  refine lv_iadd hx hb dX0_isVowel_3 ?_
  by_cases c1 : ((nI 97) + v0) = (nI 97)
  · have hw := ite_t hw c1
    refine lv_lookup (tgt := 56) (off := 52) hx hb dX0_isVowel_4 (by decide) (by (rw [c1]) <;> rfl) (by decide) ?_
    refine lv_iconst (v := (nI 1)) hx hb dX0_isVowel_56 (by decide) ?_
    exact hv_zret hx hb hr hlk hH (Or.inr rfl) hw dX0_isVowel_57
  have hw := ite_f hw c1
  by_cases c2 : ((nI 97) + v0) = (nI 101)
  · have hw := ite_t hw c2
    refine lv_lookup (tgt := 56) (off := 52) hx hb dX0_isVowel_4 (by decide) (by (rw [c2]) <;> rfl) (by decide) ?_
    refine lv_iconst (v := (nI 1)) hx hb dX0_isVowel_56 (by decide) ?_
    exact hv_zret hx hb hr hlk hH (Or.inr rfl) hw dX0_isVowel_57
  have hw := ite_f hw c2
  by_cases c3 : ((nI 97) + v0) = (nI 105)
  · have hw := ite_t hw c3
    refine lv_lookup (tgt := 56) (off := 52) hx hb dX0_isVowel_4 (by decide) (by (rw [c3]) <;> rfl) (by decide) ?_
    refine lv_iconst (v := (nI 1)) hx hb dX0_isVowel_56 (by decide) ?_
    exact hv_zret hx hb hr hlk hH (Or.inr rfl) hw dX0_isVowel_57
  have hw := ite_f hw c3
  by_cases c4 : ((nI 97) + v0) = (nI 111)
  · have hw := ite_t hw c4
    refine lv_lookup (tgt := 56) (off := 52) hx hb dX0_isVowel_4 (by decide) (by (rw [c4]) <;> rfl) (by decide) ?_
    refine lv_iconst (v := (nI 1)) hx hb dX0_isVowel_56 (by decide) ?_
    exact hv_zret hx hb hr hlk hH (Or.inr rfl) hw dX0_isVowel_57
  have hw := ite_f hw c4
  by_cases c5 : ((nI 97) + v0) = (nI 117)
  · have hw := ite_t hw c5
    refine lv_lookup (tgt := 56) (off := 52) hx hb dX0_isVowel_4 (by decide) (by (rw [c5]) <;> rfl) (by decide) ?_
    refine lv_iconst (v := (nI 1)) hx hb dX0_isVowel_56 (by decide) ?_
    exact hv_zret hx hb hr hlk hH (Or.inr rfl) hw dX0_isVowel_57
  have hw := ite_f hw c5
  refine lv_lookup (tgt := 58) (off := 54) hx hb dX0_isVowel_4 (by decide) (by show Op.lookupswitch.offset [(97, 52), (101, 52), (105, 52), (111, 52), (117, 52)] 54 _ = 54; (rw [lv_osw (a := 97) (o := 52) c1 rfl, lv_osw (a := 101) (o := 52) c2 rfl, lv_osw (a := 105) (o := 52) c3 rfl, lv_osw (a := 111) (o := 52) c4 rfl, lv_osw (a := 117) (o := 52) c5 rfl]) <;> rfl) (by decide) ?_
  refine lv_iconst (v := (nI 0)) hx hb dX0_isVowel_58 (by decide) ?_
  exact hv_zret hx hb hr hlk hH (Or.inl rfl) hw dX0_isVowel_59
abbrev rm_X0_veers : Room := { frames := 1, cells := 0, slots := 0, locals := 20 }
set_option maxHeartbeats 4000000 in
set_option maxRecDepth 100000 in
theorem m_X0_veers {l : Launch} {G : Gl} {B sz : Nat} {S : St} (v0 : Nat) (v1 : Int32) (h : Hp) (Q : Int32 → Hp → Prop) (hw : w_X0_veers S v0 v1 h Q) : MI l G B sz S yX0_veers cX0_veers 5 .int rm_X0_veers [.ref v0, .int v1] h Q := by
  refine met_of rfl rfl ?_
  intro p e s m args below meth c hMB H ls hH hl
  obtain ⟨hx, hb, hml, hown, hKK, hr, hlk⟩ := hMB
  replace hl : lv_has ls 5 [(0, .ref v0), (1, .int v1)] := hl
  have c41 : ∀  (v0 : Nat) (v1 : Int32) (v2 : Int32) (v3 : Int32) (s0 : Int32) (h : Hp) (H : Heap) (locs : List Loc) (ls : Array Slot), HH G B S h sz s H locs → lv_has ls 5 [(0, .ref v0), (1, .int v1), (2, .int v2), (3, .int v3)] → w_X0_veers_c41 S v0 v1 v2 v3 s0 h Q → W p l e rm_X0_veers s m args below meth c H locs 0 0 (QI G B S sz below args s Q) (F0 m 41 ls [.int s0]) := by
    intro  v0 v1 v2 v3 s0 h H locs ls hH hl hw
    unfold w_X0_veers_c41 at hw
    refine lv_istore (lv' := [(4, .int s0), (0, .ref v0), (1, .int v1), (2, .int v2), (3, .int v3)]) hx hb dX0_veers_41 hl (by decide) rfl (fun ls hl => ?_)
    refine lv_aload_n hx hb dX0_veers_43 rfl (lv_at hl 1 rfl) ?_
    obtain ⟨k1, hw⟩ := hw
    refine hv_get (ci := 0) (k := 0) (v := .int (h v0 0)) hx hb hown hKK hH cf0 (by decide) fl_X0_15 rfl k1 rfl dX0_veers_44 ?_
    by_cases c2 : (h v0 0) = (nI 1)
    · have hw := ite_t hw c2
      refine lv_tableIn (tgt := 88) hx hb dX0_veers_47 (by rw [c2]; decide) (by rw [c2]; decide) (by rw [c2]; rfl) (by decide) ?_
      refine lv_iload_n hx hb dX0_veers_88 rfl (lv_at hl 3 rfl) ?_
      exact hv_iret hx hb hr hlk hH hw dX0_veers_89
    have hw := ite_f hw c2
    by_cases c3 : (h v0 0) = (nI 3)
    · have hw := ite_t hw c3
      refine lv_tableIn (tgt := 90) hx hb dX0_veers_47 (by rw [c3]; decide) (by rw [c3]; decide) (by rw [c3]; rfl) (by decide) ?_
      refine lv_iload_n hx hb dX0_veers_90 rfl (lv_at hl 4 rfl) ?_
      exact hv_iret hx hb hr hlk hH hw dX0_veers_91
    have hw := ite_f hw c3
    by_cases c4 : (h v0 0) = (nI 4)
    · have hw := ite_t hw c4
      refine lv_tableIn (tgt := 92) hx hb dX0_veers_47 (by rw [c4]; decide) (by rw [c4]; decide) (by rw [c4]; rfl) (by decide) ?_
      refine lv_iload hx hb dX0_veers_92 (lv_at hl 0 rfl) ?_
      exact hv_iret hx hb hr hlk hH hw dX0_veers_94
    have hw := ite_f hw c4
    by_cases c5 : (h v0 0) = (nI 5)
    · have hw := ite_t hw c5
      refine lv_tableIn (tgt := 95) hx hb dX0_veers_47 (by rw [c5]; decide) (by rw [c5]; decide) (by rw [c5]; rfl) (by decide) ?_
      refine lv_iload_n hx hb dX0_veers_95 rfl (lv_at hl 4 rfl) ?_
      refine lv_iconst (v := (nI 1)) hx hb dX0_veers_96 (by decide) ?_
      refine lv_iadd hx hb dX0_veers_97 ?_
      exact hv_iret hx hb hr hlk hH hw dX0_veers_98
    have hw := ite_f hw c5
    by_cases c6 : (h v0 0) = (nI 6)
    · have hw := ite_t hw c6
      refine lv_tableIn (tgt := 99) hx hb dX0_veers_47 (by rw [c6]; decide) (by rw [c6]; decide) (by rw [c6]; rfl) (by decide) ?_
      refine lv_iload_n hx hb dX0_veers_99 rfl (lv_at hl 2 rfl) ?_
      refine lv_iconst (v := (nI 2)) hx hb dX0_veers_100 (by decide) ?_
      refine lv_irem hx hb dX0_veers_101 (by decide) ?_
      refine lv_if_ne (tgt := 109) hx hb dX0_veers_102 (by decide) (fun c7 => ?_) (fun c7 => ?_)
      · have hw := ite_f hw c7
        refine lv_iconst (v := (nI 1)) hx hb dX0_veers_109 (by decide) ?_
        exact hv_iret hx hb hr hlk hH hw dX0_veers_110
      · have hw := ite_t hw c7
        refine lv_iconst (v := (nI 0)) hx hb dX0_veers_105 (by decide) ?_
        refine lv_goto (tgt := 110) hx hb dX0_veers_106 (by decide) ?_
        exact hv_iret hx hb hr hlk hH hw dX0_veers_110
    have hw := ite_f hw c6
    by_cases c8 : (h v0 0) = (nI 7)
    · have hw := ite_t hw c8
      refine lv_tableIn (tgt := 111) hx hb dX0_veers_47 (by rw [c8]; decide) (by rw [c8]; decide) (by rw [c8]; rfl) (by decide) ?_
      refine lv_aload_n hx hb dX0_veers_111 rfl (lv_at hl 1 rfl) ?_
      refine hv_get (ci := 0) (k := 3) (v := .int (h v0 3)) hx hb hown hKK hH cf0 (by decide) fl_X0_22 rfl k1 rfl dX0_veers_112 ?_
      refine lv_if_le (tgt := 134) hx hb dX0_veers_115 (by decide) (fun c9 => ?_) (fun c9 => ?_)
      · have hw := ite_t hw c9
        refine lv_iload hx hb dX0_veers_134 (lv_at hl 0 rfl) ?_
        exact hv_iret hx hb hr hlk hH hw dX0_veers_136
      · have hw := ite_f hw c9
        refine lv_aload_n hx hb dX0_veers_118 rfl (lv_at hl 1 rfl) ?_
        refine hv_get (ci := 0) (k := 2) (v := .ref (S.2 v0 2)) hx hb hown hKK hH cf0 (by decide) fl_X0_9 rfl k1 rfl dX0_veers_119 ?_
        refine lv_iconst (v := (nI 0)) hx hb dX0_veers_122 (by decide) ?_
        obtain ⟨k10, hw⟩ := hw
        refine hv_iald hx hb hKK hH k10 dX0_veers_123 ?_
        refine hv_cSI (rm := rm_X0_isVowel) (As := [.int (h (S.2 v0 2) (ix (nI 0)))]) (rest := []) (k := 1) hx hb hml hown hKK hH (m_X0_isVowel (h (S.2 v0 2) (ix (nI 0))) _ _ hw) cw_X0_51 ⟨Nat.le_of_ble_eq_true rfl, Nat.le_of_ble_eq_true rfl⟩ rfl hl.1 rfl (Nat.le_of_ble_eq_true rfl) ⟨Nat.le_of_ble_eq_true rfl, Nat.le_of_ble_eq_true rfl⟩ dX0_veers_124 (fun r12 h11 H locs hH hw => ?_)
        refine lv_if_eq (tgt := 134) hx hb dX0_veers_127 (by decide) (fun c13 => ?_) (fun c13 => ?_)
        · have hw := ite_t hw c13
          refine lv_iload hx hb dX0_veers_134 (lv_at hl 0 rfl) ?_
          exact hv_iret hx hb hr hlk hH hw dX0_veers_136
        · have hw := ite_f hw c13
          refine lv_iconst (v := (nI 3)) hx hb dX0_veers_130 (by decide) ?_
          refine lv_goto (tgt := 136) hx hb dX0_veers_131 (by decide) ?_
          exact hv_iret hx hb hr hlk hH hw dX0_veers_136
    have hw := ite_f hw c8
    have wd : W p l e rm_X0_veers s m args below meth c H locs 0 0 (QI G B S sz below args s Q) (F0 m 137 ls []) := by
      refine lv_iconst (v := (nI 0)) hx hb dX0_veers_137 (by decide) ?_
      exact hv_iret hx hb hr hlk hH hw dX0_veers_138
    by_cases c14 : (h v0 0) = (nI 2)
    · exact lv_tableIn (tgt := 137) hx hb dX0_veers_47 (by rw [c14]; decide) (by rw [c14]; decide) (by rw [c14]; rfl) (by decide) wd
    refine lv_tableOut (tgt := 137) hx hb dX0_veers_47 (by have := ne_toInt (k := 1) (by decide) c2; have := ne_toInt (k := 3) (by decide) c3; have := ne_toInt (k := 4) (by decide) c4; have := ne_toInt (k := 5) (by decide) c5; have := ne_toInt (k := 6) (by decide) c6; have := ne_toInt (k := 7) (by decide) c8; have := ne_toInt (k := 2) (by decide) c14; omega) (by decide) wd
  have c11 : ∀  (v0 : Nat) (v1 : Int32) (s0 : Int32) (h : Hp) (H : Heap) (locs : List Loc) (ls : Array Slot), HH G B S h sz s H locs → lv_has ls 5 [(0, .ref v0), (1, .int v1)] → w_X0_veers_c11 S v0 v1 s0 h Q → W p l e rm_X0_veers s m args below meth c H locs 0 0 (QI G B S sz below args s Q) (F0 m 11 ls [.int s0]) := by
    intro  v0 v1 s0 h H locs ls hH hl hw
    unfold w_X0_veers_c11 at hw
    refine lv_istore_n (lv' := [(2, .int s0), (0, .ref v0), (1, .int v1)]) hx hb dX0_veers_11 rfl hl (by decide) rfl (fun ls hl => ?_)
    refine lv_iload_n hx hb dX0_veers_12 rfl (lv_at hl 2 rfl) ?_
    refine lv_aload_n hx hb dX0_veers_13 rfl (lv_at hl 1 rfl) ?_
    obtain ⟨k1, hw⟩ := hw
    refine hv_get (ci := 0) (k := 1) (v := .int (h v0 1)) hx hb hown hKK hH cf0 (by decide) fl_X0_19 rfl k1 rfl dX0_veers_14 ?_
    refine lv_iconst (v := (nI 2)) hx hb dX0_veers_17 (by decide) ?_
    refine lv_iadd hx hb dX0_veers_18 ?_
    obtain ⟨k2, hw⟩ := hw
    refine lv_irem hx hb dX0_veers_19 k2 ?_
    refine lv_if_ne (tgt := 27) hx hb dX0_veers_20 (by decide) (fun c3 => ?_) (fun c3 => ?_)
    · have hw := ite_f hw c3
      refine lv_iconst (v := (nI 0)) hx hb dX0_veers_27 (by decide) ?_
      refine lv_istore_n (lv' := [(3, .int (nI 0)), (2, .int s0), (0, .ref v0), (1, .int v1)]) hx hb dX0_veers_28 rfl hl (by decide) rfl (fun ls hl => ?_)
      refine lv_aload_n hx hb dX0_veers_29 rfl (lv_at hl 2 rfl) ?_
      refine hv_get (ci := 0) (k := 7) (v := .int (h v0 7)) hx hb hown hKK hH cf0 (by decide) fl_X0_34 rfl k1 rfl dX0_veers_30 ?_
      refine lv_if_ne (tgt := 40) hx hb dX0_veers_33 (by decide) (fun c5 => ?_) (fun c5 => ?_)
      · have hw := ite_f hw c5
        refine lv_iload_n hx hb dX0_veers_40 rfl (lv_at hl 1 rfl) ?_
        exact c41 _ _ _ _ _ _ H locs ls hH (lv_sub hl [2, 3, 1, 0] rfl) hw
      · have hw := ite_t hw c5
        refine lv_iconst (v := (nI 2)) hx hb dX0_veers_36 (by decide) ?_
        refine lv_goto (tgt := 41) hx hb dX0_veers_37 (by decide) ?_
        exact c41 _ _ _ _ _ _ H locs ls hH (lv_sub hl [2, 3, 1, 0] rfl) hw
    · have hw := ite_t hw c3
      refine lv_iconst (v := (nI 3)) hx hb dX0_veers_23 (by decide) ?_
      refine lv_goto (tgt := 28) hx hb dX0_veers_24 (by decide) ?_
      refine lv_istore_n (lv' := [(3, .int (nI 3)), (2, .int s0), (0, .ref v0), (1, .int v1)]) hx hb dX0_veers_28 rfl hl (by decide) rfl (fun ls hl => ?_)
      refine lv_aload_n hx hb dX0_veers_29 rfl (lv_at hl 2 rfl) ?_
      refine hv_get (ci := 0) (k := 7) (v := .int (h v0 7)) hx hb hown hKK hH cf0 (by decide) fl_X0_34 rfl k1 rfl dX0_veers_30 ?_
      refine lv_if_ne (tgt := 40) hx hb dX0_veers_33 (by decide) (fun c4 => ?_) (fun c4 => ?_)
      · have hw := ite_f hw c4
        refine lv_iload_n hx hb dX0_veers_40 rfl (lv_at hl 1 rfl) ?_
        exact c41 _ _ _ _ _ _ H locs ls hH (lv_sub hl [2, 3, 1, 0] rfl) hw
      · have hw := ite_t hw c4
        refine lv_iconst (v := (nI 2)) hx hb dX0_veers_36 (by decide) ?_
        refine lv_goto (tgt := 41) hx hb dX0_veers_37 (by decide) ?_
        exact c41 _ _ _ _ _ _ H locs ls hH (lv_sub hl [2, 3, 1, 0] rfl) hw
  unfold w_X0_veers at hw
  show W p l e rm_X0_veers s m args below meth c H [] 0 0 (QI G B S sz below args s Q) (F0 m 0 ls [])
  generalize ([] : List Loc) = locs at hH ⊢
  refine lv_iload_n hx hb dX0_veers_0 rfl (lv_at hl 1 rfl) ?_
  refine lv_iconst (v := (nI 4)) hx hb dX0_veers_1 (by decide) ?_
  refine lv_irem hx hb dX0_veers_2 (by decide) ?_
  refine lv_if_ne (tgt := 10) hx hb dX0_veers_3 (by decide) (fun c1 => ?_) (fun c1 => ?_)
  · have hw := ite_f hw c1
    refine lv_iconst (v := (nI 0)) hx hb dX0_veers_10 (by decide) ?_
    exact c11 _ _ _ _ H locs ls hH (lv_sub hl [0, 1] rfl) hw
  · have hw := ite_t hw c1
    refine lv_iconst (v := (nI 1)) hx hb dX0_veers_6 (by decide) ?_
    refine lv_goto (tgt := 11) hx hb dX0_veers_7 (by decide) ?_
    exact c11 _ _ _ _ H locs ls hH (lv_sub hl [0, 1] rfl) hw
abbrev rm_X0_enough : Room := { frames := 0, cells := 0, slots := 0, locals := 0 }
set_option maxHeartbeats 4000000 in
set_option maxRecDepth 100000 in
theorem m_X0_enough {l : Launch} {G : Gl} {B sz : Nat} {S : St} (v0 : Nat) (h : Hp) (Q : Int32 → Hp → Prop) (hw : w_X0_enough S v0 h Q) : MI l G B sz S yX0_enough cX0_enough 1 .int rm_X0_enough [.ref v0] h Q := by
  refine met_of rfl rfl ?_
  intro p e s m args below meth c hMB H ls hH hl
  obtain ⟨hx, hb, hml, hown, hKK, hr, hlk⟩ := hMB
  replace hl : lv_has ls 1 [(0, .ref v0)] := hl
  unfold w_X0_enough at hw
  show W p l e rm_X0_enough s m args below meth c H [] 0 0 (QI G B S sz below args s Q) (F0 m 0 ls [])
  generalize ([] : List Loc) = locs at hH ⊢
  refine lv_aload_n hx hb dX0_enough_0 rfl (lv_at hl 0 rfl) ?_
  obtain ⟨k1, hw⟩ := hw
  refine hv_get (ci := 0) (k := 0) (v := .int (h v0 0)) hx hb hown hKK hH cf0 (by decide) fl_X0_15 rfl k1 rfl dX0_enough_1 ?_
  by_cases c2 : (h v0 0) = (nI 0)
  · have hw := ite_t hw c2
    refine lv_tableIn (tgt := 52) hx hb dX0_enough_4 (by rw [c2]; decide) (by rw [c2]; decide) (by rw [c2]; rfl) (by decide) ?_
    refine lv_bipush (v := (nI 20)) hx hb dX0_enough_52 (by decide) ?_
    exact hv_iret hx hb hr hlk hH hw dX0_enough_54
  have hw := ite_f hw c2
  by_cases c3 : (h v0 0) = (nI 1)
  · have hw := ite_t hw c3
    refine lv_tableIn (tgt := 55) hx hb dX0_enough_4 (by rw [c3]; decide) (by rw [c3]; decide) (by rw [c3]; rfl) (by decide) ?_
    refine lv_bipush (v := (nI 40)) hx hb dX0_enough_55 (by decide) ?_
    exact hv_iret hx hb hr hlk hH hw dX0_enough_57
  have hw := ite_f hw c3
  by_cases c4 : (h v0 0) = (nI 2)
  · have hw := ite_t hw c4
    refine lv_tableIn (tgt := 58) hx hb dX0_enough_4 (by rw [c4]; decide) (by rw [c4]; decide) (by rw [c4]; rfl) (by decide) ?_
    refine lv_bipush (v := (nI 99)) hx hb dX0_enough_58 (by decide) ?_
    exact hv_iret hx hb hr hlk hH hw dX0_enough_60
  have hw := ite_f hw c4
  by_cases c5 : (h v0 0) = (nI 4)
  · have hw := ite_t hw c5
    refine lv_tableIn (tgt := 61) hx hb dX0_enough_4 (by rw [c5]; decide) (by rw [c5]; decide) (by rw [c5]; rfl) (by decide) ?_
    refine lv_bipush (v := (nI 35)) hx hb dX0_enough_61 (by decide) ?_
    exact hv_iret hx hb hr hlk hH hw dX0_enough_63
  have hw := ite_f hw c5
  by_cases c6 : (h v0 0) = (nI 6)
  · have hw := ite_t hw c6
    refine lv_tableIn (tgt := 64) hx hb dX0_enough_4 (by rw [c6]; decide) (by rw [c6]; decide) (by rw [c6]; rfl) (by decide) ?_
    refine lv_bipush (v := (nI 49)) hx hb dX0_enough_64 (by decide) ?_
    exact hv_iret hx hb hr hlk hH hw dX0_enough_66
  have hw := ite_f hw c6
  by_cases c7 : (h v0 0) = (nI 7)
  · have hw := ite_t hw c7
    refine lv_tableIn (tgt := 67) hx hb dX0_enough_4 (by rw [c7]; decide) (by rw [c7]; decide) (by rw [c7]; rfl) (by decide) ?_
    refine lv_bipush (v := (nI 35)) hx hb dX0_enough_67 (by decide) ?_
    refine lv_aload_n hx hb dX0_enough_69 rfl (lv_at hl 0 rfl) ?_
    refine hv_get (ci := 0) (k := 1) (v := .int (h v0 1)) hx hb hown hKK hH cf0 (by decide) fl_X0_19 rfl k1 rfl dX0_enough_70 ?_
    refine lv_iconst (v := (nI 2)) hx hb dX0_enough_73 (by decide) ?_
    refine lv_idiv hx hb dX0_enough_74 (by decide) ?_
    refine lv_isub hx hb dX0_enough_75 ?_
    exact hv_iret hx hb hr hlk hH hw dX0_enough_76
  have hw := ite_f hw c7
  have wd : W p l e rm_X0_enough s m args below meth c H locs 0 0 (QI G B S sz below args s Q) (F0 m 77 ls []) := by
    refine lv_aload_n hx hb dX0_enough_77 rfl (lv_at hl 0 rfl) ?_
    refine hv_get (ci := 0) (k := 1) (v := .int (h v0 1)) hx hb hown hKK hH cf0 (by decide) fl_X0_19 rfl k1 rfl dX0_enough_78 ?_
    refine lv_iconst (v := (nI 5)) hx hb dX0_enough_81 (by decide) ?_
    refine lv_iadd hx hb dX0_enough_82 ?_
    exact hv_iret hx hb hr hlk hH hw dX0_enough_83
  by_cases c8 : (h v0 0) = (nI 3)
  · exact lv_tableIn (tgt := 77) hx hb dX0_enough_4 (by rw [c8]; decide) (by rw [c8]; decide) (by rw [c8]; rfl) (by decide) wd
  by_cases c9 : (h v0 0) = (nI 5)
  · exact lv_tableIn (tgt := 77) hx hb dX0_enough_4 (by rw [c9]; decide) (by rw [c9]; decide) (by rw [c9]; rfl) (by decide) wd
  refine lv_tableOut (tgt := 77) hx hb dX0_enough_4 (by have := ne_toInt (k := 0) (by decide) c2; have := ne_toInt (k := 1) (by decide) c3; have := ne_toInt (k := 2) (by decide) c4; have := ne_toInt (k := 4) (by decide) c5; have := ne_toInt (k := 6) (by decide) c6; have := ne_toInt (k := 7) (by decide) c7; have := ne_toInt (k := 3) (by decide) c8; have := ne_toInt (k := 5) (by decide) c9; omega) (by decide) wd
abbrev rm_X0_goes : Room := { frames := 0, cells := 0, slots := 0, locals := 0 }
set_option maxHeartbeats 4000000 in
set_option maxRecDepth 100000 in
theorem m_X0_goes {l : Launch} {G : Gl} {B sz : Nat} {S : St} (v0 : Nat) (h : Hp) (Q : Int32 → Hp → Prop) (hw : w_X0_goes S v0 h Q) : MI l G B sz S yX0_goes cX0_goes 1 .boolean rm_X0_goes [.ref v0] h Q := by
  refine met_of rfl rfl ?_
  intro p e s m args below meth c hMB H ls hH hl
  obtain ⟨hx, hb, hml, hown, hKK, hr, hlk⟩ := hMB
  replace hl : lv_has ls 1 [(0, .ref v0)] := hl
  unfold w_X0_goes at hw
  show W p l e rm_X0_goes s m args below meth c H [] 0 0 (QI G B S sz below args s Q) (F0 m 0 ls [])
  generalize ([] : List Loc) = locs at hH ⊢
  refine lv_aload_n hx hb dX0_goes_0 rfl (lv_at hl 0 rfl) ?_
  obtain ⟨k1, hw⟩ := hw
  refine hv_get (ci := 0) (k := 8) (v := .int (h v0 8)) hx hb hown hKK hH cf0 (by decide) fl_X0_37 rfl k1 rfl dX0_goes_1 ?_
  refine lv_if_ne (tgt := 19) hx hb dX0_goes_4 (by decide) (fun c2 => ?_) (fun c2 => ?_)
  · have hw := ite_f hw c2
    refine lv_iconst (v := (nI 0)) hx hb dX0_goes_19 (by decide) ?_
    exact hv_zret hx hb hr hlk hH (Or.inl rfl) hw dX0_goes_20
  · have hw := ite_t hw c2
    refine lv_aload_n hx hb dX0_goes_7 rfl (lv_at hl 0 rfl) ?_
    refine hv_get (ci := 0) (k := 6) (v := .int (h v0 6)) hx hb hown hKK hH cf0 (by decide) fl_X0_31 rfl k1 rfl dX0_goes_8 ?_
    refine lv_iconst (v := (nI 4)) hx hb dX0_goes_11 (by decide) ?_
    refine lv_icmp_eq (tgt := 19) hx hb dX0_goes_12 (by decide) (fun c3 => ?_) (fun c3 => ?_)
    · have hw := ite_t hw c3
      refine lv_iconst (v := (nI 0)) hx hb dX0_goes_19 (by decide) ?_
      exact hv_zret hx hb hr hlk hH (Or.inl rfl) hw dX0_goes_20
    · have hw := ite_f hw c3
      refine lv_iconst (v := (nI 1)) hx hb dX0_goes_15 (by decide) ?_
      refine lv_goto (tgt := 20) hx hb dX0_goes_16 (by decide) ?_
      exact hv_zret hx hb hr hlk hH (Or.inr rfl) hw dX0_goes_20
abbrev rm_X0_quartersByWord : Room := { frames := 0, cells := 0, slots := 0, locals := 0 }
set_option maxHeartbeats 4000000 in
set_option maxRecDepth 100000 in
theorem m_X0_quartersByWord {l : Launch} {G : Gl} {B sz : Nat} {S : St} (v0 : Nat) (h : Hp) (Q : Int32 → Hp → Prop) (hw : w_X0_quartersByWord S v0 h Q) : MI l G B sz S yX0_quartersByWord cX0_quartersByWord 1 .int rm_X0_quartersByWord [.ref v0] h Q := by
  refine met_of rfl rfl ?_
  intro p e s m args below meth c hMB H ls hH hl
  obtain ⟨hx, hb, hml, hown, hKK, hr, hlk⟩ := hMB
  replace hl : lv_has ls 1 [(0, .ref v0)] := hl
  unfold w_X0_quartersByWord at hw
  show W p l e rm_X0_quartersByWord s m args below meth c H [] 0 0 (QI G B S sz below args s Q) (F0 m 0 ls [])
  generalize ([] : List Loc) = locs at hH ⊢
  refine lv_aload_n hx hb dX0_quartersByWord_0 rfl (lv_at hl 0 rfl) ?_
  obtain ⟨k1, hw⟩ := hw
  refine hv_get (ci := 0) (k := 6) (v := .int (h v0 6)) hx hb hown hKK hH cf0 (by decide) fl_X0_31 rfl k1 rfl dX0_quartersByWord_1 ?_
  by_cases c2 : (h v0 6) = (nI 1)
  · have hw := ite_t hw c2
    refine lv_tableIn (tgt := 32) hx hb dX0_quartersByWord_4 (by rw [c2]; decide) (by rw [c2]; decide) (by rw [c2]; rfl) (by decide) ?_
    refine lv_iconst (v := (nI 3)) hx hb dX0_quartersByWord_32 (by decide) ?_
    exact hv_iret hx hb hr hlk hH hw dX0_quartersByWord_33
  have hw := ite_f hw c2
  by_cases c3 : (h v0 6) = (nI 2)
  · have hw := ite_t hw c3
    refine lv_tableIn (tgt := 34) hx hb dX0_quartersByWord_4 (by rw [c3]; decide) (by rw [c3]; decide) (by rw [c3]; rfl) (by decide) ?_
    refine lv_iconst (v := (nI 1)) hx hb dX0_quartersByWord_34 (by decide) ?_
    exact hv_iret hx hb hr hlk hH hw dX0_quartersByWord_35
  have hw := ite_f hw c3
  by_cases c4 : (h v0 6) = (nI 3)
  · have hw := ite_t hw c4
    refine lv_tableIn (tgt := 36) hx hb dX0_quartersByWord_4 (by rw [c4]; decide) (by rw [c4]; decide) (by rw [c4]; rfl) (by decide) ?_
    refine lv_iconst (v := (nI 2)) hx hb dX0_quartersByWord_36 (by decide) ?_
    exact hv_iret hx hb hr hlk hH hw dX0_quartersByWord_37
  have hw := ite_f hw c4
  refine lv_tableOut (tgt := 38) hx hb dX0_quartersByWord_4 (by have := ne_toInt (k := 1) (by decide) c2; have := ne_toInt (k := 2) (by decide) c3; have := ne_toInt (k := 3) (by decide) c4; omega) (by decide) ?_
  refine lv_iconst (v := (nI 0)) hx hb dX0_quartersByWord_38 (by decide) ?_
  exact hv_iret hx hb hr hlk hH hw dX0_quartersByWord_39
abbrev rm_X0_turn : Room := { frames := 0, cells := 0, slots := 0, locals := 0 }
set_option maxHeartbeats 4000000 in
set_option maxRecDepth 100000 in
theorem m_X0_turn {l : Launch} {G : Gl} {B sz : Nat} {S : St} (v0 : Nat) (v1 : Int32) (h : Hp) (Q : Hp → Prop) (hw : w_X0_turn S v0 v1 h Q) : MV l G B sz S yX0_turn cX0_turn 2 rm_X0_turn [.ref v0, .int v1] h Q := by
  refine met_of rfl rfl ?_
  intro p e s m args below meth c hMB H ls hH hl
  obtain ⟨hx, hb, hml, hown, hKK, hr, hlk⟩ := hMB
  replace hl : lv_has ls 2 [(0, .ref v0), (1, .int v1)] := hl
  unfold w_X0_turn at hw
  show W p l e rm_X0_turn s m args below meth c H [] 0 0 (QV G B S sz below args s Q) (F0 m 0 ls [])
  generalize ([] : List Loc) = locs at hH ⊢
  refine lv_aload_n hx hb dX0_turn_0 rfl (lv_at hl 0 rfl) ?_
  refine lv_aload_n hx hb dX0_turn_1 rfl (lv_at hl 0 rfl) ?_
  obtain ⟨k1, hw⟩ := hw
  refine hv_get (ci := 0) (k := 5) (v := .int (h v0 5)) hx hb hown hKK hH cf0 (by decide) fl_X0_28 rfl k1 rfl dX0_turn_2 ?_
  refine lv_iload_n hx hb dX0_turn_5 rfl (lv_at hl 1 rfl) ?_
  refine lv_iadd hx hb dX0_turn_6 ?_
  refine lv_iconst (v := (nI 4)) hx hb dX0_turn_7 (by decide) ?_
  refine lv_irem hx hb dX0_turn_8 (by decide) ?_
  refine hv_put (ci := 0) (k := 5) hx hb hown hKK hH cf0 (by decide) fl_X0_28 rfl rfl rfl k1 rfl rfl dX0_turn_9 (fun H locs hH => ?_)
  exact hv_vret hx hb hr hlk hH hw dX0_turn_12
abbrev rm_X0_gain : Room := { frames := 1, cells := 0, slots := 0, locals := 21 }
set_option maxHeartbeats 4000000 in
set_option maxRecDepth 100000 in
theorem m_X0_gain {l : Launch} {G : Gl} {B sz : Nat} {S : St} (v0 : Nat) (v1 : Int32) (h : Hp) (Q : Hp → Prop) (hw : w_X0_gain S v0 v1 h Q) : MV l G B sz S yX0_gain cX0_gain 2 rm_X0_gain [.ref v0, .int v1] h Q := by
  refine met_of rfl rfl ?_
  intro p e s m args below meth c hMB H ls hH hl
  obtain ⟨hx, hb, hml, hown, hKK, hr, hlk⟩ := hMB
  replace hl : lv_has ls 2 [(0, .ref v0), (1, .int v1)] := hl
  unfold w_X0_gain at hw
  show W p l e rm_X0_gain s m args below meth c H [] 0 0 (QV G B S sz below args s Q) (F0 m 0 ls [])
  generalize ([] : List Loc) = locs at hH ⊢
  refine lv_aload_n hx hb dX0_gain_0 rfl (lv_at hl 0 rfl) ?_
  refine lv_aload_n hx hb dX0_gain_1 rfl (lv_at hl 0 rfl) ?_
  obtain ⟨k1, hw⟩ := hw
  refine hv_get (ci := 0) (k := 7) (v := .int (h v0 7)) hx hb hown hKK hH cf0 (by decide) fl_X0_34 rfl k1 rfl dX0_gain_2 ?_
  refine lv_iload_n hx hb dX0_gain_5 rfl (lv_at hl 1 rfl) ?_
  refine lv_iadd hx hb dX0_gain_6 ?_
  refine lv_bipush (v := (nI 99)) hx hb dX0_gain_7 (by decide) ?_
  refine va_mmin hx hb (hml.trans hl.1.symm) hown (hKK.use ml_X0_55 rfl _) (hKK.use ml_min rfl _) (hKK.use ml_math rfl _) (hKK.use ml_min_c rfl _) (Nat.le_of_ble_eq_true rfl) (Nat.le_of_ble_eq_true rfl) (Nat.le_of_ble_eq_true rfl) (Nat.le_of_ble_eq_true rfl) dX0_gain_9 ?_
  refine hv_put (ci := 0) (k := 7) hx hb hown hKK hH cf0 (by decide) fl_X0_34 rfl rfl rfl k1 rfl rfl dX0_gain_12 (fun H locs hH => ?_)
  exact hv_vret hx hb hr hlk hH hw dX0_gain_15
abbrev rm_X0_hasFullName : Room := { frames := 0, cells := 0, slots := 0, locals := 0 }
set_option maxHeartbeats 4000000 in
set_option maxRecDepth 100000 in
theorem m_X0_hasFullName {l : Launch} {G : Gl} {B sz : Nat} {S : St} (v0 : Nat) (h : Hp) (Q : Int32 → Hp → Prop) (hw : w_X0_hasFullName S v0 h Q) : MI l G B sz S yX0_hasFullName cX0_hasFullName 1 .boolean rm_X0_hasFullName [.ref v0] h Q := by
  refine met_of rfl rfl ?_
  intro p e s m args below meth c hMB H ls hH hl
  obtain ⟨hx, hb, hml, hown, hKK, hr, hlk⟩ := hMB
  replace hl : lv_has ls 1 [(0, .ref v0)] := hl
  unfold w_X0_hasFullName at hw
  show W p l e rm_X0_hasFullName s m args below meth c H [] 0 0 (QI G B S sz below args s Q) (F0 m 0 ls [])
  generalize ([] : List Loc) = locs at hH ⊢
  refine lv_aload_n hx hb dX0_hasFullName_0 rfl (lv_at hl 0 rfl) ?_
  obtain ⟨k1, hw⟩ := hw
  refine hv_get (ci := 0) (k := 3) (v := .int (h v0 3)) hx hb hown hKK hH cf0 (by decide) fl_X0_22 rfl k1 rfl dX0_hasFullName_1 ?_
  refine lv_bipush (v := (nI 6)) hx hb dX0_hasFullName_4 (by decide) ?_
  refine lv_icmp_lt (tgt := 13) hx hb dX0_hasFullName_6 (by decide) (fun c2 => ?_) (fun c2 => ?_)
  · have hw := ite_t hw c2
    refine lv_iconst (v := (nI 0)) hx hb dX0_hasFullName_13 (by decide) ?_
    exact hv_zret hx hb hr hlk hH (Or.inl rfl) hw dX0_hasFullName_14
  · have hw := ite_f hw c2
    refine lv_iconst (v := (nI 1)) hx hb dX0_hasFullName_9 (by decide) ?_
    refine lv_goto (tgt := 14) hx hb dX0_hasFullName_10 (by decide) ?_
    exact hv_zret hx hb hr hlk hH (Or.inr rfl) hw dX0_hasFullName_14
abbrev rm_X0_lengthenName : Room := { frames := 1, cells := 0, slots := 0, locals := 20 }
set_option maxHeartbeats 4000000 in
set_option maxRecDepth 100000 in
theorem m_X0_lengthenName {l : Launch} {G : Gl} {B sz : Nat} {S : St} (v0 : Nat) (v1 : Int32) (h : Hp) (Q : Hp → Prop) (hw : w_X0_lengthenName S v0 v1 h Q) : MV l G B sz S yX0_lengthenName cX0_lengthenName 2 rm_X0_lengthenName [.ref v0, .int v1] h Q := by
  refine met_of rfl rfl ?_
  intro p e s m args below meth c hMB H ls hH hl
  obtain ⟨hx, hb, hml, hown, hKK, hr, hlk⟩ := hMB
  replace hl : lv_has ls 2 [(0, .ref v0), (1, .int v1)] := hl
  unfold w_X0_lengthenName at hw
  show W p l e rm_X0_lengthenName s m args below meth c H [] 0 0 (QV G B S sz below args s Q) (F0 m 0 ls [])
  generalize ([] : List Loc) = locs at hH ⊢
  refine lv_aload_n hx hb dX0_lengthenName_0 rfl (lv_at hl 0 rfl) ?_
  obtain ⟨k1, hw⟩ := hw
  refine hv_cVI (rm := rm_X0_hasFullName) (As := []) (rest := []) (k := 0) (ci := 0) hx hb hml hown hKK hH cf0 k1 (m_X0_hasFullName v0 _ _ hw) cw_X0_61 ⟨Nat.le_of_ble_eq_true rfl, Nat.le_of_ble_eq_true rfl⟩ rfl hl.1 rfl (Nat.le_of_ble_eq_true rfl) ⟨Nat.le_of_ble_eq_true rfl, Nat.le_of_ble_eq_true rfl⟩ dX0_lengthenName_1 (fun r3 h2 H locs hH hw => ?_)
  refine lv_if_ne (tgt := 27) hx hb dX0_lengthenName_4 (by decide) (fun c4 => ?_) (fun c4 => ?_)
  · have hw := ite_f hw c4
    exact hv_vret hx hb hr hlk hH hw dX0_lengthenName_27
  · have hw := ite_t hw c4
    refine lv_aload_n hx hb dX0_lengthenName_7 rfl (lv_at hl 0 rfl) ?_
    refine hv_get (ci := 0) (k := 2) (v := .ref (S.2 v0 2)) hx hb hown hKK hH cf0 (by decide) fl_X0_9 rfl k1 rfl dX0_lengthenName_8 ?_
    refine lv_aload_n hx hb dX0_lengthenName_11 rfl (lv_at hl 0 rfl) ?_
    refine hv_get (ci := 0) (k := 3) (v := .int (h2 v0 3)) hx hb hown hKK hH cf0 (by decide) fl_X0_22 rfl k1 rfl dX0_lengthenName_12 ?_
    refine lv_iload_n hx hb dX0_lengthenName_15 rfl (lv_at hl 1 rfl) ?_
    obtain ⟨k5, hw⟩ := hw
    refine hv_iast hx hb hKK hH k5 dX0_lengthenName_16 (fun H locs hH => ?_)
    refine lv_aload_n hx hb dX0_lengthenName_17 rfl (lv_at hl 0 rfl) ?_
    refine lv_dup hx hb dX0_lengthenName_18 rfl ?_
    refine hv_get (ci := 0) (k := 3) (v := .int ((up h2 (S.2 v0 2) (ix (h2 v0 3)) v1) v0 3)) hx hb hown hKK hH cf0 (by decide) fl_X0_22 rfl k1 rfl dX0_lengthenName_19 ?_
    refine lv_iconst (v := (nI 1)) hx hb dX0_lengthenName_22 (by decide) ?_
    refine lv_iadd hx hb dX0_lengthenName_23 ?_
    refine hv_put (ci := 0) (k := 3) hx hb hown hKK hH cf0 (by decide) fl_X0_22 rfl rfl rfl k1 rfl rfl dX0_lengthenName_24 (fun H locs hH => ?_)
    exact hv_vret hx hb hr hlk hH hw dX0_lengthenName_27
abbrev rm_X0_hasLetter : Room := { frames := 0, cells := 0, slots := 0, locals := 0 }
set_option maxHeartbeats 4000000 in
set_option maxRecDepth 100000 in
theorem m_X0_hasLetter {l : Launch} {G : Gl} {B sz : Nat} {S : St} (v0 : Nat) (v1 : Int32) (h : Hp) (Q : Int32 → Hp → Prop) (hw : w_X0_hasLetter S v0 v1 h Q) : MI l G B sz S yX0_hasLetter cX0_hasLetter 3 .boolean rm_X0_hasLetter [.ref v0, .int v1] h Q := by
  refine met_of rfl rfl ?_
  intro p e s m args below meth c hMB H ls hH hl
  obtain ⟨hx, hb, hml, hown, hKK, hr, hlk⟩ := hMB
  replace hl : lv_has ls 3 [(0, .ref v0), (1, .int v1)] := hl
  have c2 : ∀  (v0 : Nat) (v1 : Int32) (v2 : Int32) (h : Hp) (H : Heap) (locs : List Loc) (ls : Array Slot), HH G B S h sz s H locs → lv_has ls 3 [(0, .ref v0), (1, .int v1), (2, .int v2)] → w_X0_hasLetter_c2 S v0 v1 v2 h Q → W p l e rm_X0_hasLetter s m args below meth c H locs 0 0 (QI G B S sz below args s Q) (F0 m 2 ls []) := by
    intro  v0 v1 v2 h H locs ls hH hl hw
    unfold w_X0_hasLetter_c2 at hw
    obtain ⟨P2, hP2⟩ : ∃ P : Int32 → Hp → Prop, ∀ (v2 : Int32) (h : Hp), P v2 h ↔ (∀ (H : Heap) (locs : List Loc) (ls : Array Slot), HH G B S h sz s H locs → lv_has ls 3 [(0, .ref v0), (1, .int v1), (2, .int v2)] → W p l e rm_X0_hasLetter s m args below meth c H locs 0 0 (QI G B S sz below args s Q) (F0 m 2 ls [])) := ⟨_, fun v2 h => Iff.rfl⟩
    refine (hP2 v2 h).1 (hw P2 (fun v2 h hw => (hP2 v2 h).2 (fun H locs ls hH hl => ?_))) H locs ls hH hl
    have hK2 : ∀ (v2 : Int32) (h : Hp) (H : Heap) (locs : List Loc) (ls : Array Slot), HH G B S h sz s H locs → lv_has ls 3 [(0, .ref v0), (1, .int v1), (2, .int v2)] → P2 v2 h → W p l e rm_X0_hasLetter s m args below meth c H locs 0 0 (QI G B S sz below args s Q) (F0 m 2 ls []) := fun v2 h H locs ls hH hl hk => (hP2 v2 h).1 hk H locs ls hH hl
    refine lv_iload_n hx hb dX0_hasLetter_2 rfl (lv_at hl 2 rfl) ?_
    refine lv_aload_n hx hb dX0_hasLetter_3 rfl (lv_at hl 0 rfl) ?_
    obtain ⟨k1, hw⟩ := hw
    refine hv_get (ci := 0) (k := 3) (v := .int (h v0 3)) hx hb hown hKK hH cf0 (by decide) fl_X0_22 rfl k1 rfl dX0_hasLetter_4 ?_
    refine lv_icmp_ge (tgt := 28) hx hb dX0_hasLetter_7 (by decide) (fun c2 => ?_) (fun c2 => ?_)
    · have hw := ite_t hw c2
      refine lv_iconst (v := (nI 0)) hx hb dX0_hasLetter_28 (by decide) ?_
      exact hv_zret hx hb hr hlk hH (Or.inl rfl) hw dX0_hasLetter_29
    · have hw := ite_f hw c2
      refine lv_aload_n hx hb dX0_hasLetter_10 rfl (lv_at hl 0 rfl) ?_
      refine hv_get (ci := 0) (k := 2) (v := .ref (S.2 v0 2)) hx hb hown hKK hH cf0 (by decide) fl_X0_9 rfl k1 rfl dX0_hasLetter_11 ?_
      refine lv_iload_n hx hb dX0_hasLetter_14 rfl (lv_at hl 2 rfl) ?_
      obtain ⟨k3, hw⟩ := hw
      refine hv_iald hx hb hKK hH k3 dX0_hasLetter_15 ?_
      refine lv_iload_n hx hb dX0_hasLetter_16 rfl (lv_at hl 1 rfl) ?_
      refine lv_icmp_ne (tgt := 22) hx hb dX0_hasLetter_17 (by decide) (fun c4 => ?_) (fun c4 => ?_)
      · have hw := ite_f hw c4
        refine lv_iinc (v := v2 + (nI 1)) (lv' := [(2, .int (v2 + (nI 1))), (0, .ref v0), (1, .int v1)]) hx hb dX0_hasLetter_22 hl (k := 2) rfl rfl (by decide) rfl (fun ls hl => ?_)
        refine lv_goto (tgt := 2) hx hb dX0_hasLetter_25 (by decide) ?_
        exact hK2 _ _ H locs ls hH (lv_sub hl [1, 2, 0] rfl) hw
      · have hw := ite_t hw c4
        refine lv_iconst (v := (nI 1)) hx hb dX0_hasLetter_20 (by decide) ?_
        exact hv_zret hx hb hr hlk hH (Or.inr rfl) hw dX0_hasLetter_21
  unfold w_X0_hasLetter at hw
  show W p l e rm_X0_hasLetter s m args below meth c H [] 0 0 (QI G B S sz below args s Q) (F0 m 0 ls [])
  generalize ([] : List Loc) = locs at hH ⊢
  refine lv_iconst (v := (nI 0)) hx hb dX0_hasLetter_0 (by decide) ?_
  refine lv_istore_n (lv' := [(2, .int (nI 0)), (0, .ref v0), (1, .int v1)]) hx hb dX0_hasLetter_1 rfl hl (by decide) rfl (fun ls hl => ?_)
  exact c2 _ _ _ _ H locs ls hH (lv_sub hl [1, 2, 0] rfl) hw
abbrev rm_X0_vowelsInName : Room := { frames := 1, cells := 0, slots := 0, locals := 20 }
set_option maxHeartbeats 4000000 in
set_option maxRecDepth 100000 in
theorem m_X0_vowelsInName {l : Launch} {G : Gl} {B sz : Nat} {S : St} (v0 : Nat) (h : Hp) (Q : Int32 → Hp → Prop) (hw : w_X0_vowelsInName S v0 h Q) : MI l G B sz S yX0_vowelsInName cX0_vowelsInName 3 .int rm_X0_vowelsInName [.ref v0] h Q := by
  refine met_of rfl rfl ?_
  intro p e s m args below meth c hMB H ls hH hl
  obtain ⟨hx, hb, hml, hown, hKK, hr, hlk⟩ := hMB
  replace hl : lv_has ls 3 [(0, .ref v0)] := hl
  have c4 : ∀  (v0 : Nat) (v1 : Int32) (v2 : Int32) (h : Hp) (H : Heap) (locs : List Loc) (ls : Array Slot), HH G B S h sz s H locs → lv_has ls 3 [(0, .ref v0), (1, .int v1), (2, .int v2)] → w_X0_vowelsInName_c4 S v0 v1 v2 h Q → W p l e rm_X0_vowelsInName s m args below meth c H locs 0 0 (QI G B S sz below args s Q) (F0 m 4 ls []) := by
    intro  v0 v1 v2 h H locs ls hH hl hw
    unfold w_X0_vowelsInName_c4 at hw
    obtain ⟨P4, hP4⟩ : ∃ P : Int32 → Int32 → Hp → Prop, ∀ (v1 : Int32) (v2 : Int32) (h : Hp), P v1 v2 h ↔ (∀ (H : Heap) (locs : List Loc) (ls : Array Slot), HH G B S h sz s H locs → lv_has ls 3 [(0, .ref v0), (1, .int v1), (2, .int v2)] → W p l e rm_X0_vowelsInName s m args below meth c H locs 0 0 (QI G B S sz below args s Q) (F0 m 4 ls [])) := ⟨_, fun v1 v2 h => Iff.rfl⟩
    refine (hP4 v1 v2 h).1 (hw P4 (fun v1 v2 h hw => (hP4 v1 v2 h).2 (fun H locs ls hH hl => ?_))) H locs ls hH hl
    have hK4 : ∀ (v1 : Int32) (v2 : Int32) (h : Hp) (H : Heap) (locs : List Loc) (ls : Array Slot), HH G B S h sz s H locs → lv_has ls 3 [(0, .ref v0), (1, .int v1), (2, .int v2)] → P4 v1 v2 h → W p l e rm_X0_vowelsInName s m args below meth c H locs 0 0 (QI G B S sz below args s Q) (F0 m 4 ls []) := fun v1 v2 h H locs ls hH hl hk => (hP4 v1 v2 h).1 hk H locs ls hH hl
    refine lv_iload_n hx hb dX0_vowelsInName_4 rfl (lv_at hl 2 rfl) ?_
    refine lv_aload_n hx hb dX0_vowelsInName_5 rfl (lv_at hl 0 rfl) ?_
    obtain ⟨k1, hw⟩ := hw
    refine hv_get (ci := 0) (k := 3) (v := .int (h v0 3)) hx hb hown hKK hH cf0 (by decide) fl_X0_22 rfl k1 rfl dX0_vowelsInName_6 ?_
    refine lv_icmp_ge (tgt := 33) hx hb dX0_vowelsInName_9 (by decide) (fun c2 => ?_) (fun c2 => ?_)
    · have hw := ite_t hw c2
      refine lv_iload_n hx hb dX0_vowelsInName_33 rfl (lv_at hl 1 rfl) ?_
      exact hv_iret hx hb hr hlk hH hw dX0_vowelsInName_34
    · have hw := ite_f hw c2
      refine lv_aload_n hx hb dX0_vowelsInName_12 rfl (lv_at hl 0 rfl) ?_
      refine hv_get (ci := 0) (k := 2) (v := .ref (S.2 v0 2)) hx hb hown hKK hH cf0 (by decide) fl_X0_9 rfl k1 rfl dX0_vowelsInName_13 ?_
      refine lv_iload_n hx hb dX0_vowelsInName_16 rfl (lv_at hl 2 rfl) ?_
      obtain ⟨k3, hw⟩ := hw
      refine hv_iald hx hb hKK hH k3 dX0_vowelsInName_17 ?_
      refine hv_cSI (rm := rm_X0_isVowel) (As := [.int (h (S.2 v0 2) (ix v2))]) (rest := []) (k := 1) hx hb hml hown hKK hH (m_X0_isVowel (h (S.2 v0 2) (ix v2)) _ _ hw) cw_X0_51 ⟨Nat.le_of_ble_eq_true rfl, Nat.le_of_ble_eq_true rfl⟩ rfl hl.1 rfl (Nat.le_of_ble_eq_true rfl) ⟨Nat.le_of_ble_eq_true rfl, Nat.le_of_ble_eq_true rfl⟩ dX0_vowelsInName_18 (fun r5 h4 H locs hH hw => ?_)
      refine lv_if_eq (tgt := 27) hx hb dX0_vowelsInName_21 (by decide) (fun c6 => ?_) (fun c6 => ?_)
      · have hw := ite_t hw c6
        refine lv_iinc (v := v2 + (nI 1)) (lv' := [(2, .int (v2 + (nI 1))), (0, .ref v0), (1, .int v1)]) hx hb dX0_vowelsInName_27 hl (k := 2) rfl rfl (by decide) rfl (fun ls hl => ?_)
        refine lv_goto (tgt := 4) hx hb dX0_vowelsInName_30 (by decide) ?_
        exact hK4 _ _ _ H locs ls hH (lv_sub hl [1, 2, 0] rfl) hw
      · have hw := ite_f hw c6
        refine lv_iinc (v := v1 + (nI 1)) (lv' := [(1, .int (v1 + (nI 1))), (0, .ref v0), (2, .int v2)]) hx hb dX0_vowelsInName_24 hl (k := 1) rfl rfl (by decide) rfl (fun ls hl => ?_)
        refine lv_iinc (v := v2 + (nI 1)) (lv' := [(2, .int (v2 + (nI 1))), (1, .int (v1 + (nI 1))), (0, .ref v0)]) hx hb dX0_vowelsInName_27 hl (k := 2) rfl rfl (by decide) rfl (fun ls hl => ?_)
        refine lv_goto (tgt := 4) hx hb dX0_vowelsInName_30 (by decide) ?_
        exact hK4 _ _ _ H locs ls hH (lv_sub hl [2, 1, 0] rfl) hw
  unfold w_X0_vowelsInName at hw
  show W p l e rm_X0_vowelsInName s m args below meth c H [] 0 0 (QI G B S sz below args s Q) (F0 m 0 ls [])
  generalize ([] : List Loc) = locs at hH ⊢
  refine lv_iconst (v := (nI 0)) hx hb dX0_vowelsInName_0 (by decide) ?_
  refine lv_istore_n (lv' := [(1, .int (nI 0)), (0, .ref v0)]) hx hb dX0_vowelsInName_1 rfl hl (by decide) rfl (fun ls hl => ?_)
  refine lv_iconst (v := (nI 0)) hx hb dX0_vowelsInName_2 (by decide) ?_
  refine lv_istore_n (lv' := [(2, .int (nI 0)), (1, .int (nI 0)), (0, .ref v0)]) hx hb dX0_vowelsInName_3 rfl hl (by decide) rfl (fun ls hl => ?_)
  exact c4 _ _ _ _ H locs ls hH (lv_sub hl [2, 1, 0] rfl) hw
abbrev rm_X0_nameAgainst : Room := { frames := 0, cells := 0, slots := 0, locals := 0 }
set_option maxHeartbeats 4000000 in
set_option maxRecDepth 100000 in
theorem m_X0_nameAgainst {l : Launch} {G : Gl} {B sz : Nat} {S : St} (v0 : Nat) (v1 : Nat) (h : Hp) (Q : Int32 → Hp → Prop) (hw : w_X0_nameAgainst S v0 v1 h Q) : MI l G B sz S yX0_nameAgainst cX0_nameAgainst 3 .int rm_X0_nameAgainst [.ref v0, .ref v1] h Q := by
  refine met_of rfl rfl ?_
  intro p e s m args below meth c hMB H ls hH hl
  obtain ⟨hx, hb, hml, hown, hKK, hr, hlk⟩ := hMB
  replace hl : lv_has ls 3 [(0, .ref v0), (1, .ref v1)] := hl
  have c2 : ∀  (v0 : Nat) (v1 : Nat) (v2 : Int32) (h : Hp) (H : Heap) (locs : List Loc) (ls : Array Slot), HH G B S h sz s H locs → lv_has ls 3 [(0, .ref v0), (1, .ref v1), (2, .int v2)] → w_X0_nameAgainst_c2 S v0 v1 v2 h Q → W p l e rm_X0_nameAgainst s m args below meth c H locs 0 0 (QI G B S sz below args s Q) (F0 m 2 ls []) := by
    intro  v0 v1 v2 h H locs ls hH hl hw
    unfold w_X0_nameAgainst_c2 at hw
    obtain ⟨P2, hP2⟩ : ∃ P : Int32 → Hp → Prop, ∀ (v2 : Int32) (h : Hp), P v2 h ↔ (∀ (H : Heap) (locs : List Loc) (ls : Array Slot), HH G B S h sz s H locs → lv_has ls 3 [(0, .ref v0), (1, .ref v1), (2, .int v2)] → W p l e rm_X0_nameAgainst s m args below meth c H locs 0 0 (QI G B S sz below args s Q) (F0 m 2 ls [])) := ⟨_, fun v2 h => Iff.rfl⟩
    refine (hP2 v2 h).1 (hw P2 (fun v2 h hw => (hP2 v2 h).2 (fun H locs ls hH hl => ?_))) H locs ls hH hl
    have hK2 : ∀ (v2 : Int32) (h : Hp) (H : Heap) (locs : List Loc) (ls : Array Slot), HH G B S h sz s H locs → lv_has ls 3 [(0, .ref v0), (1, .ref v1), (2, .int v2)] → P2 v2 h → W p l e rm_X0_nameAgainst s m args below meth c H locs 0 0 (QI G B S sz below args s Q) (F0 m 2 ls []) := fun v2 h H locs ls hH hl hk => (hP2 v2 h).1 hk H locs ls hH hl
    refine lv_iload_n hx hb dX0_nameAgainst_2 rfl (lv_at hl 2 rfl) ?_
    refine lv_aload_n hx hb dX0_nameAgainst_3 rfl (lv_at hl 0 rfl) ?_
    obtain ⟨k1, hw⟩ := hw
    refine hv_get (ci := 0) (k := 3) (v := .int (h v0 3)) hx hb hown hKK hH cf0 (by decide) fl_X0_22 rfl k1 rfl dX0_nameAgainst_4 ?_
    refine lv_icmp_ge (tgt := 53) hx hb dX0_nameAgainst_7 (by decide) (fun c2 => ?_) (fun c2 => ?_)
    · have hw := ite_t hw c2
      refine lv_aload_n hx hb dX0_nameAgainst_53 rfl (lv_at hl 0 rfl) ?_
      refine hv_get (ci := 0) (k := 3) (v := .int (h v0 3)) hx hb hown hKK hH cf0 (by decide) fl_X0_22 rfl k1 rfl dX0_nameAgainst_54 ?_
      refine lv_aload_n hx hb dX0_nameAgainst_57 rfl (lv_at hl 1 rfl) ?_
      obtain ⟨k3, hw⟩ := hw
      refine hv_get (ci := 0) (k := 3) (v := .int (h v1 3)) hx hb hown hKK hH cf0 (by decide) fl_X0_22 rfl k3 rfl dX0_nameAgainst_58 ?_
      refine lv_isub hx hb dX0_nameAgainst_61 ?_
      exact hv_iret hx hb hr hlk hH hw dX0_nameAgainst_62
    · have hw := ite_f hw c2
      refine lv_iload_n hx hb dX0_nameAgainst_10 rfl (lv_at hl 2 rfl) ?_
      refine lv_aload_n hx hb dX0_nameAgainst_11 rfl (lv_at hl 1 rfl) ?_
      obtain ⟨k4, hw⟩ := hw
      refine hv_get (ci := 0) (k := 3) (v := .int (h v1 3)) hx hb hown hKK hH cf0 (by decide) fl_X0_22 rfl k4 rfl dX0_nameAgainst_12 ?_
      refine lv_icmp_ge (tgt := 53) hx hb dX0_nameAgainst_15 (by decide) (fun c5 => ?_) (fun c5 => ?_)
      · have hw := ite_t hw c5
        refine lv_aload_n hx hb dX0_nameAgainst_53 rfl (lv_at hl 0 rfl) ?_
        refine hv_get (ci := 0) (k := 3) (v := .int (h v0 3)) hx hb hown hKK hH cf0 (by decide) fl_X0_22 rfl k1 rfl dX0_nameAgainst_54 ?_
        refine lv_aload_n hx hb dX0_nameAgainst_57 rfl (lv_at hl 1 rfl) ?_
        refine hv_get (ci := 0) (k := 3) (v := .int (h v1 3)) hx hb hown hKK hH cf0 (by decide) fl_X0_22 rfl k4 rfl dX0_nameAgainst_58 ?_
        refine lv_isub hx hb dX0_nameAgainst_61 ?_
        exact hv_iret hx hb hr hlk hH hw dX0_nameAgainst_62
      · have hw := ite_f hw c5
        refine lv_aload_n hx hb dX0_nameAgainst_18 rfl (lv_at hl 0 rfl) ?_
        refine hv_get (ci := 0) (k := 2) (v := .ref (S.2 v0 2)) hx hb hown hKK hH cf0 (by decide) fl_X0_9 rfl k1 rfl dX0_nameAgainst_19 ?_
        refine lv_iload_n hx hb dX0_nameAgainst_22 rfl (lv_at hl 2 rfl) ?_
        obtain ⟨k6, hw⟩ := hw
        refine hv_iald hx hb hKK hH k6 dX0_nameAgainst_23 ?_
        refine lv_aload_n hx hb dX0_nameAgainst_24 rfl (lv_at hl 1 rfl) ?_
        refine hv_get (ci := 0) (k := 2) (v := .ref (S.2 v1 2)) hx hb hown hKK hH cf0 (by decide) fl_X0_9 rfl k4 rfl dX0_nameAgainst_25 ?_
        refine lv_iload_n hx hb dX0_nameAgainst_28 rfl (lv_at hl 2 rfl) ?_
        obtain ⟨k7, hw⟩ := hw
        refine hv_iald hx hb hKK hH k7 dX0_nameAgainst_29 ?_
        refine lv_icmp_eq (tgt := 47) hx hb dX0_nameAgainst_30 (by decide) (fun c8 => ?_) (fun c8 => ?_)
        · have hw := ite_t hw c8
          refine lv_iinc (v := v2 + (nI 1)) (lv' := [(2, .int (v2 + (nI 1))), (0, .ref v0), (1, .ref v1)]) hx hb dX0_nameAgainst_47 hl (k := 2) rfl rfl (by decide) rfl (fun ls hl => ?_)
          refine lv_goto (tgt := 2) hx hb dX0_nameAgainst_50 (by decide) ?_
          exact hK2 _ _ H locs ls hH (lv_sub hl [1, 2, 0] rfl) hw
        · have hw := ite_f hw c8
          refine lv_aload_n hx hb dX0_nameAgainst_33 rfl (lv_at hl 0 rfl) ?_
          refine hv_get (ci := 0) (k := 2) (v := .ref (S.2 v0 2)) hx hb hown hKK hH cf0 (by decide) fl_X0_9 rfl k1 rfl dX0_nameAgainst_34 ?_
          refine lv_iload_n hx hb dX0_nameAgainst_37 rfl (lv_at hl 2 rfl) ?_
          refine hv_iald hx hb hKK hH k6 dX0_nameAgainst_38 ?_
          refine lv_aload_n hx hb dX0_nameAgainst_39 rfl (lv_at hl 1 rfl) ?_
          refine hv_get (ci := 0) (k := 2) (v := .ref (S.2 v1 2)) hx hb hown hKK hH cf0 (by decide) fl_X0_9 rfl k4 rfl dX0_nameAgainst_40 ?_
          refine lv_iload_n hx hb dX0_nameAgainst_43 rfl (lv_at hl 2 rfl) ?_
          refine hv_iald hx hb hKK hH k7 dX0_nameAgainst_44 ?_
          refine lv_isub hx hb dX0_nameAgainst_45 ?_
          exact hv_iret hx hb hr hlk hH hw dX0_nameAgainst_46
  unfold w_X0_nameAgainst at hw
  show W p l e rm_X0_nameAgainst s m args below meth c H [] 0 0 (QI G B S sz below args s Q) (F0 m 0 ls [])
  generalize ([] : List Loc) = locs at hH ⊢
  refine lv_iconst (v := (nI 0)) hx hb dX0_nameAgainst_0 (by decide) ?_
  refine lv_istore_n (lv' := [(2, .int (nI 0)), (0, .ref v0), (1, .ref v1)]) hx hb dX0_nameAgainst_1 rfl hl (by decide) rfl (fun ls hl => ?_)
  exact c2 _ _ _ _ H locs ls hH (lv_sub hl [1, 2, 0] rfl) hw
abbrev rm_X0_placesAlike : Room := { frames := 0, cells := 0, slots := 0, locals := 0 }
set_option maxHeartbeats 4000000 in
set_option maxRecDepth 100000 in
theorem m_X0_placesAlike {l : Launch} {G : Gl} {B sz : Nat} {S : St} (v0 : Nat) (v1 : Nat) (h : Hp) (Q : Int32 → Hp → Prop) (hw : w_X0_placesAlike S v0 v1 h Q) : MI l G B sz S yX0_placesAlike cX0_placesAlike 4 .int rm_X0_placesAlike [.ref v0, .ref v1] h Q := by
  refine met_of rfl rfl ?_
  intro p e s m args below meth c hMB H ls hH hl
  obtain ⟨hx, hb, hml, hown, hKK, hr, hlk⟩ := hMB
  replace hl : lv_has ls 4 [(0, .ref v0), (1, .ref v1)] := hl
  have c4 : ∀  (v0 : Nat) (v1 : Nat) (v2 : Int32) (v3 : Int32) (h : Hp) (H : Heap) (locs : List Loc) (ls : Array Slot), HH G B S h sz s H locs → lv_has ls 4 [(0, .ref v0), (1, .ref v1), (2, .int v2), (3, .int v3)] → w_X0_placesAlike_c4 S v0 v1 v2 v3 h Q → W p l e rm_X0_placesAlike s m args below meth c H locs 0 0 (QI G B S sz below args s Q) (F0 m 4 ls []) := by
    intro  v0 v1 v2 v3 h H locs ls hH hl hw
    unfold w_X0_placesAlike_c4 at hw
    obtain ⟨P4, hP4⟩ : ∃ P : Int32 → Int32 → Hp → Prop, ∀ (v2 : Int32) (v3 : Int32) (h : Hp), P v2 v3 h ↔ (∀ (H : Heap) (locs : List Loc) (ls : Array Slot), HH G B S h sz s H locs → lv_has ls 4 [(0, .ref v0), (1, .ref v1), (2, .int v2), (3, .int v3)] → W p l e rm_X0_placesAlike s m args below meth c H locs 0 0 (QI G B S sz below args s Q) (F0 m 4 ls [])) := ⟨_, fun v2 v3 h => Iff.rfl⟩
    refine (hP4 v2 v3 h).1 (hw P4 (fun v2 v3 h hw => (hP4 v2 v3 h).2 (fun H locs ls hH hl => ?_))) H locs ls hH hl
    have hK4 : ∀ (v2 : Int32) (v3 : Int32) (h : Hp) (H : Heap) (locs : List Loc) (ls : Array Slot), HH G B S h sz s H locs → lv_has ls 4 [(0, .ref v0), (1, .ref v1), (2, .int v2), (3, .int v3)] → P4 v2 v3 h → W p l e rm_X0_placesAlike s m args below meth c H locs 0 0 (QI G B S sz below args s Q) (F0 m 4 ls []) := fun v2 v3 h H locs ls hH hl hk => (hP4 v2 v3 h).1 hk H locs ls hH hl
    refine lv_iload_n hx hb dX0_placesAlike_4 rfl (lv_at hl 3 rfl) ?_
    refine lv_aload_n hx hb dX0_placesAlike_5 rfl (lv_at hl 0 rfl) ?_
    obtain ⟨k1, hw⟩ := hw
    refine hv_get (ci := 0) (k := 3) (v := .int (h v0 3)) hx hb hown hKK hH cf0 (by decide) fl_X0_22 rfl k1 rfl dX0_placesAlike_6 ?_
    refine lv_icmp_ge (tgt := 44) hx hb dX0_placesAlike_9 (by decide) (fun c2 => ?_) (fun c2 => ?_)
    · have hw := ite_t hw c2
      refine lv_iload_n hx hb dX0_placesAlike_44 rfl (lv_at hl 2 rfl) ?_
      exact hv_iret hx hb hr hlk hH hw dX0_placesAlike_45
    · have hw := ite_f hw c2
      refine lv_iload_n hx hb dX0_placesAlike_12 rfl (lv_at hl 3 rfl) ?_
      refine lv_aload_n hx hb dX0_placesAlike_13 rfl (lv_at hl 1 rfl) ?_
      obtain ⟨k3, hw⟩ := hw
      refine hv_get (ci := 0) (k := 3) (v := .int (h v1 3)) hx hb hown hKK hH cf0 (by decide) fl_X0_22 rfl k3 rfl dX0_placesAlike_14 ?_
      refine lv_icmp_ge (tgt := 44) hx hb dX0_placesAlike_17 (by decide) (fun c4 => ?_) (fun c4 => ?_)
      · have hw := ite_t hw c4
        refine lv_iload_n hx hb dX0_placesAlike_44 rfl (lv_at hl 2 rfl) ?_
        exact hv_iret hx hb hr hlk hH hw dX0_placesAlike_45
      · have hw := ite_f hw c4
        refine lv_aload_n hx hb dX0_placesAlike_20 rfl (lv_at hl 0 rfl) ?_
        refine hv_get (ci := 0) (k := 2) (v := .ref (S.2 v0 2)) hx hb hown hKK hH cf0 (by decide) fl_X0_9 rfl k1 rfl dX0_placesAlike_21 ?_
        refine lv_iload_n hx hb dX0_placesAlike_24 rfl (lv_at hl 3 rfl) ?_
        obtain ⟨k5, hw⟩ := hw
        refine hv_iald hx hb hKK hH k5 dX0_placesAlike_25 ?_
        refine lv_aload_n hx hb dX0_placesAlike_26 rfl (lv_at hl 1 rfl) ?_
        refine hv_get (ci := 0) (k := 2) (v := .ref (S.2 v1 2)) hx hb hown hKK hH cf0 (by decide) fl_X0_9 rfl k3 rfl dX0_placesAlike_27 ?_
        refine lv_iload_n hx hb dX0_placesAlike_30 rfl (lv_at hl 3 rfl) ?_
        obtain ⟨k6, hw⟩ := hw
        refine hv_iald hx hb hKK hH k6 dX0_placesAlike_31 ?_
        refine lv_icmp_ne (tgt := 38) hx hb dX0_placesAlike_32 (by decide) (fun c7 => ?_) (fun c7 => ?_)
        · have hw := ite_f hw c7
          refine lv_iinc (v := v3 + (nI 1)) (lv' := [(3, .int (v3 + (nI 1))), (0, .ref v0), (1, .ref v1), (2, .int v2)]) hx hb dX0_placesAlike_38 hl (k := 3) rfl rfl (by decide) rfl (fun ls hl => ?_)
          refine lv_goto (tgt := 4) hx hb dX0_placesAlike_41 (by decide) ?_
          exact hK4 _ _ _ H locs ls hH (lv_sub hl [1, 2, 3, 0] rfl) hw
        · have hw := ite_t hw c7
          refine lv_iinc (v := v2 + (nI 1)) (lv' := [(2, .int (v2 + (nI 1))), (0, .ref v0), (1, .ref v1), (3, .int v3)]) hx hb dX0_placesAlike_35 hl (k := 2) rfl rfl (by decide) rfl (fun ls hl => ?_)
          refine lv_iinc (v := v3 + (nI 1)) (lv' := [(3, .int (v3 + (nI 1))), (2, .int (v2 + (nI 1))), (0, .ref v0), (1, .ref v1)]) hx hb dX0_placesAlike_38 hl (k := 3) rfl rfl (by decide) rfl (fun ls hl => ?_)
          refine lv_goto (tgt := 4) hx hb dX0_placesAlike_41 (by decide) ?_
          exact hK4 _ _ _ H locs ls hH (lv_sub hl [2, 3, 1, 0] rfl) hw
  unfold w_X0_placesAlike at hw
  show W p l e rm_X0_placesAlike s m args below meth c H [] 0 0 (QI G B S sz below args s Q) (F0 m 0 ls [])
  generalize ([] : List Loc) = locs at hH ⊢
  refine lv_iconst (v := (nI 0)) hx hb dX0_placesAlike_0 (by decide) ?_
  refine lv_istore_n (lv' := [(2, .int (nI 0)), (0, .ref v0), (1, .ref v1)]) hx hb dX0_placesAlike_1 rfl hl (by decide) rfl (fun ls hl => ?_)
  refine lv_iconst (v := (nI 0)) hx hb dX0_placesAlike_2 (by decide) ?_
  refine lv_istore_n (lv' := [(3, .int (nI 0)), (2, .int (nI 0)), (0, .ref v0), (1, .ref v1)]) hx hb dX0_placesAlike_3 rfl hl (by decide) rfl (fun ls hl => ?_)
  exact c4 _ _ _ _ _ H locs ls hH (lv_sub hl [2, 3, 1, 0] rfl) hw
abbrev rm_X0_lettersAlikeAhead : Room := { frames := 0, cells := 0, slots := 0, locals := 0 }
set_option maxHeartbeats 4000000 in
set_option maxRecDepth 100000 in
theorem m_X0_lettersAlikeAhead {l : Launch} {G : Gl} {B sz : Nat} {S : St} (v0 : Nat) (v1 : Nat) (h : Hp) (Q : Int32 → Hp → Prop) (hw : w_X0_lettersAlikeAhead S v0 v1 h Q) : MI l G B sz S yX0_lettersAlikeAhead cX0_lettersAlikeAhead 3 .int rm_X0_lettersAlikeAhead [.ref v0, .ref v1] h Q := by
  refine met_of rfl rfl ?_
  intro p e s m args below meth c hMB H ls hH hl
  obtain ⟨hx, hb, hml, hown, hKK, hr, hlk⟩ := hMB
  replace hl : lv_has ls 3 [(0, .ref v0), (1, .ref v1)] := hl
  have c2 : ∀  (v0 : Nat) (v1 : Nat) (v2 : Int32) (h : Hp) (H : Heap) (locs : List Loc) (ls : Array Slot), HH G B S h sz s H locs → lv_has ls 3 [(0, .ref v0), (1, .ref v1), (2, .int v2)] → w_X0_lettersAlikeAhead_c2 S v0 v1 v2 h Q → W p l e rm_X0_lettersAlikeAhead s m args below meth c H locs 0 0 (QI G B S sz below args s Q) (F0 m 2 ls []) := by
    intro  v0 v1 v2 h H locs ls hH hl hw
    unfold w_X0_lettersAlikeAhead_c2 at hw
    obtain ⟨P2, hP2⟩ : ∃ P : Int32 → Hp → Prop, ∀ (v2 : Int32) (h : Hp), P v2 h ↔ (∀ (H : Heap) (locs : List Loc) (ls : Array Slot), HH G B S h sz s H locs → lv_has ls 3 [(0, .ref v0), (1, .ref v1), (2, .int v2)] → W p l e rm_X0_lettersAlikeAhead s m args below meth c H locs 0 0 (QI G B S sz below args s Q) (F0 m 2 ls [])) := ⟨_, fun v2 h => Iff.rfl⟩
    refine (hP2 v2 h).1 (hw P2 (fun v2 h hw => (hP2 v2 h).2 (fun H locs ls hH hl => ?_))) H locs ls hH hl
    have hK2 : ∀ (v2 : Int32) (h : Hp) (H : Heap) (locs : List Loc) (ls : Array Slot), HH G B S h sz s H locs → lv_has ls 3 [(0, .ref v0), (1, .ref v1), (2, .int v2)] → P2 v2 h → W p l e rm_X0_lettersAlikeAhead s m args below meth c H locs 0 0 (QI G B S sz below args s Q) (F0 m 2 ls []) := fun v2 h H locs ls hH hl hk => (hP2 v2 h).1 hk H locs ls hH hl
    refine lv_iload_n hx hb dX0_lettersAlikeAhead_2 rfl (lv_at hl 2 rfl) ?_
    refine lv_aload_n hx hb dX0_lettersAlikeAhead_3 rfl (lv_at hl 0 rfl) ?_
    obtain ⟨k1, hw⟩ := hw
    refine hv_get (ci := 0) (k := 3) (v := .int (h v0 3)) hx hb hown hKK hH cf0 (by decide) fl_X0_22 rfl k1 rfl dX0_lettersAlikeAhead_4 ?_
    refine lv_icmp_ge (tgt := 39) hx hb dX0_lettersAlikeAhead_7 (by decide) (fun c2 => ?_) (fun c2 => ?_)
    · have hw := ite_t hw c2
      refine lv_iload_n hx hb dX0_lettersAlikeAhead_39 rfl (lv_at hl 2 rfl) ?_
      exact hv_iret hx hb hr hlk hH hw dX0_lettersAlikeAhead_40
    · have hw := ite_f hw c2
      refine lv_iload_n hx hb dX0_lettersAlikeAhead_10 rfl (lv_at hl 2 rfl) ?_
      refine lv_aload_n hx hb dX0_lettersAlikeAhead_11 rfl (lv_at hl 1 rfl) ?_
      obtain ⟨k3, hw⟩ := hw
      refine hv_get (ci := 0) (k := 3) (v := .int (h v1 3)) hx hb hown hKK hH cf0 (by decide) fl_X0_22 rfl k3 rfl dX0_lettersAlikeAhead_12 ?_
      refine lv_icmp_ge (tgt := 39) hx hb dX0_lettersAlikeAhead_15 (by decide) (fun c4 => ?_) (fun c4 => ?_)
      · have hw := ite_t hw c4
        refine lv_iload_n hx hb dX0_lettersAlikeAhead_39 rfl (lv_at hl 2 rfl) ?_
        exact hv_iret hx hb hr hlk hH hw dX0_lettersAlikeAhead_40
      · have hw := ite_f hw c4
        refine lv_aload_n hx hb dX0_lettersAlikeAhead_18 rfl (lv_at hl 0 rfl) ?_
        refine hv_get (ci := 0) (k := 2) (v := .ref (S.2 v0 2)) hx hb hown hKK hH cf0 (by decide) fl_X0_9 rfl k1 rfl dX0_lettersAlikeAhead_19 ?_
        refine lv_iload_n hx hb dX0_lettersAlikeAhead_22 rfl (lv_at hl 2 rfl) ?_
        obtain ⟨k5, hw⟩ := hw
        refine hv_iald hx hb hKK hH k5 dX0_lettersAlikeAhead_23 ?_
        refine lv_aload_n hx hb dX0_lettersAlikeAhead_24 rfl (lv_at hl 1 rfl) ?_
        refine hv_get (ci := 0) (k := 2) (v := .ref (S.2 v1 2)) hx hb hown hKK hH cf0 (by decide) fl_X0_9 rfl k3 rfl dX0_lettersAlikeAhead_25 ?_
        refine lv_iload_n hx hb dX0_lettersAlikeAhead_28 rfl (lv_at hl 2 rfl) ?_
        obtain ⟨k6, hw⟩ := hw
        refine hv_iald hx hb hKK hH k6 dX0_lettersAlikeAhead_29 ?_
        refine lv_icmp_ne (tgt := 39) hx hb dX0_lettersAlikeAhead_30 (by decide) (fun c7 => ?_) (fun c7 => ?_)
        · have hw := ite_f hw c7
          refine lv_iload_n hx hb dX0_lettersAlikeAhead_39 rfl (lv_at hl 2 rfl) ?_
          exact hv_iret hx hb hr hlk hH hw dX0_lettersAlikeAhead_40
        · have hw := ite_t hw c7
          refine lv_iinc (v := v2 + (nI 1)) (lv' := [(2, .int (v2 + (nI 1))), (0, .ref v0), (1, .ref v1)]) hx hb dX0_lettersAlikeAhead_33 hl (k := 2) rfl rfl (by decide) rfl (fun ls hl => ?_)
          refine lv_goto (tgt := 2) hx hb dX0_lettersAlikeAhead_36 (by decide) ?_
          exact hK2 _ _ H locs ls hH (lv_sub hl [1, 2, 0] rfl) hw
  unfold w_X0_lettersAlikeAhead at hw
  show W p l e rm_X0_lettersAlikeAhead s m args below meth c H [] 0 0 (QI G B S sz below args s Q) (F0 m 0 ls [])
  generalize ([] : List Loc) = locs at hH ⊢
  refine lv_iconst (v := (nI 0)) hx hb dX0_lettersAlikeAhead_0 (by decide) ?_
  refine lv_istore_n (lv' := [(2, .int (nI 0)), (0, .ref v0), (1, .ref v1)]) hx hb dX0_lettersAlikeAhead_1 rfl hl (by decide) rfl (fun ls hl => ?_)
  exact c2 _ _ _ _ H locs ls hH (lv_sub hl [1, 2, 0] rfl) hw
abbrev rm_X0_lettersShared : Room := { frames := 1, cells := 0, slots := 0, locals := 22 }
set_option maxHeartbeats 4000000 in
set_option maxRecDepth 100000 in
theorem m_X0_lettersShared {l : Launch} {G : Gl} {B sz : Nat} {S : St} (v0 : Nat) (v1 : Nat) (h : Hp) (Q : Int32 → Hp → Prop) (hw : w_X0_lettersShared S v0 v1 h Q) : MI l G B sz S yX0_lettersShared cX0_lettersShared 4 .int rm_X0_lettersShared [.ref v0, .ref v1] h Q := by
  refine met_of rfl rfl ?_
  intro p e s m args below meth c hMB H ls hH hl
  obtain ⟨hx, hb, hml, hown, hKK, hr, hlk⟩ := hMB
  replace hl : lv_has ls 4 [(0, .ref v0), (1, .ref v1)] := hl
  have c4 : ∀  (v0 : Nat) (v1 : Nat) (v2 : Int32) (v3 : Int32) (h : Hp) (H : Heap) (locs : List Loc) (ls : Array Slot), HH G B S h sz s H locs → lv_has ls 4 [(0, .ref v0), (1, .ref v1), (2, .int v2), (3, .int v3)] → w_X0_lettersShared_c4 S v0 v1 v2 v3 h Q → W p l e rm_X0_lettersShared s m args below meth c H locs 0 0 (QI G B S sz below args s Q) (F0 m 4 ls []) := by
    intro  v0 v1 v2 v3 h H locs ls hH hl hw
    unfold w_X0_lettersShared_c4 at hw
    obtain ⟨P4, hP4⟩ : ∃ P : Int32 → Int32 → Hp → Prop, ∀ (v2 : Int32) (v3 : Int32) (h : Hp), P v2 v3 h ↔ (∀ (H : Heap) (locs : List Loc) (ls : Array Slot), HH G B S h sz s H locs → lv_has ls 4 [(0, .ref v0), (1, .ref v1), (2, .int v2), (3, .int v3)] → W p l e rm_X0_lettersShared s m args below meth c H locs 0 0 (QI G B S sz below args s Q) (F0 m 4 ls [])) := ⟨_, fun v2 v3 h => Iff.rfl⟩
    refine (hP4 v2 v3 h).1 (hw P4 (fun v2 v3 h hw => (hP4 v2 v3 h).2 (fun H locs ls hH hl => ?_))) H locs ls hH hl
    have hK4 : ∀ (v2 : Int32) (v3 : Int32) (h : Hp) (H : Heap) (locs : List Loc) (ls : Array Slot), HH G B S h sz s H locs → lv_has ls 4 [(0, .ref v0), (1, .ref v1), (2, .int v2), (3, .int v3)] → P4 v2 v3 h → W p l e rm_X0_lettersShared s m args below meth c H locs 0 0 (QI G B S sz below args s Q) (F0 m 4 ls []) := fun v2 v3 h H locs ls hH hl hk => (hP4 v2 v3 h).1 hk H locs ls hH hl
    refine lv_iload_n hx hb dX0_lettersShared_4 rfl (lv_at hl 3 rfl) ?_
    refine lv_bipush (v := (nI 26)) hx hb dX0_lettersShared_5 (by decide) ?_
    refine lv_icmp_ge (tgt := 35) hx hb dX0_lettersShared_7 (by decide) (fun c1 => ?_) (fun c1 => ?_)
    · have hw := ite_t hw c1
      refine lv_iload_n hx hb dX0_lettersShared_35 rfl (lv_at hl 2 rfl) ?_
      exact hv_iret hx hb hr hlk hH hw dX0_lettersShared_36
    · have hw := ite_f hw c1
      refine lv_aload_n hx hb dX0_lettersShared_10 rfl (lv_at hl 0 rfl) ?_
      refine lv_iload_n hx hb dX0_lettersShared_11 rfl (lv_at hl 3 rfl) ?_
      obtain ⟨k2, hw⟩ := hw
      refine hv_cVI (rm := rm_X0_hasLetter) (As := [.int v3]) (rest := []) (k := 1) (ci := 0) hx hb hml hown hKK hH cf0 k2 (m_X0_hasLetter v0 v3 _ _ hw) cw_X0_65 ⟨Nat.le_of_ble_eq_true rfl, Nat.le_of_ble_eq_true rfl⟩ rfl hl.1 rfl (Nat.le_of_ble_eq_true rfl) ⟨Nat.le_of_ble_eq_true rfl, Nat.le_of_ble_eq_true rfl⟩ dX0_lettersShared_12 (fun r4 h3 H locs hH hw => ?_)
      refine lv_if_eq (tgt := 29) hx hb dX0_lettersShared_15 (by decide) (fun c5 => ?_) (fun c5 => ?_)
      · have hw := ite_t hw c5
        refine lv_iinc (v := v3 + (nI 1)) (lv' := [(3, .int (v3 + (nI 1))), (0, .ref v0), (1, .ref v1), (2, .int v2)]) hx hb dX0_lettersShared_29 hl (k := 3) rfl rfl (by decide) rfl (fun ls hl => ?_)
        refine lv_goto (tgt := 4) hx hb dX0_lettersShared_32 (by decide) ?_
        exact hK4 _ _ _ H locs ls hH (lv_sub hl [1, 2, 3, 0] rfl) hw
      · have hw := ite_f hw c5
        refine lv_aload_n hx hb dX0_lettersShared_18 rfl (lv_at hl 1 rfl) ?_
        refine lv_iload_n hx hb dX0_lettersShared_19 rfl (lv_at hl 3 rfl) ?_
        obtain ⟨k6, hw⟩ := hw
        refine hv_cVI (rm := rm_X0_hasLetter) (As := [.int v3]) (rest := []) (k := 1) (ci := 0) hx hb hml hown hKK hH cf0 k6 (m_X0_hasLetter v1 v3 _ _ hw) cw_X0_65 ⟨Nat.le_of_ble_eq_true rfl, Nat.le_of_ble_eq_true rfl⟩ rfl hl.1 rfl (Nat.le_of_ble_eq_true rfl) ⟨Nat.le_of_ble_eq_true rfl, Nat.le_of_ble_eq_true rfl⟩ dX0_lettersShared_20 (fun r8 h7 H locs hH hw => ?_)
        refine lv_if_eq (tgt := 29) hx hb dX0_lettersShared_23 (by decide) (fun c9 => ?_) (fun c9 => ?_)
        · have hw := ite_t hw c9
          refine lv_iinc (v := v3 + (nI 1)) (lv' := [(3, .int (v3 + (nI 1))), (0, .ref v0), (1, .ref v1), (2, .int v2)]) hx hb dX0_lettersShared_29 hl (k := 3) rfl rfl (by decide) rfl (fun ls hl => ?_)
          refine lv_goto (tgt := 4) hx hb dX0_lettersShared_32 (by decide) ?_
          exact hK4 _ _ _ H locs ls hH (lv_sub hl [1, 2, 3, 0] rfl) hw
        · have hw := ite_f hw c9
          refine lv_iinc (v := v2 + (nI 1)) (lv' := [(2, .int (v2 + (nI 1))), (0, .ref v0), (1, .ref v1), (3, .int v3)]) hx hb dX0_lettersShared_26 hl (k := 2) rfl rfl (by decide) rfl (fun ls hl => ?_)
          refine lv_iinc (v := v3 + (nI 1)) (lv' := [(3, .int (v3 + (nI 1))), (2, .int (v2 + (nI 1))), (0, .ref v0), (1, .ref v1)]) hx hb dX0_lettersShared_29 hl (k := 3) rfl rfl (by decide) rfl (fun ls hl => ?_)
          refine lv_goto (tgt := 4) hx hb dX0_lettersShared_32 (by decide) ?_
          exact hK4 _ _ _ H locs ls hH (lv_sub hl [2, 3, 1, 0] rfl) hw
  unfold w_X0_lettersShared at hw
  show W p l e rm_X0_lettersShared s m args below meth c H [] 0 0 (QI G B S sz below args s Q) (F0 m 0 ls [])
  generalize ([] : List Loc) = locs at hH ⊢
  refine lv_iconst (v := (nI 0)) hx hb dX0_lettersShared_0 (by decide) ?_
  refine lv_istore_n (lv' := [(2, .int (nI 0)), (0, .ref v0), (1, .ref v1)]) hx hb dX0_lettersShared_1 rfl hl (by decide) rfl (fun ls hl => ?_)
  refine lv_iconst (v := (nI 0)) hx hb dX0_lettersShared_2 (by decide) ?_
  refine lv_istore_n (lv' := [(3, .int (nI 0)), (2, .int (nI 0)), (0, .ref v0), (1, .ref v1)]) hx hb dX0_lettersShared_3 rfl hl (by decide) rfl (fun ls hl => ?_)
  exact c4 _ _ _ _ _ H locs ls hH (lv_sub hl [2, 3, 1, 0] rfl) hw
